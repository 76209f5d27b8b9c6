set_option maxRecDepth 100000
section
variable {u v w : MS} {N k n c e1 e2 t : Nat}
theorem by_tab : ∀ k : Fin 256, (I ((k.val : Int) - 128) &&& 255 = I ((k.val : Int) - 128)) ∨ 127 < (I ((k.val : Int) - 128) &&& 255).toInt := by decide
theorem by_low {x : Int32} (h : fits .byte (.int x) = true) (h2 : (x &&& 255).toInt ≤ 127) : x &&& 255 = x := by
  have e : (decide (-128 ≤ x) && decide (x ≤ 127)) = true := h
  rw [Bool.and_eq_true] at e
  have a1 : -128 ≤ x.toInt := Int32.le_iff_toInt_le.mp (of_decide_eq_true e.1)
  have a2 : x.toInt ≤ 127 := Int32.le_iff_toInt_le.mp (of_decide_eq_true e.2)
  have b := by_tab ⟨(x.toInt + 128).toNat, by omega⟩
  rw [show (((x.toInt + 128).toNat : Nat) : Int) - 128 = x.toInt by omega, ← I_of x] at b
  rcases b with b | b
  · exact b
  · omega
theorem wordly_rng {y r : Int32} (e : hm_To_isWordly N u y = some (u, r)) (hr : r ≠ 0) : 0 ≤ y.toInt ∧ y.toInt ≤ 122 := by
  have ry := ti_rng y
  by_cases h0 : 0 ≤ y.toInt ∧ y.toInt ≤ 122
  · exact h0
  · exfalso
    have z : hm_To_isWordly N u y = some (u, 0) := by
      unfold hm_To_isWordly hb_To_isWordly_0 hb_To_isWordly_19 hb_To_isWordly_31 hb_To_isWordly_37 hb_To_isWordly_42 hm_To_isDigit hb_To_isDigit_0 hb_To_isDigit_16 hb_To_isDigit_17
      rw [I_of y, I_lit (n := 48), I_lit (n := 57), I_lit (n := 97), I_lit (n := 122), I_lit (n := 65), I_lit (n := 90), I_lit (n := 95), decL ry.1 ry.2 (by decide) (by decide), decL (by decide) (by decide) ry.1 ry.2, decL ry.1 ry.2 (by decide) (by decide), decI ry.1 ry.2 (by decide) (by decide), decL ry.1 ry.2 (by decide) (by decide), decI ry.1 ry.2 (by decide) (by decide)]
      have n95 : decide (I y.toInt = I (OfNat.ofNat 95)) = false := decide_eq_false (fun z => by have := (I_eq ry.1 ry.2 (by decide) (by decide)).mp z; have : y.toInt = 95 := this; omega)
      rw [n95]
      by_cases h1 : y.toInt < 0
      · rw [decide_eq_true (show y.toInt < (OfNat.ofNat 48 : Int) by show _ < (48 : Int); omega), br_tq, show isb (0 : Int32) = true from by decide, ck_t, bnd_so, show decide ((0 : Int32) = 0) = true from by decide, br_tq, decide_eq_true (show y.toInt < (OfNat.ofNat 97 : Int) by show _ < (97 : Int); omega), br_tq, decide_eq_true (show y.toInt < (OfNat.ofNat 65 : Int) by show _ < (65 : Int); omega), br_tq, br_fq]; rfl
      · rw [decide_eq_false (show ¬ y.toInt < (OfNat.ofNat 48 : Int) by show ¬ _ < (48 : Int); omega), br_fq, decide_eq_true (show (OfNat.ofNat 57 : Int) < y.toInt by show (57 : Int) < _; omega), br_tq, show isb (0 : Int32) = true from by decide, ck_t, bnd_so, show decide ((0 : Int32) = 0) = true from by decide, br_tq, decide_eq_false (show ¬ y.toInt < (OfNat.ofNat 97 : Int) by show ¬ _ < (97 : Int); omega), br_fq, decide_eq_false (show ¬ y.toInt ≤ (OfNat.ofNat 122 : Int) by show ¬ _ ≤ (122 : Int); omega), br_fq, decide_eq_false (show ¬ y.toInt < (OfNat.ofNat 65 : Int) by show ¬ _ < (65 : Int); omega), br_fq, decide_eq_false (show ¬ y.toInt ≤ (OfNat.ofNat 90 : Int) by show ¬ _ ≤ (90 : Int); omega), br_fq, br_fq]; rfl
    rw [z] at e
    injection e with e
    injection e with _ e
    exact hr e.symm
theorem string_okc (h : CST u) (hw : WRS u) (hc : F u 85 = ((c : Nat) : Int)) (hc2 : c ≤ 4000) (ha : 0 ≤ F u 89 ∧ F u 89 < F u 81) (hN : 5000 ≤ N) : OK (fun w r => TOQ u w c r) (hm_To_string N u) := by
  have h81 := h.1
  unfold hm_To_string hb_To_string_0
  refine ok_lt.mpr ?_
  rw [I_F (k := 89), lit1q, I_add, show F u 89 + 1 = (((F u 89).toNat + 1 : Nat) : Int) by omega, wi_e]
  have k1 : KTK u (wi u 89 (((F u 89).toNat + 1 : Nat) : Int)) c := KTK_at hw
  have e1 : F (wi u 89 (((F u 89).toNat + 1 : Nat) : Int)) 89 = (((F u 89).toNat + 1 : Nat) : Int) := by rw [F_wi (by omega) (by omega), if_pos rfl]
  generalize wi u 89 (((F u 89).toNat + 1 : Nat) : Int) = w1 at k1 e1
  rw [I_F (k := 85), k1.i (by simp), hc]
  refine e_in ⟨by omega, by omega⟩ (by decide) (ok_lt.mpr ?_)
  rw [tnI (n := c) rfl (by omega), I_F (k := 89), e1, wa_e]
  have k2 : KTK u (wa w1 7 c (((F u 89).toNat + 1 : Nat) : Int)) c := KTK_val k1
  have e2 : F (wa w1 7 c (((F u 89).toNat + 1 : Nat) : Int)) 89 = (((F u 89).toNat + 1 : Nat) : Int) := e1
  have a2 : A (wa w1 7 c (((F u 89).toNat + 1 : Nat) : Int)) 7 c = (((F u 89).toNat + 1 : Nat) : Int) := wa_eq ⟨by omega, by omega⟩
  generalize wa w1 7 c (((F u 89).toNat + 1 : Nat) : Int) = w2 at k2 e2 a2
  have gen : ∀ (M i : Nat) (w : MS), KTK u w c → F w 89 = (((F u 89).toNat + 1 + i : Nat) : Int) → A w 7 c = (((F u 89).toNat + 1 : Nat) : Int) → i ≤ 41 → 42 - i < M → OK (fun w r => TOQ u w c r) (hg_To_string N M w (I ((i : Nat) : Int))) := by
    intro M
    induction M with
    | zero => intro i w _ _ _ _ h; omega
    | succ M ih =>
      intro i w k3 e3 a3 hi hM
      show OK _ (hb_To_string_25 N (hg_To_string N M) w (I ((i : Nat) : Int)))
      unfold hb_To_string_25 hb_To_string_70
      rw [show (40 : Int32) = I 40 from rfl]
      refine k_lt ⟨by decide, by decide⟩ ⟨by omega, by omega⟩ (fun _ => ok_some.mpr ⟨k3, Or.inr (Or.inl rfl)⟩) (fun h4 => ?_)
      have cw := CST_k h k3.1
      obtain ⟨r, er, hr⟩ := signAt_e (N := N) cw (FRG1 w 89)
      rw [I_F (k := 89), er, bnd_so]
      refine ok_lt.mpr ?_
      rw [I_F (k := 89), e3, lit1q, I_add, show (((F u 89).toNat + 1 + i : Nat) : Int) + 1 = (((F u 89).toNat + 1 + (i + 1) : Nat) : Int) by omega, wi_e]
      have k4 : KTK u (wi w 89 (((F u 89).toNat + 1 + (i + 1) : Nat) : Int)) c := KTK.tr k3 (KTK_at k3.2.2.2)
      have e4 : F (wi w 89 (((F u 89).toNat + 1 + (i + 1) : Nat) : Int)) 89 = (((F u 89).toNat + 1 + (i + 1) : Nat) : Int) := by rw [F_wi (by omega) (by omega), if_pos rfl]
      have bad : OK (fun w r => TOQ u w c r) (some (wi w 89 (((F u 89).toNat + 1 + (i + 1) : Nat) : Int), (45 : Int32))) := ok_some.mpr ⟨k4, Or.inr (Or.inl rfl)⟩
      refine ok_br.mpr ⟨fun z => ?_, fun _ => ok_br.mpr ⟨fun _ => bad, fun _ => ok_br.mpr ⟨fun _ => ?_, fun _ => bad⟩⟩⟩
      · have z := of_decide_eq_true z
        rcases hr with ⟨r1, r2, r3⟩ | ⟨-, r3⟩
        · rw [e3] at r1 r2 r3
          rw [show F w 81 = F u 81 from k3.i (by simp)] at r2
          have s5 : (wi w 89 (((F u 89).toNat + 1 + (i + 1) : Nat) : Int)).2.2.1 5 = w.2.2.1 5 := rfl
          refine ok_some.mpr ⟨k4, Or.inr (Or.inr ⟨4, (F u 89).toNat + 1 + (i + 1), rfl, ⟨by omega, fun z => absurd z (by decide), fun z => absurd z (by decide), fun _ => ⟨(F u 89).toNat + 1, i, a3, by omega, ?_, by omega, by omega⟩, by omega⟩, e4, by rw [e4]; omega⟩)⟩
          rw [s5, ← z, r3]; rfl
        · rw [r3] at z; exact absurd z (by decide)
      · rw [I_add, show ((i : Nat) : Int) + 1 = ((i + 1 : Nat) : Int) by omega]
        exact ih (i + 1) _ k4 e4 a3 (by omega) (by omega)
  rw [lit0q, show (0 : Int) = ((0 : Nat) : Int) from rfl]
  exact gen N 0 w2 k2 e2 a2 (by omega) (by omega)
def cqc (s k : Nat) : Int32 := ((((bytSt.getD s []).getD (I ((k : Nat) : Int)).toNatClampNeg 0) &&& 255).toUInt32 % 65536).toInt32
theorem JS4 : hm_JS_length N u 4 = some (u, I 14) := by
  show some (u, (Int32.ofNat 14) >>> ((0 : Int32) &&& 31)) = _
  rw [show (Int32.ofNat 14) >>> ((0 : Int32) &&& 31) = I 14 from by decide]
theorem JS5 : hm_JS_length N u 5 = some (u, I 18) := by
  show some (u, (Int32.ofNat 18) >>> ((0 : Int32) &&& 31)) = _
  rw [show (Int32.ofNat 18) >>> ((0 : Int32) &&& 31) = I 18 from by decide]
theorem JC4 (hk : k < 14) : ∃ r, hm_JS_charAt N u 4 (I ((k : Nat) : Int)) = some (u, r) ∧ r ≠ I (-1) := by
  have cs : k = 0 ∨ k = 1 ∨ k = 2 ∨ k = 3 ∨ k = 4 ∨ k = 5 ∨ k = 6 ∨ k = 7 ∨ k = 8 ∨ k = 9 ∨ k = 10 ∨ k = 11 ∨ k = 12 ∨ k = 13 := by omega
  rcases cs with rfl | rfl | rfl | rfl | rfl | rfl | rfl | rfl | rfl | rfl | rfl | rfl | rfl | rfl <;> exact ⟨cqc 4 _, rfl, by decide⟩
theorem JC5 (hk : k < 18) : ∃ r, hm_JS_charAt N u 5 (I ((k : Nat) : Int)) = some (u, r) := by
  have cs : k = 0 ∨ k = 1 ∨ k = 2 ∨ k = 3 ∨ k = 4 ∨ k = 5 ∨ k = 6 ∨ k = 7 ∨ k = 8 ∨ k = 9 ∨ k = 10 ∨ k = 11 ∨ k = 12 ∨ k = 13 ∨ k = 14 ∨ k = 15 ∨ k = 16 ∨ k = 17 := by omega
  rcases cs with rfl | rfl | rfl | rfl | rfl | rfl | rfl | rfl | rfl | rfl | rfl | rfl | rfl | rfl | rfl | rfl | rfl | rfl <;> exact ⟨_, rfl⟩
theorem signs_okc {y : Int32} (h : CST u) (hw : WRS u) (ha : 0 ≤ F u 89 ∧ F u 89 < F u 81) (hN : 5000 ≤ N) : OK (fun w r => TOQ u w c r) (hm_To_signs N u y) := by
  have h81 := h.1
  have g2 : ∀ (M i : Nat) (w : MS), KTK u w c → F w 89 = F u 89 + 1 → i ≤ 18 → 19 - i < M → OK (fun w r => TOQ u w c r) ((hg_To_signs N M).2 w y (I ((i : Nat) : Int))) := by
    intro M
    induction M with
    | zero => intro i w _ _ _ h; omega
    | succ M ih =>
      intro i w k1 e1 hi hM
      show OK _ (hb_To_signs_81 N (hg_To_signs N M) w y (I ((i : Nat) : Int)))
      unfold hb_To_signs_81
      refine ok_ck.mpr ⟨by decide, ?_⟩
      rw [JS5, bnd_so]
      refine k_le ⟨by decide, by decide⟩ ⟨by omega, by omega⟩ (fun _ => ok_some.mpr ⟨k1, Or.inr (Or.inl rfl)⟩) (fun h4 => ok_ck.mpr ⟨by decide, ?_⟩)
      obtain ⟨r, er⟩ := JC5 (N := N) (u := w) (k := i) (by omega)
      rw [er, bnd_so]
      refine ok_br.mpr ⟨fun _ => ok_some.mpr ⟨k1, Or.inr (Or.inr ⟨20 + i, (F u 89).toNat + 1, ?_, ⟨by omega, fun z => by omega, fun z => by omega, fun z => by omega, by omega⟩, by omega, by omega⟩)⟩, fun _ => ?_⟩
      · rw [show (20 : Int32) = I 20 from rfl, I_add, show (20 : Int) + ((i : Nat) : Int) = ((20 + i : Nat) : Int) by omega]
      · rw [lit1q, I_add, show ((i : Nat) : Int) + 1 = ((i + 1 : Nat) : Int) by omega]
        exact ih (i + 1) w k1 e1 (by omega) (by omega)
  have g1 : ∀ (M j : Nat) (x : Int32), (x = I (-1) ∨ F u 89 + 1 < F u 81) → j ≤ 7 → 30 - j < M → OK (fun w r => TOQ u w c r) ((hg_To_signs N M).1 u y x (I ((2 * j : Nat) : Int))) := by
    intro M
    induction M with
    | zero => intro j x _ _ h; omega
    | succ M ih =>
      intro j x hx hj hM
      show OK _ (hb_To_signs_13 N (hg_To_signs N M) u y x (I ((2 * j : Nat) : Int)))
      unfold hb_To_signs_13 hb_To_signs_63
      refine ok_ck.mpr ⟨by decide, ?_⟩
      rw [JS4, bnd_so, lit1q, I_add]
      refine k_le ⟨by decide, by decide⟩ ⟨by omega, by omega⟩ (fun _ => ok_lt.mpr ?_) (fun h4 => ok_ck.mpr ⟨by decide, ?_⟩)
      · rw [I_F (k := 89), I_add, wi_e, lit0q, show (0 : Int) = ((0 : Nat) : Int) from rfl]
        exact g2 M 0 _ (KTK_at hw) (by rw [F_wi (by omega) (by omega), if_pos rfl]) (by omega) (by omega)
      · obtain ⟨r, er, -⟩ := JC4 (N := N) (u := u) (k := 2 * j) (by omega)
        obtain ⟨r2, er2, hr2⟩ := JC4 (N := N) (u := u) (k := 2 * j + 1) (by omega)
        have nx : OK (fun w r => TOQ u w c r) ((hg_To_signs N M).1 u y x (I ((2 * j : Nat) : Int) + 2)) := by
          rw [show (2 : Int32) = I 2 from rfl, I_add, show ((2 * j : Nat) : Int) + 2 = ((2 * (j + 1) : Nat) : Int) by omega]
          exact ih (j + 1) x hx (by omega) (by omega)
        rw [er, bnd_so]
        refine ok_br.mpr ⟨fun _ => ok_ck.mpr ⟨by decide, ?_⟩, fun _ => nx⟩
        rw [show ((2 * j : Nat) : Int) + 1 = ((2 * j + 1 : Nat) : Int) by omega, er2, bnd_so]
        refine ok_br.mpr ⟨fun z => ok_lt.mpr (ok_some.mpr ?_), fun _ => nx⟩
        have z := of_decide_eq_true z
        have h2 : F u 89 + 1 < F u 81 := by
          rcases hx with hx | hx
          · rw [hx] at z; exact absurd z hr2
          · exact hx
        rw [I_F (k := 89), show (2 : Int32) = I 2 from rfl, I_add, wi_e]
        refine ⟨KTK_at hw, Or.inr (Or.inr ⟨38 + j, (F u 89).toNat + 2, ?_, ⟨by omega, fun z => by omega, fun z => by omega, fun z => by omega, by omega⟩, by rw [F_wi (by omega) (by omega), if_pos rfl]; omega, by rw [F_wi (by omega) (by omega), if_pos rfl]; omega⟩)⟩
        have cs : j = 0 ∨ j = 1 ∨ j = 2 ∨ j = 3 ∨ j = 4 ∨ j = 5 ∨ j = 6 := by omega
        rcases cs with rfl | rfl | rfl | rfl | rfl | rfl | rfl <;> rfl
  unfold hm_To_signs hb_To_signs_0
  rw [I_F (k := 89), lit1q, I_add]
  obtain ⟨r, er, hr⟩ := signAt_e (N := N) (x := F u 89 + 1) h ⟨by omega, by omega⟩
  rw [er, bnd_so, lit0q, show (0 : Int) = ((2 * 0 : Nat) : Int) from rfl]
  refine g1 N 0 r ?_ (by omega) (by omega)
  rcases hr with ⟨-, r2, -⟩ | ⟨-, r3⟩
  · exact Or.inr r2
  · exact Or.inl r3
theorem scan_okc (h : CST u) (hw : WRS u) (hc : F u 85 = ((c : Nat) : Int)) (hc2 : c ≤ 4000) (ha : 0 ≤ F u 89 ∧ F u 89 ≤ F u 81) (hN : 300000 ≤ N) : OK (fun w r => TOQ u w c r) (hm_To_scan N u) := by
  have h81 := h.1
  have ok1 : ∀ {o : Option (MS × Int32)}, OK (fun w r => TOQ u w c r) o → OK (fun w r => TOQ u w c r) (bnd o (fun u5 r5 => some (u5, r5))) := fun hh => ok_bnd.mpr (ok_mono hh (fun w r hw => ok_some.mpr hw))
  unfold hm_To_scan hb_To_scan_0 hb_To_scan_61 hb_To_scan_42
  obtain ⟨r, er, hr⟩ := signAt_e (N := N) h (FRG1 u 89)
  rw [I_F (k := 89), er, bnd_so]
  refine ok_br.mpr ⟨fun _ => ok_some.mpr ⟨KTK.rf hw, Or.inl rfl⟩, fun z => ?_⟩
  rcases hr with ⟨r1, r2, r3⟩ | ⟨-, r3⟩
  · obtain ⟨rw1, e1⟩ := isWordly_any (N := N) (u := u) (y := r)
    rw [e1, bnd_so]
    refine ok_br.mpr ⟨fun _ => ok_br.mpr ⟨fun _ => ok1 (string_okc h hw hc hc2 ⟨r1, r2⟩ (by omega)), fun _ => ok1 (signs_okc h hw ⟨r1, r2⟩ (by omega))⟩, fun z2 => ?_⟩
    have hwr := wordly_rng e1 (of_decide_eq_false z2)
    have low : u.2.2.1 5 (F u 89).toNat &&& 255 = u.2.2.1 5 (F u 89).toNat := by_low (h.2.1 _ (by omega)) (by rw [← r3]; omega)
    rw [low] at r3
    obtain ⟨rd, e2⟩ := isDigit_any (N := N) (u := u) (y := r)
    rw [e2, bnd_so]
    refine ok_br.mpr ⟨fun _ => ok1 (word_okc h hw hc hc2 ⟨r1, r2⟩ ⟨rw1, by rw [← r3]; exact e1, of_decide_eq_false z2⟩ hN), fun z3 => ok1 (number_okc h hw hc hc2 ⟨r1, r2⟩ ⟨rd, by rw [← r3]; exact e2, of_decide_eq_false z3⟩ (by omega))⟩
  · rw [r3] at z; exact absurd z (by decide)
theorem skipT_okc (h : CST u) (ha : 0 ≤ F u 89 ∧ F u 89 ≤ F u 81) (hN : 5000 ≤ N) : OK (fun w _ => FR [89, 90] [] [] [] u w ∧ F u 89 ≤ F w 89 ∧ F w 89 ≤ F u 81) (hm_To_skip N u) := by
  have h81 := h.1
  have gen : ∀ (M i : Nat) (b : Int32) (w : MS), FR [89, 90] [] [] [] u w → F w 89 = ((i : Nat) : Int) → F u 89 ≤ i → (i : Int) ≤ F u 81 → F u 81 - i < M → OK (fun w _ => FR [89, 90] [] [] [] u w ∧ F u 89 ≤ F w 89 ∧ F w 89 ≤ F u 81) (hg_To_skip N M w b) := by
    intro M
    induction M with
    | zero => intro i b w _ _ _ _ h; omega
    | succ M ih =>
      intro i b w f e1 h1 h2 hM
      show OK _ (hb_To_skip_2 N (hg_To_skip N M) w b)
      have me : OK (fun w _ => FR [89, 90] [] [] [] u w ∧ F u 89 ≤ F w 89 ∧ F w 89 ≤ F u 81) (some (w, ())) := ok_some.mpr ⟨f, by omega, by omega⟩
      have e81 : F w 81 = F u 81 := congrArg _ (f.1 81 (by simp))
      by_cases h3 : F u 81 ≤ ((i : Nat) : Int)
      · unfold hb_To_skip_2
        rw [I_F (k := 81), e81, I_F (k := 89), e1]
        exact k_le (FRG1 u _) ⟨by omega, by omega⟩ (fun _ => me) (fun z => absurd z (by omega))
      have s84 : ∀ v1 t2, OK (fun w _ => FR [89, 90] [] [] [] u w ∧ F u 89 ≤ F w 89 ∧ F w 89 ≤ F u 81) (hb_To_skip_84 N (hg_To_skip N M) w v1 (w.1 90) t2) := fun v1 t2 => by
        unfold hb_To_skip_84
        refine ok_lt.mpr (ok_lt.mpr ?_)
        rw [I_of (w.1 90 + t2), wi_e]
        have e2 : (wi w 90 (w.1 90 + t2).toInt).1 89 = I ((i : Nat) : Int) := by rw [I_F (k := 89), F_wi (ti_rng _).1 (ti_rng _).2, if_neg (by decide), e1]
        rw [e2, lit1q, I_add, show ((i : Nat) : Int) + 1 = ((i + 1 : Nat) : Int) by omega, wi_e]
        exact ih (i + 1) _ _ (FR.wi (FR.wi f (by simp)) (by simp)) (by rw [F_wi (by omega) (by omega), if_pos rfl]) (by omega) (by omega) (by omega)
      unfold hb_To_skip_2 hb_To_skip_39 hb_To_skip_43 hb_To_skip_44 hb_To_skip_68
      rw [I_F (k := 81), e81, I_F (k := 89), e1]
      refine k_le (FRG1 u _) ⟨by omega, by omega⟩ (fun _ => me) (fun _ => ?_)
      refine e_in ⟨by omega, by omega⟩ (by decide) ?_
      have b68 : ∀ v1 v2, OK (fun w _ => FR [89, 90] [] [] [] u w ∧ F u 89 ≤ F w 89 ∧ F w 89 ≤ F u 81) (br (decide (v2 = (10 : Int32))) (hb_To_skip_84 N (hg_To_skip N M) w v1 (w.1 90) 1) (hb_To_skip_84 N (hg_To_skip N M) w v1 (w.1 90) 0)) := fun v1 v2 => ok_br.mpr ⟨fun _ => s84 _ _, fun _ => s84 _ _⟩
      have b44 : ∀ v2 t0, OK (fun w _ => FR [89, 90] [] [] [] u w ∧ F u 89 ≤ F w 89 ∧ F w 89 ≤ F u 81) (br (decide (t0 = (0 : Int32))) (br (decide (v2 = (9 : Int32))) (br (decide (v2 = (10 : Int32))) (hb_To_skip_84 N (hg_To_skip N M) w t0 (w.1 90) 1) (hb_To_skip_84 N (hg_To_skip N M) w t0 (w.1 90) 0)) (br (decide (v2 = (10 : Int32))) (br (decide (v2 = (10 : Int32))) (hb_To_skip_84 N (hg_To_skip N M) w t0 (w.1 90) 1) (hb_To_skip_84 N (hg_To_skip N M) w t0 (w.1 90) 0)) (br (decide (v2 = (32 : Int32))) (br (decide (v2 = (10 : Int32))) (hb_To_skip_84 N (hg_To_skip N M) w t0 (w.1 90) 1) (hb_To_skip_84 N (hg_To_skip N M) w t0 (w.1 90) 0)) (some (w, ()))))) (br (decide (v2 = (10 : Int32))) (hb_To_skip_84 N (hg_To_skip N M) w t0 (w.1 90) 1) (hb_To_skip_84 N (hg_To_skip N M) w t0 (w.1 90) 0))) := fun v2 t0 => ok_br.mpr ⟨fun _ => ok_br.mpr ⟨fun _ => b68 _ _, fun _ => ok_br.mpr ⟨fun _ => b68 _ _, fun _ => ok_br.mpr ⟨fun _ => b68 _ _, fun _ => me⟩⟩⟩, fun _ => b68 _ _⟩
      exact ok_br.mpr ⟨fun _ => b44 _ _, fun _ => ok_br.mpr ⟨fun _ => ok_br.mpr ⟨fun _ => b44 _ _, fun _ => b44 _ _⟩, fun _ => b44 _ _⟩⟩
  unfold hm_To_skip hb_To_skip_0
  exact gen N (F u 89).toNat _ u FR.rf (by omega) (by omega) (by omega) (by omega)
end
