set_option maxRecDepth 100000
def CST (u : MS) : Prop := (0 ≤ F u 81 ∧ F u 81 ≤ 4000) ∧ TPB u ∧ (WDc u 9 ∧ F u 182 = 15)
def WRS (u : MS) : Prop := (WDc u 1 ∧ 22 ≤ F u 22) ∧ WDc u 12 ∧ 1 ≤ F u 242
def KTK (u w : MS) (c : Nat) : Prop := FR [89, 22, 242] [] [2, 3, 7, 13, 14] [] u w ∧ (∀ t, t ≠ c → A w 7 t = A u 7 t) ∧ (F u 22 ≤ F w 22 ∧ F u 242 ≤ F w 242) ∧ WRS w
def TVL (u : MS) (t k e1 e2 : Nat) : Prop := (1 ≤ k ∧ k ≤ 44) ∧ (k = 2 → 0 ≤ A u 7 t ∧ A u 7 t < F u 22) ∧ (k = 3 → 0 ≤ A u 7 t ∧ A u 7 t < F u 242) ∧ (k = 4 → ∃ f L : Nat, A u 7 t = ((f : Nat) : Int) ∧ L ≤ 40 ∧ u.2.2.1 5 (f + L) &&& 255 = 34 ∧ e1 + 1 ≤ f ∧ f + L + 1 ≤ e2) ∧ e1 < e2
section
variable {u v w : MS} {N k n c e1 e2 t : Nat}
theorem KTK.rf (h : WRS u) : KTK u u c := ⟨FR.rf, fun _ _ => rfl, ⟨Int.le_refl _, Int.le_refl _⟩, h⟩
theorem CST_k (h : CST u) (f : FR [89, 22, 242] [] [2, 3, 7, 13, 14] [] u w) : CST w := by
  obtain ⟨h1, h2, h3, h4⟩ := h
  have e5 : w.2.2.1 5 = u.2.2.1 5 := f.2.2.1 5 (by simp)
  refine ⟨by rw [show F w 81 = F u 81 from congrArg _ (f.1 81 (by simp))]; exact h1, fun k hk => by rw [e5]; exact h2 k hk, WDc_fr h3 f (by simp) (by simp), by rw [show F w 182 = F u 182 from congrArg _ (f.1 182 (by simp))]; exact h4⟩
theorem KTK.i (h : KTK u w c) {k : Nat} (hk : k ∉ [89, 22, 242]) : F w k = F u k := congrArg _ (h.1.1 k hk)
theorem KTK_at (h : WRS u) {y : Int} : KTK u (wi u 89 y) c := by
  have f : FR [89, 22, 242] [] [2, 3, 7, 13, 14] [] u (wi u 89 y) := FR.wi FR.rf (by simp)
  have f0 : FR [89] [] [] [] u (wi u 89 y) := FR.wi FR.rf (by simp)
  have e1 : F (wi u 89 y) 22 = F u 22 := congrArg _ (f0.1 22 (by simp))
  have e2 : F (wi u 89 y) 242 = F u 242 := congrArg _ (f0.1 242 (by simp))
  exact ⟨f, fun _ _ => rfl, ⟨by rw [e1]; exact Int.le_refl _, by rw [e2]; exact Int.le_refl _⟩, ⟨WDc_fr h.1.1 f0 (by simp) (by simp), by rw [e1]; exact h.1.2⟩, WDc_fr h.2.1 f0 (by simp) (by simp), by rw [e2]; exact h.2.2⟩
theorem KTK_val (h : KTK u w c) {y : Int} : KTK u (wa w 7 c y) c := by
  obtain ⟨f, g1, g2, g3, g4, g5⟩ := h
  have f0 : FR [] [] [7] [] w (wa w 7 c y) := FR.wa FR.rf (by simp)
  refine ⟨FR.wa f (by simp), fun t ht => ?_, g2, ⟨WDc_fr g3.1 f0 (by simp) (by simp), g3.2⟩, WDc_fr g4 f0 (by simp) (by simp), g5⟩
  rw [wa_ne ht]; exact g1 t ht
theorem KTK.tr (a : KTK u v c) (b : KTK v w c) : KTK u w c := ⟨FR.tr a.1 b.1, fun t ht => (b.2.1 t ht).trans (a.2.1 t ht), ⟨Int.le_trans a.2.2.1.1 b.2.2.1.1, Int.le_trans a.2.2.1.2 b.2.2.1.2⟩, b.2.2.2⟩
theorem signAt_e {x : Int} (h : CST u) (hx : RG x) : ∃ r, hm_To_signAt N u (I x) = some (u, r) ∧ ((0 ≤ x ∧ x < F u 81 ∧ r = u.2.2.1 5 x.toNat &&& 255) ∨ ((x < 0 ∨ F u 81 ≤ x) ∧ r = I (-1))) := by
  unfold hm_To_signAt hb_To_signAt_0 hb_To_signAt_26 hb_To_signAt_12 hb_To_signAt_26
  rw [lit0q, I_F (k := 81), decL hx.1 hx.2 (by decide) (by decide), decL hx.1 hx.2 (FRG1 u _).1 (FRG1 u _).2]
  by_cases h0 : x < 0
  · rw [decide_eq_true h0, br_tq]; exact ⟨_, rfl, Or.inr ⟨Or.inl h0, rfl⟩⟩
  · rw [decide_eq_false h0, br_fq]
    by_cases h1 : x < F u 81
    · have := h.1
      rw [decide_eq_true h1, br_tq, (I_inb hx.1 hx.2).mpr ⟨by omega, by omega⟩, ck_t, tnI (n := x.toNat) (by omega) (by omega)]
      exact ⟨_, rfl, Or.inl ⟨by omega, h1, rfl⟩⟩
    · rw [decide_eq_false h1, br_fq]; exact ⟨_, rfl, Or.inr ⟨Or.inr (by omega), rfl⟩⟩
theorem ckb_any {a : Int32} (h : a = 0 ∨ a = 1) : ∃ r, ck (isb a) (some (u, a)) = some (u, r) := by
  refine ⟨a, ?_⟩
  rcases h with rfl | rfl <;> rfl
theorem isDigit_any {y : Int32} : ∃ r, hm_To_isDigit N u y = some (u, r) := by
  unfold hm_To_isDigit hb_To_isDigit_0 hb_To_isDigit_16 hb_To_isDigit_17
  exact br_any (ckb_any (Or.inl rfl)) (br_any (ckb_any (Or.inl rfl)) (ckb_any (Or.inr rfl)))
theorem isWordly_any {y : Int32} : ∃ r, hm_To_isWordly N u y = some (u, r) := by
  unfold hm_To_isWordly hb_To_isWordly_0 hb_To_isWordly_19 hb_To_isWordly_31 hb_To_isWordly_37 hb_To_isWordly_42
  obtain ⟨r, e⟩ := isDigit_any (N := N) (u := u) (y := y)
  rw [e, bnd_so]
  have c0 := ckb_any (u := u) (a := 0) (Or.inl rfl)
  have c1 := ckb_any (u := u) (a := 1) (Or.inr rfl)
  exact br_any (br_any (br_any (br_any c1 c0) (br_any c1 (br_any c1 c0))) (br_any c1 (br_any (br_any c1 c0) (br_any c1 (br_any c1 c0))))) c1
def TOQ (u w : MS) (c : Nat) (r : Int32) : Prop := KTK u w c ∧ (r = I 0 ∨ r = I 45 ∨ ∃ k e2 : Nat, r = I ((k : Nat) : Int) ∧ TVL w c k (F u 89).toNat e2 ∧ F w 89 = ((e2 : Nat) : Int) ∧ F w 89 ≤ F u 81)
theorem number_okc (h : CST u) (hw : WRS u) (hc : F u 85 = ((c : Nat) : Int)) (hc2 : c ≤ 4000) (ha : 0 ≤ F u 89 ∧ F u 89 < F u 81) (hd : ∃ r, hm_To_isDigit N u (u.2.2.1 5 (F u 89).toNat) = some (u, r) ∧ r ≠ 0) (hN : 5000 ≤ N) : OK (fun w r => TOQ u w c r) (hm_To_number N u) := by
  have h68 : ∀ (w : MS) (y : Int64), KTK u w c → F u 89 < F w 89 → F w 89 ≤ F u 81 → CST w → OK (fun w r => TOQ u w c r) (hb_To_number_68 N (hg_To_number N N) w y) := by
    intro w y k1 k2 k3 k4
    unfold hb_To_number_68 hb_To_number_101 hb_To_number_107
    rw [I_F (k := 85), k1.i (by simp), hc]
    refine e_in ⟨by omega, by omega⟩ (by decide) (ok_lt.mpr ?_)
    rw [tnI (n := c) rfl (by omega), I_of y.toInt32, wa_e]
    have k5 : KTK u (wa w 7 c y.toInt32.toInt) c := KTK_val k1
    have k6 : CST (wa w 7 c y.toInt32.toInt) := CST_k h k5.1
    refine ok_br.mpr ⟨fun _ => ok_some.mpr ⟨k5, Or.inr (Or.inl rfl)⟩, fun _ => ?_⟩
    obtain ⟨r1, e1, -⟩ := signAt_e (N := N) k6 (FRG1 (wa w 7 c y.toInt32.toInt) 89)
    rw [I_F (k := 89), e1, bnd_so]
    obtain ⟨r2, e2⟩ := isWordly_any (N := N) (u := wa w 7 c y.toInt32.toInt) (y := r1)
    rw [e2, bnd_so]
    refine ok_br.mpr ⟨fun _ => ok_some.mpr ⟨k5, Or.inr (Or.inr ⟨1, (F w 89).toNat, rfl, ⟨by omega, fun z => absurd z (by decide), fun z => absurd z (by decide), fun z => absurd z (by decide), by omega⟩, ?_, k3⟩)⟩, fun _ => ok_some.mpr ⟨k5, Or.inr (Or.inl rfl)⟩⟩
    show F w 89 = _
    omega
  have gen : ∀ (M i : Nat) (y : Int64) (w : MS), KTK u w c → CST w → F w 89 = ((i : Nat) : Int) → F u 89 < i → (i : Int) ≤ F u 81 → F u 81 - i < M → OK (fun w r => TOQ u w c r) (hg_To_number N M w y) := by
    intro M
    induction M with
    | zero => intro i y w _ _ _ _ _ h; omega
    | succ M ih =>
      intro i y w k1 k2 e1 h1 h2 hM
      show OK _ (hb_To_number_2 N (hg_To_number N M) w y)
      unfold hb_To_number_2
      have e68 : hb_To_number_68 N (hg_To_number N M) w y = hb_To_number_68 N (hg_To_number N N) w y := rfl
      rw [e68, I_F (k := 81), k1.i (by simp), I_F (k := 89), e1]
      refine k_le (FRG1 u _) ⟨by omega, by have := h.1; omega⟩ (fun _ => h68 w y k1 (by omega) (by omega) k2) (fun h3 => ?_)
      have h81 := h.1
      refine e_in ⟨by omega, by omega⟩ (by decide) ?_
      obtain ⟨r, e⟩ := isDigit_any (N := N) (u := w) (y := w.2.2.1 5 (I ((i : Nat) : Int)).toNatClampNeg)
      rw [e, bnd_so]
      have e68b : ∀ y, hb_To_number_68 N (hg_To_number N M) w y = hb_To_number_68 N (hg_To_number N N) w y := fun _ => rfl
      refine ok_br.mpr ⟨fun _ => by rw [e68b]; exact h68 w y k1 (by omega) (by omega) k2, fun _ => ?_⟩
      rw [I_F (k := 89), e1]
      refine e_in ⟨by omega, by omega⟩ (by decide) (ok_lt.mpr (ok_lt.mpr ?_))
      rw [lit1q, I_add, show ((i : Nat) : Int) + 1 = ((i + 1 : Nat) : Int) by omega, wi_e]
      have k3 : KTK u (wi w 89 ((i + 1 : Nat) : Int)) c := KTK.tr k1 (KTK_at k1.2.2.2)
      exact ih (i + 1) _ _ k3 (CST_k h k3.1) (by rw [F_wi (by omega) (by omega), if_pos rfl]) (by omega) (by omega) (by omega)
  have h81 := h.1
  cases N with
  | zero => omega
  | succ N' =>
    show OK _ (hb_To_number_2 (N' + 1) (hg_To_number (N' + 1) N') u 0)
    unfold hb_To_number_2
    rw [I_F (k := 81), I_F (k := 89)]
    refine k_le (FRG1 u _) (FRG1 u _) (fun z => absurd z (by omega)) (fun _ => ?_)
    refine e_in ⟨by omega, by omega⟩ (by decide) ?_
    rw [tnI (n := (F u 89).toNat) (by omega) (by omega)]
    obtain ⟨r, e, hr⟩ := hd
    rw [e, bnd_so]
    refine ok_br.mpr ⟨fun z => absurd (of_decide_eq_true z) hr, fun _ => ?_⟩
    rw [I_F (k := 89)]
    refine e_in ⟨by omega, by omega⟩ (by decide) (ok_lt.mpr (ok_lt.mpr ?_))
    rw [lit1q, I_add, show F u 89 + 1 = (((F u 89).toNat + 1 : Nat) : Int) by omega, wi_e]
    have k3 : KTK u (wi u 89 (((F u 89).toNat + 1 : Nat) : Int)) c := KTK_at hw
    exact gen N' ((F u 89).toNat + 1) _ _ k3 (CST_k h k3.1) (by rw [F_wi (by omega) (by omega), if_pos rfl]) (by omega) (by omega) (by omega)
theorem word_okc {y : Int32} (h : CST u) (hw : WRS u) (hc : F u 85 = ((c : Nat) : Int)) (hc2 : c ≤ 4000) (ha : 0 ≤ F u 89 ∧ F u 89 < F u 81) (hd : ∃ r, hm_To_isWordly N u (u.2.2.1 5 (F u 89).toNat) = some (u, r) ∧ r ≠ 0) (hN : 300000 ≤ N) : OK (fun w r => TOQ u w c r) (hm_To_word N u y) := by
  have h81 := h.1
  have h44 : ∀ (w : MS) (i : Nat), KTK u w c → CST w → F w 89 = ((i : Nat) : Int) → F u 89 < i → (i : Int) ≤ F u 81 → OK (fun w r => TOQ u w c r) (hb_To_word_44 N (hg_To_word N N) w y (I (F u 89))) := by
    intro w i k1 k2 e1 h1 h2
    unfold hb_To_word_44
    rw [I_F (k := 89), e1, I_sub, show (16 : Int32) = I 16 from rfl, I_F (k := 85), k1.i (by simp), hc]
    refine k_le ⟨by omega, by omega⟩ ⟨by decide, by decide⟩ (fun h3 => ?_) (fun _ => ok_some.mpr ⟨k1, Or.inr (Or.inl rfl)⟩)
    have b5 : bl 5 = 4000 := rfl
    have last : ∀ (x kd : Nat) (w2 : MS) (r : Int32), (x = 1 ∧ kd = 2) ∨ (x = 12 ∧ kd = 3) → FNWc w w2 x r → OK (fun w r => TOQ u w c r) (ck (inb (I ((c : Nat) : Int)) 4002) (lt (upA w2 7 (upd (w2.2.2.1 7) (I ((c : Nat) : Int)).toNatClampNeg r)) (fun w13 => some (w13, I ((kd : Nat) : Int))))) := by
      intro x kd w2 r hx hf
      obtain ⟨f1, f2, f3, k, rfl, hk⟩ := hf
      refine e_in ⟨by omega, by omega⟩ (by decide) (ok_lt.mpr (ok_some.mpr ?_))
      rw [tnI (n := c) rfl (by omega), wa_e]
      have kw : KTK w w2 c := by
        obtain ⟨-, -, -, g3, g4, g5⟩ := k1
        have f2' : FR [89, 22, 242] [] [2, 3, 7, 13, 14] [] w w2 := FR.mo f2 (by rcases hx with ⟨rfl, -⟩ | ⟨rfl, -⟩ <;> simp) (by simp) (by rcases hx with ⟨rfl, -⟩ | ⟨rfl, -⟩ <;> simp) (by simp)
        have a7 : ∀ t, A w2 7 t = A w 7 t := fun t => by show (w2.2.2.1 7 t).toInt = _; rw [f2.2.2.1 7 (by rcases hx with ⟨rfl, -⟩ | ⟨rfl, -⟩ <;> simp)]; rfl
        rcases hx with ⟨rfl, -⟩ | ⟨rfl, -⟩
        · have e2 : F w2 242 = F w 242 := congrArg _ (f2.1 242 (by simp))
          have f3 : F w 22 ≤ F w2 22 := f3
          exact ⟨f2', fun t _ => a7 t, ⟨f3, by rw [e2]; exact Int.le_refl _⟩, ⟨f1, by omega⟩, WDc_fr g4 f2 (by simp) (by simp), by rw [e2]; exact g5⟩
        · have e2 : F w2 22 = F w 22 := congrArg _ (f2.1 22 (by simp))
          have f3 : F w 242 ≤ F w2 242 := f3
          exact ⟨f2', fun t _ => a7 t, ⟨by rw [e2]; exact Int.le_refl _, f3⟩, ⟨WDc_fr g3.1 f2 (by simp) (by simp), by rw [e2]; exact g3.2⟩, f1, by omega⟩
      have kk : KTK u (wa w2 7 c ((k : Nat) : Int)) c := KTK_val (KTK.tr k1 kw)
      have e89 : F w2 89 = ((i : Nat) : Int) := by rw [show F w2 89 = F w 89 from congrArg _ (f2.1 89 (by rcases hx with ⟨rfl, -⟩ | ⟨rfl, -⟩ <;> simp))]; exact e1
      have rk := F_r w2 (20 * x + 2)
      have a7 : A (wa w2 7 c ((k : Nat) : Int)) 7 c = ((k : Nat) : Int) := wa_eq ⟨by omega, by omega⟩
      refine ⟨kk, Or.inr (Or.inr ⟨kd, i, rfl, ⟨by omega, fun z => ?_, fun z => ?_, fun z => by omega, by omega⟩, e89, by show F w2 89 ≤ _; omega⟩)⟩
      · rcases hx with ⟨rfl, -⟩ | ⟨-, h3⟩
        · rw [a7]; exact ⟨by omega, hk⟩
        · omega
      · rcases hx with ⟨-, h3⟩ | ⟨rfl, -⟩
        · omega
        · rw [a7]; exact ⟨by omega, hk⟩
    refine ok_br.mpr ⟨fun _ => ?_, fun _ => ?_⟩
    · refine ok_bnd.mpr (ok_mono (seekW_ok (N := N) (x := 9) (b := 5) k2.2.2.1 (by omega) (by rw [b5]; decide) ha.1 ⟨by omega, by omega⟩ (by rw [b5]; omega) (by omega)) (fun w2 r hw2 => ?_))
      obtain ⟨rfl, hr⟩ := hw2
      rcases hr with rfl | ⟨k, rfl, hk⟩
      · refine ok_br.mpr ⟨fun _ => ?_, fun z => absurd z (by decide)⟩
        refine ok_bnd.mpr (ok_mono (findW_ok (N := N) (x := 1) k1.2.2.2.1.1 (by omega) (by have := k1.2.2.2.1.2; show 1 ≤ F w2 22; omega) (by omega) b5 ha.1 ⟨by omega, by omega⟩ (by omega) k2.2.1 (by omega)) (fun w3 r hw3 => ?_))
        rw [I_F (k := 85), k1.i (by simp), hc]
        exact last 1 2 w3 r (Or.inl ⟨rfl, rfl⟩) hw3
      · have e15 : F w2 182 = 15 := k2.2.2.2
        have hk : ((k : Nat) : Int) < F w2 182 := hk
        refine ok_br.mpr ⟨fun z => ?_, fun _ => ok_some.mpr ⟨k1, Or.inr (Or.inr ⟨5 + k, i, ?_, ⟨by omega, fun z => by omega, fun z => by omega, fun z => by omega, by omega⟩, e1, by rw [e1]; exact h2⟩)⟩⟩
        · have e := (I_eq (x := ((k : Nat) : Int)) (y := -1) (by omega) (by omega) (by decide) (by decide)).mp (show I ((k : Nat) : Int) = I (-1) from of_decide_eq_true z)
          omega
        · rw [show (5 : Int32) = I 5 from rfl, I_add, show (5 : Int) + ((k : Nat) : Int) = ((5 + k : Nat) : Int) by omega]
    · refine ok_bnd.mpr (ok_mono (findW_ok (N := N) (x := 12) k1.2.2.2.2.1 (by omega) k1.2.2.2.2.2 (by omega) b5 ha.1 ⟨by omega, by omega⟩ (by omega) k2.2.1 (by omega)) (fun w3 r hw3 => ?_))
      exact last 12 3 w3 r (Or.inr ⟨rfl, rfl⟩) hw3
  have gen : ∀ (M i : Nat) (w : MS), KTK u w c → CST w → F w 89 = ((i : Nat) : Int) → F u 89 < i → (i : Int) ≤ F u 81 → F u 81 - i < M → OK (fun w r => TOQ u w c r) (hg_To_word N M w y (I (F u 89))) := by
    intro M
    induction M with
    | zero => intro i w _ _ _ _ _ h; omega
    | succ M ih =>
      intro i w k1 k2 e1 h1 h2 hM
      show OK _ (hb_To_word_5 N (hg_To_word N M) w y (I (F u 89)))
      unfold hb_To_word_5
      have e44 : ∀ v : MS, hb_To_word_44 N (hg_To_word N M) v y (I (F u 89)) = hb_To_word_44 N (hg_To_word N N) v y (I (F u 89)) := fun _ => rfl
      rw [I_F (k := 81), k1.i (by simp), I_F (k := 89), e1]
      refine k_le (FRG1 u _) ⟨by omega, by omega⟩ (fun _ => by rw [e44]; exact h44 w i k1 k2 e1 h1 h2) (fun h3 => ?_)
      refine e_in ⟨by omega, by omega⟩ (by decide) ?_
      obtain ⟨r, e⟩ := isWordly_any (N := N) (u := w) (y := w.2.2.1 5 (I ((i : Nat) : Int)).toNatClampNeg)
      rw [e, bnd_so]
      refine ok_br.mpr ⟨fun _ => by rw [e44]; exact h44 w i k1 k2 e1 h1 h2, fun _ => ok_lt.mpr ?_⟩
      rw [I_F (k := 89), e1, lit1q, I_add, show ((i : Nat) : Int) + 1 = ((i + 1 : Nat) : Int) by omega, wi_e]
      have k3 : KTK u (wi w 89 ((i + 1 : Nat) : Int)) c := KTK.tr k1 (KTK_at k1.2.2.2)
      exact ih (i + 1) _ k3 (CST_k h k3.1) (by rw [F_wi (by omega) (by omega), if_pos rfl]) (by omega) (by omega) (by omega)
  cases N with
  | zero => omega
  | succ N' =>
    show OK _ (hb_To_word_5 (N' + 1) (hg_To_word (N' + 1) N') u y (u.1 89))
    unfold hb_To_word_5
    rw [I_F (k := 81), I_F (k := 89)]
    refine k_le (FRG1 u _) (FRG1 u _) (fun z => absurd z (by omega)) (fun _ => ?_)
    refine e_in ⟨by omega, by omega⟩ (by decide) ?_
    rw [tnI (n := (F u 89).toNat) (by omega) (by omega)]
    obtain ⟨r, e, hr⟩ := hd
    rw [e, bnd_so]
    refine ok_br.mpr ⟨fun z => absurd (of_decide_eq_true z) hr, fun _ => ok_lt.mpr ?_⟩
    rw [I_F (k := 89), lit1q, I_add]
    have e0 : I (F u 89 + 1) = I ((((F u 89).toNat + 1 : Nat)) : Int) := by congr 1; omega
    rw [e0, wi_e]
    have k3 : KTK u (wi u 89 (((F u 89).toNat + 1 : Nat) : Int)) c := KTK_at hw
    exact gen N' ((F u 89).toNat + 1) _ k3 (CST_k h k3.1) (by rw [F_wi (by omega) (by omega), if_pos rfl]) (by omega) (by omega) (by omega)
end
