section
variable {v w : MS} {T : TY} {C : CY} {a b : Nat → Nat} {SN ND CN PN UN FN n : Nat}
theorem CLS_w {CN many hg hb m l k cc r : Nat} {x : Int} (e : ∀ r j, r ≠ 27 → A w r j = A v r j) (h : CLS C v CN many hg hb m l k cc r x) : CLS C w CN many hg hb m l k cc r x := by
  obtain ⟨c, h1, h2, h3, h4⟩ := h
  exact ⟨c, h1, h2, by rw [e 41 c (by decide)]; exact h3, h4⟩
theorem PAT_w {PN L m m2 : Nat} {x : Int} (e : ∀ r j, r ≠ 27 → A w r j = A v r j) (h : PAT v id id PN SN L m m2 x) : PAT w id id PN SN L m m2 x := PAT_ag h (fun r i hr _ => e r i (by
  have : ∀ r, r ∈ [33, 35, 36, 37, 38] → r ≠ 27 := by decide
  exact this r hr))
theorem PATS_w {PN L m m2 many : Nat} {x : Int} (e : ∀ r j, r ≠ 27 → A w r j = A v r j) (h : PATS v id id PN SN L m m2 many x) : PATS w id id PN SN L m m2 many x := PATS_ag h (fun r i hr _ => e r i (by
  have : ∀ r, r ∈ [33, 35, 36, 37, 38] → r ≠ 27 := by decide
  exact this r hr))
theorem WNa_cv (h : WNa v T C id id (ND + 1) CN PN SN UN 0 n) (h15 : A v 23 n ≠ 15) (e : ∀ r j, r ≠ 27 → A w r j = A v r j) (e27 : A v 23 n ≠ 12 → A w 27 n = A v 27 n) (lo : LOW v a b (fun _ => False) n) (hb : b 0 = ND) (hend : ∀ x h mm, NX T n x h mm → x < ND + 1 → x < ND) : WNa w T C id id ND CN PN SN UN FN n := by
  obtain ⟨k11, k13, k14, k15, k16, k17, k18, k19, k20, k21, k31, k27, k28, k29, k30, k26⟩ := h
  obtain ⟨l1, l2, l3, l4, l5, l6⟩ := lo
  have e23 : ∀ j, A w 23 j = A v 23 j := fun j => e 23 j (by decide)
  have e25 : ∀ j, A w 25 j = A v 25 j := fun j => e 25 j (by decide)
  have e26 : ∀ j, A w 26 j = A v 26 j := fun j => e 26 j (by decide)
  have e30 : ∀ j, A w 30 j = A v 30 j := fun j => e 30 j (by decide)
  have e31 : ∀ j, A w 31 j = A v 31 j := fun j => e 31 j (by decide)
  have e54 : ∀ j, A w 54 j = A v 54 j := fun j => e 54 j (by decide)
  have e55 : ∀ j, A w 55 j = A v 55 j := fun j => e 55 j (by decide)
  have e57 : ∀ j, A w 57 j = A v 57 j := fun j => e 57 j (by decide)
  unfold WNa
  simp only [e23, e25, e26, e30, e31, e54, e55, e57]
  refine ⟨k11, k13, k14, fun z => absurd z h15, fun z => ?_, k17, k18, fun z => ?_, k20, fun z => ?_, fun z => ?_, fun z => ?_, fun z => ?_, k29, k30, fun z => ?_⟩
  · obtain ⟨q1, q2, m2, q3, q4⟩ := k16 z
    exact ⟨q1, q2, m2, PAT_w e q3, q4⟩
  · obtain ⟨q1, q2, q3, q4, q5, q6, q7, q8, q9, q10, x, q11, q12, q13⟩ := k19 z
    exact ⟨q1, q2, q3, q4, q5, q6, q7, q8, q9, q10, x, q11, hend x _ _ q13 q12, q13⟩
  · obtain ⟨q1, q2, q3, r, q4, q5⟩ := k21 z
    exact ⟨q1, q2, by rw [e27 (by omega)]; exact q3, r, q4, CLS_w e q5⟩
  · obtain ⟨q1, q3, r, q4, q5⟩ := k31 z
    exact ⟨q1, by rw [e27 (by omega)]; exact q3, r, q4, CLS_w e q5⟩
  · obtain ⟨q1, q2, q3, q4⟩ := k27 z
    refine ⟨q1, by rw [e27 (by omega)]; exact q2, ?_, ?_⟩
    · rcases q3 with q3 | ⟨r, q3, q5⟩
      · exact Or.inl q3
      · exact Or.inr ⟨r, q3, CLS_w e q5⟩
    · rcases q4 with q4 | ⟨f, q4, q5, x, q6, q7, q8⟩
      · exact Or.inl q4
      · have := l3 z (by omega)
        exact Or.inr ⟨f, q4, by omega, x, q6, hend x _ _ q8 q7, q8⟩
  · obtain ⟨q1, q2, c, q3, q4, q5, x, q6, q7, q8, q9, q10⟩ := k28 z
    exact ⟨q1, q2, c, by rw [e27 (by omega)]; exact q3, q4, q5, x, q6, hend x _ _ q10 q7, q8, q9, q10⟩
  · obtain ⟨q1, q2⟩ := k26 z
    refine ⟨q1, ?_⟩
    rcases q2 with ⟨x, q2, q3, q4⟩ | ⟨q2, r, q3, q4, x, q5, q6, q7⟩
    · exact Or.inl ⟨x, q2, hend x _ _ q4 q3, q4⟩
    · have := (l2 z).2 q2 id
      exact Or.inr ⟨q2, r, q3, by omega, x, q5, hend x _ _ q7 q6, q7⟩
theorem WNa_15 {ND' : Nat} (h15 : A v 23 n = 15) (e23 : A w 23 n = A v 23 n) (p15 : P15 v T n) (h27 : 0 ≤ A w 27 n ∧ A w 27 n < FN) : WNa w T C id id ND' CN PN SN UN FN n := by
  unfold WNa
  rw [e23, h15]
  obtain ⟨q1, q2⟩ := p15 h15
  exact ⟨fun z => by omega, fun z => by omega, fun z => by omega, fun _ => ⟨q1, h27.1, h27.2, q2⟩, fun z => by omega, fun z => by omega, fun z => by omega, fun z => by omega, fun z => by omega, fun z => by omega, fun z => by omega, fun z => by omega, fun z => by omega, fun z => by omega, fun z => by omega, fun z => by omega⟩
theorem WNb_cv (h : WNb v T C (ND + 1) SN 0 n) (h12 : A v 23 n ≠ 12) (e : ∀ r j, r ≠ 27 → A w r j = A v r j) (e14 : F w 14 = F v 14) (hend : ∀ x h mm, NX T n x h mm → x < ND + 1 → x < ND) : WNb w T C ND SN FN n := by
  obtain ⟨k1, k2, k3, k4, k5, k6, k7, k9, k12, k22, k23⟩ := h
  have e23 : ∀ j, A w 23 j = A v 23 j := fun j => e 23 j (by decide)
  have e25 : ∀ j, A w 25 j = A v 25 j := fun j => e 25 j (by decide)
  have e26 : ∀ j, A w 26 j = A v 26 j := fun j => e 26 j (by decide)
  unfold WNb
  simp only [e23, e25, e26, e14]
  refine ⟨k1, k2, k3, k4, k5, k6, k7, fun z => ?_, fun z => absurd z h12, k22, k23⟩
  obtain ⟨q1, q2, x, q3, q4, q5⟩ := k9 z
  exact ⟨q1, q2, x, q3, hend x _ _ q5 q4, q5⟩
theorem WNb_12 {ND' : Nat} (h12 : A v 23 n = 12) (e : ∀ r j, r ≠ 27 → A w r j = A v r j) (p12 : P12 v T n) (cl : CL12 v w FN n) (e48 : ∀ j, A w 48 j = A v 48 j) : WNb w T C ND' SN FN n := by
  have e23 : A w 23 n = A v 23 n := e 23 n (by decide)
  unfold WNb
  rw [e23, h12, e 26 n (by decide), e 30 n (by decide)]
  obtain ⟨⟨b, q1, q2, q3, q4⟩, q5, q6⟩ := p12 h12
  refine ⟨fun z => by omega, fun z => by omega, fun z => by omega, fun z => by omega, fun z => by omega, fun z => by omega, fun z => by omega, fun z => by omega, fun _ => ⟨⟨b, q1, q2, q3, q4, ?_⟩, q6⟩, fun z => by omega, fun z => by omega⟩
  rcases cl h12 with ⟨k, c1, c2, c3, c4⟩ | ⟨c1, c2, c3, c4⟩
  · exact Or.inl ⟨k, c2, c1, by omega, fun z => c4 (q5 z)⟩
  · refine Or.inr ⟨?_, c2, c3, by rw [e48]; omega⟩
    by_cases z : tG T n = 0
    · exact z
    · exact absurd (q5 z) c1
theorem NW_cv {rk m : Nat} (h : NWX v T C Z0 rk m a b n) (e : ∀ r j, r ≠ 27 → A w r j = A v r j) (hb : b 0 = ND ∧ b 1 = CN) (hl : n < ND ∧ A v 23 (ND - 1) = 29) : NW w T C ND CN n := by
  obtain ⟨⟨h1, h2, h3, h4, h5, h6, h7⟩, k1, k2, k3⟩ := h
  have e23 : ∀ j, A w 23 j = A v 23 j := fun j => e 23 j (by decide)
  have e24 : ∀ j, A w 24 j = A v 24 j := fun j => e 24 j (by decide)
  have e25 : ∀ j, A w 25 j = A v 25 j := fun j => e 25 j (by decide)
  have e45 : ∀ j, A w 45 j = A v 45 j := fun j => e 45 j (by decide)
  unfold NW
  simp only [e23, e24, e25, e45]
  refine ⟨h1, h2, h3, h4, h5, ⟨h6, h7⟩, fun z => ?_, fun z => ?_, k3.1, k3.2.1, k3.2.2.1, k3.2.2.2.1, fun z => ?_, k3.2.2.2.2⟩
  · rcases k1 z with ⟨q1, q2, q3, q4, q5, q6, q7, x, q8, q9, q10, q11⟩ | q
    · exact ⟨by omega, q3, q4, q5, q6, q7, x, q8, q11⟩
    · exact (KOUT_0 z q).elim
  · rcases k2 z with ⟨c, q1, q2, q3, q4, q5, q6, q7, q8, q9⟩ | q
    · exact ⟨c, q1, by omega, q4, q5, q6, q7, q8, fun d hd => (q9 d hd).2.2⟩
    · exact (GOUT_0 z q).elim
  · rcases Nat.lt_or_ge (n + 1) ND with q | q
    · exact q
    · obtain rfl : n = ND - 1 := by omega
      exact absurd hl.2 z
theorem CWD_cv {c : Nat} (h : CWD v T C id id (ND + 1) CN PN SN c) (e : ∀ r j, r ≠ 27 → A w r j = A v r j) (hT : tR T ND = 20000) : CWD w T C id id ND CN PN SN c := by
  obtain ⟨⟨many, p1, p2, p3⟩, k1, k2, k3, k4⟩ := h
  have e40 : ∀ j, A w 40 j = A v 40 j := fun j => e 40 j (by decide)
  have e41 : ∀ j, A w 41 j = A v 41 j := fun j => e 41 j (by decide)
  have e42 : ∀ j, A w 42 j = A v 42 j := fun j => e 42 j (by decide)
  have e43 : ∀ j, A w 43 j = A v 43 j := fun j => e 43 j (by decide)
  have e45 : ∀ j, A w 45 j = A v 45 j := fun j => e 45 j (by decide)
  unfold CWD
  simp only [e40, e41, e42, e43, e45]
  refine ⟨⟨many, p1, p2, PATS_w e p3⟩, k1, ?_, ?_, k4⟩
  · rcases k2 with q | ⟨x, q1, q2, q3, q4, q5⟩
    · exact Or.inl q
    · refine Or.inr ⟨x, q1, ?_, q3, q4, q5⟩
      rcases Nat.lt_or_ge x ND with z | z
      · exact z
      · obtain rfl : x = ND := by omega
        omega
  · obtain ⟨x, q1, q2, q3, q4, q5, q6, q7, q8, q9⟩ := k3
    refine ⟨x, q1, ?_, q3, q4, q5, q6, q7, q8, q9⟩
    rcases Nat.lt_or_ge x ND with z | z
    · exact z
    · obtain rfl : x = ND := by omega
      omega
theorem prg_of {G : Nat} {Bd : Nat → Nat → Nat} (hf : FNT v SN G Bd) (hB : Bd G = mks v) (hG : 0 < G ∧ G ≤ 1000) (hn : 0 ≤ F v 32 ∧ F v 32 ≤ 15000) (hc : 0 ≤ F v 46 ∧ F v 46 ≤ 1400) (hq : 0 ≤ F v 39 ∧ F v 39 ≤ 2900) (hu : 0 ≤ F v 56 ∧ F v 56 ≤ 1400) (hh : 0 ≤ F v 58 ∧ F v 58 ≤ 24000) (cl : CLI v w G (F v 32).toNat) (h52 : F v 52 = ((G : Nat) : Int)) (h72 : F w 72 = 0) (st : STR w SN) : ∃ (T : TY) (C : CY), PRG w T C id id (F v 32).toNat (F v 46).toNat (F v 39).toNat SN (F v 56).toNat G := by
  have m0 : Bd G 0 = (F v 32).toNat := by rw [hB]; rfl
  have m1 : Bd G 1 = (F v 46).toNat := by rw [hB]; rfl
  have m2 : Bd G 2 = (F v 39).toNat := by rw [hB]; rfl
  have m3 : Bd G 3 = (F v 56).toNat := by rw [hB]; rfl
  have m4 : Bd G 4 = (F v 58).toNat := by rw [hB]; rfl
  obtain ⟨T, C, v1, v2, v3, v4, v5⟩ := all_types hf (by omega) G 0 (by omega)
  obtain ⟨c1, c2, c3, c4⟩ := cl
  obtain ⟨c5, c6⟩ := c4 h72
  have v4' := v4 hG.1
  rw [m0] at v4' v2
  have hT : tR T (F v 32).toNat = 20000 := v2 8 (Nat.le_refl _)
  have e : ∀ r j, r ≠ 27 → A w r j = A v r j := fun r j hr => c1.A (by simpa using hr)
  have e14 : F w 14 = F v 14 := c1.F (by decide)
  have z0 := hf.1
  refine ⟨T, C, ⟨by omega, by omega, by omega, by omega, hG.2, by rw [c1.F (by decide)]; exact h52, by rw [c1.F (by decide)]; omega⟩, st, fun n hn' => ?_, fun c hc' => ?_, fun f hf' => ?_, fun x hx => ?_⟩
  · have nd := v1.1 n (by rw [z0]; omega) (by omega)
    obtain ⟨d1, d2, d3, d4, d5, d6, d7, d8⟩ := nd
    rw [m0, m1, m2, m3] at d2
    rw [m0] at d3
    have r16 : tR T n ≤ 16000 := d1.1.2.2.2.2.2.2
    have hend : ∀ x h mm, NX T n x h mm → x < (F v 32).toNat + 1 → x < (F v 32).toNat := fun x h mm hx hlt => by
      rcases Nat.lt_or_ge x (F v 32).toNat with z | z
      · exact z
      · obtain rfl : x = (F v 32).toNat := by omega
        have := hx.2.2.2.2.2.2.2.2
        omega
    have cln := c6 n hn'
    refine ⟨NW_cv d1 e ⟨m0, m1⟩ ⟨hn', v4'.1⟩, ?_, ?_⟩
    · by_cases z : A v 23 n = 15
      · exact WNa_15 z (e 23 n (by decide)) d5 (cln.2 z)
      · exact WNa_cv (d2 z id) z e (fun q => c2 n (Or.inl ⟨q, z⟩)) d7 m0 hend
    · by_cases z : A v 23 n = 12
      · exact WNb_12 z e d4 cln.1 (fun j => e 48 j (by decide))
      · exact WNb_cv (d3 z) z e e14 hend
  · have cw := (v1.2.1 c (by rw [z0]; omega) (by omega)).1
    rw [m0, m1, m2] at cw
    exact CWD_cv cw e hT
  · obtain ⟨x, r, q1, q2, -, q4, q5⟩ := v5 f (by omega) hf'
    rw [m1] at q5
    exact ⟨x, r, by rw [e 48 f (by decide)]; exact q1, q2, by rw [e 50 f (by decide), q4]; exact CLS_w e q5⟩
  · obtain ⟨⟨y, h', r, q1, q2, q3, q4, q5, q6⟩, -⟩ := v1.2.2 x (by rw [z0]; omega) (by omega)
    rw [m1] at q6
    rw [m4] at q4
    exact ⟨y, h', r, by rw [e 54 x (by decide)]; exact q1, q2, by rw [e 55 x (by decide)]; exact q3, by rw [e 55 x (by decide)]; omega, q5, by rw [e 53 x (by decide)]; exact CLS_w e q6⟩
end
