set_option maxRecDepth 100000
section
variable {T : Nat → Option (Nat × Nat × List Nat × Nat × Nat)} {Fv : Int64 → Int64 → Prop} {P : Int64 → Prop} {u v w w1 : MS} {PR N q r n B W Y i h m g x j wb nb cb rk c f i2 h2 m2 k a U d : Nat} {L : List Nat} {ow kd : Nat → Nat} {t rest : Int64} {gi gl ga ki kl ka kj : List Nat}
theorem DWc_dead (dw : DWc Fv P PR u) (f : FC q gi gl ga ki kl ka kj u w) (he : F u (pq q 9) = 3) (h1 : ∀ k, k ∈ [8, 9, 15, 17] → k ∉ ki) (h2 : 16 ∉ kl) (h3 : 2 ∉ kj) (h4 : ∀ k, k ∈ [942, 950, 953, 955, 956] → k ∉ gi) (h5 : ∀ k, k ∈ [1948, 53, 54] → k ∉ ga) : DWc Fv P PR w := by
  obtain ⟨⟨⟨g11, g12⟩, g13, g14, ⟨g15, g16⟩, g17, g18, g19⟩, d2⟩ := dw
  have i9 : ∀ r k, k ∈ [8, 9, 15, 17] → w.1 (pq r k) = u.1 (pq r k) := fun r k hk => f.2.2.2.2.1 r k (by simp at hk; omega) (fun _ => h1 k hk)
  have st : ∀ r, F w (pq r 9) = F u (pq r 9) := fun r => congrArg _ (i9 r 9 (by simp))
  have gF : ∀ k, k ∈ [942, 950, 953, 955, 956] → F w k = F u k := fun k hk => f.Fg (by simp at hk; omega) (h4 k hk)
  have gA : ∀ k i, k ∈ [1948, 53, 54] → A w k i = A u k i := fun k i hk => f.ag (by simp at hk; omega) (h5 k hk)
  have hce : cEc w PR = cEc u PR := cEc_eq PR (fun r _ => st r)
  have rj2 : ∀ r, w.2.2.2 (pq r 2) = u.2.2.2 (pq r 2) := fun r => f.2.2.2.2.2.2.2 r 2 (by omega) (fun _ => h3)
  have rl : ∀ r, w.2.1 (pq r 16) = u.2.1 (pq r 16) := fun r => f.2.2.2.2.2.1 r 16 (by omega) (fun _ => h2)
  refine ⟨⟨⟨by rw [gF 942 (by simp)]; exact g11, g12⟩, fun r hr => by rw [f.2.2.1 1948 (by omega) (h5 1948 (by simp))]; exact g13 r hr, by rw [gF 950 (by simp)]; exact g14, ⟨by rw [gF 955 (by simp), hce]; exact g15, by rw [gF 955 (by simp), gF 956 (by simp)]; exact g16⟩, fun i hi => ?_, by rw [gF 953 (by simp)]; exact g18, fun i hi => ?_⟩, fun r hr => ?_⟩
  · rw [gF 955 (by simp)] at hi
    obtain ⟨r, r1, r2, r3⟩ := g17 i hi
    exact ⟨r, by rw [gA 54 i (by simp)]; exact r1, r2, by rw [st]; exact r3⟩
  · rw [gF 953 (by simp)] at hi
    rw [gA 53 i (by simp)]; exact g19 i hi
  · obtain ⟨s1, s2, s3⟩ := d2 r hr
    refine ⟨?_, fun z => ?_, fun z => ?_⟩
    · obtain ⟨t1, t2, t3⟩ := s1
      refine ⟨by rw [show F w (pq r 15) = F u (pq r 15) from congrArg _ (i9 r 15 (by simp))]; exact t1, by rw [show F w (pq r 8) = F u (pq r 8) from congrArg _ (i9 r 8 (by simp))]; exact t2, fun y => ?_⟩
      rw [st] at y
      have e : r ≠ q := fun z => y (z ▸ he)
      rw [f.Fo e (by omega), f.Fo e (by omega)]; exact t3 y
    · rw [st] at z
      obtain ⟨hq2, n, ow, kd, e1, e2, e3, e4, e5, e6⟩ := s2 z
      exact ⟨hq2, n, ow, kd, by rw [i9 r 17 (by simp)]; exact e1, e2, by rw [st]; exact e3, e4, by rw [rj2]; exact e5, by rw [rl]; exact e6⟩
    · rw [st] at z
      have e : r ≠ q := fun y => z (y ▸ he)
      obtain ⟨n, ow, kd, B, W, Y, p⟩ := s3 z
      exact ⟨n, ow, kd, B, W, Y, PTQ_same p (fun k hk => f.2.2.2.2.1 r k (by simp at hk; omega) (fun y => absurd y e)) (fun k hk => f.jo e (by simp at hk; omega))⟩
theorem wans_ok {y z : Int} {wd : Nat} (M : MIc T Fv P PR q u i h m L g x j wb nb cb rk) (hx : x < i) (t9 : F u 1109 = 0) (t8 : F u 1108 = 0) (hf : PHc T u q i x rk ≤ c) (wq : WQ Fv P PR u w1) (hy : y = ((k : Nat) : Int)) (hk : k ≤ h) (gt : F w1 (pq q 9) ≠ 3 → ∀ n ow kd Y, PTQ w1 q n ow kd Fv P (nb + m) (wb + h) Y → GT n ow kd P t) (hz : z = ((wd : Nat) : Int)) (hwd : 1 ≤ wd ∧ wd ≤ 4) (t2 : T (i + wd) = some (h - k + 1, m, L, g, x)) : OK (fun w _ => F w 1109 = 0 ∧ OPQ T Fv P PR q c (upI w 1105 ((w.1 1105) + I z))) (hm_Ma_answer N w1 q (I y) t) := by
  have mb := MI_b M
  have w2b := (M.1.2.2.1 _ _ _ _ _ _ t2).1
  have wf := (M.1.2.2.1 _ _ _ _ _ _ t2).2.1
  have s9 : F w1 1109 = 0 := by rw [wq.2.1.G (by omega) (by simp)]; exact t9
  have s8 : F w1 1108 = 0 := by rw [wq.2.1.G (by omega) (by simp)]; exact t8
  by_cases hal : F w1 (pq q 9) = 3
  · have G1 := GEN_w M.1 wq
    have e26 : F w1 (pq q 26) = ((wb + h : Nat) : Int) := by rw [wq.2.1.F (by omega) (by simp)]; exact M.2.2.2.2.1.1
    have e45 : ((wb + h : Nat) : Int) ≤ F w1 (pq q 45) := by
      rw [wq.2.1.F (by omega) (by simp)]
      obtain ⟨n, ow, kd, Y, p⟩ := MI_p M
      obtain ⟨-, -, -, -, -, ⟨l, b1, b2, -⟩, -⟩ := p
      omega
    have ln1 := GEN_ln G1 G1.2.2.2.2.2.2.1
    unfold hm_Ma_answer hb_Ma_answer_0
    rw [drop_e e26 hy (by omega), bnd_so]
    have f0 : FC q [] [] [] [26, 45] [] [] [35] w1 (wi w1 (pq q 26) ((wb + h - k : Nat) : Int)) := FC.wi_q FC.rf (by omega) (by simp)
    have f45 : F (wi w1 (pq q 26) ((wb + h - k : Nat) : Int)) (pq q 45) = F w1 (pq q 45) := by rw [F_wi (by omega) (by omega), if_neg (pq_inj (by decide))]
    refine ok_bnd.mpr (ok_mono (push_n (N := N) (t := t) (W := wb + h - k) (by rw [F_wi (by omega) (by omega), if_pos rfl]) (LNB_m ln1 (by simp) (by omega)) (by rw [f45]; omega) (by omega)) (fun w2 _ hw2 => ok_some.mpr ?_))
    obtain ⟨f1, e1, l1, -, -, -⟩ := hw2
    have f2 := FC.tr f0 f1
    have q9 : F w2 1109 = 0 := by rw [f2.Fg (by omega) (by simp)]; exact s9
    refine ⟨q9, Or.inr (Or.inr (Or.inl ?_))⟩
    rw [at_e (i := i) (by rw [f2.Fg (by omega) (by simp), wq.2.1.G (by omega) (by simp)]; exact M.2.2.2.1.2)]
    have f3 : FC q [1105] [] [] [26, 45] [] [] [35] w1 (wi w2 1105 (((i : Nat) : Int) + z)) := FC.wi_g (FC.mo f2 (by simp) (by simp) (by simp) (by simp) (by simp) (by simp) (by simp)) (by omega) (by simp)
    refine ⟨GEN_f G1 f3 (DWc_dead G1.1 f3 hal (by simp) (by simp) (by simp) (by simp) (by simp)) (by simp) (by simp) (LNB_g l1 (by omega)), by rw [f3.Fq (by omega) (by simp)]; exact hal, by rw [f3.Fg (by omega) (by simp)]; exact s9, by rw [f3.Fq (by omega) (by simp), wq.2.1.F (by omega) (by simp)]; exact M21 M⟩
  · obtain ⟨M1, ph⟩ := MI_w M wq hal
    obtain ⟨n, ow, kd, Y, p⟩ := MI_p M1
    refine ok_mono (answer_t (N := N) p (MI_ln M1) hy (by omega) (by omega) (gt hal n ow kd Y p)) (fun w5 _ hw5 => ?_)
    obtain ⟨fm5, p5, ln5⟩ := hw5
    rw [show wb + h - k + 1 = wb + (h - k + 1) by omega] at p5
    exact ⟨by rw [fm5.Fg (by omega) (by simp)]; exact s9, fin_t M1 s9 s8 (by omega) hx fm5 p5 ln5 t2 (by omega) (by omega) (by omega)⟩
theorem nh_gt (h1 : ¬ isH t) (h2 : P t) : GT n ow kd P t := Or.inl ⟨h1, h2⟩
theorem ans_ok {y z : Int} {wd : Nat} (M : MIc T Fv P PR q u i h m L g x j wb nb cb rk) (hx : x < i) (t9 : F u 1109 = 0) (t8 : F u 1108 = 0) (hf : PHc T u q i x rk ≤ c) (p : PTQ u q n ow kd Fv P (nb + m) (wb + h) Y) (gt : GT n ow kd P t) (hy : y = ((k : Nat) : Int)) (hk : k ≤ h) (hz : z = ((wd : Nat) : Int)) (hwd : 1 ≤ wd ∧ wd ≤ 4) (t2 : T (i + wd) = some (h - k + 1, m, L, g, x)) : OK (fun w _ => F w 1109 = 0 ∧ OPQ T Fv P PR q c (upI w 1105 ((w.1 1105) + I z))) (hm_Ma_answer N u q (I y) t) := by
  have mb := MI_b M
  have w2b := (M.1.2.2.1 _ _ _ _ _ _ t2).1
  have wf := (M.1.2.2.1 _ _ _ _ _ _ t2).2.1
  refine ok_mono (answer_t (N := N) p (MI_ln M) hy (by omega) (by omega) gt) (fun w5 _ hw5 => ?_)
  obtain ⟨fm5, p5, ln5⟩ := hw5
  rw [show wb + h - k + 1 = wb + (h - k + 1) by omega] at p5
  exact ⟨by rw [fm5.Fg (by omega) (by simp)]; exact t9, fin_t M t9 t8 hf hx fm5 p5 ln5 t2 (by omega) (by omega) (by omega)⟩
theorem below_m {y : Int} (M : MIc T Fv P PR q u i h m L g x j wb nb cb rk) (p : PTQ u q n ow kd Fv P (nb + m) (wb + h) Y) (hy : y = ((k : Nat) : Int)) (hk : k < h) : hm_Fr_below N u q (I y) = some (u, u.2.2.2 (pq q 35) (wb + h - 1 - k)) ∧ GT n ow kd P (u.2.2.2 (pq q 35) (wb + h - 1 - k)) := by
  obtain ⟨l, l1, l2, l3⟩ := p.2.2.2.2.2.1
  exact ⟨below_e p.2.2.1.1 l1 l2 l3 hy (by omega), p.2.2.1.2 _ (by omega)⟩
theorem below_0 (M : MIc T Fv P PR q u i h m L g x j wb nb cb rk) (p : PTQ u q n ow kd Fv P (nb + m) (wb + h) Y) (hk : 1 ≤ h) : hm_Fr_below N u q 0 = some (u, u.2.2.2 (pq q 35) (wb + h - 1)) ∧ GT n ow kd P (u.2.2.2 (pq q 35) (wb + h - 1)) := below_m M p (y := 0) (k := 0) rfl (by omega)
theorem below_1 (M : MIc T Fv P PR q u i h m L g x j wb nb cb rk) (p : PTQ u q n ow kd Fv P (nb + m) (wb + h) Y) (hk : 2 ≤ h) : hm_Fr_below N u q 1 = some (u, u.2.2.2 (pq q 35) (wb + h - 1 - 1)) ∧ GT n ow kd P (u.2.2.2 (pq q 35) (wb + h - 1 - 1)) := below_m M p (y := 1) (k := 1) rfl (by omega)
theorem truth_e (y : Int32) : ∃ a, a < 22 ∧ hm_Ma_truth N u y = some (u, mk 1 ((a : Nat) : Int)) := by
  unfold hm_Ma_truth hb_Ma_truth_0 hb_Ma_truth_9
  by_cases z : y = 0
  · rw [decide_eq_true z, br_tq]; exact ⟨1, by decide, rfl⟩
  · rw [decide_eq_false z, br_fq]; exact ⟨0, by decide, rfl⟩
theorem br_any {α : Type} {b : Bool} {p q : Option (MS × α)} (h1 : ∃ r, p = some (u, r)) (h2 : ∃ r, q = some (u, r)) : ∃ r, br b p q = some (u, r) := by
  cases b with
  | false => exact h2
  | true => exact h1
theorem holds_any (a b : Int32) : ∃ r, hm_Ma_holds N u a b = some (u, r) := by
  unfold hm_Ma_holds hb_Ma_holds_0
  repeat' (first | exact ⟨_, rfl⟩ | apply br_any)
theorem number_ok {y : Int64} {wd : Nat} (M : MIc T Fv P PR q u i h m L g x j wb nb cb rk) (hx : x < i) (t9 : F u 1109 = 0) (t8 : F u 1108 = 0) (hf : PHc T u q i x rk ≤ c) (hk : k ≤ h) (hwd : 1 ≤ wd ∧ wd ≤ 4) (t2 : T (i + wd) = some (h - k + 1, m, L, g, x)) : OK (fun w _ => OPQ T Fv P PR q c w) (hm_Ma_number N u q (I ((k : Nat) : Int)) y (I ((wd : Nat) : Int))) := by
  obtain ⟨n, ow, kd, Y, p⟩ := MI_p M
  unfold hm_Ma_number hb_Ma_number_0
  refine ok_br.mpr ⟨fun _ => ?_, fun _ => ?_⟩
  · rw [lit0q, I_of y.toInt32, e_make, bnd_so]
    exact ok_bnd.mpr (ok_mono (ans_ok (N := N) M hx t9 t8 hf p (GT_0c M.1.2.1 (ti_rng _)) rfl hk rfl hwd t2) (fun w _ hw => ok_lt.mpr (ok_some.mpr hw.2)))
  · exact ok_bnd.mpr (ok_mono (ERR_w (N := N) (a := 12) M t9 t8 hf (by omega)) (fun w _ hw => ok_some.mpr hw))
theorem arith_ok {y : Int32} (M : MIc T Fv P PR q u i h m L g x j wb nb cb rk) (hx : x < i) (t9 : F u 1109 = 0) (t8 : F u 1108 = 0) (hf : PHc T u q i x rk ≤ c) (hk : 2 ≤ h) (t2 : T (i + 2) = some (h - 1, m, L, g, x)) : OK (fun w _ => OPQ T Fv P PR q c w) (hm_Ma_arithmetic N u q y) := by
  obtain ⟨n, ow, kd, Y, p⟩ := MI_p M
  obtain ⟨b0, g0⟩ := below_0 (N := N) M p (by omega)
  obtain ⟨b1, g1⟩ := below_1 (N := N) M p (by omega)
  have nm : ∀ v8, OK (fun w _ => OPQ T Fv P PR q c w) (hb_Ma_arithmetic_208 N () u q v8) := fun v8 => by
    unfold hb_Ma_arithmetic_208
    exact ok_bnd.mpr (ok_mono (number_ok (N := N) (y := v8) (k := 2) (wd := 2) M hx t9 t8 hf hk (by omega) (by rw [show h - 2 + 1 = h - 1 by omega]; exact t2)) (fun w _ hw => ok_some.mpr hw))
  have wr : OK (fun w _ => OPQ T Fv P PR q c w) (hb_Ma_arithmetic_92 N () u q) := by
    unfold hb_Ma_arithmetic_92
    exact ok_bnd.mpr (ok_mono (ERR_w (N := N) (a := 12) M t9 t8 hf (by omega)) (fun w _ hw => ok_some.mpr hw))
  have e99 : ∀ a b, OK (fun w _ => OPQ T Fv P PR q c w) (hb_Ma_arithmetic_99 N () u q y a b) := fun a b => by
    unfold hb_Ma_arithmetic_99 hb_Ma_arithmetic_186 hb_Ma_arithmetic_206
    have nz : decide (lg_cmp b 0 = 0) = false → decide (¬ b = 0) = true := fun z => decide_eq_true (fun e => by subst e; exact absurd z (by decide))
    refine ok_br.mpr ⟨fun _ => ok_br.mpr ⟨fun _ => nm _, fun z => ok_ck.mpr ⟨nz z, nm _⟩⟩, fun _ => ok_br.mpr ⟨fun _ => nm _, fun _ => ok_br.mpr ⟨fun _ => nm _, fun _ => ok_br.mpr ⟨fun _ => nm _, fun _ => ok_br.mpr ⟨fun _ => nm _, fun z => ok_ck.mpr ⟨nz z, nm _⟩⟩⟩⟩⟩⟩
  have e74 : ∀ a b d t0, OK (fun w _ => OPQ T Fv P PR q c w) (hb_Ma_arithmetic_74 N () u q y d a b t0) := fun a b d t0 => by
    unfold hb_Ma_arithmetic_74
    exact ok_br.mpr ⟨fun _ => wr, fun _ => ok_br.mpr ⟨fun _ => e99 _ _, fun _ => ok_br.mpr ⟨fun _ => wr, fun _ => e99 _ _⟩⟩⟩
  have e33 : ∀ t0, OK (fun w _ => OPQ T Fv P PR q c w) (hb_Ma_arithmetic_33 N () u q y t0) := fun t0 => by
    unfold hb_Ma_arithmetic_33 hb_Ma_arithmetic_69
    rw [b1, bnd_so, b0, bnd_so]
    exact ok_br.mpr ⟨fun _ => e74 _ _ _ _, fun _ => ok_br.mpr ⟨fun _ => e74 _ _ _ _, fun _ => e74 _ _ _ _⟩⟩
  unfold hm_Ma_arithmetic hb_Ma_arithmetic_0 hb_Ma_arithmetic_32
  rw [b1, bnd_so, e_tag, bnd_so]
  refine ok_br.mpr ⟨fun _ => ?_, fun _ => e33 _⟩
  rw [b0, bnd_so, e_tag, bnd_so]
  exact ok_br.mpr ⟨fun _ => e33 _, fun _ => e33 _⟩
theorem negate_ok (M : MIc T Fv P PR q u i h m L g x j wb nb cb rk) (hx : x < i) (t9 : F u 1109 = 0) (t8 : F u 1108 = 0) (hf : PHc T u q i x rk ≤ c) (hk : 1 ≤ h) (t2 : T (i + 1) = some (h, m, L, g, x)) : OK (fun w _ => OPQ T Fv P PR q c w) (hm_Ma_negate N u q) := by
  obtain ⟨n, ow, kd, Y, p⟩ := MI_p M
  obtain ⟨b0, g0⟩ := below_0 (N := N) M p (by omega)
  unfold hm_Ma_negate hb_Ma_negate_0
  rw [b0, bnd_so, e_tag, bnd_so]
  refine ok_br.mpr ⟨fun _ => ?_, fun _ => ?_⟩
  · rw [b0, bnd_so]
    exact ok_bnd.mpr (ok_mono (number_ok (N := N) (k := 1) (wd := 1) M hx t9 t8 hf hk (by omega) (by rw [show h - 1 + 1 = h by omega]; exact t2)) (fun w _ hw => ok_some.mpr hw))
  · exact ok_bnd.mpr (ok_mono (ERR_w (N := N) (a := 12) M t9 t8 hf (by omega)) (fun w _ hw => ok_some.mpr hw))
theorem not_okc (M : MIc T Fv P PR q u i h m L g x j wb nb cb rk) (hx : x < i) (t9 : F u 1109 = 0) (t8 : F u 1108 = 0) (hf : PHc T u q i x rk ≤ c) (hk : 1 ≤ h) (t2 : T (i + 1) = some (h, m, L, g, x)) : OK (fun w _ => OPQ T Fv P PR q c w) (hm_Ma_not N u q) := by
  obtain ⟨n, ow, kd, Y, p⟩ := MI_p M
  obtain ⟨b0, g0⟩ := below_0 (N := N) M p (by omega)
  have e50 : ∀ t2', OK (fun w _ => OPQ T Fv P PR q c w) (hb_Ma_not_50 N () u q 1 t2') := fun t2' => by
    unfold hb_Ma_not_50
    obtain ⟨a, ha, e⟩ := truth_e (N := N) (u := u) t2'
    rw [e, bnd_so]
    exact ok_bnd.mpr (ok_mono (ans_ok (N := N) (y := 1) (z := 1) (k := 1) (wd := 1) M hx t9 t8 hf p (GT_at M.1.2.1 ha) rfl hk rfl (by omega) (by rw [show h - 1 + 1 = h by omega]; exact t2)) (fun w _ hw => ok_lt.mpr (ok_some.mpr hw.2)))
  have e34 : ∀ a, OK (fun w _ => OPQ T Fv P PR q c w) (hb_Ma_not_34 N () u q a) := fun a => by
    unfold hb_Ma_not_34
    rw [lit1q, atom_e, bnd_so]
    exact ok_br.mpr ⟨fun _ => e50 _, fun _ => e50 _⟩
  unfold hm_Ma_not hb_Ma_not_0
  rw [b0, bnd_so, lit0q, atom_e, bnd_so, lit1q, atom_e, bnd_so]
  refine ok_br.mpr ⟨fun _ => e34 _, fun _ => ok_br.mpr ⟨fun _ => e34 _, fun _ => ?_⟩⟩
  exact ok_bnd.mpr (ok_mono (ERR_w (N := N) (a := 11) M t9 t8 hf (by omega)) (fun w _ hw => ok_some.mpr hw))
theorem hinge_ok {y : Int32} {e : Nat} (M : MIc T Fv P PR q u i h m L g x j wb nb cb rk) (hx : x < i) (t9 : F u 1109 = 0) (t8 : F u 1108 = 0) (hf : PHc T u q i x rk ≤ c) (hk : 1 ≤ h) (t2 : T (i + 2) = some (h - 1, m, L, g, x)) (hi : i < e) (t3 : T e = some (h, m, L, g, x)) : OK (fun w _ => OPQ T Fv P PR q c w) (hm_Ma_hinge N u q y (I ((e : Nat) : Int))) := by
  obtain ⟨n, ow, kd, Y, p⟩ := MI_p M
  have mb := MI_b M
  have w2b := (M.1.2.2.1 _ _ _ _ _ _ t2).1
  have w3b := (M.1.2.2.1 _ _ _ _ _ _ t3).1
  obtain ⟨b0, g0⟩ := below_0 (N := N) M p (by omega)
  have e36 : ∀ a, OK (fun w _ => OPQ T Fv P PR q c w) (hb_Ma_hinge_36 N () u q y (I ((e : Nat) : Int)) a) := fun a => by
    unfold hb_Ma_hinge_36 hb_Ma_hinge_71
    obtain ⟨a2, ha, et⟩ := truth_e (N := N) (u := u) y
    rw [et, bnd_so]
    refine ok_br.mpr ⟨fun _ => ?_, fun _ => ok_lt.mpr (ok_some.mpr ?_)⟩
    · rw [lit1q, drop_e (x := 1) (k := 1) p.2.2.1.1 rfl (by omega), bnd_so]
      refine ok_lt.mpr (ok_some.mpr ?_)
      obtain ⟨f1, p1⟩ := drop_t (k := 1) p (by omega)
      rw [show wb + h - 1 = wb + (h - 1) by omega] at p1 f1 ⊢
      rw [I_lit (n := 2)]
      exact fin_t M t9 t8 hf hx f1 p1 (LNB_m (MI_ln M) (by simp) (by omega)) t2 (by show _ + (2 : Int) = _; omega) (by omega) (by omega)
    · rw [wi_e]
      exact NRM_f M t9 t8 hf hx (FMc.at FMc.rf) (at_t p) (LNB_g (MI_ln M) (by omega)) t3 (at_F (by omega)) hi
  unfold hm_Ma_hinge hb_Ma_hinge_0 hb_Ma_hinge_71
  rw [b0, bnd_so, lit0q, atom_e, bnd_so, lit1q, atom_e, bnd_so]
  refine ok_br.mpr ⟨fun _ => e36 _, fun _ => ok_br.mpr ⟨fun _ => e36 _, fun _ => ?_⟩⟩
  exact ok_bnd.mpr (ok_mono (ERR_w (N := N) (a := 11) M t9 t8 hf (by omega)) (fun w _ hw => ok_some.mpr hw))
theorem CHN_szc {hh : Nat → Int64} {f s : Nat} (z : SZc hh n ow kd Fv P f t s) : ∀ k, (∀ j, j < k → so (tlc hh t j) = 7) → ∃ es : Nat → Nat, ∃ sr, (∀ j, j < k → SZc hh n ow kd Fv P f (hh (vn (tlc hh t j))) (es j)) ∧ SZc hh n ow kd Fv P f (tlc hh t k) sr ∧ s = 2 * k + smm es 0 k + sr ∧ ∀ j, j < k → BKc hh n ow kd Fv (tlc hh t j)
  | 0, _ => ⟨fun _ => 0, s, fun j hj => by omega, z, by show s = 0 + 0 + s; omega, fun j hj => by omega⟩
  | k + 1, h7 => by
    obtain ⟨es, sr, a1, a2, a3, a4⟩ := CHN_szc z k (fun j hj => h7 j (by omega))
    have e7 := h7 k (by omega)
    cases f with
    | zero => exact a2.elim
    | succ f =>
      rcases a2 with ⟨a2, -⟩ | ⟨b1, b2, c, b3, b4⟩
      · exact absurd (Or.inr (Or.inr e7)) a2
      · have hb2 : blk hh (tlc hh t k) = 2 := by unfold blk; rw [if_pos e7]
        have hp : prt (tlc hh t k) = 0 := by unfold prt; rw [if_pos e7]
        rw [hb2, hp] at b3 b4
        have e2 : smm c 0 (2 - 0) = c 0 + c 1 := by show 0 + c (0 + 0) + c (0 + 1) = _; simp
        refine ⟨fun j => if j = k then c 0 else es j, c 1, fun j hj => ?_, SZ_monoc (b3 1 (by omega) (by omega)), ?_, fun j hj => ?_⟩
        · by_cases e : j = k
          · subst e; simp only [if_true]; exact SZ_monoc (b3 0 (by omega) (by omega))
          · simp only [if_neg e]; exact a1 j (by omega)
        · rw [smm_upd]; omega
        · by_cases e : j = k
          · subst e; exact b2
          · exact a4 j (by omega)
end
