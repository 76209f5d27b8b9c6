section
variable {Fv : Int64 → Int64 → Prop} {P : Int64 → Prop} {w w2 : MS} {PR N p n opM bnM bxM ND fr k tp mu CN PN SN UN FN : Nat} {ow kd ro rn rh cb pc ct pM pE : Nat → Nat} {T : TY} {C : CY}
def KP : List Nat := [19, 23, 24, 25, 26, 27, 30, 31, 33, 35, 36, 37, 38, 40, 41, 42, 43, 45, 48, 50, 53, 54, 55, 57]
theorem PRG_fr {is ls as js : List Nat} (h : PRG w T C pM pE ND CN PN SN UN FN) (f : FR is ls as js w w2) (hi : ∀ k, k ∈ [14, 52, 56] → k ∉ is) (ha : ∀ k, k ∈ KP → k ∉ as) : PRG w2 T C pM pE ND CN PN SN UN FN := by
  have e : ∀ k, k ∈ KP → ∀ i, A w2 k i = A w k i := fun k hk i => FR.A f (ha k hk)
  have e19 := e 19 (by decide)
  have e23 := e 23 (by decide)
  have e24 := e 24 (by decide)
  have e25 := e 25 (by decide)
  have e26 := e 26 (by decide)
  have e27 := e 27 (by decide)
  have e30 := e 30 (by decide)
  have e31 := e 31 (by decide)
  have e33 := e 33 (by decide)
  have e35 := e 35 (by decide)
  have e36 := e 36 (by decide)
  have e37 := e 37 (by decide)
  have e38 := e 38 (by decide)
  have e40 := e 40 (by decide)
  have e41 := e 41 (by decide)
  have e42 := e 42 (by decide)
  have e43 := e 43 (by decide)
  have e45 := e 45 (by decide)
  have e48 := e 48 (by decide)
  have e50 := e 50 (by decide)
  have e53 := e 53 (by decide)
  have e54 := e 54 (by decide)
  have e55 := e 55 (by decide)
  have e57 := e 57 (by decide)
  have f14 : F w2 14 = F w 14 := FR.F f (hi 14 (by decide))
  have f52 : F w2 52 = F w 52 := FR.F f (hi 52 (by decide))
  have f56 : F w2 56 = F w 56 := FR.F f (hi 56 (by decide))
  have pw : ∀ pM pE L q, PW w pM pE PN SN L q → PW w2 pM pE PN SN L q := fun pM pE L q hq => by
    unfold PW CHN at hq ⊢
    simp only [e33, e35, e36, e37, e38]
    exact hq
  have st : STR w2 SN := ⟨h.2.1.1, fun s hs => by rw [e19, e19]; exact h.2.1.2 s hs⟩
  have cls : ∀ many hg hb m l k cc r a, CLS C w CN many hg hb m l k cc r a → CLS C w2 CN many hg hb m l k cc r a := fun many hg hb m l k cc r a hc => by
    unfold CLS at hc ⊢; simp only [e41]; exact hc
  have pat : ∀ L m m2 a, PAT w pM pE PN SN L m m2 a → PAT w2 pM pE PN SN L m m2 a := fun L m m2 a hp => by
    obtain ⟨q, pM, pE, q1, q2, q3, q4, q5, q6, q7⟩ := hp
    exact ⟨q, pM, pE, q1, q2, q3, q4, q5, q6, fun k h1 h2 => pw _ _ _ _ (q7 k h1 h2)⟩
  have pats : ∀ L m m2 many a, PATS w pM pE PN SN L m m2 many a → PATS w2 pM pE PN SN L m m2 many a := fun L m m2 many a hp => by
    rcases hp with hp | ⟨q0, q, pM, pE, q1, q2, q3, q4, q5, q6, q7, q8⟩
    · exact Or.inl hp
    · refine Or.inr ⟨q0, q, pM, pE, q1, ?_, q3, q4, q5, q6, q7, fun k h1 h2 => pw _ _ _ _ (q8 k h1 h2)⟩
      unfold CHN at q2 ⊢; simp only [e37]; exact ⟨trivial, q2.2⟩
  obtain ⟨h1, h2, h3, h4, h5, h6⟩ := h
  refine ⟨by rw [f52, f56]; exact h1, st, fun n hn => ?_, fun c hc => ?_, fun g hg => ?_, fun u hu => ?_⟩
  · obtain ⟨a1, a2, a3⟩ := h3 n hn
    refine ⟨by unfold NW at a1 ⊢; simp only [e23, e24, e25, e45]; exact a1, ?_, by unfold WNb at a3 ⊢; simp only [e23, e25, e26, e27, e30, e48, f14]; exact a3⟩
    unfold WNa at a2 ⊢
    simp only [e23, e25, e26, e27, e30, e31, e54, e55, e57]
    obtain ⟨b1, b2, b3, b4, b5, b6, b7, b8, b9, b10, b11, b12, b13, b14, b15, b16⟩ := a2
    refine ⟨b1, b2, b3, b4, fun z => ?_, b6, b7, b8, b9, fun z => ?_, fun z => ?_, fun z => ?_, b13, b14, b15, b16⟩
    · obtain ⟨y1, y2, m2, y3, y4⟩ := b5 z
      exact ⟨y1, y2, m2, pat _ _ _ _ y3, y4⟩
    · obtain ⟨y1, y2, y3, r, y4, y5⟩ := b10 z
      exact ⟨y1, y2, y3, r, y4, cls _ _ _ _ _ _ _ _ _ y5⟩
    · obtain ⟨y1, y3, r, y4, y5⟩ := b11 z
      exact ⟨y1, y3, r, y4, cls _ _ _ _ _ _ _ _ _ y5⟩
    · obtain ⟨y1, y3, y4, y5⟩ := b12 z
      refine ⟨y1, y3, ?_, y5⟩
      rcases y4 with y4 | ⟨r, y4, y6⟩
      · exact Or.inl y4
      · exact Or.inr ⟨r, y4, cls _ _ _ _ _ _ _ _ _ y6⟩
  · obtain ⟨⟨many, a1, a2, a3⟩, a4⟩ := h4 c hc
    unfold CWD
    simp only [e40, e41, e42, e43, e45]
    exact ⟨⟨many, a1, a2, pats _ _ _ _ _ a3⟩, a4⟩
  · obtain ⟨a, r, a1, a2, a3⟩ := h5 g hg
    exact ⟨a, r, by rw [e48]; exact a1, a2, by rw [e50]; exact cls _ _ _ _ _ _ _ _ _ a3⟩
  · obtain ⟨a, hh, r, a1, a2, a3, a4, a5, a6⟩ := h6 u hu
    exact ⟨a, hh, r, by rw [e54]; exact a1, a2, by rw [e55]; exact a3, by rw [e55]; exact a4, a5, by rw [e53]; exact cls _ _ _ _ _ _ _ _ _ a6⟩
def RCV (w : MS) (T : TY) (ND p hg m l k tp r : Nat) : Prop := ∃ n : Nat, F w 159 = n ∧ n < ND ∧ A w 23 n = 27 ∧ tH T n = hg ∧ tM T n = m ∧ tL T n = l ∧ tK T n = k ∧ tC T n = tp ∧ tG T n = 0 ∧ r + 1 = tR T n ∧ (A w 31 n = -1 → w.2.2.2 111 p = -1)
def TRS (w : MS) (T : TY) (C : CY) (ND CN p ro rn rh k tp s many hg hb m r bx : Nat) : Prop :=
  (F w 153 = s ∧ s ≤ 3 ∧ hg = hb + (if s = 0 then many else if s = 1 then 1 else 0) ∧ (s = 1 ∨ s = 3 → many = 1) ∧ (s = 2 → many = 0) ∧ many ≤ 6 ∧ k ≤ 26 ∧ hg ≤ 760 ∧ m + rh ≤ 40 ∧ r < 16000) ∧ F w 156 = ((rn + rh + m : Nat) : Int) ∧
  (F w 154 = -1 ∨ CLS C w CN many hg hb m rh k tp r (F w 154)) ∧
  (s = 3 → CLS C w CN many hg hb m rh k tp r (F w 155) ∧ 0 ≤ F w 158 ∧ F w 158 < bx ∧ RCV w T ND p hg m rh k tp r) ∧
  (0 < k → tH T tp ≤ hb ∧ tM T tp ≤ m ∧ ∃ a : Nat, A w 25 tp = a ∧ tR T a < r) ∧ F w 149 = F w 150 ∧ F w 151 = 0
theorem PW_fr {is ls as js : List Nat} {L q : Nat} (h : PW w pM pE PN SN L q) (f : FR is ls as js w w2) (ha : ∀ k, k ∈ [33, 35, 36, 37, 38] → k ∉ as) : PW w2 pM pE PN SN L q := by
  have e : ∀ k, k ∈ [33, 35, 36, 37, 38] → ∀ i, A w2 k i = A w k i := fun k hk i => FR.A f (ha k hk)
  have e33 := e 33 (by decide)
  have e35 := e 35 (by decide)
  have e36 := e 36 (by decide)
  have e37 := e 37 (by decide)
  have e38 := e 38 (by decide)
  unfold PW CHN at h ⊢
  simp only [e33, e35, e36, e37, e38]
  exact h
theorem pM_mono {L q e : Nat} (h : ∀ k, q ≤ k → k < e → PW w pM pE PN SN L k) : ∀ j, q + j ≤ e → pM q ≤ pM (q + j) := by
  intro j
  induction j with
  | zero => intro _; exact Nat.le_refl _
  | succ j ih =>
    intro hj
    have a := ih (by omega)
    obtain ⟨-, -, b1, b2, c1, c2, c3, c4, c5, c6⟩ := h (q + j) (by omega) (by omega)
    have : pM (q + j) ≤ pM (q + j + 1) := by
      by_cases z0 : A w 33 (q + j) = 0
      · rw [(c1 (Or.inl z0)).1]; exact Nat.le_refl _
      by_cases z3 : A w 33 (q + j) = 3
      · rw [(c1 (Or.inr z3)).1]; exact Nat.le_refl _
      by_cases z1 : A w 33 (q + j) = 1
      · rw [(c2 z1).1]; omega
      by_cases z2 : A w 33 (q + j) = 2
      · rw [(c3 z2).1]; exact Nat.le_refl _
      by_cases z4 : A w 33 (q + j) = 4
      · rw [(c4 z4).1]; exact Nat.le_refl _
      by_cases z5 : A w 33 (q + j) = 5
      · rw [(c5 z5).1]; exact Nat.le_refl _
      · rw [(c6 (by omega)).1]; exact Nat.le_refl _
    rw [show q + (j + 1) = q + j + 1 from by omega]
    omega
theorem chi_ge {L q e : Nat} (h : ∀ k, q ≤ k → k < e → PW w pM pE PN SN L k) : ∀ j, (∀ k, k < j → chi pE q k < e) → q ≤ chi pE q j := by
  intro j
  induction j with
  | zero => intro _; exact Nat.le_refl _
  | succ j ih =>
    intro hj
    have a := ih (fun k hk => hj k (by omega))
    have b := (h _ a (hj j (by omega))).1
    show q ≤ pE (chi pE q j)
    omega
theorem fp_loop {q many rr rx : Nat} (hpw : ∀ k, q ≤ k → k < chi pE q many → PW w pM pE PN SN rx k) (hch : CHN w pE q many (chi pE q many)) (heP : chi pE q many ≤ PN) (hPN : PN ≤ 2900) (hF : FVH Fv) (hat : ATM w) (hP : ∀ t, P t → PA w t) (hS : STR w SN) (hfr : FRA w p fr rr rx) (hcap : ∀ k, q ≤ k → k ≤ chi pE q many → rr + rx + pM k ≤ 2450) (ho : many ≤ opM) (hm : many ≤ 6) (hN : 6000 ≤ N) : ∀ (fu j : Nat) (v : MS) (x : Int32), FQ p w v → MEI Fv P PR v p n ow kd opM (rr + rx + pM (chi pE q j)) bxM → j ≤ many → (j < many → x = I (chi pE q j)) → many - j < fu →
    OK (fun w2 r2 => FQ p w w2 ∧ ((r2 = I 1 ∧ MEI Fv P PR w2 p n ow kd opM (rr + rx + pM (chi pE q many)) bxM) ∨ (r2 = I 0 ∧ ∃ b2, MEI Fv P PR w2 p n ow kd opM b2 bxM ∧ rr + rx + pM q ≤ b2))) (gg_M_fitsPart N fu v x (I ((many : Int) - 1 - j))) := by
  intro fu
  induction fu with
  | zero => intro j v x _ _ _ _ z; exact absurd z (Nat.not_lt_zero _)
  | succ fu ih =>
    intro j v x fv iv hj hx hf
    show OK _ (fb_M_fitsPart_85 N (gg_M_fitsPart N fu) v x (I ((many : Int) - 1 - j)))
    unfold fb_M_fitsPart_85
    rw [lit0q, decL (by omega) (by omega) (by omega) (by omega)]
    refine ok_br.mpr ⟨fun z => ?_, fun z => ?_⟩
    · have ej : j = many := by have := of_decide_eq_true z; omega
      subst ej
      exact ok_ck.mpr ⟨rfl, ok_some.mpr ⟨fv, Or.inl ⟨rfl, iv⟩⟩⟩
    · have ej : j < many := by have := of_decide_eq_false z; omega
      obtain ⟨t1, t2⟩ := top_ok (N := N) (k := many - 1 - j) iv (by omega)
      rw [show ((many : Int) - 1 - j) = ((many - 1 - j : Nat) : Int) from by omega, t1, bnd_so, hx ej]
      have ge := chi_ge hpw j (fun k hk => hch.2.1 k (by omega))
      have lt1 := hch.2.1 j ej
      have le1 : chi pE q (j + 1) ≤ chi pE q many := by
        by_cases e : j + 1 < many
        · have := hch.2.1 (j + 1) e; omega
        · have : j + 1 = many := by omega
          rw [this]; exact Nat.le_refl _
      have ff := fits_ok (N := N) (q := chi pE q j) (e := chi pE q (j + 1)) (pM := pM) (pE := pE) (PN := PN) (SN := SN) (fr := fr) (rn := rr) (rh := rx) iv hPN (by omega) rfl (hpw _ ge lt1).1 (fun k h1 h2 => PW_fr (hpw k (by omega) (by omega)) fv.1 (by decide)) hF (ATM_fr hat fv.1 (by decide) (by decide)) (PA_fr hP fv.1 (by decide)) ⟨hS.1, fun s hs => by rw [FR.A fv.1 (by decide), FR.A fv.1 (by decide)]; exact hS.2 s hs⟩ ⟨by rw [FR.A fv.1 (by decide)]; exact hfr.1, hfr.2.1, hfr.2.2.1, by rw [FR.A fv.1 (by decide)]; exact hfr.2.2.2.1, by rw [FR.A fv.1 (by decide)]; exact hfr.2.2.2.2⟩ (fun k h1 h2 => hcap k (by omega) (by omega)) rfl t2 hN
      refine ok_bnd.mpr (ok_mono ff (fun u r h => ?_))
      obtain ⟨h1, h2⟩ := h
      have fu2 : FQ p w u := ⟨FR.tr fv.1 h1.1, fun z hz => by rw [h1.2 z hz]; exact fv.2 z hz⟩
      refine ok_br.mpr ⟨fun z0 => ?_, fun z0 => ?_⟩
      · rcases h2 with ⟨h2, h3⟩ | ⟨h2, b2, h3, c2, h4, h5, h6⟩
        · exfalso
          rw [h2] at z0
          exact absurd (of_decide_eq_true z0) (by decide)
        · refine ok_ck.mpr ⟨rfl, ok_some.mpr ⟨fu2, Or.inr ⟨rfl, b2, h3, ?_⟩⟩⟩
          have := pM_mono hpw (c2 - q) (by omega)
          rw [show q + (c2 - q) = c2 from by omega] at this
          omega
      · rcases h2 with ⟨h2, h3⟩ | ⟨h2, -⟩
        · have rP : chi pE q j < 2900 := by omega
          refine ok_ck.mpr ⟨inb_at (k := 37) (n := 5000) rfl (by omega) (by omega) (by decide), ?_⟩
          rw [I_tn (by omega) (by omega), Int.toNat_natCast, litm1q, I_add, show ((many - 1 - j : Nat) : Int) + -1 = (many : Int) - 1 - ((j + 1 : Nat) : Int) from by omega]
          refine ih (j + 1) u _ fu2 h3 (by omega) (fun e => ?_) (by omega)
          rw [I_A' (show A u 37 (chi pE q j) = ((chi pE q (j + 1) : Nat) : Int) by rw [FR.A fu2.1 (by decide)]; exact hch.2.2 j e)]
        · exfalso
          rw [h2] at z0
          exact absurd rfl (of_decide_eq_false z0)
theorem fitsPart_ok {s many hg hb m r : Nat} (i : MEI Fv P PR w p n ow kd (ro (fr - 1) + hg) (rn (fr - 1) + rh (fr - 1) + m) bxM) (hg' : PRG w T C pM pE ND CN PN SN UN FN) (hF : FVH Fv) (hat : ATM w) (hP : ∀ t, P t → PA w t) (h : FRS w T ND p fr ro rn rh cb pc ct k tp) (ht : TRS w T C ND CN p (ro (fr - 1)) (rn (fr - 1)) (rh (fr - 1)) k tp s many hg hb m r bxM) {c : Nat} (hc : F w 154 = c) (hN : 6000 ≤ N) :
    OK (fun w2 r2 => FQ p w w2 ∧ ((r2 = I 1 ∧ MEI Fv P PR w2 p n ow kd (ro (fr - 1) + hg) (rn (fr - 1) + rh (fr - 1) + cN C c) bxM) ∨ (r2 = I 0 ∧ ∃ b2, MEI Fv P PR w2 p n ow kd (ro (fr - 1) + hg) b2 bxM ∧ rn (fr - 1) + rh (fr - 1) + m ≤ b2))) (fm_M_fitsPart N w) := by
  have x4 := MEI_p i
  obtain ⟨⟨s1, s2, s3, s4, s42, s5, s6, s7, s8, s9⟩, u1, u2, u3, u4⟩ := ht
  have u2' : CLS C w CN many hg hb m (rh (fr - 1)) k tp r (F w 154) := by
    rcases u2 with u2 | u2
    · omega
    · exact u2
  obtain ⟨c', c1, c2, c3, c4, c5, c6, c7, c8, c9, c10⟩ := u2'
  have ec : c' = c := by omega
  subst ec
  obtain ⟨⟨many', d1, d2, d3⟩, ⟨d4, d5, d6⟩, -⟩ := hg'.2.2.2.1 c' c2
  have em : many' = many := by omega
  subst em
  have hS := hg'.2.1
  have hPN := hg'.1.2.2.1
  have hfr : FRA w p fr (rn (fr - 1)) (rh (fr - 1)) := by
    have q := h.2.2.1 (fr - 1) (by have := h.1; omega)
    exact ⟨h.1.2.2, h.1.1, h.1.2.1, q.2.1, q.2.2.1⟩
  have hrn := (h.2.2.1 (fr - 1) (by have := h.1; omega)).2.2.2.2.2.1
  have hfr60 := h.1
  rw [c7, c6] at d3
  have cn := hg'.1.2.1
  unfold fm_M_fitsPart fb_M_fitsPart_0 fb_M_fitsPart_70
  have e154 : w.1 154 = I c' := I_F' hc
  rw [I_F' s1, e154, show (2 : Int32) = I 2 from rfl, show (3 : Int32) = I 3 from rfl, lit1q, decE (by omega) (by omega) (by omega) (by omega), decE (by omega) (by omega) (by omega) (by omega), decE (by omega) (by omega) (by omega) (by omega)]
  have loop : many' ≤ ro (fr - 1) + hg → OK (fun w2 r2 => FQ p w w2 ∧ ((r2 = I 1 ∧ MEI Fv P PR w2 p n ow kd (ro (fr - 1) + hg) (rn (fr - 1) + rh (fr - 1) + cN C c') bxM) ∨ (r2 = I 0 ∧ ∃ b2, MEI Fv P PR w2 p n ow kd (ro (fr - 1) + hg) b2 bxM ∧ rn (fr - 1) + rh (fr - 1) + m ≤ b2))) (gg_M_fitsPart N N w (I (A w 40 c')) (I ((many' : Int) - 1))) := fun ho => by
    rcases d3 with ⟨d3, d3'⟩ | ⟨-, q, pM, pE, q1, q2, q3, q4, q5, q6, q7, q8⟩
    · obtain ⟨N', hN'⟩ : ∃ N', N = N' + 1 := ⟨N - 1, by omega⟩
      have e : gg_M_fitsPart N N = fb_M_fitsPart_85 N (gg_M_fitsPart N N') := by conv => lhs; rw [hN']; unfold gg_M_fitsPart
                                                                                 rw [← hN']
      rw [e]
      unfold fb_M_fitsPart_85
      rw [lit0q, decL (by omega) (by omega) (by omega) (by omega), decide_eq_true (by omega), br_tq]
      exact ok_ck.mpr ⟨rfl, ok_some.mpr ⟨⟨FR.rf, fun _ _ => rfl⟩, Or.inl ⟨rfl, by rw [d3']; exact i⟩⟩⟩
    · have := fp_loop (N := N) q8 q2 q4 hPN hF hat hP hS hfr (fun k h1 h2 => by have := q7 k h1 h2; omega) ho s5 hN N 0 w (I (A w 40 c')) ⟨FR.rf, fun _ _ => rfl⟩ (by rw [show chi pE q 0 = q from rfl, q5]; exact i) (by omega) (fun _ => by rw [q1]; rfl) (by omega)
      rw [q6, q5, show (many' : Int) - 1 - ((0 : Nat) : Int) = (many' : Int) - 1 from by omega] at this
      exact this
  refine ok_br.mpr ⟨fun z2 => ?_, fun z2 => ok_br.mpr ⟨fun z3 => ?_, fun z3 => ok_br.mpr ⟨fun z1 => ?_, fun z1 => ?_⟩⟩⟩
  · have es : s = 2 := by have := of_decide_eq_true z2; omega
    have e0 := s42 es
    refine ok_ck.mpr ⟨rfl, ok_some.mpr ⟨⟨FR.rf, fun _ _ => rfl⟩, Or.inl ⟨rfl, ?_⟩⟩⟩
    rcases d3 with ⟨-, d3⟩ | ⟨d3, -⟩
    · rw [d3]; exact i
    · omega
  · have es : s = 3 := by have := of_decide_eq_true z3; omega
    have e1 := s4 (Or.inr es)
    obtain ⟨-, v1, v2, -⟩ := u3 es
    obtain ⟨k8, hk8⟩ : ∃ k8 : Nat, F w 158 = k8 := ⟨(F w 158).toNat, by omega⟩
    have x10 := i.2.2.2.2.2.2.2.2.2.2.2.2.2.2.1
    have bx30 := i.2.2.2.2.2.2.2.2.2.2.2.1.2
    rcases d3 with ⟨d3, -⟩ | ⟨-, q, pM, pE, q1, q2, q3, q4, q5, q6, q7, q8⟩
    · omega
    rw [e1] at q2 q3 q4 q6 q7 q8
    have ch1 : chi pE q 1 = pE q := rfl
    rw [ch1] at q2 q3 q4 q6 q7 q8
    refine ok_ck.mpr ⟨inb_at (k := 40) (n := 1400) rfl (by omega) (by omega) (by decide), ?_⟩
    rw [I_F' i.2.2.1, I_F' hk8, show (30 : Int32) = I 30 from rfl, I_mul, I_add]
    refine ok_ck.mpr ⟨inb_at (k := 107) (n := 720) rfl (by omega) (by omega) (by decide), ?_⟩
    rw [I_tn (x := (c' : Int)) (by omega) (by omega), Int.toNat_natCast, I_A' q1, I_tn (by omega) (by omega), show ((p : Int) * 30 + (k8 : Int)).toNat = 30 * p + k8 from by omega]
    refine ok_bnd.mpr (ok_mono (fits_ok (N := N) (q := q) (e := pE q) (pM := pM) (pE := pE) (PN := PN) (SN := SN) i hPN q4 rfl q3 q8 hF hat hP hS hfr (fun k h1 h2 => by have := q7 k h1 h2; omega) (by rw [q5]) (x10 k8 (by omega)) hN) (fun u r h => ?_))
    obtain ⟨h1, h2⟩ := h
    rcases h2 with ⟨h2, h3⟩ | ⟨h2, b2, h3, c2', h4, h5, h6⟩
    · subst h2
      exact ok_ck.mpr ⟨rfl, ok_some.mpr ⟨h1, Or.inl ⟨rfl, by rw [← q6]; exact h3⟩⟩⟩
    · subst h2
      refine ok_ck.mpr ⟨rfl, ok_some.mpr ⟨h1, Or.inr ⟨rfl, b2, h3, ?_⟩⟩⟩
      have := pM_mono q8 (c2' - q) (by omega)
      rw [show q + (c2' - q) = c2' from by omega] at this
      omega
  · have es : s = 1 := by have := of_decide_eq_true z1; omega
    have e1 := s4 (Or.inl es)
    refine ok_ck.mpr ⟨inb_at (k := 40) (n := 1400) rfl (by omega) (by omega) (by decide), ok_lt.mpr ?_⟩
    rw [I_tn (by omega) (by omega), Int.toNat_natCast, I_A (k := 40), I_sub]
    have := loop (by rw [es, if_neg (by omega), if_pos rfl] at s3; omega)
    rw [e1] at this
    exact this
  · have es : s = 0 := by have := of_decide_eq_false z1; have := of_decide_eq_false z2; have := of_decide_eq_false z3; omega
    refine ok_ck.mpr ⟨inb_at (k := 41) (n := 1400) rfl (by omega) (by omega) (by decide), ok_ck.mpr ⟨inb_at (k := 40) (n := 1400) rfl (by omega) (by omega) (by decide), ok_lt.mpr ?_⟩⟩
    rw [I_tn (by omega) (by omega), Int.toNat_natCast, I_A (k := 40), I_A' d1, I_sub]
    exact loop (by rw [es, if_pos rfl] at s3; omega)
end
