set_option maxRecDepth 100000
def PatS (N : Nat) (S : SF_Cm_listPattern) (f : Nat) : Prop := ∀ (u : MS) (lv c : Nat) (ps : Nat → Nat) (n lo hi a b q r : Nat), CVI u lv → CSX u c ps → PAc u f n lo hi a b q r → b ≤ 8000 → hi ≤ c → F u 706 + ((hi - lo : Nat) : Int) ≤ 4000 → OK (fun w _ => PQc u w lv (12 * ((hi - lo : Nat) : Int) + ((ps hi - ps lo : Nat) : Int)) (hi - lo)) (S.2 u (I ((n : Nat) : Int)))
def LisS (N : Nat) (S : SF_Cm_listPattern) (f : Nat) : Prop := ∀ (u : MS) (lv c : Nat) (ps : Nat → Nat) (n lo hi a b q r : Nat), CVI u lv → CSX u c ps → a < n ∧ n ≤ b → TLc u (PAc u f) n lo hi a q r → b ≤ 8000 → hi ≤ c → F u 706 + ((hi - lo : Nat) : Int) ≤ 4000 → OK (fun w _ => PQc u w lv (12 * ((hi - lo : Nat) : Int) + ((ps hi - ps lo : Nat) : Int)) (hi - lo)) (S.1 u (I ((n : Nat) : Int)))
section
variable {u v w : MS} {N lv t t2 L i j k b b2 e f n c a q r lo hi m d : Nat} {l l2 : List Int} {x y B B2 : Int} {ps : Nat → Nat} {S : SF_Cm_listPattern}
theorem KN_m (h : KMF u w) : KNc u w a b n := ⟨⟨h.2.2.1 6 (by simp), h.2.2.1 7 (by simp)⟩, fun k _ _ => ⟨⟨h.A (by simp), h.A (by simp), h.A (by simp), h.A (by simp), h.A (by simp)⟩, fun _ => h.A (by simp)⟩⟩
theorem PQ_top (h : PQc u w lv B t) : F w 706 ≤ F u 706 + ((t : Nat) : Int) := by
  obtain ⟨-, -, -, -, k, h1, h2, -⟩ := h
  omega
theorem prow_ok (hS : PatS N S f) : ∀ (k M : Nat) (n lo hi a b q r : Nat) (v : MS), CVI v lv → CSX v c ps → RWc v 1 (PAc v f) k n lo hi a b q r → b ≤ 8000 → hi ≤ c → F v 706 + ((hi - lo : Nat) : Int) ≤ 4000 → k + 1 ≤ M → OK (fun w _ => PQc v w lv (12 * ((hi - lo : Nat) : Int) + ((ps hi - ps lo : Nat) : Int)) (hi - lo)) (hg_Cm_pattern N S M v (I ((n : Nat) : Int)))
  | 0, _, _, _, _, _, _, _, _, _, _, _, h, _, _, _, _ => h.elim
  | k + 1, M, n, lo, hi, a, b, q, r, v, hv, hc, h, hb, hh, ht, hM => by
    obtain ⟨M, rfl⟩ : ∃ M2, M = M2 + 1 + 1 := ⟨M - 2, by omega⟩
    show OK _ (hb_Cm_pattern_268 N S (hg_Cm_pattern N S (M + 1)) v (I ((n : Nat) : Int)))
    obtain ⟨m, c2, s, e, h⟩ := h
    have he := PA_bd f _ _ _ _ _ _ _ e
    have hn := he.1
    have hlm := he.2.1
    have hms : m ≤ hi ∧ c2 ≤ b ∧ (m < hi → m + 1 < hi) := by
      rcases h with ⟨-, -, h1, h2, -⟩ | ⟨-, n2, -, h3⟩
      · omega
      · have := (RW_hd (PA_bd f) h3).1; unfold HDc at this; omega
    unfold hb_Cm_pattern_268 hb_Cm_pattern_298
    refine k_c (y := 0) rfl ⟨by omega, by omega⟩ ⟨by decide, by decide⟩ (fun z => absurd z (by omega)) (fun _ => ?_)
    rw [ok_bnd]
    refine ok_mono (hS v lv c ps n lo m a c2 q s hv hc e (by clear h; omega) (by clear h; omega) (by clear h; omega)) (fun v1 _ p1 => e_in ⟨by omega, by omega⟩ (by decide) ?_)
    rw [tnI (n := n) rfl (by omega), I_A (k := 21), p1.2.1.1.A (j := 21) (by simp)]
    have m1 := ps_le hc (a := lo) (b := m) (by omega) (by omega)
    have m2 := ps_le hc (a := m) (b := hi) (by omega) (by omega)
    rcases h with ⟨-, h0, rfl, -, -⟩ | ⟨-, n2, h2, h3⟩
    · rw [h0]
      show OK _ (hb_Cm_pattern_268 N S (hg_Cm_pattern N S M) v1 (I 0))
      unfold hb_Cm_pattern_268 hb_Cm_pattern_298
      refine k_c (y := 0) rfl ⟨by decide, by decide⟩ ⟨by decide, by decide⟩ (fun _ => ok_some.mpr p1) (fun z => absurd rfl z)
    · rw [h2]
      have g1 := (RW_hd (PA_bd f) h3).1.2.1
      have tp := PQ_top p1
      have m3 := ps_le hc (a := m) (b := m + 1) (by omega) (by omega)
      have m4 := ps_le hc (a := m + 1) (b := hi) (by omega) (by omega)
      refine ok_mono (prow_ok hS k (M + 1) n2 (m + 1) hi c2 b s r v1 p1.2.1.2.1 (CSX_k hc p1.2.1.1) (RW_k (PA_k (Nat.le_refl _)) (PA_bd f) h3 (KN_m p1.2.1.1)) hb hh (by omega) (by omega)) (fun w _ p2 => ?_)
      exact PQ_w (PQ_tr hv.1.1 p1 p2) (by omega) (by omega)
theorem lrow_ok {Q : MS → Unit → Prop} {x : Int32} (hS : PatS N S f) : ∀ (k M : Nat) (n lo hi a b q r : Nat) (v : MS), CVI v lv → CSX v c ps → RWc v 1 (PAc v f) k n lo hi a b q r → b ≤ 8000 → hi ≤ c → F v 706 + ((hi - lo : Nat) : Int) ≤ 4000 → k + 1 ≤ M → (∀ M2 w, PQc v w lv (12 * ((hi - lo : Nat) : Int) + ((ps hi - ps lo : Nat) : Int) + 1) (hi - lo) → OK Q (hb_Cm_listPattern_10 N S (hg_Cm_listPattern N S M2) w x 0)) → OK Q (hg_Cm_listPattern N S M v x (I ((n : Nat) : Int)))
  | 0, _, _, _, _, _, _, _, _, _, _, _, h, _, _, _, _, _ => h.elim
  | k + 1, M, n, lo, hi, a, b, q, r, v, hv, hc, h, hb, hh, ht, hM, kk => by
    obtain ⟨M, rfl⟩ : ∃ M2, M = M2 + 1 + 1 := ⟨M - 2, by omega⟩
    show OK _ (hb_Cm_listPattern_10 N S (hg_Cm_listPattern N S (M + 1)) v x (I ((n : Nat) : Int)))
    obtain ⟨m, c2, s, e, h⟩ := h
    have he := PA_bd f _ _ _ _ _ _ _ e
    have hn := he.1
    have hlm := he.2.1
    have hms : m ≤ hi ∧ c2 ≤ b ∧ (m < hi → m + 1 < hi) := by
      rcases h with ⟨-, -, h1, h2, -⟩ | ⟨-, n2, -, h3⟩
      · omega
      · have := (RW_hd (PA_bd f) h3).1; unfold HDc at this; omega
    unfold hb_Cm_listPattern_10
    refine k_c (y := 0) rfl ⟨by omega, by omega⟩ ⟨by decide, by decide⟩ (fun z => absurd z (by omega)) (fun _ => ?_)
    rw [show (7 : Int32) = I 7 from rfl]
    refine put_1 hv.1 ⟨by decide, by decide⟩ (fun v0 e0 => ?_)
    have p0 := PQ_em hv e0 (fun z z2 => PTS_7 (z2 0 (by simp)))
    have k0 := p0.2.1
    have tp0 := PQ_top p0
    have e' := PA_k (u := v) (w := v0) (Nat.le_refl f) _ _ _ _ _ _ _ e (KN_m k0.1)
    rw [ok_bnd]
    refine ok_mono (hS v0 lv c ps n lo m a c2 q s k0.2.1 (CSX_k hc k0.1) e' (by clear h; omega) (by clear h; omega) (by clear h; omega)) (fun v1 _ p1 => e_in ⟨by omega, by omega⟩ (by decide) ?_)
    have km := k0.1.tr p1.2.1.1
    rw [tnI (n := n) rfl (by omega), I_A (k := 21), km.A (j := 21) (by simp)]
    have m1 := ps_le hc (a := lo) (b := m) (by omega) (by omega)
    have m2 := ps_le hc (a := m) (b := hi) (by omega) (by omega)
    have p2 := PQ_w (B2 := 12 * ((m - lo : Nat) : Int) + ((ps m - ps lo : Nat) : Int) + 1) (t2 := m - lo) (PQ_tr hv.1.1 p0 p1) (by simp; omega) (by omega)
    rcases h with ⟨-, h0, rfl, -, -⟩ | ⟨-, n2, h2, h3⟩
    · rw [h0]
      exact kk M v1 p2
    · rw [h2]
      have g1 := (RW_hd (PA_bd f) h3).1.2.1
      have tp := PQ_top p2
      have m3 := ps_le hc (a := m) (b := m + 1) (by omega) (by omega)
      have m4 := ps_le hc (a := m + 1) (b := hi) (by omega) (by omega)
      refine lrow_ok hS k (M + 1) n2 (m + 1) hi c2 b s r v1 p2.2.1.2.1 (CSX_k hc p2.2.1.1) (RW_k (PA_k (Nat.le_refl _)) (PA_bd f) h3 (KN_m p2.2.1.1)) hb hh (by omega) (by omega) (fun M2 w p3 => kk M2 w ?_)
      exact PQ_w (PQ_tr hv.1.1 p2 p3) (by omega) (by omega)
theorem PQ_rf (h : CVI u lv) : PQc u u lv 0 0 := ⟨FR.rf, KMc.rf h, fun _ _ => rfl, by omega, 0, by simp, Nat.le_refl _, fun _ => PTS_n⟩
theorem listPat_ok (hS : PatS N S f) (hN : 10000 ≤ N) {S2 : SF_Cm_listPattern} (h2 : S2.1 = hm_Cm_listPattern N S) : LisS N S2 f := by
  intro u lv c ps n lo hi a b q r hv hc hn hT hb hh ht
  rw [h2]
  obtain ⟨k, m, mid, c1, s, h18, h19, hk8, hor, hend⟩ := hT
  have oh := OR_hd (PA_bd f) hor
  have cn : c1 < n ∧ mid + 1 ≤ hi := by
    rcases hend with ⟨-, h1, -, h2⟩ | ⟨-, x, c2, -, h3, h4⟩
    · omega
    · have := PA_bd f _ _ _ _ _ _ _ h3; unfold HDc at this; omega
  unfold hm_Cm_listPattern hb_Cm_listPattern_0
  refine e_in ⟨by omega, by omega⟩ (by decide) ?_
  rw [tnI (n := n) rfl (by omega), I_A (k := 18), h18]
  have m1 := ps_le hc (a := lo) (b := lo + 1) (by omega) (by omega)
  have m2 := ps_le hc (a := lo + 1) (b := mid) (by omega) (by omega)
  have m3 := ps_le hc (a := mid) (b := hi) (by omega) (by omega)
  have fin : ∀ M2 w, PQc u w lv (12 * ((mid - (lo + 1) : Nat) : Int) + ((ps mid - ps (lo + 1) : Nat) : Int) + 1) (mid - (lo + 1)) → OK (fun w _ => PQc u w lv (12 * ((hi - lo : Nat) : Int) + ((ps hi - ps lo : Nat) : Int)) (hi - lo)) (hb_Cm_listPattern_10 N S (hg_Cm_listPattern N S M2) w (I ((n : Nat) : Int)) 0) := fun M2 w p1 => by
    unfold hb_Cm_listPattern_10 hb_Cm_listPattern_84
    rw [show decide ((0 : Int32) = 0) = true from rfl, br_tq]
    refine e_in ⟨by omega, by omega⟩ (by decide) ?_
    rw [tnI (n := n) rfl (by omega), I_A (k := 20), p1.2.1.1.A (j := 20) (by simp)]
    have kw := p1.2.1
    have tp := PQ_top p1
    rcases hend with ⟨h0, h1, -, -⟩ | ⟨hk1, x, c2, hx, ex, hxn⟩
    · rw [h0]
      refine k_c (y := 0) rfl ⟨by decide, by decide⟩ ⟨by decide, by decide⟩ (fun _ => ?_) (fun z => absurd rfl z)
      rw [show (1 : Int32) = I 1 from rfl, show (6 : Int32) = I 6 from rfl, show (0 : Int32) = I 0 from rfl]
      refine put_1 kw.2.1.1 ⟨by decide, by decide⟩ (fun w1 e1 => term_B kw.2.1.1.1 e1 ⟨by decide, by decide⟩ ⟨by decide, by decide⟩ (fun w2 e2 => ok_some.mpr ?_))
      have p2 := PQ_em kw.2.1 e2 (fun z z2 => PTS_1 (z2 0 (by simp)))
      exact PQ_w (PQ_tr hv.1.1 p1 p2) (by simp; omega) (by omega)
    · rw [hx]
      have hd := PA_bd f _ _ _ _ _ _ _ ex
      unfold HDc at hd
      refine k_c (y := 0) rfl ⟨by omega, by omega⟩ ⟨by decide, by decide⟩ (fun z => absurd z (by omega)) (fun _ => e_in ⟨by omega, by omega⟩ (by decide) ?_)
      have m4 := ps_le hc (a := mid) (b := mid + 1) (by omega) (by omega)
      have m5 := ps_le hc (a := mid + 1) (b := hi - 1) (by omega) (by omega)
      have m6 := ps_le hc (a := hi - 1) (b := hi) (by omega) (by omega)
      rw [ok_bnd]
      refine ok_mono (hS w lv c ps x (mid + 1) (hi - 1) c1 c2 s r kw.2.1 (CSX_k hc kw.1) (PA_k (Nat.le_refl f) _ _ _ _ _ _ _ ex (KN_m kw.1)) (by omega) (by omega) (by omega)) (fun w2 _ p2 => ok_some.mpr ?_)
      exact PQ_w (PQ_tr hv.1.1 p1 p2) (by omega) (by omega)
  rcases hor with ⟨rfl, rfl, h3, -, -⟩ | ⟨hk1, hrw⟩
  · obtain ⟨M, rfl⟩ : ∃ M, N = M + 1 := ⟨N - 1, by omega⟩
    show OK _ (hb_Cm_listPattern_10 (M + 1) S (hg_Cm_listPattern (M + 1) S M) u (I ((n : Nat) : Int)) 0)
    exact fin M u (PQ_w (PQ_rf hv) (by omega) (by omega))
  · exact lrow_ok hS k N m (lo + 1) mid a c1 q s u hv hc hrw (by omega) (by omega) (by omega) (by omega) fin
theorem patC_ok (hS : PatS N S f) (hL : LisS N S f) (hN : 10000 ≤ N) {S2 : SF_Cm_listPattern} (h2 : S2.2 = hm_Cm_pattern N S) : PatS N S2 (f + 1) := by
  intro u lv c ps n lo hi a b q r hv hc hP hb hh ht
  rw [h2]
  obtain ⟨hd, htk, hqr, hP⟩ := hP
  have hc4 := hc.2.1.2
  unfold HDc at hd
  have m1 := ps_le hc (a := lo) (b := hi) (by omega) (by omega)
  unfold hm_Cm_pattern hb_Cm_pattern_0 hb_Cm_pattern_298
  have i1 : inb (I ((n : Nat) : Int)) 8016 = true := (I_inb (by omega) (by omega)).mpr ⟨by omega, by omega⟩
  rw [i1, tnI (n := n) rfl (by omega), I_A (k := 16), ck_t]
  have tm : ∀ (y x : Int) (w : MS), (y = 0 ∨ y = 1) → RG x → EMc u w [1] → OK (fun w _ => PQc u w lv (12 * ((hi - lo : Nat) : Int) + ((ps hi - ps lo : Nat) : Int)) (hi - lo)) (bnd (hm_Cm_term N w (I y) (I x)) (fun u20 r20 => some (u20, ()))) := fun y x w hy hx e1 => term_B hv.1.1 e1 ⟨by clear hP; omega, by clear hP; omega⟩ hx (fun w2 e2 => ok_some.mpr (by
    have p2 := PQ_em hv e2 (fun z z2 => PTS_1 (z2 0 (by simp)))
    exact PQ_w p2 (by clear hP; simp; omega) (by omega)))
  have a18 : ∀ w, EMc u w [1] → ∀ k, A w 18 k = A u 18 k := fun w e1 k => by show (w.2.2.1 18 k).toInt = _; rw [e1.1.2.2.1 18 (by simp)]; rfl
  rcases hP with ⟨⟨l16, l6, l17, l18⟩, rfl⟩ | ⟨e16, m, e18, hm, ⟨l16, l6, l17, l18⟩, l1, rfl⟩ | ⟨e16, m, c1, e18, em, hcn⟩ | ⟨e16, hT⟩ | ⟨e16, hT⟩
  · rcases (by omega : A u 6 lo = 1 ∨ A u 6 lo = 2 ∨ A u 6 lo = 3 ∨ A u 6 lo = 4) with l | l | l | l
    · have e16 : A u 16 n = 1 := l16.trans l
      refine k_c (y := 1) rfl (A_r _ _ _) ⟨by decide, by decide⟩ (fun _ => ?_) (fun z => absurd e16 z)
      refine put_1 (x := 1) hv.1 ⟨by decide, by decide⟩ (fun w1 e1 => ok_ck.mpr ⟨rfl, ?_⟩)
      rw [I_A (k := 18)]
      exact tm 0 _ w1 (by omega) (A_r _ _ _) e1
    · have e16 : A u 16 n = 2 := l16.trans l
      refine k_c (y := 1) rfl (A_r _ _ _) ⟨by decide, by decide⟩ (fun z => absurd z (by omega)) (fun _ => ?_)
      refine k_c (y := 2) rfl (A_r _ _ _) ⟨by decide, by decide⟩ (fun _ => ?_) (fun z => absurd e16 z)
      refine put_1 (x := 1) hv.1 ⟨by decide, by decide⟩ (fun w1 e1 => ok_ck.mpr ⟨rfl, ?_⟩)
      rw [I_A (k := 18)]
      exact tm 1 _ w1 (by omega) (A_r _ _ _) e1
    · have e16 : A u 16 n = 3 := l16.trans l
      refine k_c (y := 1) rfl (A_r _ _ _) ⟨by decide, by decide⟩ (fun z => absurd z (by omega)) (fun _ => ?_)
      refine k_c (y := 2) rfl (A_r _ _ _) ⟨by decide, by decide⟩ (fun z => absurd z (by omega)) (fun _ => ?_)
      refine k_c (y := 3) rfl (A_r _ _ _) ⟨by decide, by decide⟩ (fun _ => ?_) (fun z => absurd e16 z)
      refine ok_ck.mpr ⟨rfl, ok_ck.mpr ⟨rfl, ?_⟩⟩
      rw [I_A (k := 18), I_A (k := 17), l17, ok_bnd]
      refine ok_mono (nameIn_ok (N := N) hv (t := lo) (by omega) (by omega) (A_r _ _ _) hN) (fun w _ p1 => ok_some.mpr (PQ_w p1 (by omega) (by omega)))
    · have e16 : A u 16 n = 4 := l16.trans l
      refine k_c (y := 1) rfl (A_r _ _ _) ⟨by decide, by decide⟩ (fun z => absurd z (by omega)) (fun _ => ?_)
      refine k_c (y := 2) rfl (A_r _ _ _) ⟨by decide, by decide⟩ (fun z => absurd z (by omega)) (fun _ => ?_)
      refine k_c (y := 3) rfl (A_r _ _ _) ⟨by decide, by decide⟩ (fun z => absurd z (by omega)) (fun _ => ?_)
      refine k_c (y := 4) rfl (A_r _ _ _) ⟨by decide, by decide⟩ (fun _ => ?_) (fun z => absurd e16 z)
      refine put_1 (x := 2) hv.1 ⟨by decide, by decide⟩ (fun w1 e1 => ?_)
      have k1 := EMc.km hv e1
      refine string_B (t := lo) (n := n) (N := N) hv.1.1 e1 (CSX_k hc k1.1) (by omega) (by omega) (by rw [k1.1.A (j := 6) (by simp)]; exact l) (by rw [k1.1.A (j := 18) (by simp), k1.1.A (j := 7) (by simp)]; exact l18) (by omega) (fun w2 l2 e2 h40 hps => ok_some.mpr ?_)
      have p2 := PQ_em hv e2 (fun z z2 => ?_)
      · exact PQ_w p2 (by simp; omega) (by omega)
      · have := PTS_2 (n := l2.length) (z2 0 (by simp)) (z2 1 (by simp)) h40
        rw [List.length_append, List.length_cons]
        show PTSc w2 _ ((F u 441).toNat + (1 + (l2.length + 1))) 0
        rw [show (F u 441).toNat + (1 + (l2.length + 1)) = (F u 441).toNat + 0 + 2 + l2.length by omega]
        exact this
  · refine k_c (y := 1) rfl (A_r _ _ _) ⟨by decide, by decide⟩ (fun z => absurd z (by omega)) (fun _ => ?_)
    refine k_c (y := 2) rfl (A_r _ _ _) ⟨by decide, by decide⟩ (fun z => absurd z (by omega)) (fun _ => ?_)
    refine k_c (y := 3) rfl (A_r _ _ _) ⟨by decide, by decide⟩ (fun z => absurd z (by omega)) (fun _ => ?_)
    refine k_c (y := 4) rfl (A_r _ _ _) ⟨by decide, by decide⟩ (fun z => absurd z (by omega)) (fun _ => ?_)
    refine k_c (y := 5) rfl (A_r _ _ _) ⟨by decide, by decide⟩ (fun z => absurd z (by omega)) (fun _ => ?_)
    refine k_c (y := 6) rfl (A_r _ _ _) ⟨by decide, by decide⟩ (fun z => absurd z (by omega)) (fun _ => ?_)
    refine k_c (y := 7) rfl (A_r _ _ _) ⟨by decide, by decide⟩ (fun z => absurd z (by omega)) (fun _ => ?_)
    refine k_c (y := 8) rfl (A_r _ _ _) ⟨by decide, by decide⟩ (fun z => absurd z (by omega)) (fun _ => ?_)
    refine k_c (y := 9) rfl (A_r _ _ _) ⟨by decide, by decide⟩ (fun z => absurd z (by omega)) (fun _ => ?_)
    refine k_c (y := 10) rfl (A_r _ _ _) ⟨by decide, by decide⟩ (fun z => absurd z (by omega)) (fun _ => ?_)
    refine k_c (y := 11) rfl (A_r _ _ _) ⟨by decide, by decide⟩ (fun z => absurd z (by omega)) (fun _ => ?_)
    refine k_c (y := 12) rfl (A_r _ _ _) ⟨by decide, by decide⟩ (fun z => absurd z (by omega)) (fun _ => ?_)
    refine k_c (y := 13) rfl (A_r _ _ _) ⟨by decide, by decide⟩ (fun z => absurd z (by omega)) (fun _ => ?_)
    refine k_c (y := 14) rfl (A_r _ _ _) ⟨by decide, by decide⟩ (fun z => absurd z (by omega)) (fun _ => ?_)
    refine k_c (y := 15) rfl (A_r _ _ _) ⟨by decide, by decide⟩ (fun z => absurd z (by omega)) (fun _ => ?_)
    refine k_c (y := 16) rfl (A_r _ _ _) ⟨by decide, by decide⟩ (fun z => absurd z (by omega)) (fun _ => ?_)
    refine k_c (y := 17) rfl (A_r _ _ _) ⟨by decide, by decide⟩ (fun _ => ?_) (fun z => absurd e16 z)
    refine put_1 (x := 1) hv.1 ⟨by decide, by decide⟩ (fun w1 e1 => ok_ck.mpr ⟨rfl, ?_⟩)
    rw [I_A (k := 18), a18 w1 e1, e18]
    refine e_in ⟨by omega, by omega⟩ (by decide) ?_
    rw [tnI (n := m) rfl (by omega), I_of (-(w1.2.2.1 18 m))]
    exact tm 0 _ w1 (by omega) (ti_rng _) e1
  · refine k_c (y := 1) rfl (A_r _ _ _) ⟨by decide, by decide⟩ (fun z => absurd z (by omega)) (fun _ => ?_)
    refine k_c (y := 2) rfl (A_r _ _ _) ⟨by decide, by decide⟩ (fun z => absurd z (by omega)) (fun _ => ?_)
    refine k_c (y := 3) rfl (A_r _ _ _) ⟨by decide, by decide⟩ (fun z => absurd z (by omega)) (fun _ => ?_)
    refine k_c (y := 4) rfl (A_r _ _ _) ⟨by decide, by decide⟩ (fun z => absurd z (by omega)) (fun _ => ?_)
    refine k_c (y := 5) rfl (A_r _ _ _) ⟨by decide, by decide⟩ (fun _ => ?_) (fun z => absurd e16 z)
    refine ok_ck.mpr ⟨rfl, ?_⟩
    rw [I_A (k := 18), e18, ok_bnd]
    have hd2 := PA_bd f _ _ _ _ _ _ _ em
    unfold HDc at hd2
    have m2 := ps_le hc (a := lo) (b := lo + 1) (by omega) (by omega)
    have m3 := ps_le hc (a := lo + 1) (b := hi - 1) (by omega) (by omega)
    have m4 := ps_le hc (a := hi - 1) (b := hi) (by omega) (by omega)
    exact ok_mono (hS u lv c ps m (lo + 1) (hi - 1) a c1 q r hv hc em (by omega) (by omega) (by omega)) (fun w _ p1 => ok_some.mpr (PQ_w p1 (by omega) (by omega)))
  · refine k_c (y := 1) rfl (A_r _ _ _) ⟨by decide, by decide⟩ (fun z => absurd z (by omega)) (fun _ => ?_)
    refine k_c (y := 2) rfl (A_r _ _ _) ⟨by decide, by decide⟩ (fun z => absurd z (by omega)) (fun _ => ?_)
    refine k_c (y := 3) rfl (A_r _ _ _) ⟨by decide, by decide⟩ (fun z => absurd z (by omega)) (fun _ => ?_)
    refine k_c (y := 4) rfl (A_r _ _ _) ⟨by decide, by decide⟩ (fun z => absurd z (by omega)) (fun _ => ?_)
    refine k_c (y := 5) rfl (A_r _ _ _) ⟨by decide, by decide⟩ (fun z => absurd z (by omega)) (fun _ => ?_)
    refine k_c (y := 6) rfl (A_r _ _ _) ⟨by decide, by decide⟩ (fun _ => ?_) (fun z => absurd e16 z)
    obtain ⟨k, m, c1, h18, h19, hk8, hor, hcn⟩ := hT
    have oh := OR_hd (PA_bd f) hor
    refine put_1 (x := 6) hv.1 ⟨by decide, by decide⟩ (fun w1 e1 => ok_ck.mpr ⟨rfl, ?_⟩)
    have k1 := EMc.km hv e1
    rw [I_A (k := 19), k1.1.A (j := 19) (by simp), h19]
    refine put_B hv.1.1 e1 ⟨by omega, by omega⟩ (fun w2 e2 => ok_ck.mpr ⟨rfl, ?_⟩)
    have p2 := PQ_em hv e2 (fun z z2 => PTS_6 (n := k) (z2 0 (by simp)) (z2 1 (by simp)) hk8)
    have k2 := p2.2.1
    have tp := PQ_top p2
    rw [I_A (k := 18), k2.1.A (j := 18) (by simp), h18]
    rcases hor with ⟨rfl, rfl, h3, -, -⟩ | ⟨hk1, hrw⟩
    · obtain ⟨M, rfl⟩ : ∃ M, N = M + 1 := ⟨N - 1, by omega⟩
      show OK _ (hb_Cm_pattern_268 (M + 1) S (hg_Cm_pattern (M + 1) S M) w2 0)
      unfold hb_Cm_pattern_268 hb_Cm_pattern_298
      rw [show decide ((0 : Int32) = 0) = true from rfl, br_tq]
      exact ok_some.mpr (PQ_w p2 (by simp; omega) (by omega))
    · have m2 := ps_le hc (a := lo) (b := lo + 1) (by omega) (by omega)
      have m3 := ps_le hc (a := lo + 1) (b := hi - 1) (by omega) (by omega)
      have m4 := ps_le hc (a := hi - 1) (b := hi) (by omega) (by omega)
      have rh := (RW_hd (PA_bd f) hrw).1.2.1
      refine ok_mono (prow_ok hS k N m (lo + 1) (hi - 1) a c1 q r w2 k2.2.1 (CSX_k hc k2.1) (RW_k (PA_k (Nat.le_refl _)) (PA_bd f) hrw (KN_m k2.1)) (by omega) (by omega) (by omega) (by omega)) (fun w _ p3 => ?_)
      exact PQ_w (PQ_tr hv.1.1 p2 p3) (by simp; omega) (by omega)
  · refine k_c (y := 1) rfl (A_r _ _ _) ⟨by decide, by decide⟩ (fun z => absurd z (by omega)) (fun _ => ?_)
    refine k_c (y := 2) rfl (A_r _ _ _) ⟨by decide, by decide⟩ (fun z => absurd z (by omega)) (fun _ => ?_)
    refine k_c (y := 3) rfl (A_r _ _ _) ⟨by decide, by decide⟩ (fun z => absurd z (by omega)) (fun _ => ?_)
    refine k_c (y := 4) rfl (A_r _ _ _) ⟨by decide, by decide⟩ (fun z => absurd z (by omega)) (fun _ => ?_)
    refine k_c (y := 5) rfl (A_r _ _ _) ⟨by decide, by decide⟩ (fun z => absurd z (by omega)) (fun _ => ?_)
    refine k_c (y := 6) rfl (A_r _ _ _) ⟨by decide, by decide⟩ (fun z => absurd z (by omega)) (fun _ => ?_)
    refine k_c (y := 7) rfl (A_r _ _ _) ⟨by decide, by decide⟩ (fun _ => ?_) (fun z => absurd e16 z)
    rw [ok_bnd]
    exact ok_mono (hL u lv c ps n lo hi a b q r hv hc hd.1 hT hb hh ht) (fun w _ p1 => ok_some.mpr p1)
theorem grpA_ok (hN : 10000 ≤ N) : ∀ d f, (2 * f ≤ d → PatS N (hrc_Cm_listPattern N d) f) ∧ (2 * f + 1 ≤ d → LisS N (hrc_Cm_listPattern N d) f) := by
  intro d
  induction d with
  | zero =>
    intro f
    refine ⟨fun h => ?_, fun h => absurd h (by omega)⟩
    obtain rfl : f = 0 := by omega
    exact fun _ _ _ _ _ _ _ _ _ _ _ _ _ h => h.elim
  | succ d ih =>
    intro f
    refine ⟨fun h => ?_, fun h => listPat_ok ((ih f).1 (by omega)) hN rfl⟩
    cases f with
    | zero => exact fun _ _ _ _ _ _ _ _ _ _ _ _ _ h => h.elim
    | succ f => exact patC_ok ((ih f).1 (by omega)) ((ih f).2 (by omega)) hN rfl
end
