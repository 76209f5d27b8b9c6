section
variable {α : Type} {Q : MS → α → Prop} {u0 u v w : MS} {N σ TN SN : Nat} {bw : Nat → Nat} {p o n q c f h s wt g t x y k nm m d : Int}
theorem ST_A (hs : ST u0 σ p o n q c f h s wt g u) {r i : Nat} (hr : r ∉ PfA) : A u r i = A u0 r i := hs.1.A hr
theorem ST_F (hs : ST u0 σ p o n q c f h s wt g u) {r : Nat} (hr : r ∉ PfI) : F u r = F u0 r := hs.1.F hr
theorem ST_IS (hs : ST u0 σ p o n q c f h s wt g u) (a : IS u x) : A u0 6 p.toNat = 6 ∧ A u0 7 p.toNat = x := by
  unfold IS at a
  rw [hs.2.1.1, ST_A hs (by decide), ST_A hs (by decide)] at a
  exact a
theorem ST_IW (hs : ST u0 σ p o n q c f h s wt g u) (a : IW u x) : A u0 6 p.toNat = 3 ∧ A u0 7 p.toNat = x := by
  unfold IW at a
  rw [hs.2.1.1, ST_A hs (by decide), ST_A hs (by decide)] at a
  exact a
theorem tok_lt (t : TKW u0 TN SN bw) (hp : 0 ≤ p ∧ p ≤ TN) (h : ¬ (A u0 6 p.toNat = 0 ∨ A u0 6 p.toNat = 7)) : p < TN := by
  have := t.1.2
  by_cases e : p = TN
  · rw [e, Int.toNat_natCast] at h; exact absurd this h
  · omega
theorem underscore_ok {i : Nat} (hi : i < 4002) (h7 : 0 ≤ A u 7 i ∧ A u 7 i ≤ 1342) (h16 : 0 ≤ A u 16 (A u 7 i).toNat ∧ A u 16 (A u 7 i).toNat ≤ 4900) : OK (fun v r => v = u ∧ (r = 0 ∨ r = 1)) (fm_M_isUnderscore N u (I i)) := by
  unfold fm_M_isUnderscore fb_M_isUnderscore_0 fb_M_isUnderscore_46 fb_M_isUnderscore_47
  refine k_in (k := 7) (n := 4002) rfl (by decide) (by omega) ?_
  rw [I_tn (x := (i : Int)) (by omega) (by omega), Int.toNat_natCast, I_A (k := 7), lit1q, I_add]
  refine k_in (k := 16) (n := 2200) rfl (by decide) (by omega) (k_in (k := 16) (n := 2200) rfl (by decide) (by omega) ?_)
  rw [I_tn (x := A u 7 i) (by omega) (by omega), I_A (k := 16) (i := (A u 7 i).toNat)]
  have e1 : OK (fun v r => v = u ∧ (r = (0 : Int32) ∨ r = I 1)) (ck (isb 0) (some (u, 0))) := ok_ck.mpr ⟨rfl, ok_some.mpr ⟨rfl, Or.inl rfl⟩⟩
  have e2 : OK (fun v r => v = u ∧ (r = (0 : Int32) ∨ r = I 1)) (ck (isb (I 1)) (some (u, I 1))) := ok_ck.mpr ⟨rfl, ok_some.mpr ⟨rfl, Or.inr rfl⟩⟩
  refine ok_br.mpr ⟨fun _ => ?_, fun _ => e1⟩
  refine k_in (k := 16) (n := 2200) rfl (by decide) (by omega) (k_in (k := 15) (n := 5000) rfl (by decide) (by omega) (ok_br.mpr ⟨fun _ => e2, fun _ => e1⟩))
def UNB (σ : Nat) (u v : MS) (m : Int) : Prop := ∃ v1, NDV u v1 18 (F u 69) ∧ v = wa (wa v1 25 (F u 32).toNat m) 60 σ m
theorem k_unbind {b : Int32} {f : MS → Unit → Option (MS × α)} (hb : b = I m) (hm : RG m) (h65 : F u 65 = σ) (hσ : σ ≤ 26) (h69 : 0 ≤ F u 69 ∧ F u 69 < 4002) (h32 : 0 ≤ F u 32 ∧ F u 32 < 16000) (a1 : A u 60 σ ≤ m → OK Q (f u ())) (a2 : m < A u 60 σ → ∀ v, UNB σ u v m → OK Q (f v ())) : OK Q (bnd (fm_M_unbind N u b) f) := by
  refine ok_bnd.mpr ?_
  unfold fm_M_unbind fb_M_unbind_0 fb_M_unbind_41
  have ts : (I (σ : Int)).toNatClampNeg = σ := by rw [I_tn (by omega) (by omega)]; omega
  rw [I_F' h65, hb, ts, I_A (k := 60)]
  refine k_in (k := 60) (n := 27) rfl (by decide) (by omega) (k_le (ARG1 u 60 σ) hm (fun e => ok_some.mpr (a1 e)) (fun e => ?_))
  refine k_node (k := 18) (t := F u 69) rfl (by decide) I_F h69 h32 (fun v1 hv => ?_)
  refine k_in (k := 25) (n := 16000) rfl (by decide) (by omega) (ok_lt.mpr ?_)
  have e65 : v1.1 65 = I σ := by rw [hv.1.1.1 65 (by decide)]; exact I_F' h65
  rw [I_tn (by omega) (by omega), wa_e, show (wa v1 25 (F u 32).toNat m).1 65 = v1.1 65 from rfl, e65, ts]
  refine k_in (k := 60) (n := 27) rfl (by decide) (by omega) (ok_lt.mpr (ok_some.mpr ?_))
  rw [wa_e]
  exact a2 e _ ⟨v1, hv, rfl⟩
theorem ST_60 (hs : ST u0 σ p o n q c f h s wt g u) (hx : 0 ≤ x ∧ x ≤ A u 60 σ) : ST u0 σ p o n q c f h s wt g (wa u 60 σ x) := by
  obtain ⟨h1, e, h2, h6, h7, h8⟩ := hs
  have rg : RG x := by have := (A_r u 60 σ).2; exact ⟨by omega, by omega⟩
  have a : FR [] [] [60] [] u (wa u 60 σ x) := FR.wa FR.rf (by decide)
  refine ⟨FR.wa h1 (by decide), e, h2, fun i hi => ?_, K44_fr h7 a (by decide), NGD_fr h8 a (by decide) (by decide)⟩
  obtain ⟨⟨v1, v2, v3, v4⟩, v5, v6, v7⟩ := h6 i hi
  have y60 : ∀ j, A (wa u 60 σ x) 60 j = if j = σ then x else A u 60 j := fun j => by rw [A_wa rg.1 rg.2, if_pos rfl]
  have yr : ∀ r j, r ≠ 60 → A (wa u 60 σ x) r j = A u r j := fun r j hr => wa_rne hr
  rw [y60 i, yr 63 i (by decide), yr 64 i (by decide), yr 63 (i - 1) (by decide)]
  refine ⟨?_, fun j hj => ?_, v6, fun j hj hi0 => ?_⟩
  · by_cases e : i = σ
    · rw [if_pos e]
      rw [e] at v1 v2 v3 v4 ⊢
      omega
    · rw [if_neg e]; exact ⟨v1, v2, v3, v4⟩
  · have hj2 : (j : Int) < A u 60 i := by
      by_cases e : i = σ
      · rw [if_pos e] at hj; rw [e]; omega
      · rw [if_neg e] at hj; exact hj
    rw [yr 59 _ (by decide)]
    exact ⟨(v5 j hj2).1, (v5 j hj2).2.1, fun b hb => by rw [yr 59 _ (by decide)]; exact (v5 j hj2).2.2 b hb⟩
  · rw [yr 62 _ (by decide), y60, if_neg (by omega)]
    exact v7 j hj hi0
theorem KPR_60 (a : KPR σ u v) (hx : A u 60 σ ≤ x) (hr : RG x) : KPR σ u (wa v 60 σ x) := by
  obtain ⟨a0, ⟨a1, a2, a3, a4, a5⟩, ⟨a6, a7, a8, a9⟩, ⟨a10, a11, a12⟩, a13⟩ := a
  have yr : ∀ r j, r ≠ 60 → A (wa v 60 σ x) r j = A v r j := fun r j hr => wa_rne hr
  have y60 : ∀ j, A (wa v 60 σ x) 60 j = if j = σ then x else A v 60 j := fun j => by rw [A_wa hr.1 hr.2, if_pos rfl]
  have m1 : ∀ r, r ∈ [23, 24, 25, 26, 27, 28, 29, 30, 31] → r ≠ 60 := by decide
  have m2 : ∀ r, r ∈ [33, 35, 36, 37, 38] → r ≠ 60 := by decide
  have m3 : ∀ r, r ∈ [40, 41, 42, 43, 45] → r ≠ 60 := by decide
  have m4 : ∀ r, r ∈ [53, 54, 55] → r ≠ 60 := by decide
  have m5 : ∀ r, r ∈ [61, 62] → r ≠ 60 := by decide
  have m6 : ∀ r, r ∈ [79, 80, 81, 82] → r ≠ 60 := by decide
  refine ⟨FR.wa a0 (by decide), ⟨fun r i h1 h2 => by rw [yr r i (m1 r h1)]; exact a1 r i h1 h2, fun r i h1 h2 => by rw [yr r i (m2 r h1)]; exact a2 r i h1 h2, fun r i h1 h2 => by rw [yr r i (m3 r h1)]; exact a3 r i h1 h2, fun r i h1 h2 => by rw [yr r i (m4 r h1)]; exact a4 r i h1 h2, fun i h2 => by rw [yr 57 i (by decide)]; exact a5 i h2⟩, ⟨fun s i h1 h2 => by rw [yr 59 _ (by decide)]; exact a6 s i h1 h2, fun r s i h0 h1 h2 => by rw [yr r _ (m5 r h0)]; exact a7 r s i h0 h1 h2, fun s h1 => ?_, fun s h1 => ?_⟩, ⟨fun i h2 => by rw [yr 74 i (by decide)]; exact a10 i h2, fun i h2 => by rw [yr 76 i (by decide)]; exact a11 i h2, fun r i h1 h2 => by rw [yr r i (m6 r h1)]; exact a12 r i h1 h2⟩, a13⟩
  · rw [y60, if_neg (by omega)]; exact a8 s h1
  · rw [y60, yr 63 s (by decide), yr 64 s (by decide)]
    have := a9 s h1
    by_cases e : s = σ
    · rw [if_pos e]; rw [e] at this ⊢; exact ⟨hx, this.2⟩
    · rw [if_neg e]; exact this
theorem ST_unb (hs : ST u0 σ p o n q c f h s wt g u) (a : UNB σ u v m) (hp : 0 ≤ p ∧ p < 4002) (hn : 0 ≤ n) (hm : 0 ≤ m ∧ m < A u 60 σ) : ST u0 σ p o (n + 1) q c f h s wt g v := by
  obtain ⟨v1, hv, rfl⟩ := a
  have e : F u 69 = p := hs.2.1.1
  have e2 : F u 32 = n := hs.2.1.2.2.1
  rw [e] at hv
  have nw := NDW_wa (x := m) hv.1 (show 25 ∈ [25, 26, 27, 28, 29, 30, 31] by decide)
  refine ST_60 (ST_nd hs nw hp hn (fun z => by omega)) ⟨hm.1, ?_⟩
  rw [nw.1.A (by decide)]
  omega
theorem KPR_unb (a : KPR σ u v) (b : UNB σ v w m) (h : 0 ≤ F v 32) (hm : A u 60 σ ≤ m) (hr : RG m) : KPR σ u w := by
  obtain ⟨v1, hv, rfl⟩ := b
  have := a.2.2.2.2.1.1
  exact KPR_60 (KPR_wn (KPR_nd a hv.1 h) (by decide) (by omega)) hm hr
theorem FSM_wa {r i : Nat} (hs : FSM u0 TN σ d u) (h : r ∈ PfA ∧ r ≠ 63 ∧ r ≠ 44) : FSM u0 TN σ d (wa u r i x) := FSM_fr (is := []) (as := [r]) (js := []) hs (FR.wa FR.rf (List.mem_singleton.mpr rfl)) (fun k z => by cases z) (fun k z => by rw [List.mem_singleton.mp z]; exact h) (fun k z => by cases z) hs.2.1
theorem FSM_wi {b : Nat} (hs : FSM u0 TN σ d u) (h : b ∈ [39, 46, 56, 66, 70, 72, 73, 75, 77, 83, 84]) : FSM u0 TN σ d (wi u b x) := by
  have pb : ∀ b, b ∈ [39, 46, 56, 66, 70, 72, 73, 75, 77, 83, 84] → b ∈ [39, 46, 56, 66, 67, 68, 70, 72, 73, 75, 77, 83, 84] ∧ 67 ≠ b := by decide
  refine FSM_fr (is := [b]) (as := []) (js := []) hs (FR.wi FR.rf (List.mem_singleton.mpr rfl)) (fun k z => by rw [List.mem_singleton.mp z]; exact (pb b h).1) (fun k z => by cases z) (fun k z => by cases z) ?_
  rw [wi_ne (pb b h).2]; exact hs.2.1
theorem FSM_67 (hs : FSM u0 TN σ d u) (a : FR [67, 68] [] [] [] u v) (h : F v 67 ≠ 0) : FSM u0 TN σ d v := FSM_fr hs a (by decide) (by decide) (by decide) h
theorem FSM_rule (hs : FSM u0 TN σ d u) (a : FR [71, 72] [] [] [] u v) (h71 : 0 ≤ F v 71 ∧ F v 71 < 4002) : FSM u0 TN σ d v := by
  obtain ⟨g1, g2, g3, g4, g5, g6, g7, g8⟩ := hs
  refine ⟨FR.tr g1 (FRP a (by decide) (by decide) (by decide)), by rw [a.F (by decide)]; exact g2, ?_, by rw [a.F (by decide)]; exact g4, by rw [a.F (by decide)]; exact g5, by rw [a.F (by decide)]; exact g6, fun s hs => by rw [a.A (by decide)]; exact g7 s hs, K44_fr g8 a (by decide)⟩
  rw [a.F (k := 69) (by decide)]
  exact ⟨g3.1, g3.2.1, h71⟩
theorem FSM_unb (hs : FSM u0 TN σ d u) (a : UNB σ u v m) : FSM u0 TN σ (d + 1) v := by
  obtain ⟨v1, hv, rfl⟩ := a
  exact FSM_wa (FSM_wa (FSM_nd hs hv.1) (by decide)) (by decide)
theorem ST_sc {v : MS} (hs : ST u0 σ p o n q c f h s wt g u) (a : FR [66] [] [59, 60, 61, 62, 63, 64] [] u v) (b : SCP (F u0 17) σ v) (h66 : F v 66 = F u 66 ∨ F v 66 = 1) : ST u0 σ p o n q c f h s wt g v := by
  obtain ⟨h1, ⟨e1, e2, e3, e4, e5, e6, e7, e8, e9, e10, e11, e12⟩, ⟨h3, h4, h5⟩, h6, h7, h8⟩ := hs
  refine ⟨FR.tr h1 (FRP a (by decide) (by decide) (by decide)), ⟨?_, ?_, ?_, ?_, ?_, ?_, ?_, ?_, ?_, ?_, ?_, ?_⟩, ⟨?_, h4, by omega⟩, b, K44_fr h7 a (by decide), NGD_fr h8 a (by decide) (by decide)⟩
  all_goals rw [a.F (by decide)]; assumption
def NPK (σ : Nat) (u v : MS) (i : Nat) : Prop := (A v 36 i = -1 ∧ A v 37 i = -1 ∧ A v 38 i = 0) ∧ ((A v 33 i = 0 ∧ A v 60 σ = A u 60 σ) ∨ (A v 33 i = 1 ∧ A v 60 σ = A u 60 σ + 1 ∧ (F v 66 = 0 → A v 60 σ ≤ 40)) ∨ (A v 33 i = 2 ∧ A v 60 σ = A u 60 σ ∧ NCO (A v 35 i) (A u 60 σ).toNat (A v 63 σ).toNat))
theorem namePattern_ok {b : Int32} (tk : TKW u0 TN SN bw) (hN : 5000 ≤ N) (hs : ST u0 σ p o n q c f h s wt g u) (hσ : σ ≤ 26) (hp : 0 ≤ p ∧ p < TN) (h2 : A u0 6 p.toNat = 2) (hq : 0 ≤ q ∧ q < 5000) : OK (fun v r => r = I q ∧ ST u0 σ (p + 1) o n (q + 1) c f h s wt g v ∧ KPR σ u v ∧ F v 67 = F u 67 ∧ NPK σ u v q.toNat) (fm_M_namePattern N u b) := by
  obtain ⟨⟨k1, k2⟩, k3, ⟨k4, k5, k6⟩, -⟩ := tk
  obtain ⟨pn, rfl⟩ : ∃ pn : Nat, p = pn := ⟨p.toNat, by omega⟩
  have tp : ((pn : Nat) : Int).toNat = pn := Int.toNat_natCast pn
  rw [tp] at h2
  have kv := (k3 pn (by omega)).2.2.2.1 h2
  have e69 : F u 69 = (pn : Int) := hs.2.1.1
  have e65 : F u 65 = σ := hs.2.1.2.2.2.2.2.2.2.2.2.2.2
  have e39 : F u 39 = q := hs.2.1.2.2.2.1
  have a7 : A u 7 pn = A u0 7 pn := ST_A hs (by decide)
  have a16 := k6 (A u0 7 pn).toNat (by omega)
  unfold fm_M_namePattern fb_M_namePattern_0
  rw [I_F' e69]
  refine ok_bnd.mpr (ok_mono (underscore_ok (by omega) (by omega) (by rw [a7, ST_A hs (by decide)]; exact a16)) (fun u1 r1 hv => ?_))
  obtain ⟨rfl, hr1⟩ := hv
  have last : ∀ (v : MS) (i : Nat), ST u0 σ (pn : Int) o n (q + 1) c f h s wt g v → KPR σ u1 v → F v 67 = F u1 67 → NPK σ u1 v i → i = q.toNat → OK (fun v r => r = I q ∧ ST u0 σ ((pn : Int) + 1) o n (q + 1) c f h s wt g v ∧ KPR σ u1 v ∧ F v 67 = F u1 67 ∧ NPK σ u1 v q.toNat) (fb_M_namePattern_105 N () v (I q)) := fun v i h1 h2 h3 h4 h5 => by
    subst h5
    unfold fb_M_namePattern_105
    refine ok_lt.mpr ?_
    rw [nx1_e]
    exact ok_some.mpr ⟨rfl, ST_nx h1 (by omega), KPR_w0 h2 (by decide), (wi_ne (by decide)).trans h3, h4⟩
  have c104 : ∀ (v w : MS) (y : Int), RG y → ST u0 σ (pn : Int) o n (q + 1) c f h s wt g w → KPR σ u1 w → F w 67 = F u1 67 → NPK σ u1 (wa w 35 q.toNat y) q.toNat → OK (fun v r => r = I q ∧ ST u0 σ ((pn : Int) + 1) o n (q + 1) c f h s wt g v ∧ KPR σ u1 v ∧ F v 67 = F u1 67 ∧ NPK σ u1 v q.toNat) (fb_M_namePattern_104 N () w (I q) 35 (I q) (I y)) := fun v w y hy h1 h2 h3 h4 => by
    unfold fb_M_namePattern_104
    rw [isK35, ck_t]
    refine k_in (k := 35) (n := 5000) rfl (by decide) (by omega) (ok_lt.mpr ?_)
    rw [I_tn (by omega) (by omega), wa_e]
    have : ∀ r, r ∈ [35] → r ∉ [23, 24, 25, 26, 27, 28, 29, 30, 31] ∧ r ∉ [40, 41, 42, 43, 45] ∧ r ∉ [53, 54, 55] ∧ r ∉ [79, 80, 81, 82] := by decide
    have t5 := this 35 (by decide)
    exact last _ q.toNat (ST_wa h1 (by decide)) (KPR_wa h2 (by decide) ⟨fun z => absurd z t5.1, fun _ => by omega, fun z => absurd z t5.2.1, fun z => absurd z t5.2.2.1, fun z => by omega, fun z => by omega, fun z => by omega, fun z => absurd z t5.2.2.2⟩) h3 h4 rfl
  rcases hr1 with z | z
  · rw [z, br00]
    have main : ∀ (v : MS) (r' : Int), ST u0 σ (pn : Int) o n q c f h s wt g v → KPR σ u1 v → F v 67 = F u1 67 → (∀ j, A v 60 j = A u1 60 j) → RG r' → (r' = -1 → ∀ j : Nat, (j : Int) < A v 60 σ → A v 59 (1400 * σ + j) ≠ A u0 7 pn) → (r' ≠ -1 → NCO r' (A v 60 σ).toNat (A v 63 σ).toNat) → OK (fun v r => r = I q ∧ ST u0 σ ((pn : Int) + 1) o n (q + 1) c f h s wt g v ∧ KPR σ u1 v ∧ F v 67 = F u1 67 ∧ NPK σ u1 v q.toNat) (fb_M_namePattern_61 N () v (I r')) := fun v r' h1 h2 h3 h60 hr hn hy => by
      have e39v : F v 39 = q := h1.2.1.2.2.2.1
      unfold fb_M_namePattern_61 fb_M_namePattern_73
      rw [show (-1 : Int32) = I (-1) from rfl]
      refine k_eq hr ⟨by decide, by decide⟩ (fun e => ?_) (fun e => ?_)
      · refine k_pattern (k := 1) rfl (by decide) (by omega) (fun w hw => ?_)
        have sw := ST_pt h1 hw
        have kw := KPR_pt h2 hw (by omega)
        obtain ⟨w1, w2, w3, w4⟩ := id hw
        refine k_eq hr ⟨by decide, by decide⟩ (fun _ => ?_) (fun z => absurd e z)
        have e69w : F w 69 = (pn : Int) := sw.2.1.1
        rw [I_F' e69w]
        refine k_in (k := 7) (n := 4002) rfl (by decide) (by omega) ?_
        rw [I_tn (by omega) (by omega), tp, I_A' (show A w 7 pn = A u0 7 pn from ST_A sw (by decide)), e39v]
        refine ok_bnd.mpr (ok_mono (bind_ok (nm := F u0 17) sw.2.2.2.1 sw.2.1.2.2.2.2.2.2.2.2.2.2.2 hσ k5 kv (fun j hj => ?_)) (fun w5 r5 h5 => ?_))
        · rw [w1.A (by decide)] at hj ⊢; exact hn e j hj
        · obtain ⟨hr5, b1, b2, b3, b4, b5, b6⟩ := h5
          rw [hr5]
          have hi : ∀ r, r ∉ [59, 60, 64] → A w5 r q.toNat = A w r q.toNat := fun r hr => b1.A hr
          refine c104 v w5 _ (ARG1 w 60 σ) (ST_sc sw (FR.mo b1 (by decide) (by decide) (by decide) (by decide)) b3 b6) (KPR_tr kw b2) ?_ ?_
          · rw [b1.F (by decide), w1.F (by decide)]; exact h3
          · rw [e39v] at w3
            refine ⟨⟨?_, ?_, ?_⟩, Or.inr (Or.inl ⟨?_, ?_, ?_⟩)⟩
            · rw [wa_rne (by decide), hi 36 (by decide)]; exact w3.2.2.1
            · rw [wa_rne (by decide), hi 37 (by decide)]; exact w3.2.2.2.1
            · rw [wa_rne (by decide), hi 38 (by decide)]; exact w3.2.2.2.2
            · rw [wa_rne (by decide), hi 33 (by decide)]; exact w3.1
            · rw [wa_rne (by decide), b4, w1.A (by decide), h60]
            · rw [wa_rne (by decide)]; exact b5
      · refine k_pattern (k := 2) rfl (by decide) (by omega) (fun w hw => ?_)
        have sw := ST_pt h1 hw
        have kw := KPR_pt h2 hw (by omega)
        obtain ⟨w1, w2, w3, w4⟩ := id hw
        rw [e39v] at w3
        rw [e39v]
        refine k_eq hr ⟨by decide, by decide⟩ (fun z => absurd z e) (fun _ => ?_)
        refine c104 v w _ hr sw kw ((w1.F (by decide)).trans h3) ⟨⟨?_, ?_, ?_⟩, Or.inr (Or.inr ⟨?_, ?_, ?_⟩)⟩
        · rw [wa_rne (by decide)]; exact w3.2.2.1
        · rw [wa_rne (by decide)]; exact w3.2.2.2.1
        · rw [wa_rne (by decide)]; exact w3.2.2.2.2
        · rw [wa_rne (by decide)]; exact w3.1
        · rw [wa_rne (by decide), w1.A (by decide), h60]
        · rw [wa_eq hr, wa_rne (by decide), w1.A (by decide), ← h60]; exact hy e
    have kin : ∀ (y : Option (MS × Int32)) (P : MS → Int32 → Prop), OK P y → OK P (ck (inb (u1.1 69) (ln 7)) y) := fun y P hy => by
      rw [I_F' e69]
      exact k_in (k := 7) (n := 4002) rfl (by decide) (by omega) hy
    have tv : u1.2.2.1 7 (u1.1 69).toNatClampNeg = I (A u0 7 pn) := by
      rw [I_F' e69, I_tn (by omega) (by omega), tp]; exact I_A' a7
    have rx : RG (A u0 7 pn) := ARG1 u0 7 pn
    have mm := SCP_many hs.2.2.2.1 (Nat.le_refl σ)
    refine ok_br.mpr ⟨fun _ => kin _ _ ?_, fun _ => kin _ _ ?_⟩
    · rw [tv, I_F' e65]
      refine ok_bnd.mpr (ok_mono (found_ok (nm := F u0 17) hN k5 k4 rx 30 σ (by omega) (by omega) hs.2.2.2.1) (fun v r hv => ?_))
      obtain ⟨r', hr, f1, f2, f3, f4⟩ := hv
      rw [hr]
      have g59 : ∀ j, A v 59 j = A u1 59 j := fun j => f1.A (by decide)
      have g60 : ∀ j, A v 60 j = A u1 60 j := fun j => f1.A (by decide)
      have rr : RG r' := by
        rcases f4 with ⟨z, -⟩ | z
        · rw [z]; exact ⟨by decide, by decide⟩
        · have := (f3 σ (Nat.le_refl σ)).1
          have h6 : A v 60 σ < 2147483648 := (A_r v 60 _).2
          unfold NCO at z
          exact ⟨by omega, by omega⟩
      refine main v r' (ST_sc hs (FR.mo f1 (by decide) (by decide) (by decide) (by decide)) f3 (Or.inl (f1.F (by decide)))) f2 (f1.F (by decide)) g60 rr (fun e j hj => ?_) (fun e => ?_)
      · rw [g60] at hj
        rw [g59]
        rcases f4 with ⟨-, z⟩ | z
        · exact z j hj
        · unfold NCO at z; omega
      · rcases f4 with ⟨z, -⟩ | z
        · exact absurd z e
        · exact z
    · rw [tv, I_F' e65]
      refine ok_bnd.mpr (ok_mono (boundIn_ok (by omega) (by omega) rx hN) (fun v r hv => ?_))
      obtain ⟨rfl, r', hr, hb⟩ := hv
      rw [hr]
      have s1 := (hs.2.2.2.1 σ (Nat.le_refl σ)).1
      have rr : RG r' := by unfold BIN at hb; exact ⟨by omega, by omega⟩
      refine main v r' hs KPR_rf rfl (fun _ => rfl) rr (fun e j hj => ?_) (fun e => ?_)
      · rcases hb with hb | hb
        · exact hb.2 j hj
        · omega
      · rcases hb with hb | hb
        · exact absurd hb.1 e
        · exact Or.inl (by omega)
  · rw [z, br10]
    refine k_pattern (k := 0) rfl (by decide) (by omega) (fun w hw => ?_)
    obtain ⟨w1, w2, w3, w4⟩ := id hw
    rw [e39] at w3
    rw [e39]
    exact last w q.toNat (ST_pt hs hw) (KPR_pt KPR_rf hw (by omega)) (w1.F (by decide)) ⟨w3.2.2, Or.inl ⟨w3.1, w1.A (by decide)⟩⟩ rfl
end
