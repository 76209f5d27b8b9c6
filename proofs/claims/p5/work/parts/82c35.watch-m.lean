section
set_option maxRecDepth 100000
def WAm (m : MS) (i : Nat) (x : Int × Int × Int) : Prop := A m 49 i = x.1 ∧ A m 50 i = x.2.1 ∧ A m 51 i = x.2.2
def WAw (w : MS) (i : Nat) (x : Int × Int × Int) : Prop := A w 123 i = x.1 ∧ A w 124 i = x.2.1 ∧ A w 122 i = x.2.2
def WSm (m : MS) (L : List (Int × Int × Int)) : Prop := F m 950 = ((L.length : Nat) : Int) ∧ L.length ≤ 200 ∧ ∀ i x, L[i]? = some x → WAm m i x
def WSw (w : MS) (L : List (Int × Int × Int)) : Prop := F w 125 = ((L.length : Nat) : Int) ∧ L.length ≤ 200 ∧ ∀ i x, L[i]? = some x → WAw w i x
def WFm (m m2 : MS) : Prop := FR [950] [] [49, 50, 51] [] m m2
def WFw (w w2 : MS) : Prop := FR [125] [] [122, 123, 124] [] w w2
section
variable {N : Nat} {m w w0 m2 w2 : MS} {L L1 L2 : List (Int × Int × Int)} {y : Int × Int × Int}
theorem WAw_r {i : Nat} (h : WAw w i y) : RG y.1 ∧ RG y.2.1 ∧ RG y.2.2 := ⟨by rw [← h.1]; exact A_r _ _ _, by rw [← h.2.1]; exact A_r _ _ _, by rw [← h.2.2]; exact A_r _ _ _⟩
theorem WAm_r {i : Nat} (h : WAm m i y) : RG y.1 ∧ RG y.2.1 ∧ RG y.2.2 := ⟨by rw [← h.1]; exact A_r _ _ _, by rw [← h.2.1]; exact A_r _ _ _, by rw [← h.2.2]; exact A_r _ _ _⟩
theorem rmw_lp (hl : L1.length + L2.length < 200) : ∀ (M c : Nat) (w : MS), c ≤ L2.length → WFw w0 w → F w 125 = ((L1.length + L2.length : Nat) : Int) → (∀ k x, k < L1.length + c → (L1 ++ L2)[k]? = some x → WAw w k x) → (∀ k x, c ≤ k → L2[k]? = some x → WAw w (L1.length + 1 + k) x) → PK (fun w2 (_ : Unit) => WSw w2 (L1 ++ L2) ∧ WFw w0 w2) (gg_M_removeWatch N M w (I ((L1.length + c : Nat) : Int))) := by
  intro M
  induction M with
  | zero => intro c w _ _ _ _ _; exact pk_none
  | succ M ih =>
    intro c w hc f h1 h2 h3
    show PK _ (fb_M_removeWatch_12 N (gg_M_removeWatch N M) w (I ((L1.length + c : Nat) : Int)))
    unfold fb_M_removeWatch_12
    rw [I_F' h1]
    refine p_le ⟨by omega, by omega⟩ ⟨by omega, by omega⟩ (fun z => ?_) (fun z => ?_)
    · refine pk_some ⟨⟨by rw [h1, List.length_append], by rw [List.length_append]; omega, fun i x hx => ?_⟩, f⟩
      refine h2 i x ?_ hx
      apply Classical.byContradiction
      intro q
      rw [List.getElem?_eq_none (by rw [List.length_append]; omega)] at hx
      cases hx
    · have cl : c < L2.length := by omega
      have g : L2[c]? = some L2[c] := List.getElem?_eq_getElem cl
      have wa1 := h3 c _ (Nat.le_refl _) g
      generalize L2[c] = y at g wa1
      obtain ⟨r1, r2, r3⟩ := WAw_r wa1
      obtain ⟨a1, a2, a3⟩ := wa1
      have ei : I ((L1.length + c : Nat) : Int) + 1 = I ((L1.length + 1 + c : Nat) : Int) := by rw [lit1q, I_add]; congr 1; omega
      rw [ei, tnI (n := L1.length + c) rfl (by omega), tnI (n := L1.length + 1 + c) rfl (by omega)]
      refine pk_ck (fun _ => pk_ck (fun _ => pk_ltq ?_))
      rw [I_A' a3, wa_e]
      refine pk_ck (fun _ => pk_ck (fun _ => pk_ltq ?_))
      rw [show (wa w 122 (L1.length + c) y.2.2).2.2.1 123 (L1.length + 1 + c) = I y.1 from I_A' a1, wa_e]
      refine pk_ck (fun _ => pk_ck (fun _ => pk_ltq ?_))
      rw [show (wa (wa w 122 (L1.length + c) y.2.2) 123 (L1.length + c) y.1).2.2.1 124 (L1.length + 1 + c) = I y.2.1 from I_A' a2, wa_e]
      generalize hz : wa (wa (wa w 122 (L1.length + c) y.2.2) 123 (L1.length + c) y.1) 124 (L1.length + c) y.2.1 = v
      have e1 : ∀ k, A v 123 k = if k = L1.length + c then y.1 else A w 123 k := fun k => by rw [← hz, wa_rne (by omega), wa_ro r1.1 r1.2, wa_rne (by omega)]
      have e2 : ∀ k, A v 124 k = if k = L1.length + c then y.2.1 else A w 124 k := fun k => by rw [← hz, wa_ro r2.1 r2.2, wa_rne (by omega), wa_rne (by omega)]
      have e3 : ∀ k, A v 122 k = if k = L1.length + c then y.2.2 else A w 122 k := fun k => by rw [← hz, wa_rne (by omega), wa_rne (by omega), wa_ro r3.1 r3.2]
      have ke : ∀ k x, k ≠ L1.length + c → WAw w k x → WAw v k x := fun k x hk h => ⟨by rw [e1, if_neg hk]; exact h.1, by rw [e2, if_neg hk]; exact h.2.1, by rw [e3, if_neg hk]; exact h.2.2⟩
      have := ih (c + 1) v (by omega) (by rw [← hz]; exact FR.wa (FR.wa (FR.wa f (by simp)) (by simp)) (by simp)) (by rw [← hz]; exact h1) (fun k x hk hx => ?_) (fun k x hk hx => ke _ _ (by omega) (h3 k x (by omega) hx))
      · rw [show L1.length + (c + 1) = L1.length + 1 + c by omega] at this
        exact this
      · by_cases ck : k = L1.length + c
        · subst ck
          rw [List.getElem?_append_right (by omega), show L1.length + c - L1.length = c by omega, g] at hx
          injection hx with hx
          subst hx
          exact ⟨by rw [e1, if_pos rfl], by rw [e2, if_pos rfl], by rw [e3, if_pos rfl]⟩
        · exact ke _ _ ck (h2 k x (by omega) hx)
theorem rmw_w (s : WSw w (L1 ++ y :: L2)) : PK (fun w2 (_ : Unit) => WSw w2 (L1 ++ L2) ∧ WFw w w2) (fm_M_removeWatch N w (I ((L1.length : Nat) : Int))) := by
  obtain ⟨s1, s2, s3⟩ := s
  have hl : (L1 ++ y :: L2).length = L1.length + (L2.length + 1) := by rw [List.length_append]; rfl
  rw [hl] at s1 s2
  unfold fm_M_removeWatch fb_M_removeWatch_0
  refine pk_ltq ?_
  rw [I_F' s1, show I ((L1.length + (L2.length + 1) : Nat) : Int) - 1 = I ((L1.length + L2.length : Nat) : Int) by rw [lit1q, I_sub]; congr 1; omega, wi_e]
  have := rmw_lp (N := N) (w0 := w) (L1 := L1) (L2 := L2) (by omega) N 0 (wi w 125 ((L1.length + L2.length : Nat) : Int)) (by omega) (FR.wi FR.rf (by simp)) (by rw [F_wi (by omega) (by omega), if_pos rfl]) (fun k x hk hx => s3 k x (by rw [List.getElem?_append_left (by omega)]; rw [List.getElem?_append_left (by omega)] at hx; exact hx)) (fun k x _ hx => s3 (L1.length + 1 + k) x (by rw [List.getElem?_append_right (by omega), show L1.length + 1 + k - L1.length = k + 1 by omega, List.getElem?_cons_succ]; exact hx))
  exact this
theorem own_w {r : Nat} (hr : r < 100) : ∀ (M : Nat) (L1 L2 : List (Int × Int × Int)) (w : MS), WFw w0 w → WSw w (L1 ++ L2) → PK (fun w2 (_ : Unit) => WSw w2 (L1 ++ L2.filter (fun y => decide (y.1 ≠ ((r : Nat) : Int)))) ∧ WFw w0 w2) ((gg_M_end N M).2.2.2 w (I ((r : Nat) : Int)) (I ((L1.length : Nat) : Int))) := by
  intro M
  induction M with
  | zero => intro L1 L2 w _ _; exact pk_none
  | succ M ih =>
    intro L1 L2 w f s
    show PK _ (fb_M_end_250 N (gg_M_end N M) w (I ((r : Nat) : Int)) (I ((L1.length : Nat) : Int)))
    unfold fb_M_end_250
    have s0 := s
    obtain ⟨s1, s2, s3⟩ := s
    rw [List.length_append] at s1 s2
    rw [I_F' s1]
    refine p_le ⟨by omega, by omega⟩ ⟨by omega, by omega⟩ (fun z => ?_) (fun z => ?_)
    · have e2 : L2 = [] := List.length_eq_zero_iff.mp (by omega)
      subst e2
      exact pk_some ⟨s0, f⟩
    · cases L2 with
      | nil => exact absurd (by simp) z
      | cons y L3 =>
        have wy := s3 L1.length y mid_get
        obtain ⟨r1, -, -⟩ := WAw_r wy
        refine pk_ck (fun _ => ?_)
        rw [tnI (n := L1.length) rfl (by omega), I_A' wy.1]
        refine p_eq r1 ⟨by omega, by omega⟩ (fun c => ?_) (fun c => ?_)
        · refine pk_bnd (pk_mo (rmw_w (N := N) s0) (fun w2 _ h => ?_))
          have := ih L1 L3 w2 (FR.tr f h.2) h.1
          rw [List.filter_cons, if_neg (by simp [c])]
          exact this
        · have := ih (L1 ++ [y]) L3 w f (by rw [List.append_assoc]; exact s0)
          rw [show (L1 ++ [y]).length = L1.length + 1 by simp, List.append_assoc] at this
          rw [List.filter_cons, if_pos (by simp [c]), show I ((L1.length : Nat) : Int) + 1 = I ((L1.length + 1 : Nat) : Int) from addN]
          exact this
theorem keepW {i j : Nat} (h : WAm m i y) (hi : i < 200) (hj : j ≤ i) : PK (fun m2 (_ : Unit) => WFm m m2 ∧ m2.1 950 = m.1 950 ∧ WAm m2 j y ∧ ∀ k x, k ≠ j → WAm m k x → WAm m2 k x) (hm_Wl_keepWatch N m (I ((i : Nat) : Int)) (I ((j : Nat) : Int))) := by
  obtain ⟨r1, r2, r3⟩ := WAm_r h
  obtain ⟨a1, a2, a3⟩ := h
  unfold hm_Wl_keepWatch hb_Wl_keepWatch_0
  rw [tnI (n := i) rfl (by omega), tnI (n := j) rfl (by omega)]
  refine pk_ck (fun _ => pk_ck (fun _ => pk_ltq ?_))
  rw [I_A' a1, wa_e]
  refine pk_ck (fun _ => pk_ck (fun _ => pk_ltq ?_))
  rw [show (wa m 49 j y.1).2.2.1 50 i = I y.2.1 from I_A' a2, wa_e]
  refine pk_ck (fun _ => pk_ck (fun _ => pk_ltq ?_))
  rw [show (wa (wa m 49 j y.1) 50 j y.2.1).2.2.1 51 i = I y.2.2 from I_A' a3, wa_e]
  generalize hz : wa (wa (wa m 49 j y.1) 50 j y.2.1) 51 j y.2.2 = v
  have e1 : ∀ k, A v 49 k = if k = j then y.1 else A m 49 k := fun k => by rw [← hz, wa_rne (by omega), wa_rne (by omega), wa_ro r1.1 r1.2]
  have e2 : ∀ k, A v 50 k = if k = j then y.2.1 else A m 50 k := fun k => by rw [← hz, wa_rne (by omega), wa_ro r2.1 r2.2, wa_rne (by omega)]
  have e3 : ∀ k, A v 51 k = if k = j then y.2.2 else A m 51 k := fun k => by rw [← hz, wa_ro r3.1 r3.2, wa_rne (by omega), wa_rne (by omega)]
  exact pk_some ⟨by rw [← hz]; exact FR.wa (FR.wa (FR.wa FR.rf (by simp)) (by simp)) (by simp), by rw [← hz]; rfl, ⟨by rw [e1, if_pos rfl], by rw [e2, if_pos rfl], by rw [e3, if_pos rfl]⟩, fun k x hk hx => ⟨by rw [e1, if_neg hk]; exact hx.1, by rw [e2, if_neg hk]; exact hx.2.1, by rw [e3, if_neg hk]; exact hx.2.2⟩⟩
end
def GWs (PR : Nat) (y : Int × Int × Int) : Prop := (∃ a : Nat, y.1 = ((a : Nat) : Int) ∧ a < PR) ∧ (0 ≤ y.2.1 ∧ y.2.1 < ((PR : Nat) : Int)) ∧ RG y.2.2
theorem tell_lp {N r PR o : Nat} {wr : Int} {x : Int64} {J : MS → MS → Prop} (hr : r < 100)
    (H1 : ∀ m w a c, J m w → a < PR → RG c → PP (fun m2 (_ : Unit) w2 (_ : Unit) => J m2 w2 ∧ ((∀ k, k = 49 ∨ k = 50 ∨ k = 51 → m2.2.2.1 k = m.2.2.1 k) ∧ m2.1 950 = m.1 950) ∧ (∀ k, k = 122 ∨ k = 123 ∨ k = 124 → w2.2.2.1 k = w.2.2.1 k) ∧ w2.1 125 = w.1 125) (hm_Wl_post N m a 5 (Int32.ofNat r) (I c) (m.2.1 (pq r 16)) (rf (m.1 (pq r 17)))) (fm_M_message N w (I ((a : Nat) : Int)) 1 (I c) (I ((r : Nat) : Int)) (I wr) (I ((o : Nat) : Int)) x))
    (H2 : ∀ m w m2 w2 L, J m w → WFm m m2 → (0 ≤ F m2 950 ∧ F m2 950 ≤ 200) → WFw w w2 → WSw w2 L → (∀ y, y ∈ L → GWs PR y) → J m2 w2) (H3 : ∀ m w a, J m w → a < PR → hm_Wl_find N m (I ((a : Nat) : Int)) = some (m, some a)) :
    ∀ (M M2 : Nat) (K K1 R : List (Int × Int × Int)) (v3 : Nat) (m w : MS), J m w → K.length ≤ v3 → v3 + R.length ≤ 200 → F m 950 = ((v3 + R.length : Nat) : Int) → (∀ i y, K[i]? = some y → WAm m i y) → (∀ i y, R[i]? = some y → WAm m (v3 + i) y) → WSw w (K1 ++ R) → K = K1.filter (fun y => decide (y.1 ≠ ((r : Nat) : Int))) → (∀ y, y ∈ K1 ++ R → GWs PR y) → PP (fun m2 (_ : Unit) w2 (_ : Unit) => J m2 w2 ∧ ∃ L, WSm m2 L ∧ WSw w2 L ∧ ∀ y, y ∈ L → GWs PR y) (hg_Wl_tellWatchers N M m r (I ((K.length : Nat) : Int)) (I ((v3 : Nat) : Int))) ((gg_M_end N M2).2.2.1 w (I ((r : Nat) : Int)) (I wr) (I ((o : Nat) : Int)) x (I ((K1.length : Nat) : Int))) := by
  intro M
  induction M with
  | zero => intro M2 K K1 R v3 m w _ _ _ _ _ _ _ _ _; exact pp_nl
  | succ M ih =>
    intro M2 K K1 R v3 m w j hK hR h950 hk hrr sw ek hb
    cases M2 with
    | zero => exact pp_nr
    | succ M2 =>
      show PP _ (hb_Wl_tellWatchers_4 N (hg_Wl_tellWatchers N M) m r (I ((K.length : Nat) : Int)) (I ((v3 : Nat) : Int))) (fb_M_end_180 N (gg_M_end N M2) w (I ((r : Nat) : Int)) (I wr) (I ((o : Nat) : Int)) x (I ((K1.length : Nat) : Int)))
      unfold hb_Wl_tellWatchers_4 fb_M_end_180
      have sw0 := sw
      obtain ⟨s1, s2, s3⟩ := sw
      rw [List.length_append] at s1 s2
      rw [I_F' h950, I_F' s1, decI (by omega) (by omega) (by omega) (by omega), decI (by omega) (by omega) (by omega) (by omega)]
      cases R with
      | nil =>
        rw [decide_eq_true (by simp), br_tq, decide_eq_true (by simp), br_tq, lt_e, wi_e]
        rw [List.append_nil] at sw0 hb
        have gK : ∀ y, y ∈ K → GWs PR y := fun y hy => by
          rw [ek] at hy
          exact hb y ((List.mem_filter.mp hy).1)
        have lK : K.length ≤ 200 := by simp at hR; omega
        have k9 : ∀ M3 : Nat, PK (fun w2 (_ : Unit) => WSw w2 K ∧ WFw w w2) ((gg_M_end N M3).2.2.2 w (I ((r : Nat) : Int)) 0) := fun M3 => by
          have := own_w (N := N) (w0 := w) hr M3 [] K1 w FR.rf sw0
          rw [List.nil_append, ← ek] at this
          exact this
        refine pp_l (pk_mo (k9 M2) (fun w2 _ h => ⟨H2 m w _ _ K j (FR.wi FR.rf (by simp)) (by rw [F_wi (by omega) (by omega), if_pos rfl]; omega) h.2 h.1 gK, K, ⟨by rw [F_wi (by omega) (by omega), if_pos rfl], by omega, fun i y hy => hk i y hy⟩, h.1, gK⟩))
      | cons y R2 =>
        have hl2 : (y :: R2).length = R2.length + 1 := rfl
        rw [hl2] at hR h950 s1 s2
        rw [hl2, decide_eq_false (by omega), br_fq, decide_eq_false (by omega), br_fq]
        have wm : WAm m v3 y := hrr 0 y rfl
        have ww : WAw w K1.length y := s3 K1.length y mid_get
        obtain ⟨r1, r2, r3⟩ := WAw_r ww
        obtain ⟨⟨a, ea, ha⟩, -, hc⟩ := hb y (by simp)
        refine l_ck (fun _ => ?_)
        rw [tnI (n := v3) rfl (by omega), I_A' wm.1, ea, H3 m w a j ha, bnd_so]
        refine l_ck (fun _ => r_ck (fun _ => ?_))
        have ofr : Int32.ofNat r = I ((r : Nat) : Int) := rfl
        rw [tnI (n := K1.length) rfl (by omega), I_A' wm.2.1, I_A' ww.2.1, ofr, decE r2.1 r2.2 (by omega) (by omega)]
        have nx : I ((v3 : Nat) : Int) + 1 = I ((v3 + 1 : Nat) : Int) := addN
        have tl : ∀ i z, R2[i]? = some z → WAm m (v3 + 1 + i) z := fun i z hz => by
          rw [show v3 + 1 + i = v3 + (i + 1) by omega]
          exact hrr (i + 1) z hz
        by_cases c : y.2.1 = ((r : Nat) : Int)
        · rw [decide_eq_true c, br_tq, br_tq, show decide ((some a : Option Nat) = none) = false from rfl, br_fq]
          refine l_ck (fun _ => ?_)
          rw [bo_s, I_A' wm.2.2]
          refine r_ck (fun _ => r_ck (fun _ => ?_))
          rw [I_A' ww.1, I_A' ww.2.2, ea]
          refine r_bnd (pk_mo (rmw_w (N := N) sw0) (fun w1 _ h => ?_))
          have b9 : 0 ≤ F m 950 ∧ F m 950 ≤ 200 := by rw [h950]; omega
          have g9 : ∀ z, z ∈ K1 ++ R2 → GWs PR z := fun z hz => hb z (by simp at hz ⊢; rcases hz with h | h; exact Or.inl h; exact Or.inr (Or.inr h))
          have j1 : J m w1 := H2 m w m w1 _ j FR.rf b9 h.2 h.1 g9
          refine pp_bb (pp_mo (H1 m w1 a y.2.2 j1 ha hc) (fun m2 _ w2 _ g => ?_))
          obtain ⟨g1, ⟨g2, g3⟩, g4, g5⟩ := g
          have mm : ∀ i z, WAm m i z → WAm m2 i z := fun i z h => ⟨by show (m2.2.2.1 49 i).toInt = _; rw [g2 49 (by simp)]; exact h.1, by show (m2.2.2.1 50 i).toInt = _; rw [g2 50 (by simp)]; exact h.2.1, by show (m2.2.2.1 51 i).toInt = _; rw [g2 51 (by simp)]; exact h.2.2⟩
          have sw2 : WSw w2 (K1 ++ R2) := by
            obtain ⟨t1, t2, t3⟩ := h.1
            exact ⟨by show (w2.1 125).toInt = _; rw [g5]; exact t1, t2, fun i z hz => ⟨by show (w2.2.2.1 123 i).toInt = _; rw [g4 123 (by simp)]; exact (t3 i z hz).1, by show (w2.2.2.1 124 i).toInt = _; rw [g4 124 (by simp)]; exact (t3 i z hz).2.1, by show (w2.2.2.1 122 i).toInt = _; rw [g4 122 (by simp)]; exact (t3 i z hz).2.2⟩⟩
          unfold hb_Wl_tellWatchers_92
          rw [nx]
          exact ih M2 K K1 R2 (v3 + 1) m2 w2 g1 (by omega) (by omega) (by show (m2.1 950).toInt = _; rw [g3, show v3 + 1 + R2.length = v3 + (R2.length + 1) by omega]; exact h950) (fun i z hz => mm _ _ (hk i z hz)) (fun i z hz => mm _ _ (tl i z hz)) sw2 ek g9
        · rw [decide_eq_false c, br_fq, br_fq]
          unfold hb_Wl_tellWatchers_70 hb_Wl_tellWatchers_92
          refine l_ck (fun _ => ?_)
          have e1 : I ((K1.length : Nat) : Int) + 1 = I (((K1 ++ [y]).length : Nat) : Int) := by rw [show (K1 ++ [y]).length = K1.length + 1 by simp]; exact addN
          have sw2 : WSw w ((K1 ++ [y]) ++ R2) := by rw [List.append_assoc]; exact sw0
          rw [tnI (n := v3) rfl (by omega), I_A' wm.1, ofr, decE r1.1 r1.2 (by omega) (by omega), nx, e1]
          have h9502 : ∀ m2 : MS, m2.1 950 = m.1 950 → F m2 950 = ((v3 + 1 + R2.length : Nat) : Int) := fun m2 h => by
            show (m2.1 950).toInt = _
            rw [h, show v3 + 1 + R2.length = v3 + (R2.length + 1) by omega]
            exact h950
          by_cases c2 : y.1 = ((r : Nat) : Int)
          · rw [decide_eq_true c2, br_tq]
            exact ih M2 K (K1 ++ [y]) R2 (v3 + 1) m w j (by omega) (by omega) (h9502 m rfl) hk tl sw2 (by rw [List.filter_append, ← ek]; simp [c2]) (fun z hz => hb z (by rw [List.append_assoc] at hz; exact hz))
          · rw [decide_eq_false c2, br_fq]
            refine l_bnd (pk_mo (keepW (N := N) wm (by omega) hK) (fun m2 _ h => ?_))
            obtain ⟨h1, h2, h3, h4⟩ := h
            have e3 : I ((K.length : Nat) : Int) + 1 = I (((K ++ [y]).length : Nat) : Int) := by rw [show (K ++ [y]).length = K.length + 1 by simp]; exact addN
            rw [e3]
            refine ih M2 (K ++ [y]) (K1 ++ [y]) R2 (v3 + 1) m2 w (H2 m w m2 w _ j h1 (by show 0 ≤ (m2.1 950).toInt ∧ (m2.1 950).toInt ≤ 200; rw [h2]; show 0 ≤ F m 950 ∧ F m 950 ≤ 200; rw [h950]; omega) FR.rf sw0 hb) (by simp; omega) (by omega) (h9502 m2 h2) (fun i z hz => ?_) (fun i z hz => h4 _ _ (by omega) (tl i z hz)) sw2 (by rw [List.filter_append, ← ek]; simp [c2]) (fun z hz => hb z (by rw [List.append_assoc] at hz; exact hz))
            by_cases ci : i < K.length
            · rw [List.getElem?_append_left ci] at hz
              exact h4 _ _ (by omega) (hk i z hz)
            · rw [List.getElem?_append_right (by omega)] at hz
              by_cases ce : i = K.length
              · subst ce
                rw [Nat.sub_self] at hz
                have : y = z := by simpa using hz
                subst this
                exact h3
              · rw [List.getElem?_eq_none (by simp; omega)] at hz
                cases hz
end
section
set_option maxRecDepth 100000
def RQs (Fv : Int64 → Int64 → Prop) (P : Int64 → Prop) (Fv' : Int64 → Int64 → Prop) (P' : Int64 → Prop) (PR : Nat) (m w : MS) (r : Nat) (wr : Int) (o : Nat) (x : Int64) : Prop := ∃ hm s, rf (m.1 (pq r 17)) = some hm ∧ hm < PR ∧ F m (pq hm 9) = 3 ∧ (o = 24 ∨ (o < PR ∧ A w 109 o = 3)) ∧ SRs Fv P Fv' P' m w 99 0 (some hm) (m.2.1 (pq r 16)) wr o x s ∧ TE Fv' P' w PR o x
def QEs (m w : MS) (r : Nat) : Prop := m.1 (pq r 12) = w.2.2.1 113 r ∧ m.1 (pq r 13) = w.2.2.1 114 r ∧ m.1 (pq r 5) = w.2.2.1 90 r ∧ ∃ L, LSm m r L ∧ LSw w r L
def inQ (m : MS) (i r : Nat) : Prop := ∃ k : Nat, i ≤ k ∧ ((k : Nat) : Int) < F m 955 ∧ A m 54 k = ((r : Nat) : Int)
def SFs (Fv : Int64 → Int64 → Prop) (P : Int64 → Prop) (Fv' : Int64 → Int64 → Prop) (P' : Int64 → Prop) (PR : Nat) (m w : MS) : Prop := (DWc Fv P PR m ∧ CTX Fv P m) ∧ ESI Fv' P' PR w ∧ PB P' PR
def ENs (Fv : Int64 → Int64 → Prop) (P : Int64 → Prop) (Fv' : Int64 → Int64 → Prop) (P' : Int64 → Prop) (PR : Nat) (cur : Option Nat) (m w : MS) (i j : Nat) : Prop := ∃ (r : Nat) (wr : Int) (o : Nat), (r < PR ∧ some r ≠ cur ∧ F m (pq r 9) = 3) ∧ A m 54 i = ((r : Nat) : Int) ∧ A w 145 j = ((r : Nat) : Int) ∧ A w 146 j = wr ∧ A w 147 j = ((o : Nat) : Int) ∧ RQs Fv P Fv' P' PR m w r wr o (w.2.2.2 148 j) ∧ QEs m w r
def STBl (RR : Nat → MS → MS → Prop) : Prop := ∀ q m w m2 w2, RR q m w → EQn q m m2 → EQv q w w2 → PGs m w m2 w2 → RR q m2 w2
def ALr (RR : Nat → MS → MS → Prop) (m w : MS) (q : Nat) : Prop := ∃ b U B W Y, PLs b q m w U B W Y ∧ SCs q m w ∧ RR q m w
def WLs (RR : Nat → MS → MS → Prop) (PR : Nat) (Fv : Int64 → Int64 → Prop) (P : Int64 → Prop) (Fv' : Int64 → Int64 → Prop) (P' : Int64 → Prop) (cur : Option Nat) (i j : Nat) (m w : MS) : Prop :=
  SFs Fv P Fv' P' PR m w ∧
  (∃ n : Nat, F m 955 = ((i + n : Nat) : Int) ∧ F w 150 = ((j + n : Nat) : Int) ∧ (∀ k, k < n → ENs Fv P Fv' P' PR cur m w (i + k) (j + k)) ∧ ∀ k l, k < n → l < n → A m 54 (i + k) = A m 54 (i + l) → k = l) ∧
  (∀ r, r < PR → (F m (pq r 9) ≠ 3 ∧ A w 109 r ≠ 3 ∧ ALr RR m w r) ∨ (F m (pq r 9) = 3 ∧ A w 109 r = 3 ∧ (some r = cur ∨ inQ m i r ∨ DEs m w r))) ∧ STBl RR
def LOCm (d : Nat) (m m2 : MS) : Prop := ∀ k, k < 100 → m2.1 (pq d k) = m.1 (pq d k) ∧ m2.2.1 (pq d k) = m.2.1 (pq d k) ∧ m2.2.2.1 (pq d k) = m.2.2.1 (pq d k) ∧ m2.2.2.2 (pq d k) = m.2.2.2 (pq d k)
def LOCw (d : Nat) (w w2 : MS) : Prop := (∀ K i, OWi d K i → w2.2.2.1 K i = w.2.2.1 K i) ∧ (∀ K, K = 89 ∨ K = 90 ∨ K = 108 ∨ K = 132 → w2.2.2.1 K d = w.2.2.1 K d) ∧ (∀ i, 100 * d ≤ i → i < 100 * d + 100 → w2.2.2.1 131 i = w.2.2.1 131 i) ∧ w2.2.2.2 111 d = w.2.2.2 111 d ∧ (∀ i, 500 * d ≤ i → i < 500 * d + 500 → w2.2.2.2 88 i = w.2.2.2 88 i) ∧ (∀ i, 46000 * d ≤ i → i < 46000 * d + 46000 → w2.2.2.2 91 i = w.2.2.2 91 i) ∧ (∀ i, 2500 * d ≤ i → i < 2500 * d + 2500 → w2.2.2.2 93 i = w.2.2.2 93 i) ∧ ∀ i, 30 * d ≤ i → i < 30 * d + 30 → w2.2.2.2 107 i = w.2.2.2 107 i
section
variable {b : Int → Nat → Nat → Prop} {Fv Fv' : Int64 → Int64 → Prop} {P P' : Int64 → Prop} {N f PR q r o s U i j : Nat} {m w m2 w2 : MS} {t x : Int64} {wr : Int} {cur src : Option Nat} {RR : Nat → MS → MS → Prop}
theorem SRs_q (sr : SRs Fv P Fv' P' m w 99 0 (some r) t wr o x s) (h1 : r ≠ q) (h2 : o ≠ q) : SRs Fv P Fv' P' m w q U (some r) t wr o x s := by
  obtain ⟨ho, sr⟩ := sr
  refine ⟨ho, ?_⟩
  rcases sr with ⟨e, -⟩ | ⟨jj, bS, n, ow, kd, f, n', ow', kd', f', e, ⟨g1, g2, g3⟩, ⟨g4, g5, g6⟩, g7⟩
  · cases e
  · injection e with e
    subst e
    exact Or.inr ⟨r, bS, n, ow, kd, f, n', ow', kd', f', rfl, ⟨g1, g2, fun c => absurd c h1⟩, ⟨g4, g5, fun c => absurd c h2⟩, g7⟩
theorem RQs_st (h : RQs Fv P Fv' P' PR m w r wr o x) (h1 : m2.1 (pq r 17) = m.1 (pq r 17)) (h2 : m2.2.1 (pq r 16) = m.2.1 (pq r 16)) (h3 : ∀ d, F m (pq d 9) = 3 → F m2 (pq d 9) = 3 ∧ m2.2.2.2 (pq d 2) = m.2.2.2 (pq d 2)) (h4 : ∀ d, d = 24 ∨ A w 109 d = 3 → ∀ i, i < 500 → hp w2 d i = hp w d i) (h5 : ∀ d, A w 109 d = 3 → A w2 109 d = 3) (h6 : ∀ d, d = 24 ∨ A w 109 d = 3 → A w2 89 d = A w 89 d) : RQs Fv P Fv' P' PR m2 w2 r wr o x := by
  obtain ⟨hm, s, g1, g2, g3, g4, g5, g6⟩ := h
  refine ⟨hm, s, by rw [h1]; exact g1, g2, (h3 hm g3).1, ?_, ?_, ?_⟩
  · rcases g4 with g | g
    · exact Or.inl g
    · exact Or.inr ⟨g.1, h5 o g.2⟩
  · rw [h2]
    have ho := g5.1
    exact SRs_st g5 (fun jj e => by injection e with e; subst e; exact (h3 hm g3).2) (fun _ i hi => h4 o (by rcases g4 with g | g; exact Or.inl g; exact Or.inr g.2) i hi) (fun e => by omega) (fun c => by
      rcases c with c | c
      · injection c with c
        omega
      · omega)
  · have od : o = 24 ∨ A w 109 o = 3 := by
      rcases g4 with g | g
      · exact Or.inl g
      · exact Or.inr g.2
    rcases g6 with g | ⟨y1, y2, n, ow, kd, y3, y4, y5, y6⟩
    · exact Or.inl g
    · refine Or.inr ⟨y1, ?_, n, ow, kd, by rw [h6 o od]; exact y3, y4, HP_agr (fun i hi => h4 o od i (by omega)) y5, y6⟩
      rcases y2 with y | y
      · exact Or.inl y
      · exact Or.inr ⟨y.1, h5 o y.2⟩
theorem LSm_st {L : List Int} (s : LSm m r L) (h1 : m2.1 (pq r 15) = m.1 (pq r 15)) (h2 : m2.2.2.1 (pq r 14) = m.2.2.1 (pq r 14)) : LSm m2 r L := ⟨by show (m2.1 (pq r 15)).toInt = _; rw [h1]; exact s.1, s.2.1, fun i x hx => by show (m2.2.2.1 (pq r 14) i).toInt = _; rw [h2]; exact s.2.2 i x hx⟩
theorem LSw_st {L : List Int} (s : LSw w r L) (h : LOCw r w w2) : LSw w2 r L := ⟨by show (w2.2.2.1 117 r).toInt = _; rw [h.1 117 r (Or.inl ⟨by omega, rfl⟩)]; exact s.1, s.2.1, fun i x hx => by
  have hi : i < L.length := by
    apply Classical.byContradiction
    intro c
    rw [List.getElem?_eq_none (by omega)] at hx
    cases hx
  have := s.2.1
  show (w2.2.2.1 116 (24 * r + i)).toInt = _
  rw [h.1 116 _ (Or.inr (Or.inr (Or.inr ⟨rfl, by omega, by omega⟩)))]
  exact s.2.2 i x hx⟩
theorem QEs_st (h : QEs m w r) (h1 : LOCm r m m2) (h2 : LOCw r w w2) : QEs m2 w2 r := by
  obtain ⟨a1, a2, a3, L, a4, a5⟩ := h
  exact ⟨by rw [(h1 12 (by omega)).1, h2.1 113 r (Or.inl ⟨by omega, rfl⟩)]; exact a1, by rw [(h1 13 (by omega)).1, h2.1 114 r (Or.inl ⟨by omega, rfl⟩)]; exact a2, by rw [(h1 5 (by omega)).1, h2.2.1 90 (by omega)]; exact a3, L, LSm_st a4 (h1 15 (by omega)).1 (h1 14 (by omega)).2.2.1, LSw_st a5 h2⟩
theorem RZs_st (h : RZs m w r) (pg : PG0 m w m2 w2) (h1 : m2.1 (pq r 17) = m.1 (pq r 17)) (h2 : m2.2.1 (pq r 16) = m.2.1 (pq r 16)) (h3 : ∀ d, F m (pq d 9) = 3 → F m2 (pq d 9) = 3 ∧ m2.2.2.2 (pq d 2) = m.2.2.2 (pq d 2)) (h4 : w2.2.2.1 132 r = w.2.2.1 132 r) (h5 : ∀ i, 100 * r ≤ i → i < 100 * r + 100 → w2.2.2.1 131 i = w.2.2.1 131 i) : RZs m2 w2 r := by
  obtain ⟨hm, k, z, g1, g2, g3, g4, g5, g6, g7⟩ := h
  obtain ⟨⟨-, p2, p3⟩, -⟩ := pg
  have e22 : F m2 22 = F m 22 := congrArg Int32.toInt p2
  refine ⟨hm, k, z, by rw [h1]; exact g1, g2, (h3 hm g3).1, by rw [(h3 hm g3).2, e22, h2]; exact g4, g5, ?_, fun i hi => ?_⟩
  · show (w2.2.2.1 132 r).toInt = _
    rw [h4, (h3 hm g3).2, h2, p3]
    exact g6
  · rw [(h3 hm g3).2, h2, p3] at hi ⊢
    rw [h5 _ (by omega) (by omega)]
    exact g7 i hi
theorem DEs_st (h : DEs m w r) (pg : PG0 m w m2 w2) (h1 : LOCm r m m2) (h2 : LOCw r w w2) (h3 : ∀ d, F m (pq d 9) = 3 → F m2 (pq d 9) = 3 ∧ m2.2.2.2 (pq d 2) = m.2.2.2 (pq d 2)) : DEs m2 w2 r := by
  obtain ⟨a1, a2, a3, ⟨a4, a5⟩, a6, a7, a8, a9⟩ := h
  refine ⟨by show (m2.1 (pq r 9)).toInt = _; rw [(h1 9 (by omega)).1]; exact a1, by show (w2.2.2.1 109 r).toInt = _; rw [h2.1 109 r (Or.inl ⟨by omega, rfl⟩)]; exact a2, RZs_st a3 pg (h1 17 (by omega)).1 (h1 16 (by omega)).2.1 h3 (h2.2.1 132 (by omega)) h2.2.2.1, ⟨by rw [(h1 12 (by omega)).1]; exact a4, by rw [h2.1 113 r (Or.inl ⟨by omega, rfl⟩)]; exact a5⟩, by rw [(h1 13 (by omega)).1, h2.1 114 r (Or.inl ⟨by omega, rfl⟩)]; exact a6, by rw [(h1 5 (by omega)).1, h2.2.1 90 (by omega)]; exact a7, by show (m2.1 (pq r 15)).toInt = _; rw [(h1 15 (by omega)).1]; exact a8, by show (w2.2.2.1 117 r).toInt = _; rw [h2.1 117 r (Or.inl ⟨by omega, rfl⟩)]; exact a9⟩
theorem EQm_loc (pg : PG0 m w m2 w2) (h1 : LOCm r m m2) : EQm r m m2 := ⟨fun k hk _ => (h1 k hk).1, fun k hk _ => (h1 k hk).2.1, fun k hk => (h1 k hk).2.2.1, pg.1.1⟩
theorem EQw_loc (pg : PG0 m w m2 w2) (h2 : LOCw r w w2) : EQw r w w2 := ⟨h2.1, h2.2.2.2.1, pg.2.1, pg.2.2.1⟩
theorem SF_al (sf : SFs Fv P Fv' P' PR m w) (hr : r < PR) (hal : F m (pq r 9) ≠ 3) {U B W Y : Nat} (pl : PLs b r m w U B W Y) : (∃ ow kd, PTQ m r U ow kd Fv P B W Y) ∧ (∃ ow' kd', CX w r (hp w r) U ow' kd' Fv' P' W B Y) ∧ (W ≤ 46000 ∧ B ≤ 2500 ∧ Y ≤ 30) ∧ (0 ≤ F m (pq r 15) ∧ F m (pq r 15) ≤ 24) := by
  obtain ⟨⟨d, cx⟩, ⟨dw, lk, wt⟩, pb⟩ := sf
  obtain ⟨⟨⟨p1, p2, p3⟩, p4, p5⟩, ⟨p6, p7, p8⟩, ⟨p9, p10, p11⟩, p12, p13, p14⟩ := pl
  obtain ⟨s1, -, s3⟩ := d.2 r hr
  obtain ⟨n, ow, kd, B', W', Y', pt⟩ := s3 hal
  have e1 : n = U := by have := pt.1.1; omega
  have e2 : B' = B := by have := pt.2.1.1; omega
  have e3 : W' = W := by have := pt.2.2.1.1; omega
  have e4 : Y' = Y := by have := pt.2.2.2.1.1; omega
  subst e1 e2 e3 e4
  obtain ⟨n2, ow', kd', oM, bM, xM, c1, cx2⟩ := dw.2.1 r hr
  have g1 : n2 = n := by omega
  have g2 : oM = W' := by have := cx2.2.2.2.2.1.1; omega
  have g3 : bM = B' := by have := cx2.2.2.2.2.2.1.1; omega
  have g4 : xM = Y' := by have := cx2.2.2.2.2.2.2.1.1; omega
  subst g1 g2 g3 g4
  exact ⟨⟨ow, kd, pt⟩, ⟨ow', kd', cx2⟩, ⟨cx2.2.2.2.2.1.2, cx2.2.2.2.2.2.1.2, cx2.2.2.2.2.2.2.1.2⟩, s1.1⟩
theorem ALs_loc (hR : STBl RR) (sf : SFs Fv P Fv' P' PR m w) (hr : r < PR) (hal : F m (pq r 9) ≠ 3) (h : ALr RR m w r) (pg : PGs m w m2 w2) (h1 : LOCm r m m2) (h2 : LOCw r w w2) : ALr RR m2 w2 r := by
  obtain ⟨b, U, B, W, Y, pl, rs⟩ := h
  obtain ⟨-, -, ⟨b1, b2, b3⟩, b4⟩ := SF_al sf hr hal pl
  have hU := pl.1.1.2.2
  refine ⟨b, U, B, W, Y, PLs_cg pl (fun k hk => (h1 k (by simp at hk; omega)).1) (fun i _ => by rw [(h1 2 (by omega)).2.2.2]) (fun i _ => by rw [(h1 33 (by omega)).2.2.2]) (fun i _ => by rw [(h1 35 (by omega)).2.2.2]) (fun i _ => by rw [(h1 6 (by omega)).2.2.2]) (fun k hk => ?_) (fun i hi => h2.2.2.2.2.1 _ (by omega) (by omega)) (fun i hi => h2.2.2.2.2.2.2.1 _ (by omega) (by omega)) (fun i hi => h2.2.2.2.2.2.1 _ (by omega) (by omega)) (fun i hi => h2.2.2.2.2.2.2.2 _ (by omega) (by omega)), SC_eq rs.1 b4.2 (EQm_loc pg.1 h1) (EQw_loc pg.1 h2), hR _ _ _ _ _ rs.2 (EQm_loc pg.1 h1).n (EQw_loc pg.1 h2).v pg⟩
  simp only [List.mem_cons, List.not_mem_nil, or_false] at hk
  rcases hk with rfl | rfl | rfl | rfl | rfl
  · exact h2.2.1 89 (by omega)
  · exact h2.2.1 90 (by omega)
  · exact h2.1 92 r (Or.inl ⟨by omega, rfl⟩)
  · exact h2.1 94 r (Or.inl ⟨by omega, rfl⟩)
  · exact h2.2.1 108 (by omega)
theorem WL_gen (W : WLs RR PR Fv P Fv' P' cur i j m w) (s2 : SFs Fv P Fv' P' PR m2 w2)
    (dm : ∀ d, F m (pq d 9) = 3 → F m2 (pq d 9) = 3 ∧ m2.2.2.2 (pq d 2) = m.2.2.2 (pq d 2) ∧ m2.1 (pq d 17) = m.1 (pq d 17) ∧ m2.2.1 (pq d 16) = m.2.1 (pq d 16))
    (dw : ∀ d, d = 24 ∨ A w 109 d = 3 → (∀ i, i < 500 → hp w2 d i = hp w d i) ∧ A w2 89 d = A w 89 d) (dw9 : ∀ d, A w 109 d = 3 → A w2 109 d = 3)
    (qe : ∀ r, r < PR → F m (pq r 9) = 3 → some r ≠ cur → QEs m w r → QEs m2 w2 r) (de : ∀ r, r < PR → some r ≠ cur → DEs m w r → DEs m2 w2 r)
    (al : ∀ r, r < PR → F m (pq r 9) ≠ 3 → A w 109 r ≠ 3 → ALr RR m w r → (F m2 (pq r 9) ≠ 3 ∧ A w2 109 r ≠ 3 ∧ ALr RR m2 w2 r) ∨ (F m2 (pq r 9) = 3 ∧ A w2 109 r = 3 ∧ A m2 54 (F m 955).toNat = ((r : Nat) : Int) ∧ F m2 955 = F m 955 + 1))
    (Q : ∃ e e' : Nat, F m 955 = ((e : Nat) : Int) ∧ F w 150 = ((e' : Nat) : Int) ∧ (∀ k, k < e → A m2 54 k = A m 54 k) ∧ (∀ k, k < e' → (∀ K, K = 145 ∨ K = 146 ∨ K = 147 → A w2 K k = A w K k) ∧ w2.2.2.2 148 k = w.2.2.2 148 k) ∧
      ((F m2 955 = ((e : Nat) : Int) ∧ F w2 150 = ((e' : Nat) : Int)) ∨ (F m2 955 = ((e + 1 : Nat) : Int) ∧ F w2 150 = ((e' + 1 : Nat) : Int) ∧ ENs Fv P Fv' P' PR cur m2 w2 e e' ∧ ∃ q : Nat, F m (pq q 9) ≠ 3 ∧ A m2 54 e = ((q : Nat) : Int)))) : WLs RR PR Fv P Fv' P' cur i j m2 w2 := by
  obtain ⟨sf, ⟨n, q1, q2, q3, q4⟩, pr, hR⟩ := W
  obtain ⟨e, e', c1, c2, c3, c4, c5⟩ := Q
  have ee : e = i + n := by omega
  have ee' : e' = j + n := by omega
  subst ee ee'
  have old : ∀ k, k < n → ENs Fv P Fv' P' PR cur m2 w2 (i + k) (j + k) := fun k hk => by
    obtain ⟨r, wr, o, ⟨x1, x2, x3⟩, x4, x5, x6, x7, x8, x9⟩ := q3 k hk
    refine ⟨r, wr, o, ⟨x1, x2, (dm r x3).1⟩, by rw [c3 _ (by omega)]; exact x4, by rw [(c4 _ (by omega)).1 145 (by omega)]; exact x5, by rw [(c4 _ (by omega)).1 146 (by omega)]; exact x6, by rw [(c4 _ (by omega)).1 147 (by omega)]; exact x7, ?_, qe r x1 x3 x2 x9⟩
    rw [(c4 _ (by omega)).2]
    exact RQs_st x8 (dm r x3).2.2.1 (dm r x3).2.2.2 (fun d hd => ⟨(dm d hd).1, (dm d hd).2.1⟩) (fun d hd => (dw d hd).1) dw9 (fun d hd => (dw d hd).2)
  refine ⟨s2, ?_, fun r hr => ?_, hR⟩
  · rcases c5 with ⟨d1, d2⟩ | ⟨d1, d2, d6, q, d8, d7⟩
    · exact ⟨n, d1, d2, old, fun k l hk hl e => q4 k l hk hl (by rw [← c3 _ (by omega), ← c3 (i + l) (by omega)]; exact e)⟩
    · have ne : ∀ k, k < n → A m2 54 (i + k) ≠ A m2 54 (i + n) := fun k hk e => by
        obtain ⟨r, wr, o, ⟨x1, x2, x3⟩, x4, -⟩ := q3 k hk
        rw [c3 _ (by omega), x4, d7] at e
        have : r = q := by omega
        exact d8 (by rw [← this]; exact x3)
      refine ⟨n + 1, by rw [d1]; omega, by rw [d2]; omega, fun k hk => ?_, fun k l hk hl e => ?_⟩
      · by_cases c : k = n
        · subst c; exact d6
        · exact old k (by omega)
      · by_cases c : k = n
        · by_cases c2 : l = n
          · omega
          · subst c
            exact absurd e.symm (ne l (by omega))
        · by_cases c2 : l = n
          · subst c2
            exact absurd e (ne k (by omega))
          · exact q4 k l (by omega) (by omega) (by rw [← c3 _ (by omega), ← c3 (i + l) (by omega)]; exact e)
  · have l955 : F m 955 ≤ F m2 955 := by
      rcases c5 with ⟨d1, -⟩ | ⟨d1, -⟩
      · rw [c1, d1]; exact Int.le_refl _
      · rw [c1, d1]; omega
    rcases pr r hr with ⟨x1, x2, x3⟩ | ⟨x1, x2, x3⟩
    · rcases al r hr x1 x2 x3 with h | ⟨h1, h2, h3, h4⟩
      · exact Or.inl h
      · refine Or.inr ⟨h1, h2, Or.inr (Or.inl ⟨i + n, by omega, by omega, ?_⟩)⟩
        rw [c1, show ((i + n : Nat) : Int).toNat = i + n by omega] at h3
        exact h3
    · refine Or.inr ⟨(dm r x1).1, dw9 r x2, ?_⟩
      by_cases rc : some r = cur
      · exact Or.inl rc
      · rcases x3 with x3 | ⟨k, k1, k2, k3⟩ | x3
        · exact Or.inl x3
        · exact Or.inr (Or.inl ⟨k, k1, by omega, by rw [c3 k (by omega)]; exact k3⟩)
        · exact Or.inr (Or.inr (de r hr rc x3))
theorem WL_move (W : WLs RR PR Fv P Fv' P' cur i j m w) (s2 : SFs Fv P Fv' P' PR m2 w2) (pg : PGs m w m2 w2) (hq : q < PR) (hal : F m (pq q 9) ≠ 3 ∧ A w 109 q ≠ 3) (D : ∀ d, d ≠ q → LOCm d m m2 ∧ LOCw d w w2)
    (Q : ∃ e e' : Nat, F m 955 = ((e : Nat) : Int) ∧ F w 150 = ((e' : Nat) : Int) ∧ (∀ k, k < e → A m2 54 k = A m 54 k) ∧ (∀ k, k < e' → (∀ K, K = 145 ∨ K = 146 ∨ K = 147 → A w2 K k = A w K k) ∧ w2.2.2.2 148 k = w.2.2.2 148 k) ∧
      ((F m2 955 = ((e : Nat) : Int) ∧ F w2 150 = ((e' : Nat) : Int) ∧ F m2 (pq q 9) ≠ 3 ∧ A w2 109 q ≠ 3 ∧ ALr RR m2 w2 q) ∨ (F m2 955 = ((e + 1 : Nat) : Int) ∧ F w2 150 = ((e' + 1 : Nat) : Int) ∧ F m2 (pq q 9) = 3 ∧ A w2 109 q = 3 ∧ some q ≠ cur ∧ ENs Fv P Fv' P' PR cur m2 w2 e e' ∧ A m2 54 e = ((q : Nat) : Int)))) : WLs RR PR Fv P Fv' P' cur i j m2 w2 := by
  have sf := W.1
  have p24 := sf.2.1.1.1.2
  have dq : ∀ d, F m (pq d 9) = 3 → d ≠ q := fun d hd c => hal.1 (by rw [← c]; exact hd)
  have dq2 : ∀ d, d = 24 ∨ A w 109 d = 3 → d ≠ q := fun d hd c => by
    rcases hd with hd | hd
    · omega
    · exact hal.2 (by rw [← c]; exact hd)
  have f9 : ∀ d, d ≠ q → F m2 (pq d 9) = F m (pq d 9) := fun d hd => congrArg Int32.toInt ((D d hd).1 9 (by omega)).1
  have a9 : ∀ d, d ≠ q → A w2 109 d = A w 109 d := fun d hd => congrArg Int32.toInt ((D d hd).2.1 109 d (Or.inl ⟨by omega, rfl⟩))
  have dm : ∀ d, F m (pq d 9) = 3 → F m2 (pq d 9) = 3 ∧ m2.2.2.2 (pq d 2) = m.2.2.2 (pq d 2) ∧ m2.1 (pq d 17) = m.1 (pq d 17) ∧ m2.2.1 (pq d 16) = m.2.1 (pq d 16) := fun d hd => ⟨by rw [f9 d (dq d hd)]; exact hd, ((D d (dq d hd)).1 2 (by omega)).2.2.2, ((D d (dq d hd)).1 17 (by omega)).1, ((D d (dq d hd)).1 16 (by omega)).2.1⟩
  refine WL_gen W s2 dm (fun d hd => ⟨fun i hi => (D d (dq2 d hd)).2.2.2.2.2.1 _ (by omega) (by omega), congrArg Int32.toInt ((D d (dq2 d hd)).2.2.1 89 (by omega))⟩) (fun d hd => by rw [a9 d (dq2 d (Or.inr hd))]; exact hd) (fun r _ hr _ h => QEs_st h (D r (dq r hr)).1 (D r (dq r hr)).2) (fun r _ _ h => DEs_st h pg.1 (D r (dq r h.1)).1 (D r (dq r h.1)).2 (fun d hd => ⟨(dm d hd).1, (dm d hd).2.1⟩)) (fun r hr x1 x2 x3 => ?_) ?_
  · by_cases rq : r = q
    · subst rq
      obtain ⟨e, e', c1, c2, c3, c4, c5⟩ := Q
      rcases c5 with ⟨-, -, d1, d2, d3⟩ | ⟨d1, d2, d3, d4, d5, d6, d7⟩
      · exact Or.inl ⟨d1, d2, d3⟩
      · refine Or.inr ⟨d3, d4, ?_, by rw [d1, c1]; omega⟩
        rw [c1, show ((e : Nat) : Int).toNat = e by omega]
        exact d7
    · exact Or.inl ⟨by rw [f9 r rq]; exact x1, by rw [a9 r rq]; exact x2, ALs_loc W.2.2.2 sf hr x1 x3 pg (D r rq).1 (D r rq).2⟩
  · obtain ⟨e, e', c1, c2, c3, c4, c5⟩ := Q
    refine ⟨e, e', c1, c2, c3, c4, ?_⟩
    rcases c5 with ⟨d1, d2, -⟩ | ⟨d1, d2, d3, d4, d5, d6, d7⟩
    · exact Or.inl ⟨d1, d2⟩
    · exact Or.inr ⟨d1, d2, d6, q, hal.1, d7⟩
end
end
section
set_option maxRecDepth 100000
def MVs (m w m2 w2 : MS) : Prop := PGs m w m2 w2 ∧ (∀ d, F m (pq d 9) = 3 → LOCm d m m2) ∧ (∀ d, d = 24 ∨ A w 109 d = 3 → LOCw d w w2) ∧ ((∀ k, k = 49 ∨ k = 50 ∨ k = 51 → m2.2.2.1 k = m.2.2.1 k) ∧ m2.1 950 = m.1 950 ∧ m2.1 956 = m.1 956) ∧ (∀ k, k = 122 ∨ k = 123 ∨ k = 124 → w2.2.2.1 k = w.2.2.1 k) ∧ w2.1 125 = w.1 125 ∧ w2.1 149 = w.1 149
section
variable {b : Int → Nat → Nat → Prop} {Fv Fv' : Int64 → Int64 → Prop} {P P' : Int64 → Prop} {N f PR q r o s U B W Y i j d e e' hm : Nat} {m w m2 w2 m3 w3 : MS} {t x : Int64} {wr v4 : Int} {cur src : Option Nat} {RR : Nat → MS → MS → Prop}
theorem LOCm.tr (a : LOCm d m m2) (c : LOCm d m2 m3) : LOCm d m m3 := fun k hk => ⟨(c k hk).1.trans (a k hk).1, (c k hk).2.1.trans (a k hk).2.1, (c k hk).2.2.1.trans (a k hk).2.2.1, (c k hk).2.2.2.trans (a k hk).2.2.2⟩
theorem LOCw.tr (a : LOCw d w w2) (c : LOCw d w2 w3) : LOCw d w w3 := by
  obtain ⟨a1, a2, a3, a4, a5, a6, a7, a8⟩ := a
  obtain ⟨c1, c2, c3, c4, c5, c6, c7, c8⟩ := c
  exact ⟨fun K i h => (c1 K i h).trans (a1 K i h), fun K h => (c2 K h).trans (a2 K h), fun i h h' => (c3 i h h').trans (a3 i h h'), c4.trans a4, fun i h h' => (c5 i h h').trans (a5 i h h'), fun i h h' => (c6 i h h').trans (a6 i h h'), fun i h h' => (c7 i h h').trans (a7 i h h'), fun i h h' => (c8 i h h').trans (a8 i h h')⟩
theorem LOCm.rf : LOCm d m m := fun _ _ => ⟨rfl, rfl, rfl, rfl⟩
theorem LOCw.rf : LOCw d w w := ⟨fun _ _ _ => rfl, fun _ _ => rfl, fun _ _ _ => rfl, rfl, fun _ _ _ => rfl, fun _ _ _ => rfl, fun _ _ _ => rfl, fun _ _ _ => rfl⟩
theorem ATc_eq (h1 : m2.2.2.1 2 = m.2.2.1 2) (h2 : m2.2.2.1 3 = m.2.2.1 3) : ATc m2 = ATc m := by
  funext a
  unfold ATc
  rw [h1]
  congr 1
  funext i
  show (m2.2.2.1 3 i).toInt.toNat = _
  rw [h2]
  rfl
theorem PG0.tr (a : PG0 m w m2 w2) (c : PG0 m2 w2 m3 w3) : PG0 m w m3 w3 := ⟨⟨c.1.1.trans a.1.1, c.1.2.1.trans a.1.2.1, c.1.2.2.trans a.1.2.2⟩, fun K h => (c.2.1 K h).trans (a.2.1 K h), c.2.2.1.trans a.2.2.1, c.2.2.2.1.trans a.2.2.2.1, c.2.2.2.2.1.trans a.2.2.2.2.1, c.2.2.2.2.2.trans a.2.2.2.2.2⟩
theorem PGs.tr (a : PGs m w m2 w2) (c : PGs m2 w2 m3 w3) : PGs m w m3 w3 := ⟨PG0.tr a.1 c.1, fun k h1 h2 => ⟨(c.2.1 k h1 h2).1.trans (a.2.1 k h1 h2).1, (c.2.1 k h1 h2).2.trans (a.2.1 k h1 h2).2⟩, fun k h => (c.2.2 k h).trans (a.2.2 k h)⟩
theorem PGs.rf : PGs m w m w := ⟨⟨⟨rfl, rfl, rfl⟩, fun _ _ => rfl, rfl, rfl, rfl, rfl⟩, fun _ _ _ => ⟨rfl, rfl⟩, fun _ _ => rfl⟩
theorem PG0_fr {is ls as js is2 ls2 as2 js2 : List Nat} (f : FR is ls as js m m2) (g : FR is2 ls2 as2 js2 w w2) (h1 : ∀ k, k ∈ is → k ≠ 22) (h3 : ∀ k, k ∈ as → k ≠ 23 ∧ k ≠ 2 ∧ k ≠ 3) (h4 : ∀ k, k ∈ is2 → k ≠ 14) (h5 : ∀ k, k ∈ as2 → ¬ PRr k ∧ k ≠ 12 ∧ k ≠ 13) (h6 : 34 ∉ js2) : PG0 m w m2 w2 := ⟨⟨f.2.2.1 23 (fun z => (h3 23 z).1 rfl), f.1 22 (fun z => h1 22 z rfl), ATc_eq (f.2.2.1 2 (fun z => (h3 2 z).2.1 rfl)) (f.2.2.1 3 (fun z => (h3 3 z).2.2 rfl))⟩, fun K h => g.2.2.1 K (fun z => (h5 K z).1 h), g.2.2.2 34 h6, g.2.2.1 12 (fun z => (h5 12 z).2.1 rfl), g.2.2.1 13 (fun z => (h5 13 z).2.2 rfl), g.1 14 (fun z => h4 14 z rfl)⟩
theorem PGs_fr {is ls as js is2 ls2 as2 js2 : List Nat} (f : FR is ls as js m m2) (g : FR is2 ls2 as2 js2 w w2) (h1 : ∀ k, k ∈ is → k ≠ 22 ∧ ¬ (1100 ≤ k ∧ k < 1120)) (h2 : ∀ k, k ∈ ls → ¬ (1100 ≤ k ∧ k < 1120)) (h3 : ∀ k, k ∈ as → k ≠ 23 ∧ k ≠ 2 ∧ k ≠ 3) (h4 : ∀ k, k ∈ is2 → k ≠ 14 ∧ k ≠ 133 ∧ ¬ (151 ≤ k ∧ k ≤ 165)) (h5 : ∀ k, k ∈ as2 → ¬ PRr k ∧ k ≠ 12 ∧ k ≠ 13) (h6 : 34 ∉ js2) : PGs m w m2 w2 := by
  refine ⟨PG0_fr f g (fun k z => (h1 k z).1) h3 (fun k z => (h4 k z).1) h5 h6, fun k a c => ⟨f.1 k (fun z => (h1 k z).2 ⟨a, c⟩), f.2.1 k (fun z => h2 k z ⟨a, c⟩)⟩, fun k h => g.1 k (fun z => ?_)⟩
  have := h4 k z
  omega
theorem MVs.rf : MVs m w m w := ⟨PGs.rf, fun _ _ => LOCm.rf, fun _ _ => LOCw.rf, ⟨fun _ _ => rfl, rfl, rfl⟩, fun _ _ => rfl, rfl, rfl⟩
theorem pq_n {k : Nat} (h : k < 2000) {r l : Nat} : k ≠ pq r l := by unfold pq; omega
theorem PGs_xm (h : XMm q m m2) (g : XMr q w w2) : PGs m w m2 w2 := PGs_fr h g.1 (fun k hk => by simp at hk; unfold pq at hk; omega) (by simp) (by simp) (fun k hk => by simp at hk; omega) (fun k hk => by simp at hk; unfold PRr; omega) (by simp)
theorem LOCm_xm (h : XMm q m m2) (hd : d ≠ q) : LOCm d m m2 := fun k hk => by
  have n : ∀ l, l < 100 → pq d k ≠ pq q l := fun l hl c => hd (pq_e hk hl c).1
  refine ⟨h.1 _ ?_, h.2.1 _ (by simp), h.2.2.1 _ (by simp), h.2.2.2 _ ?_⟩
  · simp only [List.mem_cons, List.not_mem_nil, or_false]
    intro c
    rcases c with c | c | c
    · exact n 4 (by omega) c
    · exact n 5 (by omega) c
    · exact n 7 (by omega) c
  · simp only [List.mem_cons, List.not_mem_nil, or_false]
    intro c
    rcases c with c | c | c | c | c | c
    · exact n 2 (by omega) c
    · exact n 3 (by omega) c
    · exact n 33 (by omega) c
    · exact n 35 (by omega) c
    · exact n 6 (by omega) c
    · exact pq_n (by omega) c.symm
theorem LOCw_xm (h : XMr q w w2) (hd : d ≠ q) : LOCw d w w2 := by
  have e := EQw.xm h d
  obtain ⟨h1, h2, h3, h4, h5, h6⟩ := h
  have ai : ∀ {x y : Int32}, x.toInt = y.toInt → x = y := fun h => Int32.toInt_inj.mp h
  refine ⟨e.1, fun K hK => ?_, fun i _ _ => by rw [h1.2.2.1 131 (by simp)], e.2.1, fun i a c => h3 i (by omega), fun i a c => h4 i (by omega), fun i a c => h5 i (by omega), fun i a c => h6 i (by omega)⟩
  obtain ⟨g1, g2, g3⟩ := h2 d hd
  rcases hK with rfl | rfl | rfl | rfl
  · exact ai g1
  · exact g2
  · exact ai g3
  · rw [h1.2.2.1 132 (by simp)]
theorem enS_1 {k : Nat} (h1 : k ≠ pq q 9) (h2 : k ≠ pq q 17) (h3 : k ≠ 955) : (enS m q t hm e).1 k = m.1 k := by
  show (if k = 955 then _ else if k = pq q 17 then _ else if k = pq q 9 then _ else m.1 k) = _
  rw [if_neg h3, if_neg h2, if_neg h1]
theorem enS_2 {k : Nat} (h1 : k ≠ pq q 16) : (enS m q t hm e).2.1 k = m.2.1 k := if_neg h1
theorem enS_3 {k : Nat} (h1 : k ≠ 54) : (enS m q t hm e).2.2.1 k = m.2.2.1 k := if_neg h1
theorem enS_4 {k : Nat} : (enS m q t hm e).2.2.2 k = m.2.2.2 k := rfl
theorem enS_v : F (enS m q t hm e) (pq q 9) = 3 ∧ (enS m q t hm e).1 (pq q 17) = fr (some hm) ∧ (enS m q t hm e).2.1 (pq q 16) = t := by
  refine ⟨?_, ?_, if_pos rfl⟩
  · show (if pq q 9 = 955 then _ else if pq q 9 = pq q 17 then _ else if pq q 9 = pq q 9 then I 3 else m.1 (pq q 9)).toInt = 3
    rw [if_neg (fun c => pq_n (by omega) c.symm), if_neg (pq_inj (by omega)), if_pos rfl]
    rfl
  · show (if pq q 17 = 955 then _ else if pq q 17 = pq q 17 then fr (some hm) else _) = _
    rw [if_neg (fun c => pq_n (by omega) c.symm), if_pos rfl]
theorem enS_q (he : e < 1000) (hq : q < 1000) : F (enS m q t hm e) 955 = ((e + 1 : Nat) : Int) ∧ ∀ k, A (enS m q t hm e) 54 k = if k = e then ((q : Nat) : Int) else A m 54 k := by
  refine ⟨?_, fun k => ?_⟩
  · unfold enS
    rw [F_wi (by omega) (by omega), if_pos rfl]
  · unfold enS
    show A (wa (upI (wl (wi m (pq q 9) 3) (pq q 16) t) (pq q 17) (fr (some hm))) 54 e ((q : Nat) : Int)) 54 k = _
    rw [A_wa (by omega) (by omega), if_pos rfl]
    rfl
theorem LOCm_en (hd : d ≠ q) : LOCm d m (enS m q t hm e) := fun k hk => ⟨enS_1 (fun c => hd (pq_e hk (by omega) c).1) (fun c => hd (pq_e hk (by omega) c).1) (fun c => pq_n (by omega) c.symm), enS_2 (fun c => hd (pq_e hk (by omega) c).1), enS_3 (fun c => pq_n (by omega) c.symm), rfl⟩
theorem enR_fr : FR [150] [] [109, 145, 146, 147] [148] w (enR w q wr ((o : Nat) : Int) x e) := FR.wi (FR.wj (FR.wa (FR.wa (FR.wa (FR.wa FR.rf (by simp)) (by simp)) (by simp)) (by simp)) (by simp)) (by simp)
theorem enR_9 : ∀ k, A (enR w q wr ((o : Nat) : Int) x e) 109 k = if k = q then 3 else A w 109 k := fun k => by
  show A (wa (wa (wa (wa w 109 q 3) 145 e ((q : Nat) : Int)) 146 e wr) 147 e ((o : Nat) : Int)) 109 k = _
  show A (wa w 109 q 3) 109 k = _
  rw [A_wa (by omega) (by omega), if_pos rfl]
theorem enR_q (he : e < 10000) (hq : q < 1000) (ho : o < 1000) (hw : RG wr) : F (enR w q wr ((o : Nat) : Int) x e) 150 = ((e + 1 : Nat) : Int) ∧ (∀ k, A (enR w q wr ((o : Nat) : Int) x e) 145 k = if k = e then ((q : Nat) : Int) else A w 145 k) ∧ (∀ k, A (enR w q wr ((o : Nat) : Int) x e) 146 k = if k = e then wr else A w 146 k) ∧ (∀ k, A (enR w q wr ((o : Nat) : Int) x e) 147 k = if k = e then ((o : Nat) : Int) else A w 147 k) ∧ ∀ k, (enR w q wr ((o : Nat) : Int) x e).2.2.2 148 k = if k = e then x else w.2.2.2 148 k := by
  refine ⟨?_, fun k => ?_, fun k => ?_, fun k => ?_, fun k => ?_⟩
  · unfold enR
    rw [F_wi (by omega) (by omega), if_pos rfl]
  · show A (wa (wa (wa (wa w 109 q 3) 145 e ((q : Nat) : Int)) 146 e wr) 147 e ((o : Nat) : Int)) 145 k = _
    rw [wa_rne (by omega), wa_rne (by omega), wa_ro (by omega) (by omega), wa_rne (by omega)]
  · show A (wa (wa (wa (wa w 109 q 3) 145 e ((q : Nat) : Int)) 146 e wr) 147 e ((o : Nat) : Int)) 146 k = _
    rw [wa_rne (by omega), wa_ro hw.1 hw.2, wa_rne (by omega), wa_rne (by omega)]
  · show A (wa (wa (wa (wa w 109 q 3) 145 e ((q : Nat) : Int)) 146 e wr) 147 e ((o : Nat) : Int)) 147 k = _
    rw [wa_ro (by omega) (by omega), wa_rne (by omega), wa_rne (by omega), wa_rne (by omega)]
  · show (wj (wa (wa (wa (wa w 109 q 3) 145 e ((q : Nat) : Int)) 146 e wr) 147 e ((o : Nat) : Int)) 148 e x).2.2.2 148 k = _
    rw [wj_row]
    rfl
theorem LOCw_en (hd : d ≠ q) : LOCw d w (enR w q wr ((o : Nat) : Int) x e) := by
  have f := enR_fr (w := w) (q := q) (wr := wr) (o := o) (x := x) (e := e)
  have a9 := enR_9 (w := w) (q := q) (wr := wr) (o := o) (x := x) (e := e)
  refine ⟨fun K i h => ?_, fun K h => by rw [f.2.2.1 K (by simp; omega)], fun i _ _ => by rw [f.2.2.1 131 (by simp)], by rw [f.2.2.2 111 (by simp)], fun i _ _ => by rw [f.2.2.2 88 (by simp)], fun i _ _ => by rw [f.2.2.2 91 (by simp)], fun i _ _ => by rw [f.2.2.2 93 (by simp)], fun i _ _ => by rw [f.2.2.2 107 (by simp)]⟩
  by_cases c : K = 109
  · subst c
    have : i = d := by
      rcases h with h | h | h | h
      · exact h.2
      · omega
      · omega
      · omega
    subst this
    have g := a9 i
    rw [if_neg hd] at g
    exact Int32.toInt_inj.mp g
  · rw [f.2.2.1 K (by
      simp only [List.mem_cons, List.not_mem_nil, or_false]
      rcases h with ⟨h, -⟩ | ⟨h, -⟩ | ⟨h, -⟩ | ⟨h, -⟩ <;> omega)]
theorem PGs_en : PGs m w (enS m q t hm e) (enR w q wr ((o : Nat) : Int) x e') := by
  have f : FR [pq q 9, pq q 17, 955] [pq q 16] [54] [] m (enS m q t hm e) := ⟨fun k hk => enS_1 (fun c => hk (by simp [c])) (fun c => hk (by simp [c])) (fun c => hk (by simp [c])), fun k hk => enS_2 (fun c => hk (by simp [c])), fun k hk => enS_3 (fun c => hk (by simp [c])), fun _ _ => rfl⟩
  exact PGs_fr f enR_fr (fun k hk => by simp at hk; unfold pq at hk; omega) (fun k hk => by simp at hk; unfold pq at hk; omega) (fun k hk => by simp at hk; omega) (fun k hk => by simp at hk; omega) (fun k hk => by simp at hk; unfold PRr; omega) (by simp)
end
end
section
set_option maxRecDepth 100000
section
variable {b : Int → Nat → Nat → Prop} {Fv Fv' : Int64 → Int64 → Prop} {P P' : Int64 → Prop} {N f PR q r o s U B W Y i j d e e' hm : Nat} {m w m1 w1 m2 w2 m3 w3 : MS} {t x : Int64} {wr v4 : Int} {cur src : Option Nat} {RR : Nat → MS → MS → Prop}
theorem lgc_eq (x y : Int64) : lg_cmp x y = 0 ↔ x = y := by
  unfold lg_cmp
  simp only [gt_iff_lt, Int64.lt_iff_toInt_lt, ← Int64.toInt_inj]
  repeat' split
  all_goals (constructor <;> intro h <;> first | omega | exact absurd h (by decide) | decide | rfl)
theorem LSw_fr {L : List Int} (s : LSw w r L) (h1 : w2.2.2.1 116 = w.2.2.1 116) (h2 : w2.2.2.1 117 = w.2.2.1 117) : LSw w2 r L := ⟨by show (w2.2.2.1 117 r).toInt = _; rw [h2]; exact s.1, s.2.1, fun i x hx => by show (w2.2.2.1 116 (24 * r + i)).toInt = _; rw [h1]; exact s.2.2 i x hx⟩
theorem WTQ_fr {is ls as js : List Nat} (l : WTQ w PR) (f : FR is ls as js w w2) (a0 : 125 ∉ is) (a1 : 123 ∉ as) (a2 : 124 ∉ as) : WTQ w2 PR := by
  obtain ⟨l1, l2, l3⟩ := l
  have e := FR.F f a0
  refine ⟨by rw [e]; exact l1, by rw [e]; exact l2, fun i hi => ?_⟩
  rw [e] at hi
  rw [FR.A f a1, FR.A f a2]
  exact l3 i hi
theorem SRs_lit (h1 : ¬ isH t) (h6 : so t = 6 → va t = 0) (hP : P t) (hP' : P' t) (ho : o < 25) (hh : hm < 99) : SRs Fv P Fv' P' m w 99 0 (some hm) t 0 o t 0 := by
  refine ⟨ho, Or.inr ⟨hm, fun _ _ _ => False, 0, fun _ => 1, fun _ => 0, 1, 0, fun _ => 1, fun _ => 0, 1, rfl, ⟨fun u hu g => ?_, by omega, fun c => by omega⟩, ⟨fun u hu g => ?_, by omega, fun c => by omega⟩, ⟨fun u y z q => ?_, trivial, fun k a c q => q.elim⟩, Or.inl ⟨h1, hP, rfl⟩, Or.inl ⟨rfl, RTb_lit h1 h6, Or.inl ⟨h1, hP', rfl⟩⟩⟩⟩
  · rcases g with ⟨z, -⟩ | ⟨-, -, z, -⟩
    · exact absurd hu z
    · omega
  · rcases g with ⟨z, -⟩ | ⟨-, -, z, -⟩
    · exact absurd hu z
    · omega
  · exact (RTb_h q z).2.elim
theorem wl_end (W : WLs RR PR Fv P Fv' P' cur i j m w) (hq : q < PR) (hal : F m (pq q 9) ≠ 3 ∧ A w 109 q ≠ 3) (hc : some q ≠ cur) (x1 : XMm q m m1) (x2 : XMr q w w1) (he : F m 955 = ((e : Nat) : Int) ∧ e < 24) (he' : F w 150 = ((e' : Nat) : Int) ∧ e' < 4000) (h5 : m1.1 (pq q 5) = w1.2.2.1 90 q) (hw : RG wr) (ho : o < 25) (s2 : SFs Fv P Fv' P' PR (enS m1 q t hm e) (enR w1 q wr ((o : Nat) : Int) x e')) (rq : RQs Fv P Fv' P' PR (enS m1 q t hm e) (enR w1 q wr ((o : Nat) : Int) x e') q wr o x) : WLs RR PR Fv P Fv' P' cur i j (enS m1 q t hm e) (enR w1 q wr ((o : Nat) : Int) x e') ∧ MVs m w (enS m1 q t hm e) (enR w1 q wr ((o : Nat) : Int) x e') ∧ ∀ d, d ≠ q → LOCm d m (enS m1 q t hm e) ∧ LOCw d w (enR w1 q wr ((o : Nat) : Int) x e') := by
  have p24 := W.1.2.1.1.1.2
  have W0 := W
  obtain ⟨sf, -, pr, hR⟩ := W
  obtain ⟨b, U, B, Wt, Y, pl, rs⟩ : ALr RR m w q := by
    rcases pr q hq with h | h
    · exact h.2.2
    · exact absurd h.1 hal.1
  obtain ⟨-, -, -, b4⟩ := SF_al sf hq hal.1 pl
  obtain ⟨L, l1, l2⟩ := LS_of rs.1 b4
  have fr := enR_fr (w := w1) (q := q) (wr := wr) (o := o) (x := x) (e := e')
  have n9 : ∀ k, k < 100 → k ≠ 4 → k ≠ 5 → k ≠ 7 → k ≠ 9 → k ≠ 17 → (enS m1 q t hm e).1 (pq q k) = m.1 (pq q k) := fun k h0 h1 h2 h3 h4 h5 => by
    rw [enS_1 (pq_inj h4) (pq_inj h5) (fun c => pq_n (by omega) c.symm)]
    exact x1.1 _ (by
      simp only [List.mem_cons, List.not_mem_nil, or_false]
      intro c
      rcases c with c | c | c
      · exact pq_inj h1 c
      · exact pq_inj h2 c
      · exact pq_inj h3 c)
  have aw : ∀ K, K = 113 ∨ K = 114 ∨ K = 116 ∨ K = 117 → (enR w1 q wr ((o : Nat) : Int) x e').2.2.1 K = w.2.2.1 K := fun K h => by rw [fr.2.2.1 K (by simp; omega), x2.1.2.2.1 K (by simp; omega)]
  have qe : QEs (enS m1 q t hm e) (enR w1 q wr ((o : Nat) : Int) x e') q := ⟨by rw [n9 12 (by omega) (by omega) (by omega) (by omega) (by omega) (by omega), aw 113 (by omega)]; exact rs.1.1, by rw [n9 13 (by omega) (by omega) (by omega) (by omega) (by omega) (by omega), aw 114 (by omega)]; exact rs.1.2.1, by rw [enS_1 (pq_inj (by omega)) (pq_inj (by omega)) (fun c => pq_n (by omega) c.symm), fr.2.2.1 90 (by simp)]; exact h5, L, LSm_st l1 (n9 15 (by omega) (by omega) (by omega) (by omega) (by omega) (by omega)) (by rw [enS_3 (fun c => pq_n (by omega) c.symm)]; exact x1.2.2.1 _ (by simp)), LSw_fr l2 (aw 116 (by omega)) (aw 117 (by omega))⟩
  obtain ⟨k1, k2⟩ := enS_q (m := m1) (t := t) (hm := hm) (show e < 1000 by omega) (show q < 1000 by omega)
  obtain ⟨r1, r2, r3, r4, r5⟩ := enR_q (w := w1) (x := x) (show e' < 10000 by omega) (show q < 1000 by omega) (show o < 1000 by omega) hw
  have v := enS_v (m := m1) (q := q) (t := t) (hm := hm) (e := e)
  have a9 := enR_9 (w := w1) (q := q) (wr := wr) (o := o) (x := x) (e := e')
  have pg : PGs m w (enS m1 q t hm e) (enR w1 q wr ((o : Nat) : Int) x e') := PGs.tr (PGs_xm x1 x2) PGs_en
  have D : ∀ d, d ≠ q → LOCm d m (enS m1 q t hm e) ∧ LOCw d w (enR w1 q wr ((o : Nat) : Int) x e') := fun d hd => ⟨LOCm.tr (LOCm_xm x1 hd) (LOCm_en hd), LOCw.tr (LOCw_xm x2 hd) (LOCw_en hd)⟩
  refine ⟨WL_move W0 s2 pg hq hal D ⟨e, e', he.1, he'.1, fun k hk => ?_, fun k hk => ⟨fun K hK => ?_, ?_⟩, Or.inr ⟨k1, r1, v.1, ?_, hc, ⟨q, wr, o, ⟨hq, hc, v.1⟩, ?_, ?_, ?_, ?_, ?_, qe⟩, ?_⟩⟩, ⟨pg, fun d hd => (D d (fun c => hal.1 (by rw [← c]; exact hd))).1, fun d hd => (D d (fun c => ?_)).2, ⟨fun k hk => ?_, ?_, ?_⟩, fun k hk => ?_, ?_, ?_⟩, D⟩
  · rw [k2, if_neg (by omega), FR.A x1 (by simp)]
  · rcases hK with rfl | rfl | rfl
    · rw [r2, if_neg (by omega), FR.A x2.1 (by simp)]
    · rw [r3, if_neg (by omega), FR.A x2.1 (by simp)]
    · rw [r4, if_neg (by omega), FR.A x2.1 (by simp)]
  · rw [r5, if_neg (by omega), x2.1.2.2.2 148 (by simp)]
  · rw [a9, if_pos rfl]
  · rw [k2, if_pos rfl]
  · rw [r2, if_pos rfl]
  · rw [r3, if_pos rfl]
  · rw [r4, if_pos rfl]
  · rw [r5, if_pos rfl]; exact rq
  · rw [k2, if_pos rfl]
  · rcases hd with hd | hd
    · omega
    · exact hal.2 (by rw [← c]; exact hd)
  · rw [enS_3 (by omega), x1.2.2.1 k (by simp)]
  · rw [enS_1 (pq_n (by omega)) (pq_n (by omega)) (by omega), x1.1 950 (by simp [pq_n])]
  · rw [enS_1 (pq_n (by omega)) (pq_n (by omega)) (by omega), x1.1 956 (by simp [pq_n])]
  · rw [fr.2.2.1 k (by simp; omega), x2.1.2.2.1 k (by simp; omega)]
  · rw [fr.1 125 (by simp), x2.1.1 125 (by simp)]
  · rw [fr.1 149 (by simp), x2.1.1 149 (by simp)]
theorem SF_e (sf : SFs Fv P Fv' P' PR m w) (hq : q < PR) (hal : F m (pq q 9) ≠ 3) : (∃ e : Nat, F m 955 = ((e : Nat) : Int) ∧ e < 24) ∧ ∃ e' : Nat, F w 150 = ((e' : Nat) : Int) ∧ e' < 4000 := by
  obtain ⟨⟨d, cx⟩, ⟨dw, lk, wt⟩, pb⟩ := sf
  have p24 := dw.1.2
  refine ⟨⟨cEc m PR, d.1.2.2.2.1.1, ?_⟩, ?_⟩
  · have := cEc_lt (m := m) (q := q) PR hq hal
    omega
  · obtain ⟨eF, eM, h1, h2, h3, h4, -⟩ := dw.2.2.2.2.1
    have := cE_le w PR
    exact ⟨eM, h2, by omega⟩
theorem RQ_src (rq : RQs Fv P Fv' P' PR m w r wr o x) : ∃ hm s, rf (m.1 (pq r 17)) = some hm ∧ hm < PR ∧ F m (pq hm 9) = 3 ∧ (o = 24 ∨ (o < PR ∧ A w 109 o = 3)) ∧ SRs Fv P Fv' P' m w 99 0 (some hm) (m.2.1 (pq r 16)) wr o x s ∧ TE Fv' P' w PR o x ∧ (wr = 0 ∨ wr = 1 ∨ wr = 2) ∧ o < 25 ∧ ∃ n ow kd, n ≤ 512 ∧ HPc (m.2.2.2 (pq hm 2)) n ow kd Fv P ∧ GT n ow kd P (m.2.1 (pq r 16)) := by
  obtain ⟨hm, s, g1, g2, g3, g4, g5, g6⟩ := rq
  obtain ⟨z, n', owx, kdx, fx, y1, y2, y3, y4, y5⟩ := SRs_z g5
  refine ⟨hm, s, g1, g2, g3, g4, g5, g6, by omega, g5.1, ?_⟩
  obtain ⟨-, sr⟩ := g5
  rcases sr with ⟨y, -⟩ | ⟨j', bS, n, ow, kd, f, n', ow', kd', f', e, ⟨g1, g2, g3⟩, -, -, g8, -⟩
  · cases y
  · injection e with e
    subst e
    exact ⟨n, ow, kd, g2, g1, SZ_gtc g8⟩
theorem wl_msg {a sort p U B Wt Y : Nat} {ow kd ow' kd' : Nat → Nat} (hz : (a = 0 ∧ sort = 2) ∨ (a = 4 ∧ sort = 0) ∨ (a = 5 ∧ sort = 1)) (W : WLs RR PR Fv P Fv' P' cur i j m w) (hq : q < PR) (hal : F m (pq q 9) ≠ 3) (h9 : A w 109 q ≠ 3) (qc : some q ≠ cur) (pl : PLs b q m w U B Wt Y) (rs : SCs q m w ∧ RR q m w) (pt : PTQ m q U ow kd Fv P B Wt Y) (cw : CX w q (hp w q) U ow' kd' Fv' P' Wt B Y) (hs : (SRs Fv P Fv' P' m w q U src t wr o x s ∧ src ≠ some q ∧ (src = none ∨ o ≠ q)) ∨ OWs b Fv P P' m q U Wt ow kd ow' kd' src t wr o x s) (sc : SRCc Fv P PR m q t src) (tm : TM Fv' P' w q o x) (hw : 0 ≤ wr ∧ wr ≤ 2) (hp1 : p < 1000000) (hp2 : sort < 2 → p < PR) (h4 : RG v4) (hN : 3000000 ≤ N) :
    PP (fun m2 (_ : Unit) w2 (_ : Unit) => WLs RR PR Fv P Fv' P' cur i j m2 w2 ∧ MVs m w m2 w2 ∧ ∀ d, d ≠ q → LOCm d m m2 ∧ LOCw d w w2) (hm_Wl_post N m q (I ((a : Nat) : Int)) (I ((p : Nat) : Int)) (I v4) t src) (fm_M_message N w (I q) (I ((sort : Nat) : Int)) (I v4) (I ((p : Nat) : Int)) (I wr) (I ((o : Nat) : Int)) x) := by
  have W0 := W
  obtain ⟨sf, -, pr, hR⟩ := W
  have sf0 := sf
  obtain ⟨⟨d, cx⟩, ⟨dw, lk, wt⟩, pb⟩ := sf
  have p24 := dw.1.2
  obtain ⟨-, -, -, b4⟩ := SF_al sf0 hq hal pl
  obtain ⟨⟨e, he⟩, e', he'⟩ := SF_e sf0 hq hal
  have hp := pp_pr (pp_pl (post_pp (N := N) (v3 := ((p : Nat) : Int)) (v4 := v4) hz (by omega) hal h9 pl pt cx cw hs he he' (by omega)) (pk_ok (post_ok (N := N) (v3 := ((p : Nat) : Int)) (v4 := v4) d cx hq (show a = 0 ∨ a = 4 ∨ a = 5 by omega) ⟨by omega, by omega⟩ h4 sc (by omega)))) (pk_ok (message_ok (N := N) (sort := sort) (p := p) dw hq pb (by omega) hp2 h4 (by omega) hw (fun _ => tm) (by omega)))
  refine pp_mo hp (fun m2 _ w2 _ h => ?_)
  obtain ⟨⟨mp, dc2, wf, e956, st⟩, mg⟩ := h
  have sf2 : SFs Fv P Fv' P' PR m2 w2 := ⟨⟨dc2, CTX_fr cx (wf.2.1 22 (by omega) (by simp)) (wf.2.2.2.1 3 (by omega) (by simp))⟩, ⟨mg.1, LK_fr lk mg.2.1 (by simp) (by simp), WTQ_fr wt mg.2.1 (by simp) (by simp) (by simp)⟩, pb⟩
  rcases mp with ⟨-, rfl, rfl⟩ | ⟨m1, w1, x1, x2, x5, rfl, rfl⟩ | ⟨hY, U2, ⟨b2, pl2⟩, x1, x2⟩
  · exact ⟨W0, MVs.rf, fun _ _ => ⟨LOCm.rf, LOCw.rf⟩⟩
  · have v := enS_v (m := m1) (q := q) (t := mk 1 20) (hm := q) (e := e)
    have a9 := enR_9 (w := w1) (q := q) (wr := 0) (o := q) (x := mk 1 20) (e := e')
    have p20 : P (mk 1 20) := cx.2.2.2.2.2.1 20 (by omega) (by have := cx.2.2.2.1; omega)
    have p20' : P' (mk 1 20) := pb.1 20 (by omega) (by omega)
    have so1 : so (mk 1 20) = 1 := so_mk (by omega) (by omega)
    refine wl_end W0 hq ⟨hal, h9⟩ qc x1 x2 he he' x5 ⟨by omega, by omega⟩ (by omega) sf2 ⟨q, 0, by rw [v.2.1]; exact rf_some (by omega), hq, v.1, Or.inr ⟨hq, by rw [a9, if_pos rfl]⟩, ?_, Or.inl ⟨nh_mk (by omega), p20'⟩⟩
    rw [v.2.2]
    exact SRs_lit (nh_mk (by omega)) (fun c => by omega) p20 p20' (by omega) (by omega)
  · have pg := PGs_xm x1 x2
    have D : ∀ d, d ≠ q → LOCm d m m2 ∧ LOCw d w w2 := fun d hd => ⟨LOCm_xm x1 hd, LOCw_xm x2 hd⟩
    refine ⟨WL_move W0 sf2 pg hq ⟨hal, h9⟩ D ⟨e, e', he.1, he'.1, fun k _ => FR.A x1 (by simp), fun k _ => ⟨fun K hK => FR.A x2.1 (by simp; omega), by rw [x2.1.2.2.2 148 (by simp)]⟩, Or.inl ⟨?_, ?_, ?_, ?_, b2, U2, B, Wt, Y + 1, pl2, SC_eq rs.1 b4.2 (EQm.xm x1 q) (EQw.xm x2 q), hR _ _ _ _ _ rs.2 (EQm.xm x1 q).n (EQw.xm x2 q).v pg⟩⟩, ⟨pg, fun d hd => (D d (fun c => hal (by rw [← c]; exact hd))).1, fun d hd => (D d (fun c => ?_)).2, ⟨fun k hk => x1.2.2.1 k (by simp), x1.1 950 (by simp [pq_n]), x1.1 956 (by simp [pq_n])⟩, fun k hk => x2.1.2.2.1 k (by simp; omega), x2.1.1 125 (by simp), x2.1.1 149 (by simp)⟩, D⟩
    · rw [FR.F x1 (by simp [pq_n])]; exact he.1
    · rw [FR.F x2.1 (by simp)]; exact he'.1
    · rw [FR.F x1 (by simp; exact ⟨pq_inj (by omega), pq_inj (by omega), pq_inj (by omega)⟩)]; exact hal
    · rw [FR.A x2.1 (by simp)]; exact h9
    · rcases hd with hd | hd
      · omega
      · exact h9 (by rw [← c]; exact hd)
theorem wl_come {a sort : Nat} (hz : (a = 0 ∧ sort = 2) ∨ (a = 4 ∧ sort = 0) ∨ (a = 5 ∧ sort = 1)) (W : WLs RR PR Fv P Fv' P' cur i j m w) (hq : q < PR) (hr : r < PR) (hc : ∀ c, cur = some c → F m (pq c 9) = 3) (rq : RQs Fv P Fv' P' PR m w r wr o x) (h4 : RG v4) (hN : 3000000 ≤ N) :
    PP (fun m2 (_ : Unit) w2 (_ : Unit) => WLs RR PR Fv P Fv' P' cur i j m2 w2 ∧ MVs m w m2 w2) (hm_Wl_post N m q (I ((a : Nat) : Int)) (I ((r : Nat) : Int)) (I v4) (m.2.1 (pq r 16)) (rf (m.1 (pq r 17)))) (fm_M_message N w (I q) (I ((sort : Nat) : Int)) (I v4) (I ((r : Nat) : Int)) (I wr) (I ((o : Nat) : Int)) x) := by
  obtain ⟨hm, s, g1, g2, g3, g4, g5, g6, g7, g8, n9, ow9, kd9, g9, g10, g11⟩ := RQ_src rq
  have W0 := W
  obtain ⟨sf, -, pr, hR⟩ := W
  have p24 := sf.2.1.1.1.2
  rw [g1]
  by_cases hal : F m (pq q 9) = 3
  · have h9 : A w 109 q = 3 := by
      rcases pr q hq with h | h
      · exact absurd hal h.1
      · exact h.2.1
    rw [post_dead hal, message_dead (by omega) h9]
    exact pp_end ⟨W0, MVs.rf⟩
  · obtain ⟨h9, al⟩ : A w 109 q ≠ 3 ∧ ALr RR m w q := by
      rcases pr q hq with h | h
      · exact h.2
      · exact absurd h.1 hal
    obtain ⟨b, U, B, Wt, Y, pl, rs⟩ := al
    obtain ⟨⟨ow, kd, pt⟩, ⟨ow', kd', cw⟩, bd, b4⟩ := SF_al sf hq hal pl
    have hmq : hm ≠ q := fun c => hal (by rw [← c]; exact g3)
    have oq : o ≠ q := fun c => by
      rcases g4 with g | g
      · omega
      · exact h9 (by rw [← c]; exact g.2)
    have qc : some q ≠ cur := fun c => hal (hc q c.symm)
    have sc : SRCc Fv P PR m q (m.2.1 (pq r 16)) (some hm) := Or.inr ⟨hm, n9, ow9, kd9, rfl, g2, g9, g10, g11, fun c => absurd c hmq⟩
    have tm : TM Fv' P' w q o x := by
      rcases g6 with g | g
      · exact Or.inl ⟨g8, g.1, g.2⟩
      · exact Or.inr (Or.inl ⟨g8, oq, g.2.2⟩)
    exact pp_mo (wl_msg hz W0 hq hal h9 qc pl rs pt cw (Or.inl ⟨SRs_q g5 hmq oq, fun c => hmq (by injection c), Or.inr oq⟩) sc tm (by omega) (by omega) (fun _ => hr) h4 hN) (fun m2 _ w2 _ h => ⟨h.1, h.2.1⟩)
theorem wl_sig (W : WLs RR PR Fv P Fv' P' cur i j m w) (hq : q < PR) (hr : r < PR) (hrd : F m (pq r 9) = 3) (hc : ∀ c, cur = some c → F m (pq c 9) = 3) (rq : RQs Fv P Fv' P' PR m w r wr o x) (hN : 3000000 ≤ N) :
    PP (fun m2 (_ : Unit) w2 (_ : Unit) => WLs RR PR Fv P Fv' P' cur i j m2 w2 ∧ MVs m w m2 w2) (hm_Wl_signal N m (I ((r : Nat) : Int)) q (m.2.1 (pq r 16)) (rf (m.1 (pq r 17)))) (fm_M_signal N w (I q) (I ((r : Nat) : Int)) (I wr) (I ((o : Nat) : Int)) x) := by
  obtain ⟨hm, s, g1, g2, g3, g4, g5, g6, g7, g8, n9, ow9, kd9, g9, g10, g11⟩ := RQ_src rq
  have W0 := W
  obtain ⟨sf, -, pr, hR⟩ := W
  have sf0 := sf
  obtain ⟨⟨d, cx⟩, ⟨dw, lk, wt⟩, pb⟩ := sf
  have p24 := dw.1.2
  by_cases hal : F m (pq q 9) = 3
  · have h9 : A w 109 q = 3 := by
      rcases pr q hq with h | h
      · exact absurd hal h.1
      · exact h.2.1
    unfold hm_Wl_signal hb_Wl_signal_0 fm_M_signal fb_M_signal_0
    refine r_ck (fun _ => ?_)
    rw [I_F' hal, tnI (n := q) rfl (by omega), I_A' h9, show decide (I 3 = 3) = true from rfl, br_tq, br_tq]
    exact pp_end ⟨W0, MVs.rf⟩
  · obtain ⟨h9, al⟩ : A w 109 q ≠ 3 ∧ ALr RR m w q := by
      rcases pr q hq with h | h
      · exact h.2
      · exact absurd h.1 hal
    obtain ⟨b, U, B, Wt, Y, pl, rs⟩ := al
    have hmq : hm ≠ q := fun c => hal (by rw [← c]; exact g3)
    have rq' : r ≠ q := fun c => hal (by rw [← c]; exact hrd)
    have oq : o ≠ q := fun c => by
      rcases g4 with g | g
      · omega
      · exact h9 (by rw [← c]; exact g.2)
    obtain ⟨⟨e, he⟩, e', he'⟩ := SF_e sf0 hq hal
    have qc : some q ≠ cur := fun c => hal (hc q c.symm)
    have sc : SRCc Fv P PR m q (m.2.1 (pq r 16)) (some hm) := Or.inr ⟨hm, n9, ow9, kd9, rfl, g2, g9, g10, g11, fun c => absurd c hmq⟩
    have raw : PP (fun m2 (_ : Unit) w2 (_ : Unit) => (WLs RR PR Fv P Fv' P' cur i j m2 w2 ∧ MVs m w m2 w2) ∨ (m2 = enS m q (m.2.1 (pq r 16)) hm e ∧ w2 = enR w q wr ((o : Nat) : Int) x e')) (hm_Wl_signal N m (I ((r : Nat) : Int)) q (m.2.1 (pq r 16)) (rf (m.1 (pq r 17)))) (fm_M_signal N w (I q) (I ((r : Nat) : Int)) (I wr) (I ((o : Nat) : Int)) x) := by
      have n3 : ¬ m.1 (pq q 9) = 3 := fun z => hal (by show (m.1 (pq q 9)).toInt = 3; rw [z]; rfl)
      have n3' : ¬ w.2.2.1 109 q = 3 := fun z => h9 (by show (w.2.2.1 109 q).toInt = 3; rw [z]; rfl)
      unfold hm_Wl_signal hb_Wl_signal_0 fm_M_signal fb_M_signal_0 fb_M_signal_61 fb_M_signal_51
      refine r_ck (fun _ => ?_)
      rw [tnI (n := q) rfl (by omega), decide_eq_false n3, br_fq, decide_eq_false n3', br_fq]
      refine r_ck (fun _ => ?_)
      rw [← rs.1.2.2.1]
      by_cases tr : m.1 (pq q 11) = 0
      · rw [decide_eq_true tr, br_tq, br_tq]
        have en : PP (fun m2 (_ : Unit) w2 (_ : Unit) => (WLs RR PR Fv P Fv' P' cur i j m2 w2 ∧ MVs m w m2 w2) ∨ (m2 = enS m q (m.2.1 (pq r 16)) hm e ∧ w2 = enR w q wr ((o : Nat) : Int) x e')) (hb_Wl_signal_43 N () m (I ((r : Nat) : Int)) q (m.2.1 (pq r 16)) (rf (m.1 (pq r 17))) 0) (bnd (fm_M_willEnd N w (I q) (I wr) (I ((o : Nat) : Int)) x) (fun u1 _ => some (u1, ()))) := by
          unfold hb_Wl_signal_43 hb_Wl_signal_59 hb_Wl_signal_121
          rw [show decide ((0 : Int32) = 0) = true from rfl, br_tq, g1, show decide ((some hm : Option Nat) = none) = false from rfl, br_fq, decide_eq_false (show ¬ (some hm : Option Nat) = some q from fun c => hmq (by injection c)), br_fq, bo_s, I_F' g3, show decide (I 3 = 3) = true from rfl, br_tq, endsW_e (e := e) hal he.1 he.2, bnd_so, willE_e (e := e') (by omega) h9 he'.1 he'.2 (by omega), bnd_so]
          exact pp_end (Or.inr ⟨rfl, rfl⟩)
        have c43 : PP (fun m2 (_ : Unit) w2 (_ : Unit) => (WLs RR PR Fv P Fv' P' cur i j m2 w2 ∧ MVs m w m2 w2) ∨ (m2 = enS m q (m.2.1 (pq r 16)) hm e ∧ w2 = enR w q wr ((o : Nat) : Int) x e')) (hb_Wl_signal_43 N () m (I ((r : Nat) : Int)) q (m.2.1 (pq r 16)) (rf (m.1 (pq r 17))) 1) (some (w, ())) := by
          unfold hb_Wl_signal_43
          rw [show decide ((1 : Int32) = 0) = false from rfl, br_fq, show Int32.ofNat q = I ((q : Nat) : Int) from rfl, decE (by omega) (by omega) (by omega) (by omega), decide_eq_false (by omega), br_fq]
          exact pp_end (Or.inl ⟨W0, MVs.rf⟩)
        rw [lit1q, show (4 : Int32) = I 4 from rfl, e_make, bnd_so, term_e, bnd_so, ← lit1q]
        have d0 : ∀ y : Int64, decide (lg_cmp y (mk 1 4) = 0) = decide (y = mk 1 4) := fun y => decide_eq_decide.mpr (lgc_eq y _)
        rw [d0, d0, lit0q, decE (by omega) (by omega) (by omega) (by omega), ← lit0q]
        have nm : (m.2.1 (pq r 16) = mk 1 4) ↔ (wr = 0 ∧ x = mk 1 4) := by
          have h4 : ¬ isH (mk 1 4) := nh_mk (by omega)
          obtain ⟨-, sr⟩ := g5
          rcases sr with ⟨y, -⟩ | ⟨j', bS, n, ow, kd, f, n', ow', kd', f', e, -, -, -, -, g9⟩
          · cases y
          · rcases g9 with ⟨y1, y2, -⟩ | ⟨z, y1, -, y3, -⟩
            · refine ⟨fun c => ⟨y1, ?_⟩, fun c => ?_⟩
              · rw [RTb_n y2 (by rw [c]; exact h4)]; exact c
              · have zt : ¬ isH (m.2.1 (pq r 16)) := fun z => h4 (by rw [← c.2]; exact (RTb_isH y2).mpr z)
                rw [← RTb_n y2 zt]; exact c.2
            · refine ⟨fun c => ?_, fun c => by omega⟩
              rw [c, so_mk (by omega) (by omega)] at y3
              omega
        by_cases c1 : m.2.1 (pq r 16) = mk 1 4
        · obtain ⟨c2, c3⟩ := nm.mp c1
          rw [decide_eq_true c1, br_tq, decide_eq_true c2, br_tq, decide_eq_true c3, br_tq]
          exact c43
        · rw [decide_eq_false c1, br_fq]
          by_cases c2 : wr = 0
          · rw [decide_eq_true c2, br_tq, decide_eq_false (fun c3 => c1 (nm.mpr ⟨c2, c3⟩)), br_fq]
            exact en
          · rw [decide_eq_false c2, br_fq]
            exact en
      · rw [decide_eq_false tr, br_fq, br_fq]
        refine pp_bb (pp_mo (wl_come (a := 4) (sort := 0) (v4 := 0) (Or.inr (Or.inl ⟨rfl, rfl⟩)) W0 hq hr hc rq ⟨by omega, by omega⟩ hN) (fun m2 _ w2 _ h => pp_end (Or.inl h)))
    have hp := pp_pr (pp_pl raw (pk_ok (signalc_ok (N := N) (x := ((r : Nat) : Int)) d cx hq ⟨by omega, by omega⟩ (src := rf (m.1 (pq r 17))) (fun _ => by rw [g1]; exact sc) (fun _ jx ej hj => by rw [g1] at ej; injection ej with ej; subst ej; exact absurd g3 hj) (by omega)))) (pk_ok (signal_ok (N := N) (p := r) dw hq hr pb (show 0 ≤ wr ∧ wr ≤ 2 by omega) (show o ≤ 24 by omega) g6 (by omega)))
    refine pp_mo hp (fun m2 _ w2 _ h => ?_)
    obtain ⟨⟨h | ⟨rfl, rfl⟩, ⟨dc2, wf, st⟩, e956⟩, dw2, ev, kp⟩ := h
    · exact h
    · have sf2 : SFs Fv P Fv' P' PR (enS m q (m.2.1 (pq r 16)) hm e) (enR w q wr ((o : Nat) : Int) x e') := ⟨⟨dc2, CTX_fr cx (wf.2.1 22 (by omega) (by simp)) (wf.2.2.2.1 3 (by omega) (by simp))⟩, ⟨dw2, LK_fr lk ev.1 (by simp) (by simp), WTQ_fr wt ev.1 (by simp) (by simp) (by simp)⟩, pb⟩
      have v := enS_v (m := m) (q := q) (t := m.2.1 (pq r 16)) (hm := hm) (e := e)
      have a9 := enR_9 (w := w) (q := q) (wr := wr) (o := o) (x := x) (e := e')
      have l1 : LOCm hm m (enS m q (m.2.1 (pq r 16)) hm e) := LOCm_en hmq
      have l2 : LOCw o w (enR w q wr ((o : Nat) : Int) x e') := LOCw_en oq
      refine (fun h => ⟨h.1, h.2.1⟩) (wl_end W0 hq ⟨hal, h9⟩ qc FR.rf XMr.rf he he' pl.1.2.2 ⟨by omega, by omega⟩ g8 sf2 ⟨hm, s, by rw [v.2.1]; exact rf_some (by omega), g2, by show ((enS m q (m.2.1 (pq r 16)) hm e).1 (pq hm 9)).toInt = 3; rw [(l1 9 (by omega)).1]; exact g3, ?_, ?_, ?_⟩)
      · rcases g4 with g | g
        · exact Or.inl g
        · exact Or.inr ⟨g.1, by rw [a9, if_neg oq]; exact g.2⟩
      · rw [v.2.2]
        exact SRs_st g5 (fun jx ej => by injection ej with ej; subst ej; exact (l1 2 (by omega)).2.2.2) (fun _ i hi => l2.2.2.2.2.1 _ (by omega) (by omega)) (fun c => by omega) (fun c => by
          rcases c with c | c
          · injection c with c
            omega
          · omega)
      · rcases g6 with g | ⟨y1, y2, n, ow, kd, y3, y4, y5, y6⟩
        · exact Or.inl g
        · refine Or.inr ⟨y1, ?_, n, ow, kd, ?_, y4, HP_agr (fun i hi => l2.2.2.2.2.1 _ (by omega) (by omega)) y5, y6⟩
          · rcases y2 with y | y
            · exact Or.inl y
            · exact Or.inr ⟨y.1, by rw [a9, if_neg oq]; exact y.2⟩
          · show ((enR w q wr ((o : Nat) : Int) x e').2.2.1 89 o).toInt = _
            rw [l2.2.1 89 (by omega)]
            exact y3
end
end
section
set_option maxRecDepth 100000
section
variable {α β γ δ : Type} {R : MS → α → MS → β → Prop} {a : Option (MS × α)} {K : MS → δ → Option (MS × β)}
theorem rb_bnd {o : Option (MS × γ)} {f : MS → γ → Option (MS × δ)} (h : PK (fun w r => PP R a (bnd (f w r) K)) o) : PP R a (bnd (bnd o f) K) := by
  cases o with
  | none => exact pp_nr
  | some x => exact h x.1 x.2 rfl
theorem rb_br {c : Bool} {p q : Option (MS × δ)} (h1 : c = true → PP R a (bnd p K)) (h2 : c = false → PP R a (bnd q K)) : PP R a (bnd (br c p q) K) := by
  cases c with
  | true => exact h1 rfl
  | false => exact h2 rfl
theorem rb_ck {c : Bool} {p : Option (MS × δ)} (h : c = true → PP R a (bnd p K)) : PP R a (bnd (ck c p) K) := by
  cases c with
  | true => exact h rfl
  | false => exact pp_nr
theorem rb_bnd_so {u : MS} {r : γ} {f : MS → γ → Option (MS × δ)} : bnd (bnd (some (u, r)) f) K = bnd (f u r) K := rfl
theorem rb_lt {c : γ} {f : γ → Option (MS × δ)} (h : PP R a (bnd (f c) K)) : PP R a (bnd (lt c f) K) := h
theorem rb_le {i j : Int} {p q : Option (MS × δ)} (hi : RG i) (hj : RG j) (h1 : i ≤ j → PP R a (bnd p K)) (h2 : ¬ i ≤ j → PP R a (bnd q K)) : PP R a (bnd (br (decide (I i ≤ I j)) p q) K) := by
  rw [decI hi.1 hi.2 hj.1 hj.2]
  exact rb_br (fun c => h1 (of_decide_eq_true c)) (fun c => h2 (of_decide_eq_false c))
end
theorem nar_by (v : Int32) : vp_nar .byte (byS8 v) = byS8 v := by
  show (((v.toInt8.toInt32).toInt8.toInt32).toInt8.toInt32 : Int32) = (v.toInt8.toInt32).toInt8.toInt32
  simp
def TXq (w0 w : MS) (T : List Int32) : Prop := ∃ L, OUr w0 w L ∧ L.length ≤ 7000 ∧ (L = T ∨ (100 ≤ L.length ∧ 100 ≤ T.length ∧ ∀ i, i < 100 → L.getD i 0 = T.getD i 0))
def TXt (r : Nat) (T : List Int32) (w w2 : MS) : Prop := FR [144] [] [113, 131, 132, 143] [141] w w2 ∧ (∀ k, w2.2.2.1 132 k = if k = r then I ((min T.length 100 : Nat) : Int) else w.2.2.1 132 k) ∧ (∀ i, i < min T.length 100 → w2.2.2.1 131 (100 * r + i) = byS8 (T.getD i 0)) ∧ (∀ i, ¬ (100 * r ≤ i ∧ i < 100 * r + 100) → w2.2.2.1 131 i = w.2.2.1 131 i) ∧ ∀ k, w2.2.2.1 113 k = if k = r then I (-1) else w.2.2.1 113 k
section
variable {α : Type} {N r o k z : Nat} {w w0 w1 : MS} {T L : List Int32} {wr : Int} {x t : Int64} {Q : MS → α → MS → Unit → Prop} {Am : Option (MS × α)} {K : MS → Unit → Option (MS × Unit)} {h : Nat → Int64}
theorem getD_pre {L X : List Int32} {i : Nat} (hi : i < L.length) : (L ++ X).getD i 0 = L.getD i 0 := by
  rw [List.getD_eq_getElem?_getD, List.getD_eq_getElem?_getD, List.getElem?_append_left hi]
theorem TXq_dn (d : DNr w0 w T) : TXq w0 w T := by
  obtain ⟨L, o, hl, ⟨X, e⟩, c⟩ := d
  refine ⟨L, o, by omega, ?_⟩
  rcases c with c | c
  · exact Or.inl c
  · refine Or.inr ⟨c, by rw [e, List.length_append]; omega, fun i hi => by rw [e, getD_pre (by omega)]⟩
theorem TXq_sg {v : Int32} (d : TXq w0 w T) (hl : ∀ L, OUr w0 w L → L.length ≤ 7000 → L.length ≤ 6500) : PK (fun w2 (_ : Unit) => TXq w0 w2 (T ++ [v])) (fm_M_sign N w v) := by
  obtain ⟨L, o, h1, c⟩ := d
  have h2 := hl L o h1
  refine pk_mo (sign_r (N := N) (v := v) (by omega) o) (fun w2 _ h => ?_)
  refine ⟨L ++ [v], h.1, by rw [List.length_append]; show L.length + 1 ≤ 7000; omega, ?_⟩
  rcases c with c | ⟨c1, c2, c3⟩
  · exact Or.inl (by rw [c])
  · refine Or.inr ⟨by rw [List.length_append]; omega, by rw [List.length_append]; omega, fun i hi => ?_⟩
    rw [getD_pre (by omega), getD_pre (by omega)]
    exact c3 i hi
theorem cpy_lp (hr : r < 24) (hT : ∀ M w2, TXt r T w0 w2 → PP Q Am (bnd ((gg_M_end N M).2.1 w2 (I ((r : Nat) : Int)) (I wr) (I ((o : Nat) : Int)) x) K)) : ∀ (M i : Nat) (w : MS), i ≤ min T.length 100 → FR [144] [] [131, 132, 143] [141] w0 w → (∀ k, w.2.2.1 132 k = if k = r then I ((min T.length 100 : Nat) : Int) else w0.2.2.1 132 k) → (∀ k, k < min T.length 100 → w.2.2.1 143 k = byS8 (T.getD k 0)) → (∀ k, k < i → w.2.2.1 131 (100 * r + k) = byS8 (T.getD k 0)) → (∀ k, ¬ (100 * r ≤ k ∧ k < 100 * r + 100) → w.2.2.1 131 k = w0.2.2.1 131 k) → PP Q Am (bnd ((gg_M_end N M).1 w (I ((r : Nat) : Int)) (I wr) (I ((o : Nat) : Int)) x (I ((i : Nat) : Int))) K) := by
  intro M
  induction M with
  | zero => intro i w _ _ _ _ _ _; exact pp_nr
  | succ M ih =>
    intro i w hi f h132 h143 h131 hot
    show PP Q Am (bnd (fb_M_end_86 N (gg_M_end N M) w (I ((r : Nat) : Int)) (I wr) (I ((o : Nat) : Int)) x (I ((i : Nat) : Int))) K)
    unfold fb_M_end_86
    refine rb_ck (fun _ => ?_)
    rw [tnI (n := r) rfl (by omega), h132 r, if_pos rfl]
    refine rb_le ⟨by omega, by omega⟩ ⟨by omega, by omega⟩ (fun c => ?_) (fun c => ?_)
    · refine rb_ck (fun _ => rb_lt (hT M _ ⟨?_, fun k => h132 k, fun k hk => h131 k (by omega), hot, fun k => ?_⟩))
      · exact ⟨f.1, f.2.1, fun k hk => (if_neg (fun c => hk (by simp [c]))).trans (f.2.2.1 k (by simp at hk ⊢; omega)), f.2.2.2⟩
      · show (if (113 : Nat) = 113 then upd (w.2.2.1 113) r (-1) else w.2.2.1 113) k = _
        rw [if_pos rfl]
        show (if k = r then (-1 : Int32) else w.2.2.1 113 k) = _
        rw [f.2.2.1 113 (by simp)]
        rfl
    · refine rb_ck (fun _ => rb_ck (fun _ => rb_lt ?_))
      have ix : (100 * I ((r : Nat) : Int) + I ((i : Nat) : Int)).toNatClampNeg = 100 * r + i := by
        rw [show (100 : Int32) = I 100 from rfl, I_mul, I_add]
        exact tnI (n := 100 * r + i) (by omega) (by omega)
      rw [ix, tnI (n := i) rfl (by omega), h143 i (by omega), nar_by, show I ((i : Nat) : Int) + 1 = I ((i + 1 : Nat) : Int) from addN]
      have row : ∀ k, (upA w 131 (upd (w.2.2.1 131) (100 * r + i) (byS8 (T.getD i 0)))).2.2.1 131 k = if k = 100 * r + i then byS8 (T.getD i 0) else w.2.2.1 131 k := fun k => by
        show (if (131 : Nat) = 131 then upd (w.2.2.1 131) (100 * r + i) (byS8 (T.getD i 0)) else w.2.2.1 131) k = _
        rw [if_pos rfl]
        rfl
      refine ih (i + 1) _ (by omega) ⟨f.1, f.2.1, fun k hk => (if_neg (fun c => hk (by simp [c]))).trans (f.2.2.1 k hk), f.2.2.2⟩ h132 h143 (fun k hk => ?_) (fun k hk => ?_)
      · rw [row]
        by_cases c2 : k = i
        · subst c2; rw [if_pos rfl]
        · rw [if_neg (by omega)]; exact h131 k (by omega)
      · rw [row, if_neg (by omega)]
        exact hot k hk
theorem e59_r (hr : r < 24) (d : TXq w0 w T) (hT : ∀ M w2, TXt r T w0 w2 → PP Q Am (bnd ((gg_M_end N M).2.1 w2 (I ((r : Nat) : Int)) (I wr) (I ((o : Nat) : Int)) x) K)) {M : Nat} : PP Q Am (bnd (fb_M_end_59 N (gg_M_end N M) w (I ((r : Nat) : Int)) (I wr) (I ((o : Nat) : Int)) x) K) := by
  obtain ⟨L, ⟨f, o2, o3⟩, h1, c⟩ := d
  have lm : min L.length 100 = min T.length 100 := by
    rcases c with c | ⟨c1, c2, -⟩
    · rw [c]
    · omega
  have row : ∀ k, k < min T.length 100 → w.2.2.1 143 k = byS8 (T.getD k 0) := fun k hk => by
    rw [o3 k (by omega)]
    rcases c with c | ⟨c1, c2, c3⟩
    · rw [c]
    · rw [c3 k (by omega)]
  have main : PP Q Am (bnd (fb_M_end_82 N (gg_M_end N M) w (I ((r : Nat) : Int)) (I wr) (I ((o : Nat) : Int)) x 132 (I ((r : Nat) : Int)) (I ((min T.length 100 : Nat) : Int))) K) := by
    unfold fb_M_end_82
    refine rb_ck (fun _ => rb_ck (fun _ => rb_lt ?_))
    rw [tnI (n := r) rfl (by omega), lit0q, show (0 : Int) = ((0 : Nat) : Int) from rfl]
    refine cpy_lp hr hT M 0 _ (by omega) ⟨f.1, f.2.1, fun k hk => (if_neg (fun c => hk (by simp [c]))).trans (f.2.2.1 k (by simp at hk ⊢; omega)), f.2.2.2⟩ (fun k => ?_) row (fun k hk => absurd hk (Nat.not_lt_zero _)) (fun k _ => ?_)
    · show (if (132 : Nat) = 132 then upd (w.2.2.1 132) r (I ((min T.length 100 : Nat) : Int)) else w.2.2.1 132) k = _
      rw [if_pos rfl]
      show (if k = r then I ((min T.length 100 : Nat) : Int) else w.2.2.1 132 k) = _
      rw [f.2.2.1 132 (by simp)]
    · show w.2.2.1 131 k = _
      rw [f.2.2.1 131 (by simp)]
  unfold fb_M_end_59
  rw [I_F' o2, show (100 : Int32) = I 100 from rfl]
  refine rb_le ⟨by omega, by omega⟩ ⟨by omega, by omega⟩ (fun y => ?_) (fun y => ?_)
  · rw [show ((L.length : Nat) : Int) = ((min T.length 100 : Nat) : Int) by omega]
    exact main
  · have : ((min T.length 100 : Nat) : Int) = 100 := by omega
    rw [this] at main
    exact main
theorem end_text (hr : r < 24) (ho : o < 25) (hw : wr = 0 ∨ wr = 1 ∨ wr = 2) (hA : ATM w) (h22 : 22 ≤ F w 14) (hat : ∀ a, a = 7 ∨ a = 19 → (ATr w a).length ≤ 50) (y : SZp (hp w o) (LFr (F w 14)) k x z) (hz : z ≤ 1000) (eT : T = if wr = 0 then TXs (hp w o) (ATr w) x else 123 :: (ATr w (if wr = 1 then 7 else 19) ++ 44 :: (TXs (hp w o) (ATr w) x ++ [125])))
    (hT : ∀ M w2, TXt r T w w2 → PP Q Am (bnd ((gg_M_end N M).2.1 w2 (I ((r : Nat) : Int)) (I wr) (I ((o : Nat) : Int)) x) K)) {M : Nat} : PP Q Am (bnd (fb_M_end_0 N (gg_M_end N M) w (I ((r : Nat) : Int)) (I wr) (I ((o : Nat) : Int)) x) K) := by
  have keep : ∀ {w2 : MS} {L : List Int32}, OUr w w2 L → hp w2 = hp w ∧ ATM w2 ∧ F w2 14 = F w 14 ∧ ATr w2 = ATr w := fun {w2 L} o => by
    have f := o.1
    have e14 : F w2 14 = F w 14 := FR.F f (by simp)
    have e13 : ∀ i, A w2 13 i = A w 13 i := fun i => FR.A f (by simp)
    refine ⟨?_, ?_, e14, ?_⟩
    · funext p i
      unfold hp
      rw [f.2.2.2 88 (by simp)]
    · obtain ⟨a1, a2, a3⟩ := hA
      refine ⟨by rw [e14]; exact a1, by rw [e14]; exact a2, fun q hq => ?_⟩
      rw [e14] at hq
      rw [e13, e13]
      exact a3 q hq
    · funext a
      unfold ATr
      rw [f.2.2.1 12 (by simp)]
      congr 1
      funext i
      rw [e13]
  unfold fb_M_end_0
  refine rb_lt ?_
  rw [lit0q, wi_e]
  have o0 : OUr w (wi w 144 0) [] := ⟨FR.wi FR.rf (by simp), by rw [F_wi (by omega) (by omega), if_pos rfl]; rfl, fun i hi => by simp at hi⟩
  have tm : ∀ (w1 : MS) (L : List Int32), OUr w w1 L → L.length ≤ 100 → PK (fun w2 (_ : Unit) => DNr w w2 (L ++ TXs (hp w o) (ATr w) x)) (fm_M_writeOn N w1 (I ((o : Nat) : Int)) x) := fun w1 L o1 hl => by
    obtain ⟨k1, k2, k3, k4⟩ := keep o1
    have := writeOn_r (N := N) (p := o) (h := hp w o) (m := w1) ho (by rw [k1]) k2 hl o1 (by rw [k3]; exact y) hz
    rw [k4] at this
    exact this
  refine rb_le ⟨by omega, by omega⟩ ⟨by decide, by decide⟩ (fun c => ?_) (fun c => ?_)
  · have w0 : wr = 0 := by omega
    rw [if_pos w0] at eT
    unfold fb_M_end_42
    refine rb_bnd (pk_mo (tm _ [] o0 (by simp)) (fun w2 _ d => ?_))
    rw [List.nil_append, ← eT] at d
    rw [lit0q]
    exact rb_le ⟨by omega, by omega⟩ ⟨by decide, by decide⟩ (fun _ => e59_r hr (TXq_dn d) hT) (fun c2 => absurd c c2)
  · rw [if_neg (by omega)] at eT
    refine rb_bnd (pk_mo (sign_r (N := N) (v := 123) (by simp) o0) (fun w1 _ h1 => ?_))
    have o1 : OUr w w1 [123] := h1.1
    have main : ∀ a : Nat, (a = 7 ∨ a = 19) → a = (if wr = 1 then 7 else 19) → PP Q Am (bnd (fb_M_end_30 N (gg_M_end N M) w1 (I ((r : Nat) : Int)) (I wr) (I ((o : Nat) : Int)) x (I ((r : Nat) : Int)) 1 (I ((a : Nat) : Int))) K) := fun a ha ea => by
      obtain ⟨k1, k2, k3, k4⟩ := keep o1
      unfold fb_M_end_30
      rw [lit1q, term_e, rb_bnd_so]
      have so1 : so (mk 1 ((a : Nat) : Int)) = 1 := so_mk (by omega) (by omega)
      have va1 : va (mk 1 ((a : Nat) : Int)) = ((a : Nat) : Int) := va_mk (by omega) (by omega)
      have nh : ¬ isH (mk 1 ((a : Nat) : Int)) := nh_mk (by omega)
      have tx : TXs (hp w1 r) (ATr w1) (mk 1 ((a : Nat) : Int)) = ATr w a := by
        rw [TXs_al (by omega) (by omega), alT_1 so1, k4]
        congr 1
        unfold vn
        rw [va1]
        omega
      refine rb_bnd (pk_mo (writeOn_r (N := N) (p := r) (h := hp w1 r) (m := w1) (k := 1) (z := 0) (by omega) rfl k2 (by simp) o1 (Or.inl ⟨nh, ⟨by omega, fun _ => by rw [va1, k3]; omega⟩, rfl⟩) (by omega)) (fun w2 _ d => ?_))
      rw [tx] at d
      have hl := hat a ha
      obtain ⟨L, o2, -, ⟨X, eX⟩, c2⟩ := d
      have eL : L = [123] ++ ATr w a := by
        rcases c2 with c2 | c2
        · exact c2
        · have := congrArg List.length eX
          rw [List.length_append, List.length_append] at this
          have l1 : ([123] : List Int32).length = 1 := rfl
          omega
      subst eL
      have l2 : ([123] ++ ATr w a).length ≤ 51 := by rw [List.length_append]; show 1 + _ ≤ 51; omega
      refine rb_bnd (pk_mo (sign_r (N := N) (v := 44) (by omega) o2) (fun w3 _ h3 => ?_))
      have o3 : OUr w w3 ([123] ++ ATr w a ++ [44]) := h3.1
      unfold fb_M_end_42
      refine rb_bnd (pk_mo (tm w3 _ o3 (by rw [List.length_append]; show _ + 1 ≤ 100; omega)) (fun w4 _ d4 => ?_))
      rw [lit0q]
      refine rb_le ⟨by omega, by omega⟩ ⟨by decide, by decide⟩ (fun c2 => absurd c2 c) (fun _ => ?_)
      refine rb_bnd (pk_mo (TXq_sg (N := N) (v := 125) (TXq_dn d4) (fun L9 o9 _ => ?_)) (fun w5 _ d5 => ?_))
      · obtain ⟨L8, o8, l8, -⟩ := d4
        have a1 := o8.2.1
        have a2 := o9.2.1
        omega
      · have : [123] ++ ATr w a ++ [44] ++ TXs (hp w o) (ATr w) x ++ [125] = T := by
          rw [eT, ← ea]
          simp
        rw [this] at d5
        exact e59_r hr d5 hT
    rw [lit1q, decE (by omega) (by omega) (by omega) (by omega), ← lit1q]
    by_cases c1 : wr = 1
    · rw [decide_eq_true c1]
      exact rb_br (fun _ => main 7 (Or.inl rfl) (by rw [if_pos c1])) (fun z => by cases z)
    · rw [decide_eq_false c1]
      exact rb_br (fun z => by cases z) (fun _ => main 19 (Or.inr rfl) (by rw [if_neg c1]))
end
end
section
set_option maxRecDepth 100000
def CNq (P P' : Int64 → Prop) (m w : MS) : Prop := ATs9 m w ∧ ATM w ∧ 22 ≤ F w 14 ∧ (∀ a, a = 7 ∨ a = 19 → (ATr w a).length ≤ 50) ∧ (∀ t, P' t → LFr (F w 14) t) ∧ ∀ t, P t → LFs (F m 22) t
def CUs (RR : Nat → MS → MS → Prop) (PR : Nat) (Fv : Int64 → Int64 → Prop) (P : Int64 → Prop) (Fv' : Int64 → Int64 → Prop) (P' : Int64 → Prop) (i j r : Nat) (wr : Int) (o : Nat) (x : Int64) (m w : MS) : Prop :=
  WLs RR PR Fv P Fv' P' (some r) (i + 1) (j + 1) m w ∧ (r < PR ∧ F m (pq r 9) = 3 ∧ A w 109 r = 3) ∧ RQs Fv P Fv' P' PR m w r wr o x ∧ (m.1 (pq r 12) = I (-1) ∧ w.2.2.1 113 r = I (-1)) ∧ m.1 (pq r 13) = w.2.2.1 114 r ∧ m.1 (pq r 5) = w.2.2.1 90 r ∧ RZs m w r ∧ (F m 956 = ((i : Nat) : Int) ∧ F w 149 = ((j + 1 : Nat) : Int)) ∧ CNq P P' m w
section
variable {b : Int → Nat → Nat → Prop} {Fv Fv' : Int64 → Int64 → Prop} {P P' : Int64 → Prop} {N f PR q r o s U B W Y i j d e e' hm y : Nat} {m w m1 w1 m2 w2 m3 w3 : MS} {t x : Int64} {wr v4 : Int} {cur src : Option Nat} {RR : Nat → MS → MS → Prop} {L L2 : List Int}
theorem ATr_eq (h1 : w2.2.2.1 12 = w.2.2.1 12) (h2 : w2.2.2.1 13 = w.2.2.1 13) : ATr w2 = ATr w := by
  funext a
  unfold ATr
  rw [h1]
  congr 1
  funext i
  show (w2.2.2.1 13 i).toInt.toNat = _
  rw [h2]
  rfl
theorem CNs_pg (c : CNq P P' m w) (pg : PG0 m w m2 w2) : CNq P P' m2 w2 := by
  obtain ⟨c1, ⟨a1, a2, a3⟩, c3, c4, c5, c6⟩ := c
  obtain ⟨⟨-, p2, p3⟩, -, -, p6, p7, p8⟩ := pg
  have e14 : F w2 14 = F w 14 := congrArg Int32.toInt p8
  have e22 : F m2 22 = F m 22 := congrArg Int32.toInt p2
  have e13 : ∀ k, A w2 13 k = A w 13 k := fun k => by show (w2.2.2.1 13 k).toInt = _; rw [p7]; rfl
  have eA := ATr_eq p6 p7
  refine ⟨fun t h => by rw [p3, eA]; exact c1 t (by rw [← e14]; exact h), ⟨by rw [e14]; exact a1, by rw [e14]; exact a2, fun k hk => by rw [e14] at hk; rw [e13, e13]; exact a3 k hk⟩, by rw [e14]; exact c3, fun a ha => by rw [eA]; exact c4 a ha, fun t h => by rw [e14]; exact c5 t h, fun t h => by rw [e22]; exact c6 t h⟩
theorem CUs_gen (c : CUs RR PR Fv P Fv' P' i j r wr o x m w) (W : WLs RR PR Fv P Fv' P' (some r) (i + 1) (j + 1) m2 w2) (pg : PGs m w m2 w2) (lr : ∀ k, k < 100 → k ≠ 15 → m2.1 (pq r k) = m.1 (pq r k)) (l16 : m2.2.1 (pq r 16) = m.2.1 (pq r 16)) (lw : ∀ K, K = 90 ∨ K = 109 ∨ K = 113 ∨ K = 114 ∨ K = 132 → w2.2.2.1 K r = w.2.2.1 K r) (l131 : ∀ k, 100 * r ≤ k → k < 100 * r + 100 → w2.2.2.1 131 k = w.2.2.1 131 k)
    (dm : ∀ d, F m (pq d 9) = 3 → F m2 (pq d 9) = 3 ∧ m2.2.2.2 (pq d 2) = m.2.2.2 (pq d 2)) (dh : ∀ d, d = 24 ∨ A w 109 d = 3 → ∀ i, i < 500 → hp w2 d i = hp w d i) (d9 : ∀ d, A w 109 d = 3 → A w2 109 d = 3) (d89 : ∀ d, d = 24 ∨ A w 109 d = 3 → A w2 89 d = A w 89 d) (v4 : m2.1 956 = m.1 956) (v5 : w2.1 149 = w.1 149) : CUs RR PR Fv P Fv' P' i j r wr o x m2 w2 := by
  obtain ⟨-, ⟨c1, c2, c3⟩, c4, ⟨c5, c6⟩, c7, c8, c9, ⟨c10, c11⟩, c12⟩ := c
  refine ⟨W, ⟨c1, (dm r c2).1, d9 r c3⟩, RQs_st c4 (lr 17 (by omega) (by omega)) l16 dm dh d9 d89, ⟨by rw [lr 12 (by omega) (by omega)]; exact c5, by rw [lw 113 (by omega)]; exact c6⟩, by rw [lr 13 (by omega) (by omega), lw 114 (by omega)]; exact c7, by rw [lr 5 (by omega) (by omega), lw 90 (by omega)]; exact c8, RZs_st c9 pg.1 (lr 17 (by omega) (by omega)) l16 dm (lw 132 (by omega)) l131, ⟨?_, ?_⟩, CNs_pg c12 pg.1⟩
  · show (m2.1 956).toInt = _
    rw [v4]
    exact c10
  · show (w2.1 149).toInt = _
    rw [v5]
    exact c11
theorem CUs_mv (c : CUs RR PR Fv P Fv' P' i j r wr o x m w) (W : WLs RR PR Fv P Fv' P' (some r) (i + 1) (j + 1) m2 w2) (v : MVs m w m2 w2) : CUs RR PR Fv P Fv' P' i j r wr o x m2 w2 := by
  have c2 := c.2.1.2.1
  have c3 := c.2.1.2.2
  obtain ⟨pg, v1, v2, ⟨-, -, v4⟩, -, -, v5⟩ := v
  have l1 := v1 r c2
  have l2 := v2 r (Or.inr c3)
  refine CUs_gen c W pg (fun k hk _ => (l1 k hk).1) (l1 16 (by omega)).2.1 (fun K hK => ?_) l2.2.2.1 (fun d hd => ⟨by show (m2.1 (pq d 9)).toInt = 3; rw [(v1 d hd 9 (by omega)).1]; exact hd, (v1 d hd 2 (by omega)).2.2.2⟩) (fun d hd i hi => (v2 d hd).2.2.2.2.1 _ (by omega) (by omega)) (fun d hd => ?_) (fun d hd => congrArg Int32.toInt ((v2 d hd).2.1 89 (by omega))) v4 v5
  · rcases hK with rfl | rfl | rfl | rfl | rfl
    · exact l2.2.1 90 (by omega)
    · exact l2.1 109 r (Or.inl ⟨by omega, rfl⟩)
    · exact l2.1 113 r (Or.inl ⟨by omega, rfl⟩)
    · exact l2.1 114 r (Or.inl ⟨by omega, rfl⟩)
    · exact l2.2.1 132 (by omega)
  · show (w2.2.2.1 109 d).toInt = 3
    rw [(v2 d (Or.inr hd)).1 109 d (Or.inl ⟨by omega, rfl⟩)]
    exact hd
theorem WL_ls (W : WLs RR PR Fv P Fv' P' (some r) i j m w) (hy : y < PR) (yr : y ≠ r) : ∃ L, LSm m y L ∧ LSw w y L := by
  obtain ⟨sf, ⟨n, q1, q2, q3, q4⟩, pr, hR⟩ := W
  rcases pr y hy with ⟨x1, x2, b, U, B, Wt, Y, pl, rs⟩ | ⟨x1, x2, x3⟩
  · obtain ⟨-, -, -, b4⟩ := SF_al sf hy x1 pl
    exact LS_of rs.1 b4
  · rcases x3 with x3 | ⟨k, k1, k2, k3⟩ | x3
    · injection x3 with x3
      exact absurd x3 yr
    · obtain ⟨r9, wr, o, -, x4, -, -, -, -, x9⟩ := q3 (k - i) (by omega)
      rw [show i + (k - i) = k by omega, k3] at x4
      have : r9 = y := by omega
      subst this
      exact x9.2.2.2
    · obtain ⟨-, -, -, -, -, -, h1, h2⟩ := x3
      exact ⟨[], ⟨h1, by simp, fun i x hx => by simp at hx⟩, h2, by simp, fun i x hx => by simp at hx⟩
theorem WL_link (W : WLs RR PR Fv P Fv' P' (some r) i j m w) (s2 : SFs Fv P Fv' P' PR m2 w2) (hrd : F m (pq r 9) = 3) (hy : y < PR) (yr : y ≠ r) (f1 : FR [pq y 15] [] [pq y 14] [] m m2) (f2 : FR [] [] [116, 117] [] w w2) (g1 : ∀ k, k ≠ y → k ≠ r → A w2 117 k = A w 117 k) (g2 : ∀ k, ¬ (24 * y ≤ k ∧ k < 24 * y + 24) → ¬ (24 * r ≤ k ∧ k < 24 * r + 24) → A w2 116 k = A w 116 k) (l1 : LSm m2 y L) (l2 : LSw w2 y L) (hd : DEs m w y → L = []) : WLs RR PR Fv P Fv' P' (some r) i j m2 w2 ∧ PGs m w m2 w2 ∧ (∀ d, d ≠ y → LOCm d m m2) ∧ (∀ d, d ≠ y → d ≠ r → LOCw d w w2) := by
  have ai : ∀ {x y : Int32}, x.toInt = y.toInt → x = y := fun h => Int32.toInt_inj.mp h
  have pg : PGs m w m2 w2 := PGs_fr f1 f2 (fun k hk => by simp at hk; unfold pq at hk; omega) (by simp) (fun k hk => by simp at hk; unfold pq at hk; omega) (by simp) (fun k hk => by simp at hk; unfold PRr; omega) (by simp)
  have lm : ∀ d, d ≠ y → LOCm d m m2 := fun d hd k hk => ⟨f1.1 _ (by simp; exact fun c => hd (pq_e hk (by omega) c).1), f1.2.1 _ (by simp), f1.2.2.1 _ (by simp; exact fun c => hd (pq_e hk (by omega) c).1), f1.2.2.2 _ (by simp)⟩
  have lw : ∀ d, d ≠ y → d ≠ r → LOCw d w w2 := fun d hd hd2 => by
    refine ⟨fun K k h => ?_, fun K h => by rw [f2.2.2.1 K (by simp; omega)], fun k _ _ => by rw [f2.2.2.1 131 (by simp)], by rw [f2.2.2.2 111 (by simp)], fun k _ _ => by rw [f2.2.2.2 88 (by simp)], fun k _ _ => by rw [f2.2.2.2 91 (by simp)], fun k _ _ => by rw [f2.2.2.2 93 (by simp)], fun k _ _ => by rw [f2.2.2.2 107 (by simp)]⟩
    by_cases c : K = 117
    · subst c
      have kd : k = d := by
        rcases h with h | h | h | h
        · exact h.2
        · omega
        · omega
        · omega
      subst kd
      exact ai (g1 k hd hd2)
    · by_cases c2 : K = 116
      · subst c2
        have kd : 24 * d ≤ k ∧ k < 24 * d + 24 := by
          rcases h with h | h | h | h
          · omega
          · omega
          · omega
          · exact h.2
        exact ai (g2 k (by omega) (by omega))
      · rw [f2.2.2.1 K (by simp; omega)]
  have my : ∀ k, k < 100 → k ≠ 15 → m2.1 (pq y k) = m.1 (pq y k) := fun k hk c => f1.1 _ (by simp; exact fun z => c (pq_e hk (by omega) z).2)
  have wy : ∀ K, K ≠ 116 → K ≠ 117 → w2.2.2.1 K = w.2.2.1 K := fun K h1 h2 => f2.2.2.1 K (by simp; omega)
  have f9 : ∀ d, F m2 (pq d 9) = F m (pq d 9) := fun d => by
    by_cases c : d = y
    · subst c; exact congrArg Int32.toInt (my 9 (by omega) (by omega))
    · exact congrArg Int32.toInt (lm d c 9 (by omega)).1
  have a9 : ∀ d, A w2 109 d = A w 109 d := fun d => by show (w2.2.2.1 109 d).toInt = _; rw [wy 109 (by omega) (by omega)]; rfl
  have j2 : ∀ d k, m2.2.2.2 (pq d k) = m.2.2.2 (pq d k) := fun d k => f1.2.2.2 _ (by simp)
  have i17 : ∀ d, m2.1 (pq d 17) = m.1 (pq d 17) := fun d => by
    by_cases c : d = y
    · subst c; exact my 17 (by omega) (by omega)
    · exact (lm d c 17 (by omega)).1
  refine ⟨WL_gen W s2 (fun d hd => ⟨by rw [f9]; exact hd, j2 d 2, i17 d, f1.2.1 _ (by simp)⟩) (fun d _ => ⟨fun k _ => by unfold hp; rw [f2.2.2.2 88 (by simp)], FR.A f2 (by simp)⟩) (fun d hd => by rw [a9]; exact hd) (fun d hd1 hd2 hc h => ?_) (fun d hd1 hc h => ?_) (fun d hd1 x1 x2 x3 => Or.inl ⟨by rw [f9]; exact x1, by rw [a9]; exact x2, ?_⟩) ?_, pg, lm, lw⟩
  · by_cases c : d = y
    · subst c
      exact ⟨by rw [my 12 (by omega) (by omega), wy 113 (by omega) (by omega)]; exact h.1, by rw [my 13 (by omega) (by omega), wy 114 (by omega) (by omega)]; exact h.2.1, by rw [my 5 (by omega) (by omega), wy 90 (by omega) (by omega)]; exact h.2.2.1, L, l1, l2⟩
    · exact QEs_st h (lm d c) (lw d c (fun z => hc (by rw [z])))
  · by_cases c : d = y
    · subst c
      have eL := hd h
      subst eL
      obtain ⟨a1, a2, a3, ⟨a4, a5⟩, a6, a7, a8, a10⟩ := h
      exact ⟨by rw [f9]; exact a1, by rw [a9]; exact a2, RZs_st a3 pg.1 (i17 d) (f1.2.1 _ (by simp)) (fun d hd => ⟨by rw [f9]; exact hd, j2 d 2⟩) (by rw [wy 132 (by omega) (by omega)]) (fun k _ _ => by rw [wy 131 (by omega) (by omega)]), ⟨by rw [my 12 (by omega) (by omega)]; exact a4, by rw [wy 113 (by omega) (by omega)]; exact a5⟩, by rw [my 13 (by omega) (by omega), wy 114 (by omega) (by omega)]; exact a6, by rw [my 5 (by omega) (by omega), wy 90 (by omega) (by omega)]; exact a7, l1.1, l2.1⟩
    · exact DEs_st h pg.1 (lm d c) (lw d c (fun z => hc (by rw [z]))) (fun d hd => ⟨by rw [f9]; exact hd, j2 d 2⟩)
  · by_cases c : d = y
    · subst c
      obtain ⟨b, U, B, Wt, Y, pl, rs⟩ := x3
      obtain ⟨-, -, ⟨b1, b2, b3⟩, b4⟩ := SF_al W.1 hd1 x1 pl
      have hU := pl.1.1.2.2
      refine ⟨b, U, B, Wt, Y, PLs_cg pl (fun k hk => my k (by simp at hk; omega) (by simp at hk; omega)) (fun k _ => by rw [j2]) (fun k _ => by rw [j2]) (fun k _ => by rw [j2]) (fun k _ => by rw [j2]) (fun k hk => by rw [wy k (by simp at hk; omega) (by simp at hk; omega)]) (fun k _ => by rw [f2.2.2.2 88 (by simp)]) (fun k _ => by rw [f2.2.2.2 93 (by simp)]) (fun k _ => by rw [f2.2.2.2 91 (by simp)]) (fun k _ => by rw [f2.2.2.2 107 (by simp)]), SC_of l1 l2 ?_ ?_ ?_ ?_, W.2.2.2 _ _ _ _ _ rs.2 ⟨fun k hk h => my k hk (by simp at h; omega), fun k _ _ => f1.2.1 _ (by simp), fun k hk h => f1.2.2.1 _ (by simp; exact fun z => h (pq_e hk (by omega) z).2), pg.1.1.1⟩ ⟨fun K k _ h1 h2 => by rw [wy K h1 h2.1], by rw [f2.2.2.2 111 (by simp)], pg.1.2.1, pg.1.2.2.1⟩ pg⟩
      · rw [my 12 (by omega) (by omega), wy 113 (by omega) (by omega)]; exact rs.1.1
      · rw [my 13 (by omega) (by omega), wy 114 (by omega) (by omega)]; exact rs.1.2.1
      · rw [my 11 (by omega) (by omega), wy 112 (by omega) (by omega)]; exact rs.1.2.2.1
      · rw [my 29 (by omega) (by omega), wy 115 (by omega) (by omega)]; exact rs.1.2.2.2.2.1
    · exact ALs_loc W.2.2.2 W.1 hd1 x1 x3 pg (lm d c) (lw d c (fun z => by
        subst z
        exact x1 hrd))
  · obtain ⟨n, q1, q2, -⟩ := W.2.1
    exact ⟨i + n, j + n, q1, q2, fun k _ => by rw [FR.A f1 (by simp [pq_n])], fun k _ => ⟨fun K hK => FR.A f2 (by simp; omega), by rw [f2.2.2.2 148 (by simp)]⟩, Or.inl ⟨by rw [FR.F f1 (by simp [pq_n])]; exact q1, by rw [FR.F f2 (by simp)]; exact q2⟩⟩
end
end
section
set_option maxRecDepth 100000
section
variable {b : Int → Nat → Nat → Prop} {Fv Fv' : Int64 → Int64 → Prop} {P P' : Int64 → Prop} {N f PR q r o s U B W Y i j d e e' hm y : Nat} {m w m1 w1 m2 w2 m3 w3 : MS} {t x : Int64} {wr v4 : Int} {cur src : Option Nat} {RR : Nat → MS → MS → Prop} {L L2 : List Int} {T : List Int32}
theorem DW_ev (d : DW Fv P PR w) {eF eM : Nat} (f : FR [149, 150] [] [] [] w w2) (h1 : F w2 149 = ((eF : Nat) : Int)) (h2 : F w2 150 = ((eM : Nat) : Int)) (h3 : eF ≤ eM) (h4 : ((eM : Nat) : Int) ≤ F w 150) (h5 : F w 149 ≤ ((eF : Nat) : Int) ∨ eF = eM) : DW Fv P PR w2 := by
  obtain ⟨⟨d1, d2⟩, d3, ⟨n, ow, kd, d4, d5, d6⟩, d7, ⟨eF0, eM0, k1, k2, k3, k4, k5⟩, d9⟩ := d
  have hA : ∀ K i, A w2 K i = A w K i := fun K i => FR.A f (by simp)
  have hJ : ∀ K, w2.2.2.2 K = w.2.2.2 K := fun K => f.2.2.2 K (by simp)
  have hL : w2.2.1 139 = w.2.1 139 := f.2.1 _ (by simp)
  have hH : ∀ p, hp w2 p = hp w p := fun p => by unfold hp; rw [hJ]
  have cE9 : cE w2 PR = cE w PR := cE_eq PR (fun p _ => hA 109 p)
  refine ⟨⟨by rw [FR.F f (by simp)]; exact d1, d2⟩, fun p hp1 => ?_, ⟨n, ow, kd, by rw [hA]; exact d4, d5, by rw [hH]; exact d6⟩, by rw [FR.F f (by simp)]; exact d7, ⟨eF, eM, h1, h2, h3, by rw [cE9]; omega, fun i hi1 hi2 => ?_⟩, fun p hp1 => by rw [hA]; exact d9 p hp1⟩
  · obtain ⟨n, ow, kd, oM, bM, xM, c1, x1, x2, x3, x4, x5, x6, x7, x8, x9, x10, x11⟩ := d3 p hp1
    exact ⟨n, ow, kd, oM, bM, xM, by rw [hA]; exact c1, rfl, by rw [hH]; exact x2, x3, x4, by rw [hA]; exact x5, by rw [hA]; exact x6, by rw [hA]; exact x7, fun i hi => by rw [hJ]; exact x8 i hi, fun i hi => by rw [hJ]; exact x9 i hi, fun i hi => by rw [hJ]; exact x10 i hi, fun z => by rw [hL]; exact x11 (by rw [← FR.F f (by simp)]; exact z)⟩
  · obtain ⟨t1, t2, t3, t4⟩ := k5 i (by omega) (by omega)
    refine ⟨by rw [hA]; exact t1, by rw [hA]; exact t2, by rw [hA]; exact t3, ?_⟩
    rw [hA, hJ]
    rcases t4 with t4 | ⟨y1, y2, n, ow, kd, y3, y4, y5, y6⟩
    · exact Or.inl t4
    · exact Or.inr ⟨y1, by rw [hA]; exact y2, n, ow, kd, by rw [hA]; exact y3, y4, by rw [hH]; exact y5, y6⟩
theorem WL_pop (W : WLs RR PR Fv P Fv' P' none i j m w) (s2 : SFs Fv P Fv' P' PR m2 w2) (pg : PGs m w m2 w2) (h54 : A m 54 i = ((r : Nat) : Int)) (hr : r < PR) (hrd : F m (pq r 9) = 3) (hne : F m 955 ≠ ((i : Nat) : Int)) (D : ∀ d, d ≠ r → LOCm d m m2 ∧ LOCw d w w2) (D24 : LOCw 24 w w2)
    (dm : F m2 (pq r 9) = 3 ∧ m2.2.2.2 (pq r 2) = m.2.2.2 (pq r 2) ∧ m2.1 (pq r 17) = m.1 (pq r 17) ∧ m2.2.1 (pq r 16) = m.2.1 (pq r 16)) (dw : (∀ i, i < 500 → hp w2 r i = hp w r i) ∧ A w2 89 r = A w 89 r ∧ A w2 109 r = 3) (h1 : m2.1 955 = m.1 955) (h2 : m2.2.2.1 54 = m.2.2.1 54) (h3 : w2.1 150 = w.1 150) (h4 : ∀ K, K = 145 ∨ K = 146 ∨ K = 147 → w2.2.2.1 K = w.2.2.1 K) (h5 : w2.2.2.2 148 = w.2.2.2 148) : WLs RR PR Fv P Fv' P' (some r) (i + 1) (j + 1) m2 w2 := by
  obtain ⟨sf, ⟨n, q1, q2, q3, q4⟩, pr, hR⟩ := W
  have hn : n ≠ 0 := fun c => by subst c; exact hne q1
  obtain ⟨n, rfl⟩ : ∃ k, n = k + 1 := ⟨n - 1, by omega⟩
  have f9 : ∀ d, d ≠ r → F m2 (pq d 9) = F m (pq d 9) := fun d hd => congrArg Int32.toInt ((D d hd).1 9 (by omega)).1
  have a9 : ∀ d, d ≠ r → A w2 109 d = A w 109 d := fun d hd => congrArg Int32.toInt ((D d hd).2.1 109 d (Or.inl ⟨by omega, rfl⟩))
  have dm2 : ∀ d, F m (pq d 9) = 3 → F m2 (pq d 9) = 3 ∧ m2.2.2.2 (pq d 2) = m.2.2.2 (pq d 2) := fun d hd => by
    by_cases c : d = r
    · subst c; exact ⟨dm.1, dm.2.1⟩
    · exact ⟨by rw [f9 d c]; exact hd, ((D d c).1 2 (by omega)).2.2.2⟩
  have e955 : F m2 955 = F m 955 := congrArg Int32.toInt h1
  have e54 : ∀ k, A m2 54 k = A m 54 k := fun k => by show (m2.2.2.1 54 k).toInt = _; rw [h2]; rfl
  have e150 : F w2 150 = F w 150 := congrArg Int32.toInt h3
  have eK : ∀ K k, K = 145 ∨ K = 146 ∨ K = 147 → A w2 K k = A w K k := fun K k h => by show (w2.2.2.1 K k).toInt = _; rw [h4 K h]; rfl
  refine ⟨s2, ⟨n, by rw [e955, q1]; omega, by rw [e150, q2]; omega, fun k hk => ?_, fun k l hk hl e => ?_⟩, fun d hd => ?_, hR⟩
  · obtain ⟨r', wr, o, ⟨x1, x2, x3⟩, x4, x5, x6, x7, x8, x9⟩ := q3 (k + 1) (by omega)
    rw [show i + (k + 1) = i + 1 + k by omega] at x4
    rw [show j + (k + 1) = j + 1 + k by omega] at x5 x6 x7 x8
    have rr : r' ≠ r := fun c => by
      subst c
      have := q4 0 (k + 1) (by omega) (by omega) (by rw [Nat.add_zero, h54, show i + (k + 1) = i + 1 + k by omega, x4])
      omega
    refine ⟨r', wr, o, ⟨x1, fun c => rr (by injection c), (dm2 r' x3).1⟩, by rw [e54]; exact x4, by rw [eK 145 _ (by omega)]; exact x5, by rw [eK 146 _ (by omega)]; exact x6, by rw [eK 147 _ (by omega)]; exact x7, ?_, QEs_st x9 (D r' rr).1 (D r' rr).2⟩
    rw [h5]
    refine RQs_st x8 ((D r' rr).1 17 (by omega)).1 ((D r' rr).1 16 (by omega)).2.1 dm2 (fun d hd i9 hi => ?_) (fun d hd => ?_) (fun d hd => ?_)
    · by_cases c : d = r
      · subst c; exact dw.1 i9 hi
      · exact (D d c).2.2.2.2.2.1 _ (by omega) (by omega)
    · by_cases c : d = r
      · subst c; exact dw.2.2
      · rw [a9 d c]; exact hd
    · by_cases c : d = r
      · subst c; exact dw.2.1
      · exact congrArg Int32.toInt ((D d c).2.2.1 89 (by omega))
  · rw [e54, e54] at e
    have := q4 (k + 1) (l + 1) (by omega) (by omega) (by rw [show i + (k + 1) = i + 1 + k by omega, show i + (l + 1) = i + 1 + l by omega]; exact e)
    omega
  · by_cases c : d = r
    · subst c
      exact Or.inr ⟨dm.1, dw.2.2, Or.inl rfl⟩
    · rcases pr d hd with ⟨x1, x2, x3⟩ | ⟨x1, x2, x3⟩
      · exact Or.inl ⟨by rw [f9 d c]; exact x1, by rw [a9 d c]; exact x2, ALs_loc hR sf hd x1 x3 pg (D d c).1 (D d c).2⟩
      · refine Or.inr ⟨by rw [f9 d c]; exact x1, by rw [a9 d c]; exact x2, ?_⟩
        rcases x3 with x3 | ⟨k, k1, k2, k3⟩ | x3
        · cases x3
        · refine Or.inr (Or.inl ⟨k, ?_, by rw [e955]; exact k2, by rw [e54]; exact k3⟩)
          apply Classical.byContradiction
          intro z
          have : k = i := by omega
          subst this
          rw [h54] at k3
          exact c (by omega)
        · exact Or.inr (Or.inr (DEs_st x3 pg.1 (D d c).1 (D d c).2 dm2))
theorem WL_done (W : WLs RR PR Fv P Fv' P' (some r) i j m w) (s2 : SFs Fv P Fv' P' PR m2 w) (f1 : FR [956] [] [] [] m m2) (de : DEs m w r) : WLs RR PR Fv P Fv' P' none i j m2 w := by
  obtain ⟨sf, ⟨n, q1, q2, q3, q4⟩, pr, hR⟩ := W
  have pg : PGs m w m2 w := PGs_fr f1 (FR.rf (is := []) (ls := []) (as := []) (js := [])) (by simp) (by simp) (by simp) (by simp) (by simp) (by simp)
  have lm : ∀ d, LOCm d m m2 := fun d k hk => ⟨f1.1 _ (by simp; exact fun c => pq_n (by omega) c.symm), f1.2.1 _ (by simp), f1.2.2.1 _ (by simp), f1.2.2.2 _ (by simp)⟩
  have f9 : ∀ d, F m2 (pq d 9) = F m (pq d 9) := fun d => congrArg Int32.toInt (lm d 9 (by omega)).1
  have dm2 : ∀ d, F m (pq d 9) = 3 → F m2 (pq d 9) = 3 ∧ m2.2.2.2 (pq d 2) = m.2.2.2 (pq d 2) := fun d hd => ⟨by rw [f9]; exact hd, (lm d 2 (by omega)).2.2.2⟩
  have e955 : F m2 955 = F m 955 := FR.F f1 (by simp)
  have e54 : ∀ k, A m2 54 k = A m 54 k := fun k => FR.A f1 (by simp)
  refine ⟨s2, ⟨n, by rw [e955]; exact q1, q2, fun k hk => ?_, fun k l hk hl e => q4 k l hk hl (by rw [← e54, ← e54 (i + l)]; exact e)⟩, fun d hd => ?_, hR⟩
  · obtain ⟨r', wr, o, ⟨x1, x2, x3⟩, x4, x5, x6, x7, x8, x9⟩ := q3 k hk
    exact ⟨r', wr, o, ⟨x1, (fun c => by cases c), (dm2 r' x3).1⟩, by rw [e54]; exact x4, x5, x6, x7, RQs_st x8 (lm r' 17 (by omega)).1 (lm r' 16 (by omega)).2.1 dm2 (fun _ _ _ _ => rfl) (fun _ h => h) (fun _ _ => rfl), QEs_st x9 (lm r') LOCw.rf⟩
  · rcases pr d hd with ⟨x1, x2, x3⟩ | ⟨x1, x2, x3⟩
    · exact Or.inl ⟨by rw [f9]; exact x1, x2, ALs_loc hR sf hd x1 x3 pg (lm d) LOCw.rf⟩
    · refine Or.inr ⟨by rw [f9]; exact x1, x2, ?_⟩
      rcases x3 with x3 | ⟨k, k1, k2, k3⟩ | x3
      · injection x3 with x3
        subst x3
        exact Or.inr (Or.inr (DEs_st de pg.1 (lm d) LOCw.rf dm2))
      · exact Or.inr (Or.inl ⟨k, k1, by rw [e955]; exact k2, by rw [e54]; exact k3⟩)
      · exact Or.inr (Or.inr (DEs_st x3 pg.1 (lm d) LOCw.rf dm2))
theorem RQ_text (rq : RQs Fv P Fv' P' PR m w r wr o x) (cn : CNq P P' m w) (hPR : PR ≤ 24) : ∃ hm k z k' z', rf (m.1 (pq r 17)) = some hm ∧ hm < 24 ∧ F m (pq hm 9) = 3 ∧ SZp (m.2.2.2 (pq hm 2)) (LFs (F m 22)) k (m.2.1 (pq r 16)) z ∧ z ≤ 1020 ∧ SZp (hp w o) (LFr (F w 14)) k' x z' ∧ z' ≤ 1000 ∧ TXs (m.2.2.2 (pq hm 2)) (ATc m) (m.2.1 (pq r 16)) = (if wr = 0 then TXs (hp w o) (ATr w) x else 123 :: (ATr w (if wr = 1 then 7 else 19) ++ 44 :: (TXs (hp w o) (ATr w) x ++ [125]))) := by
  obtain ⟨hm, s, g1, g2, g3, g4, g5, g6⟩ := rq
  obtain ⟨c1, c2, c3, c4, c5, c6⟩ := cn
  obtain ⟨ho, sr⟩ := g5
  rcases sr with ⟨e, -⟩ | ⟨jj, bS, n, ow, kd, f, n', ow', kd', f', e, ⟨y1, y2, y3⟩, ⟨y4, y5, y6⟩, y7, y8, y9⟩
  · cases e
  injection e with e
  subst e
  have hs := SZ_max y1 y8
  have sp := SZp_c (R := LFs (F m 22)) (show n ≤ 1000 by omega) c6 y8
  rcases y9 with ⟨z1, z2, z3⟩ | ⟨z, z1, z2, z3, z4, z5, z6, z7⟩
  · have hz := SZ_1000 y4 y5 z3
    refine ⟨hm, f, s, f', s, g1, by omega, g3, sp, by omega, SZp_m (R := LFr (F w 14)) (by omega) c5 z3, hz, ?_⟩
    rw [if_pos z1]
    exact TXs_isr y7 c1 z2 (SZp_m (R := LFr (F w 14)) (by omega) c5 z3)
  · have hz := SZ_1000 y4 y5 z7
    refine ⟨hm, f, s, f', z, g1, by omega, g3, sp, by omega, SZp_m (R := LFr (F w 14)) (by omega) c5 z7, hz, ?_⟩
    rw [if_neg (by omega), TXs_tup sp (by omega) z3, z4]
    show 123 :: ((TXs _ _ (m.2.2.2 (pq hm 2) (vn (m.2.1 (pq r 16)) + 1)) ++ 44 :: TXs _ _ (m.2.2.2 (pq hm 2) (vn (m.2.1 (pq r 16)) + 2))) ++ [125]) = _
    have so1 : ∀ a : Int, so (mk 1 a) = 1 := fun a => so_mk (by omega) (by omega)
    have tx : ∀ a : Nat, a < 22 → TXs (m.2.2.2 (pq hm 2)) (ATc m) (mk 1 ((a : Nat) : Int)) = ATr w a := fun a ha => by
      rw [TXs_al (by rw [so1]; omega) (by rw [so1]; omega), alT_1 (so1 _), show vn (mk 1 ((a : Nat) : Int)) = a from by unfold vn; rw [va_mk (by omega) (by omega)]; omega]
      exact c1 a (by omega)
    have e1 : TXs (m.2.2.2 (pq hm 2)) (ATc m) (m.2.2.2 (pq hm 2) (vn (m.2.1 (pq r 16)) + 1)) = ATr w (if wr = 1 then 7 else 19) := by
      rw [z5]
      by_cases c : wr = 1
      · rw [if_pos c, if_pos c]; exact tx 7 (by omega)
      · rw [if_neg c, if_neg c]; exact tx 19 (by omega)
    rw [e1, TXs_isr y7 c1 z6 (SZp_m (R := LFr (F w 14)) (by omega) c5 z7)]
    simp
end
end
section
set_option maxRecDepth 100000
def WTs (PR : Nat) (m w : MS) : Prop := ∃ L, WSm m L ∧ WSw w L ∧ ∀ y, y ∈ L → GWs PR y
def FQs (RR : Nat → MS → MS → Prop) (PR : Nat) (Fv : Int64 → Int64 → Prop) (P : Int64 → Prop) (Fv' : Int64 → Int64 → Prop) (P' : Int64 → Prop) (m w : MS) : Prop := ∃ i : Nat, WLs RR PR Fv P Fv' P' none i 0 m w ∧ (F m 956 = ((i : Nat) : Int) ∧ F m 955 = ((i : Nat) : Int)) ∧ (F w 149 = 0 ∧ F w 150 = 0) ∧ CNq P P' m w ∧ WTs PR m w
section
variable {Fv Fv' : Int64 → Int64 → Prop} {P P' : Int64 → Prop} {N f PR q r o i j d y : Nat} {m w m1 w1 m2 w2 m3 w3 : MS} {t x : Int64} {wr v4 : Int} {cur : Option Nat} {RR : Nat → MS → MS → Prop} {L L2 : List Int} {T : List Int32}
theorem WSm_st {Lw : List (Int × Int × Int)} (s : WSm m Lw) (h1 : m2.1 950 = m.1 950) (h2 : ∀ k, k = 49 ∨ k = 50 ∨ k = 51 → m2.2.2.1 k = m.2.2.1 k) : WSm m2 Lw := ⟨by show (m2.1 950).toInt = _; rw [h1]; exact s.1, s.2.1, fun i x hx => ⟨by show (m2.2.2.1 49 i).toInt = _; rw [h2 49 (by omega)]; exact (s.2.2 i x hx).1, by show (m2.2.2.1 50 i).toInt = _; rw [h2 50 (by omega)]; exact (s.2.2 i x hx).2.1, by show (m2.2.2.1 51 i).toInt = _; rw [h2 51 (by omega)]; exact (s.2.2 i x hx).2.2⟩⟩
theorem WSw_st {Lw : List (Int × Int × Int)} (s : WSw w Lw) (h1 : w2.1 125 = w.1 125) (h2 : ∀ k, k = 122 ∨ k = 123 ∨ k = 124 → w2.2.2.1 k = w.2.2.1 k) : WSw w2 Lw := ⟨by show (w2.1 125).toInt = _; rw [h1]; exact s.1, s.2.1, fun i x hx => ⟨by show (w2.2.2.1 123 i).toInt = _; rw [h2 123 (by omega)]; exact (s.2.2 i x hx).1, by show (w2.2.2.1 124 i).toInt = _; rw [h2 124 (by omega)]; exact (s.2.2 i x hx).2.1, by show (w2.2.2.1 122 i).toInt = _; rw [h2 122 (by omega)]; exact (s.2.2 i x hx).2.2⟩⟩
theorem WTs_st (h : WTs PR m w) (h1 : m2.1 950 = m.1 950) (h2 : ∀ k, k = 49 ∨ k = 50 ∨ k = 51 → m2.2.2.1 k = m.2.2.1 k) (h3 : w2.1 125 = w.1 125) (h4 : ∀ k, k = 122 ∨ k = 123 ∨ k = 124 → w2.2.2.1 k = w.2.2.1 k) : WTs PR m2 w2 := by
  obtain ⟨L, a, b, c⟩ := h
  exact ⟨L, WSm_st a h1 h2, WSw_st b h3 h4, c⟩
theorem GW_wt {Lw : List (Int × Int × Int)} (s : WSw w Lw) (g : ∀ y, y ∈ Lw → GWs PR y) : WTQ w PR := by
  refine ⟨by rw [s.1]; omega, by rw [s.1]; have := s.2.1; omega, fun i hi => ?_⟩
  rw [s.1] at hi
  have hi2 : i < Lw.length := by omega
  have ge : Lw[i]? = some Lw[i] := List.getElem?_eq_getElem hi2
  obtain ⟨a1, a2, a3⟩ := s.2.2 i _ ge
  obtain ⟨⟨a, b1, b2⟩, b3, -⟩ := g _ (List.getElem_mem hi2)
  rw [a1, a2]
  omega
theorem LS_nd (l : LSw w y L) (k : LKR w PR y) : L.Nodup ∧ ∀ z, z ∈ L → 0 ≤ z ∧ z < ((PR : Nat) : Int) ∧ z ≠ ((y : Nat) : Int) := by
  obtain ⟨l1, l2, l3⟩ := l
  obtain ⟨-, -, k3, k4⟩ := k
  refine ⟨List.pairwise_iff_getElem.mpr (fun a c ha hc hac e => ?_), fun z hz => ?_⟩
  · have g1 : L[a]? = some L[a] := List.getElem?_eq_getElem ha
    have g2 : L[c]? = some L[c] := List.getElem?_eq_getElem hc
    have e1 := l3 a _ g1
    have e2 := l3 c _ g2
    have := k4 a c (by rw [l1]; omega) (by rw [l1]; omega) (by rw [e1, e2, e])
    omega
  · obtain ⟨a, ha, e⟩ := List.mem_iff_getElem.mp hz
    have g1 : L[a]? = some L[a] := List.getElem?_eq_getElem ha
    have e1 := l3 a _ g1
    have := k3 a (by rw [l1]; omega)
    rw [e1, e] at this
    exact this
theorem WL_same (W : WLs RR PR Fv P Fv' P' cur i j m w) (s2 : SFs Fv P Fv' P' PR m2 w2) (pg : PGs m w m2 w2) (lm : ∀ d, LOCm d m m2) (lw : ∀ d, LOCw d w w2) (h1 : m2.1 955 = m.1 955) (h2 : m2.2.2.1 54 = m.2.2.1 54) (h3 : w2.1 150 = w.1 150) (h4 : ∀ K, K = 145 ∨ K = 146 ∨ K = 147 → w2.2.2.1 K = w.2.2.1 K) (h5 : w2.2.2.2 148 = w.2.2.2 148) : WLs RR PR Fv P Fv' P' cur i j m2 w2 := by
  have f9 : ∀ d, F m2 (pq d 9) = F m (pq d 9) := fun d => congrArg Int32.toInt (lm d 9 (by omega)).1
  have a9 : ∀ d, A w2 109 d = A w 109 d := fun d => congrArg Int32.toInt ((lw d).1 109 d (Or.inl ⟨by omega, rfl⟩))
  refine WL_gen W s2 (fun d hd => ⟨by rw [f9]; exact hd, (lm d 2 (by omega)).2.2.2, (lm d 17 (by omega)).1, (lm d 16 (by omega)).2.1⟩) (fun d _ => ⟨fun i hi => (lw d).2.2.2.2.1 _ (by omega) (by omega), congrArg Int32.toInt ((lw d).2.1 89 (by omega))⟩) (fun d hd => by rw [a9]; exact hd) (fun d _ _ _ h => QEs_st h (lm d) (lw d)) (fun d _ _ h => DEs_st h pg.1 (lm d) (lw d) (fun d hd => ⟨by rw [f9]; exact hd, (lm d 2 (by omega)).2.2.2⟩)) (fun d hd x1 x2 x3 => Or.inl ⟨by rw [f9]; exact x1, by rw [a9]; exact x2, ALs_loc W.2.2.2 W.1 hd x1 x3 pg (lm d) (lw d)⟩) ?_
  obtain ⟨n, q1, q2, -⟩ := W.2.1
  exact ⟨i + n, j + n, q1, q2, fun k _ => by show (m2.2.2.1 54 k).toInt = _; rw [h2]; rfl, fun k _ => ⟨fun K hK => by show (w2.2.2.1 K k).toInt = _; rw [h4 K hK]; rfl, by rw [h5]⟩, Or.inl ⟨by show (m2.1 955).toInt = _; rw [h1]; exact q1, by show (w2.1 150).toInt = _; rw [h3]; exact q2⟩⟩
theorem CUs_tab {Lw : List (Int × Int × Int)} (c : CUs RR PR Fv P Fv' P' i j r wr o x m w) (f1 : WFm m m2) (b1 : 0 ≤ F m2 950 ∧ F m2 950 ≤ 200) (f2 : WFw w w2) (s : WSw w2 Lw) (g : ∀ y, y ∈ Lw → GWs PR y) : CUs RR PR Fv P Fv' P' i j r wr o x m2 w2 := by
  have c0 := c
  obtain ⟨W, -⟩ := c
  obtain ⟨⟨d, cx⟩, ⟨dw, lk, wt⟩, pb⟩ := W.1
  have fc : FC 0 [950] [] [49, 50, 51] [] [] [] [] m m2 := FC.of f1 (by simp) (by simp) (by simp) (by simp)
  have d2 : DWc Fv P PR m2 := DWc_gl d fc (by simp) (by simp) (fun h0 => by
    have := (d.2 0 h0).1
    unfold SMQ at this ⊢
    rw [fc.Fq (by omega) (by simp), fc.Fq (by omega) (by simp), fc.Fq (by omega) (by simp), fc.Fq (by omega) (by simp)]
    exact this) (by simp) b1 (by rw [fc.Fg (by omega) (by simp)]; exact ⟨d.1.2.2.2.1.2.1, d.1.2.2.2.1.2.2⟩) (by simp)
  have pg : PGs m w m2 w2 := PGs_fr f1 f2 (by simp) (by simp) (by simp) (by simp) (fun k hk => by simp at hk; unfold PRr; omega) (by simp)
  have lm : ∀ d, LOCm d m m2 := fun d k hk => ⟨f1.1 _ (by simp; exact fun c => pq_n (by omega) c.symm), f1.2.1 _ (by simp), f1.2.2.1 _ (by simp; exact ⟨fun c => pq_n (by omega) c.symm, fun c => pq_n (by omega) c.symm, fun c => pq_n (by omega) c.symm⟩), f1.2.2.2 _ (by simp)⟩
  have lw : ∀ d, LOCw d w w2 := fun d => ⟨fun K k h => by rw [f2.2.2.1 K (by simp; rcases h with ⟨h, -⟩ | ⟨h, -⟩ | ⟨h, -⟩ | ⟨h, -⟩ <;> omega)], fun K h => by rw [f2.2.2.1 K (by simp; omega)], fun k _ _ => by rw [f2.2.2.1 131 (by simp)], by rw [f2.2.2.2 111 (by simp)], fun k _ _ => by rw [f2.2.2.2 88 (by simp)], fun k _ _ => by rw [f2.2.2.2 91 (by simp)], fun k _ _ => by rw [f2.2.2.2 93 (by simp)], fun k _ _ => by rw [f2.2.2.2 107 (by simp)]⟩
  have W2 := WL_same (m2 := m2) (w2 := w2) W ⟨⟨d2, CTX_fr cx (f1.1 22 (by simp)) (f1.2.2.1 3 (by simp))⟩, ⟨DW_fr dw f2 (by simp) (by simp) (by simp) (by simp) (by simp) (by simp) (by simp) (by simp) (by simp) (by simp) (by simp) (by simp) (by simp) (by simp) (by simp) (by simp) (by simp), LK_fr lk f2 (by simp) (by simp), GW_wt s g⟩, pb⟩ pg lm lw (f1.1 955 (by simp)) (f1.2.2.1 54 (by simp)) (f2.1 150 (by simp)) (fun K h => f2.2.2.1 K (by simp; omega)) (f2.2.2.2 148 (by simp))
  exact CUs_gen c0 W2 pg (fun k hk _ => (lm r k hk).1) (lm r 16 (by omega)).2.1 (fun K hK => by rw [f2.2.2.1 K (by simp; omega)]) (lw r).2.2.1 (fun d hd => ⟨by show (m2.1 (pq d 9)).toInt = 3; rw [(lm d 9 (by omega)).1]; exact hd, (lm d 2 (by omega)).2.2.2⟩) (fun d _ i hi => (lw d).2.2.2.2.1 _ (by omega) (by omega)) (fun d hd => by show (w2.2.2.1 109 d).toInt = 3; rw [(lw d).1 109 d (Or.inl ⟨by omega, rfl⟩)]; exact hd) (fun d _ => congrArg Int32.toInt ((lw d).2.1 89 (by omega))) (f1.1 956 (by simp)) (f2.1 149 (by simp))
theorem tell_pp (c : CUs RR PR Fv P Fv' P' i j r wr o x m w) (h15 : F m (pq r 15) = 0) (h117 : A w 117 r = 0) (hw : WTs PR m w) (hN : 3000000 ≤ N) {M : Nat} : PP (fun m2 (_ : Unit) w2 (_ : Unit) => (CUs RR PR Fv P Fv' P' i j r wr o x m2 w2 ∧ F m2 (pq r 15) = 0 ∧ A w2 117 r = 0) ∧ WTs PR m2 w2) (hm_Wl_tellWatchers N m r) ((gg_M_end N M).2.2.1 w (I ((r : Nat) : Int)) (I wr) (I ((o : Nat) : Int)) x 0) := by
  obtain ⟨Lw, a1, a2, a3⟩ := hw
  have hr := c.2.1.1
  have p24 := c.1.1.2.1.1.1.2
  unfold hm_Wl_tellWatchers hb_Wl_tellWatchers_0
  exact tell_lp (N := N) (J := fun m w => CUs RR PR Fv P Fv' P' i j r wr o x m w ∧ F m (pq r 15) = 0 ∧ A w 117 r = 0) (PR := PR) (by omega)
    (fun m w a cc hJ ha hc => pp_mo (wl_come (a := 5) (sort := 1) (Or.inr (Or.inr ⟨rfl, rfl⟩)) hJ.1.1 ha hJ.1.2.1.1 (fun c e => by injection e with e; subst e; exact hJ.1.2.1.2.1) hJ.1.2.2.1 hc hN) (fun m2 _ w2 _ h => ⟨⟨CUs_mv hJ.1 h.1 h.2, by show (m2.1 (pq r 15)).toInt = 0; rw [(h.2.2.1 r hJ.1.2.1.2.1 15 (by omega)).1]; exact hJ.2.1, by show (w2.2.2.1 117 r).toInt = 0; rw [(h.2.2.2.1 r (Or.inr hJ.1.2.1.2.2)).1 117 r (Or.inl ⟨by omega, rfl⟩)]; exact hJ.2.2⟩, ⟨h.2.2.2.2.1.1, h.2.2.2.2.1.2.1⟩, h.2.2.2.2.2.1, h.2.2.2.2.2.2.1⟩))
    (fun m w m2 w2 L hJ f1 b1 f2 s g => ⟨CUs_tab hJ.1 f1 b1 f2 s g, by rw [FR.F f1 (by simp; exact fun c => pq_n (by omega) c.symm)]; exact hJ.2.1, by rw [FR.A f2 (by simp)]; exact hJ.2.2⟩) (fun m w a hJ ha => findc_at hJ.1.1.1.1.1.1 ha) N M [] [] Lw 0 m w ⟨c, h15, h117⟩ (by simp) (by have := a1.2.1; omega) (by rw [Nat.zero_add]; exact a1.1) (fun i y hy => by simp at hy) (fun i y hy => by rw [Nat.zero_add]; exact a1.2.2 i y hy) a2 rfl a3
theorem WL_cur (W : WLs RR PR Fv P Fv' P' (some r) i j m w) (s2 : SFs Fv P Fv' P' PR m2 w) (hrd : F m (pq r 9) = 3) {k : Nat} (hk : k = 12 ∨ k = 15) (f1 : FR [pq r k] [] [] [] m m2) : WLs RR PR Fv P Fv' P' (some r) i j m2 w ∧ PGs m w m2 w := by
  have pg : PGs m w m2 w := PGs_fr f1 (FR.rf (is := []) (ls := []) (as := []) (js := [])) (fun k hk => by simp at hk; unfold pq at hk; omega) (by simp) (by simp) (by simp) (by simp) (by simp)
  have i1 : ∀ d l, l < 100 → (d ≠ r ∨ l ≠ k) → m2.1 (pq d l) = m.1 (pq d l) := fun d l hl h => f1.1 _ (by
    simp
    intro c
    have := pq_e hl (by omega) c
    omega)
  have lm : ∀ d, d ≠ r → LOCm d m m2 := fun d hd l hl => ⟨i1 d l hl (Or.inl hd), f1.2.1 _ (by simp), f1.2.2.1 _ (by simp), f1.2.2.2 _ (by simp)⟩
  have f9 : ∀ d, F m2 (pq d 9) = F m (pq d 9) := fun d => congrArg Int32.toInt (i1 d 9 (by omega) (Or.inr (by omega)))
  refine ⟨WL_gen W s2 (fun d hd => ⟨by rw [f9]; exact hd, f1.2.2.2 _ (by simp), i1 d 17 (by omega) (Or.inr (by omega)), f1.2.1 _ (by simp)⟩) (fun d _ => ⟨fun _ _ => rfl, rfl⟩) (fun d hd => hd) (fun d _ _ hc h => QEs_st h (lm d (fun z => hc (by rw [z]))) LOCw.rf) (fun d _ hc h => DEs_st h pg.1 (lm d (fun z => hc (by rw [z]))) LOCw.rf (fun d hd => ⟨by rw [f9]; exact hd, f1.2.2.2 _ (by simp)⟩)) (fun d hd x1 x2 x3 => Or.inl ⟨by rw [f9]; exact x1, x2, ALs_loc W.2.2.2 W.1 hd x1 x3 pg (lm d (fun z => x1 (by rw [z]; exact hrd))) LOCw.rf⟩) ?_, pg⟩
  obtain ⟨n, q1, q2, -⟩ := W.2.1
  exact ⟨i + n, j + n, q1, q2, fun l _ => FR.A f1 (by simp), fun l _ => ⟨fun K hK => rfl, rfl⟩, Or.inl ⟨by rw [FR.F f1 (by simp [pq_n])]; exact q1, q2⟩⟩
end
end
section
set_option maxRecDepth 100000
section
variable {Fv Fv' : Int64 → Int64 → Prop} {P P' : Int64 → Prop} {N f PR q r o i j d y : Nat} {m w m1 w1 m2 w2 m3 w3 : MS} {t x : Int64} {wr v4 : Int} {cur : Option Nat} {RR : Nat → MS → MS → Prop} {L L2 : List Int} {T : List Int32}
theorem bb_e {α β γ : Type} {a : Option (MS × α)} {g : MS → α → Option (MS × β)} {K : MS → β → Option (MS × γ)} : bnd (bnd a g) K = bnd a (fun u r => bnd (g u r) K) := by
  cases a with
  | none => rfl
  | some x => rfl
def STq (RR : Nat → MS → MS → Prop) (PR : Nat) (Fv : Int64 → Int64 → Prop) (P : Int64 → Prop) (Fv' : Int64 → Int64 → Prop) (P' : Int64 → Prop) (m w : MS) : Prop := ∃ i j : Nat, WLs RR PR Fv P Fv' P' none i j m w ∧ (F m 956 = ((i : Nat) : Int) ∧ F w 149 = ((j : Nat) : Int)) ∧ CNq P P' m w ∧ WTs PR m w
theorem st_B {M : Nat} (hA : ∀ (M2 : Nat) (m w : MS), STq RR PR Fv P Fv' P' m w → PP (fun m2 (_ : Unit) w2 (_ : Unit) => FQs RR PR Fv P Fv' P' m2 w2) ((hg_Wl_settle N M).1 m) (gg_M_allEnds N M2 w))
    (hB : ∀ (M2 M3 v2 : Nat) (m w : MS), CUs RR PR Fv P Fv' P' i j r wr o x m w → LSm m r L → LSw w r (L.drop v2) → v2 ≤ L.length → WTs PR m w → PP (fun m2 (_ : Unit) w2 (_ : Unit) => FQs RR PR Fv P Fv' P' m2 w2) ((hg_Wl_settle N M).2 m r (I ((v2 : Nat) : Int))) (bnd ((gg_M_end N M3).2.1 w (I ((r : Nat) : Int)) (I wr) (I ((o : Nat) : Int)) x) (fun u _ => gg_M_allEnds N M2 u)))
    (M2 M3 v2 : Nat) (m w : MS) (c : CUs RR PR Fv P Fv' P' i j r wr o x m w) (l1 : LSm m r L) (l2 : LSw w r (L.drop v2)) (hv : v2 ≤ L.length) (hw : WTs PR m w) (hN : 3000000 ≤ N) : PP (fun m2 (_ : Unit) w2 (_ : Unit) => FQs RR PR Fv P Fv' P' m2 w2) ((hg_Wl_settle N (M + 1)).2 m r (I ((v2 : Nat) : Int))) (bnd ((gg_M_end N M3).2.1 w (I ((r : Nat) : Int)) (I wr) (I ((o : Nat) : Int)) x) (fun u _ => gg_M_allEnds N M2 u)) := by
  cases M3 with
  | zero => exact pp_nr
  | succ M3 =>
  show PP _ (hb_Wl_settle_40 N (hg_Wl_settle N M) m r (I ((v2 : Nat) : Int))) (bnd (fb_M_end_129 N (gg_M_end N M3) w (I ((r : Nat) : Int)) (I wr) (I ((o : Nat) : Int)) x) (fun u _ => gg_M_allEnds N M2 u))
  have c0 := c
  obtain ⟨W, ⟨hr, hrd, hr9⟩, rq, ⟨n1, n2⟩, c13, c5, rz, ⟨c956, c149⟩, cn⟩ := c
  obtain ⟨⟨d, cx⟩, ⟨dw, lk, wt⟩, pb⟩ := W.1
  have p24 := dw.1.2
  have hd24 := l1.2.1
  have dl : (L.drop v2).length = L.length - v2 := List.length_drop
  unfold hb_Wl_settle_40 fb_M_end_129
  refine rb_ck (fun _ => ?_)
  rw [tnI (n := r) rfl (by omega), I_A' l2.1, I_F' l1.1, lit0q, dl]
  refine rb_le ⟨by omega, by omega⟩ ⟨by decide, by decide⟩ (fun z => ?_) (fun z => ?_)
  · 
    rw [decI (by omega) (by omega) (by omega) (by omega), decide_eq_true (by omega), br_tq, lt_e, wi_e]
    generalize hm1 : wi m (pq r 15) 0 = m1
    have f1 : FR [pq r 15] [] [] [] m m1 := by rw [← hm1]; exact FR.wi FR.rf (by simp)
    have fc : FC r [] [] [] [15] [] [14] [] m m1 := by rw [← hm1]; exact FC.wi_q FC.rf (by omega) (by simp)
    have e15 : F m1 (pq r 15) = 0 := by rw [← hm1, F_wi (by omega) (by omega), if_pos rfl]
    have wq := WQ_lk d hr fc (by omega) (by rw [← hm1]; rfl)
    obtain ⟨W1, pg⟩ := WL_cur (k := 15) W ⟨⟨wq.1, CTX_w cx wq.2.1⟩, ⟨dw, lk, wt⟩, pb⟩ hrd (Or.inr rfl) f1
    have i1 : ∀ e l, l < 100 → (e ≠ r ∨ l ≠ 15) → m1.1 (pq e l) = m.1 (pq e l) := fun e l hl h => f1.1 _ (by
      simp
      intro c
      have := pq_e hl (by omega) c
      omega)
    have cu : CUs RR PR Fv P Fv' P' i j r wr o x m1 w := CUs_gen c0 W1 pg (fun k hk h => i1 r k hk (Or.inr h)) (f1.2.1 _ (by simp)) (fun _ _ => rfl) (fun _ _ _ => rfl) (fun e he => ⟨by show (m1.1 (pq e 9)).toInt = 3; rw [i1 e 9 (by omega) (Or.inr (by omega))]; exact he, f1.2.2.2 _ (by simp)⟩) (fun _ _ _ _ => rfl) (fun _ h => h) (fun _ _ => rfl) (f1.1 956 (by simp [pq_n])) rfl
    have h117 : A w 117 r = 0 := by rw [l2.1, dl]; omega
    refine pp_bb (pp_mo (tell_pp cu e15 h117 (WTs_st hw (f1.1 950 (by simp [pq_n])) (fun k _ => f1.2.2.1 k (by simp)) rfl (fun _ _ => rfl)) hN) (fun m2 _ w2 _ h => ?_))
    obtain ⟨⟨cu2, g15, g117⟩, wt2⟩ := h
    obtain ⟨W2, ⟨k1, k2, k3⟩, rq2, ⟨k4, k5⟩, k6, k7, k8, ⟨k9, k10⟩, k11⟩ := cu2
    unfold hb_Wl_settle_104
    rw [I_F' k9, show I ((i : Nat) : Int) + 1 = I ((i + 1 : Nat) : Int) from addN, wi_e, lt_e]
    have f2 : FR [956] [] [] [] m2 (wi m2 956 ((i + 1 : Nat) : Int)) := FR.wi FR.rf (by simp)
    have fc2 : FC 0 [956] [] [] [] [] [] [] m2 (wi m2 956 ((i + 1 : Nat) : Int)) := FC.wi_g FC.rf (by omega) (by simp)
    have e956 : F (wi m2 956 ((i + 1 : Nat) : Int)) 956 = ((i + 1 : Nat) : Int) := by
      have := W2.1.1.1.1.2.2.2.1.1
      have h24 := cEc_le m2 PR
      obtain ⟨n, q1, -⟩ := W2.2.1
      rw [F_wi (by omega) (by omega), if_pos rfl]
    have d2 := W2.1.1.1
    have s3 : SFs Fv P Fv' P' PR (wi m2 956 ((i + 1 : Nat) : Int)) w2 := by
      obtain ⟨⟨d2, cx2⟩, es2, pb2⟩ := W2.1
      refine ⟨⟨DWc_gl d2 fc2 (by simp) (by simp) (fun h0 => ?_) (by simp) (by rw [fc2.Fg (by omega) (by simp)]; exact d2.1.2.2.1) ?_ (by simp), CTX_fr cx2 (f2.1 22 (by simp)) (f2.2.2.1 3 (by simp))⟩, es2, pb2⟩
      · have := (d2.2 0 h0).1
        unfold SMQ at this ⊢
        rw [fc2.Fq (by omega) (by simp), fc2.Fq (by omega) (by simp), fc2.Fq (by omega) (by simp), fc2.Fq (by omega) (by simp)]
        exact this
      · obtain ⟨n, q1, -⟩ := W2.2.1
        rw [e956, q1]
        omega
    have W3 := WL_done W2 s3 f2 ⟨k2, k3, k8, ⟨k4, k5⟩, k6, k7, g15, g117⟩
    have pg3 : PGs m2 w2 (wi m2 956 ((i + 1 : Nat) : Int)) w2 := PGs_fr f2 (FR.rf (is := []) (ls := []) (as := []) (js := [])) (by simp) (by simp) (by simp) (by simp) (by simp) (by simp)
    exact hA M2 _ w2 ⟨i + 1, j + 1, W3, ⟨e956, k10⟩, CNs_pg k11 pg3.1, WTs_st wt2 (f2.1 950 (by simp)) (fun _ _ => rfl) rfl (fun _ _ => rfl)⟩
  · 
    have hv2 : v2 < L.length := by omega
    have ed : L.drop v2 = L[v2] :: L.drop (v2 + 1) := List.drop_eq_getElem_cons hv2
    obtain ⟨nd, gd⟩ := LS_nd l2 (lk.1 r hr)
    rw [ed] at nd gd l2
    obtain ⟨y0, y1, y2⟩ := gd L[v2] (List.Mem.head _)
    obtain ⟨y, ey⟩ : ∃ y : Nat, L[v2] = ((y : Nat) : Int) := ⟨L[v2].toNat, by omega⟩
    have gl : L[v2]? = some ((y : Nat) : Int) := by rw [List.getElem?_eq_getElem hv2, ey]
    rw [ey] at nd gd l2 y0 y1 y2
    have hy : y < PR := by omega
    have yr : y ≠ r := by omega
    rw [decI (by omega) (by omega) (by omega) (by omega), decide_eq_false (by omega), br_fq]
    refine l_ck (fun _ => ?_)
    rw [tnI (n := v2) rfl (by omega), I_A' (l1.2.2 v2 _ gl), findc_at d.1 hy, bnd_so, show decide ((some y : Option Nat) = none) = false from rfl, br_fq, bo_s]
    refine rb_ck (fun _ => rb_lt ?_)
    have ix : (24 * I ((r : Nat) : Int)).toNatClampNeg = 24 * r + 0 := by
      rw [show (24 : Int32) = I 24 from rfl, I_mul]
      exact tnI (n := 24 * r + 0) (by omega) (by omega)
    rw [ix, I_A' (l2.2.2 0 _ rfl)]
    obtain ⟨Ly, m1l, w1l⟩ := WL_ls W hy yr
    obtain ⟨ndy, -⟩ := LS_nd w1l (lk.1 y hy)
    have rgr : RG ((r : Nat) : Int) := ⟨by omega, by omega⟩
    have rgy : RG ((y : Nat) : Int) := ⟨by omega, by omega⟩
    refine rb_bnd (pk_mo (pk_andq (rml_w (N := N) (by omega) rgy l2) (pk_ok (removeLink_ok (N := N) (PR := PR) (p := r) (q := y) (by omega) (by omega) (lk.1 r hr) (by omega)))) (fun w1 _ h1 => ?_))
    obtain ⟨⟨lr1, lf1⟩, rm1, kr1⟩ := h1
    have er : (((y : Nat) : Int) :: L.drop (v2 + 1)).filter (fun z => decide (z ≠ ((y : Nat) : Int))) = L.drop (v2 + 1) := by
      have := flt_mid (x := ((y : Nat) : Int)) (L1 := []) (L2 := L.drop (v2 + 1)) (by simp) (List.nodup_cons.mp nd).1
      exact this
    rw [er] at lr1
    have w1y : LSw w1 y Ly := ⟨by rw [lf1.2.1 y yr]; exact w1l.1, w1l.2.1, fun k z hz => by
      have hk : k < Ly.length := by
        apply Classical.byContradiction
        intro c
        rw [List.getElem?_eq_none (by omega)] at hz
        cases hz
      have := w1l.2.1
      rw [lf1.2.2 _ (by omega)]
      exact w1l.2.2 k z hz⟩
    have lky : LKR w1 PR y := by
      have := lk.1 y hy
      unfold LKR at this ⊢
      have e117 : A w1 117 y = A w 117 y := lf1.2.1 y yr
      have h24 := this.2.1
      have e116 : ∀ k : Nat, (k : Int) < A w 117 y → A w1 116 (24 * y + k) = A w 116 (24 * y + k) := fun k hk => lf1.2.2 _ (by omega)
      rw [e117]
      refine ⟨this.1, this.2.1, fun k hk => by rw [e116 k hk]; exact this.2.2.1 k hk, fun k l hk hl e => ?_⟩
      rw [e116 k hk, e116 l hl] at e
      exact this.2.2.2 k l hk hl e
    refine rb_bnd (pk_mo (pk_andq (rml_w (N := N) (by omega) rgr w1y) (pk_ok (removeLink_ok (N := N) (PR := PR) (p := y) (q := r) (by omega) (by omega) lky (by omega)))) (fun w2 _ h2 => ?_))
    obtain ⟨⟨ly2, lf2⟩, rm2, kr2⟩ := h2
    refine l_bnd (pk_mo (pk_andq (rml_m (N := N) m1l rgr) (pk_ok (removeLinkc_ok (N := N) (x := ((r : Nat) : Int)) d hy rgr (by omega)))) (fun m1 _ h3 => ?_))
    obtain ⟨⟨lm1, fm1⟩, wq, e956, fcm⟩ := h3
    have lm1 : LSm m1 y (Ly.filter (fun z => decide (z ≠ ((r : Nat) : Int)))) := by
      rcases lm1 with h | h
      · exact h
      · exact absurd ndy h
    have fw : FR [] [] [116, 117] [] w w2 := FR.tr lf1.1 lf2.1
    have s2 : SFs Fv P Fv' P' PR m1 w2 := ⟨⟨wq.1, CTX_w cx wq.2.1⟩, ⟨DW_fr dw fw (by simp) (by simp) (by simp) (by simp) (by simp) (by simp) (by simp) (by simp) (by simp) (by simp) (by simp) (by simp) (by simp) (by simp) (by simp) (by simp) (by simp), LK_two p24 hr hy (fun c => yr c.symm) lk rm1 kr1 rm2 kr2, WTQ_fr wt fw (by simp) (by simp) (by simp)⟩, pb⟩
    obtain ⟨W2, pg, lm, lw⟩ := WL_link W s2 hrd hy yr fm1 fw (fun k h1 h2 => by rw [lf2.2.1 k h1, lf1.2.1 k h2]) (fun k h1 h2 => by rw [lf2.2.2 k h1, lf1.2.2 k h2]) lm1 ly2 (fun de => by
      have e0 : Ly = [] := by
        have := de.2.2.2.2.2.2.1
        rw [m1l.1] at this
        exact List.length_eq_zero_iff.mp (by omega)
      rw [e0]
      rfl)
    have wa : ∀ K, K ≠ 116 → K ≠ 117 → w2.2.2.1 K = w.2.2.1 K := fun K h1 h2 => fw.2.2.1 K (by simp; omega)
    have f9 : ∀ e, F m1 (pq e 9) = F m (pq e 9) := fun e => by
      by_cases ce : e = y
      · subst ce
        exact FR.F fm1 (by simp; exact pq_inj (by omega))
      · exact congrArg Int32.toInt (lm e ce 9 (by omega)).1
    have cu2 : CUs RR PR Fv P Fv' P' i j r wr o x m1 w2 := CUs_gen c0 W2 pg (fun k hk _ => (lm r (fun c => yr c.symm) k hk).1) (lm r (fun c => yr c.symm) 16 (by omega)).2.1 (fun K hK => by rw [wa K (by omega) (by omega)]) (fun k _ _ => by rw [wa 131 (by omega) (by omega)]) (fun e he => ⟨by rw [f9]; exact he, fm1.2.2.2 _ (by simp)⟩) (fun e _ k _ => by unfold hp; rw [fw.2.2.2 88 (by simp)]) (fun e he => by show (w2.2.2.1 109 e).toInt = 3; rw [wa 109 (by omega) (by omega)]; exact he) (fun e _ => FR.A fw (by simp)) (fm1.1 956 (by simp [pq_n])) (fw.1 149 (by simp))
    have l1' : LSm m1 r L := LSm_st l1 (lm r (fun c => yr c.symm) 15 (by omega)).1 (lm r (fun c => yr c.symm) 14 (by omega)).2.2.1
    have l2' : LSw w2 r (L.drop (v2 + 1)) := ⟨by rw [lf2.2.1 r (fun c => yr c.symm)]; exact lr1.1, lr1.2.1, fun k z hz => by
      have hk : k < (L.drop (v2 + 1)).length := by
        apply Classical.byContradiction
        intro c
        rw [List.getElem?_eq_none (by omega)] at hz
        cases hz
      have := lr1.2.1
      rw [lf2.2.2 _ (by omega)]
      exact lr1.2.2 k z hz⟩
    have wt2 : WTs PR m1 w2 := WTs_st hw (fm1.1 950 (by simp [pq_n])) (fun k hk => fm1.2.2.1 k (by simp; exact pq_n (by omega))) (fw.1 125 (by simp)) (fun k hk => wa k (by omega) (by omega))
    rw [bb_e]
    refine pp_bb (pp_mo (wl_sig (N := N) W2 hy hr (by rw [f9]; exact hrd) (fun c e => by injection e with e; subst e; rw [f9]; exact hrd) cu2.2.2.1 hN) (fun m3 _ w3 _ h4 => ?_))
    obtain ⟨W3, mv⟩ := h4
    unfold hb_Wl_settle_88
    rw [show I ((v2 : Nat) : Int) + 1 = I ((v2 + 1 : Nat) : Int) from addN]
    have lo1 := mv.2.1 r (by rw [f9]; exact hrd)
    have lo2 := mv.2.2.1 r (Or.inr cu2.2.1.2.2)
    exact hB M2 M3 (v2 + 1) m3 w3 (CUs_mv cu2 W3 mv) (LSm_st l1' (lo1 15 (by omega)).1 (lo1 14 (by omega)).2.2.1) (LSw_st l2' lo2) (by omega) (WTs_st wt2 mv.2.2.2.1.2.1 mv.2.2.2.1.1 mv.2.2.2.2.2.1 mv.2.2.2.2.1)
end
end
section
set_option maxRecDepth 100000
section
variable {Fv Fv' : Int64 → Int64 → Prop} {P P' : Int64 → Prop} {N f PR q r o i j d y : Nat} {m w m1 w1 m2 w2 m3 w3 : MS} {t x : Int64} {wr v4 : Int} {cur : Option Nat} {RR : Nat → MS → MS → Prop} {L L2 : List Int} {T : List Int32}
theorem LOCw_fr {is ls as js : List Nat} (f : FR is ls as js w w2) (h1 : ∀ k, k ∈ as → k < 200 → k ∉ [89, 90, 92, 94, 95, 96, 97, 98, 99, 100, 101, 102, 103, 104, 105, 106, 108, 109, 110, 112, 113, 114, 115, 116, 117, 131, 132, 170]) (h2 : ∀ k, k ∈ js → k ∉ [88, 91, 93, 107, 111]) (d : Nat) : LOCw d w w2 := by
  have g : ∀ K, K < 200 → K ∈ [89, 90, 92, 94, 95, 96, 97, 98, 99, 100, 101, 102, 103, 104, 105, 106, 108, 109, 110, 112, 113, 114, 115, 116, 117, 131, 132, 170] → w2.2.2.1 K = w.2.2.1 K := fun K hK c => f.2.2.1 K (fun z => h1 K z hK c)
  have gj : ∀ K, K ∈ [88, 91, 93, 107, 111] → w2.2.2.2 K = w.2.2.2 K := fun K c => f.2.2.2 K (fun z => h2 K z c)
  refine ⟨fun K k h => ?_, fun K h => ?_, fun k _ _ => by rw [g 131 (by omega) (by simp)], by rw [gj 111 (by simp)], fun k _ _ => by rw [gj 88 (by simp)], fun k _ _ => by rw [gj 91 (by simp)], fun k _ _ => by rw [gj 93 (by simp)], fun k _ _ => by rw [gj 107 (by simp)]⟩
  · have hK : K ∈ [89, 90, 92, 94, 95, 96, 97, 98, 99, 100, 101, 102, 103, 104, 105, 106, 108, 109, 110, 112, 113, 114, 115, 116, 117, 131, 132, 170] := by
      simp only [List.mem_cons, List.not_mem_nil, or_false]
      rcases h with ⟨h, -⟩ | ⟨h, -⟩ | ⟨h, -⟩ | ⟨h, -⟩ <;> omega
    rw [g K (by simp only [List.mem_cons, List.not_mem_nil, or_false] at hK; omega) hK]
  · rw [g K (by omega) (by simp only [List.mem_cons, List.not_mem_nil, or_false]; omega)]
theorem PGs_w {is ls as js : List Nat} (f : FR is ls as js w w2) (h1 : ∀ k, k ∈ as → ¬ PRr k ∧ k ≠ 12 ∧ k ≠ 13) (h2 : 34 ∉ js) (h3 : ∀ k, k ∈ is → k ≠ 14 ∧ k ≠ 133 ∧ ¬ (151 ≤ k ∧ k ≤ 165)) : PGs m w m w2 := PGs_fr (FR.rf (is := []) (ls := []) (as := []) (js := [])) f (by simp) (by simp) (by simp) h3 h1 h2
theorem st_A {M : Nat} (hB : ∀ (i j r : Nat) (wr : Int) (o : Nat) (x : Int64) (L : List Int) (M2 M3 v2 : Nat) (m w : MS), CUs RR PR Fv P Fv' P' i j r wr o x m w → LSm m r L → LSw w r (L.drop v2) → v2 ≤ L.length → WTs PR m w → PP (fun m2 (_ : Unit) w2 (_ : Unit) => FQs RR PR Fv P Fv' P' m2 w2) ((hg_Wl_settle N M).2 m r (I ((v2 : Nat) : Int))) (bnd ((gg_M_end N M3).2.1 w (I ((r : Nat) : Int)) (I wr) (I ((o : Nat) : Int)) x) (fun u _ => gg_M_allEnds N M2 u))) (M2 : Nat) (m w : MS) (st : STq RR PR Fv P Fv' P' m w) : PP (fun m2 (_ : Unit) w2 (_ : Unit) => FQs RR PR Fv P Fv' P' m2 w2) ((hg_Wl_settle N (M + 1)).1 m) (gg_M_allEnds N M2 w) := by
  cases M2 with
  | zero => exact pp_nr
  | succ M2 =>
  show PP _ (hb_Wl_settle_0 N (hg_Wl_settle N M) m) (fb_M_allEnds_0 N (gg_M_allEnds N M2) w)
  obtain ⟨i, j, W, ⟨h956, h149⟩, cn, wts⟩ := st
  have W0 := W
  obtain ⟨sf, ⟨n, q1, q2, q3, q4⟩, pr, hR⟩ := W
  obtain ⟨⟨d, cx⟩, ⟨dw, lk, wt⟩, pb⟩ := sf
  have p24 := dw.1.2
  have ce := cEc_le m PR
  have h955 := d.1.2.2.2.1.1
  have i24 : i + n ≤ 24 := by omega
  have j24 : j + n ≤ 24 := by
    obtain ⟨eF, eM, -, k2, -, k4, -⟩ := dw.2.2.2.2.1
    have := cE_le w PR
    omega
  unfold hb_Wl_settle_0 fb_M_allEnds_0
  rw [I_F' q1, I_F' h956, I_F' q2, I_F' h149, decI (by omega) (by omega) (by omega) (by omega), decI (by omega) (by omega) (by omega) (by omega)]
  by_cases n0 : n = 0
  · subst n0
    rw [decide_eq_true (by omega), br_tq, decide_eq_true (by omega), br_tq, lit0q, wi_e, lt_e, wi_e, lt_e]
    have f1 : FR [149, 150] [] [] [] w (wi (wi w 149 0) 150 0) := FR.wi (FR.wi FR.rf (by simp)) (by simp)
    have e150 : F (wi (wi w 149 0) 150 0) 150 = ((0 : Nat) : Int) := by rw [F_wi (by omega) (by omega), if_pos rfl]; rfl
    have e149 : F (wi (wi w 149 0) 150 0) 149 = ((0 : Nat) : Int) := by rw [F_wi (by omega) (by omega), if_neg (by omega), F_wi (by omega) (by omega), if_pos rfl]; rfl
    have pg : PGs m w m (wi (wi w 149 0) 150 0) := PGs_w f1 (by simp) (by simp) (by simp)
    have lw : ∀ e, LOCw e w (wi (wi w 149 0) 150 0) := LOCw_fr f1 (by simp) (by simp)
    have s2 : SFs Fv P Fv' P' PR m (wi (wi w 149 0) 150 0) := ⟨⟨d, cx⟩, ⟨DW_ev dw f1 e149 e150 (Nat.le_refl _) (by rw [q2]; omega) (Or.inr rfl), LK_fr lk f1 (by simp) (by simp), WTQ_fr wt f1 (by simp) (by simp) (by simp)⟩, pb⟩
    refine pp_end ⟨i, ⟨s2, ⟨0, q1, e150, fun k hk => absurd hk (Nat.not_lt_zero _), fun k l hk => absurd hk (Nat.not_lt_zero _)⟩, fun e he => ?_, hR⟩, ⟨h956, q1⟩, ⟨e149, e150⟩, CNs_pg cn pg.1, WTs_st wts rfl (fun _ _ => rfl) (f1.1 125 (by simp)) (fun k hk => f1.2.2.1 k (by simp))⟩
    rcases pr e he with ⟨x1, x2, x3⟩ | ⟨x1, x2, x3⟩
    · exact Or.inl ⟨x1, x2, ALs_loc hR ⟨⟨d, cx⟩, ⟨dw, lk, wt⟩, pb⟩ he x1 x3 pg LOCm.rf (lw e)⟩
    · refine Or.inr ⟨x1, x2, ?_⟩
      rcases x3 with x3 | ⟨k, k1, k2, k3⟩ | x3
      · exact Or.inl x3
      · omega
      · exact Or.inr (Or.inr (DEs_st x3 pg.1 LOCm.rf (lw e) (fun _ h => ⟨h, rfl⟩)))
  · rw [decide_eq_false (by omega), br_fq]
    refine r_br (fun c => absurd (of_decide_eq_true c) (by omega)) (fun _ => ?_)
    obtain ⟨r, wr, o, ⟨hr, -, hrd⟩, h54, h145, h146, h147, rq, qe⟩ := q3 0 (by omega)
    rw [Nat.add_zero] at h54 h145 h146 h147 rq
    refine l_ck (fun _ => ?_)
    rw [tnI (n := i) rfl (by omega), I_A' h54]
    refine l_ck (fun _ => ?_)
    rw [tnI (n := r) rfl (by omega), d.1.2.1 r hr, bo_s, litm1q, wi_e, lt_e]
    rw [lt_e, show I ((j : Nat) : Int) + 1 = I ((j + 1 : Nat) : Int) from addN, wi_e]
    refine r_ck (fun _ => r_ck (fun _ => r_ck (fun _ => r_ck (fun _ => ?_))))
    rw [tnI (n := j) rfl (by omega)]
    generalize hw1 : wi w 149 ((j + 1 : Nat) : Int) = w1
    have f1 : FR [149, 150] [] [] [] w w1 := by rw [← hw1]; exact FR.wi FR.rf (by simp)
    have e149 : F w1 149 = ((j + 1 : Nat) : Int) := by rw [← hw1, F_wi (by omega) (by omega), if_pos rfl]
    have e150 : F w1 150 = ((j + n : Nat) : Int) := by rw [← hw1, F_wi (by omega) (by omega), if_neg (by omega)]; exact q2
    have aw1 : ∀ K k, A w1 K k = A w K k := fun K k => FR.A f1 (by simp)
    have jw1 : ∀ K, w1.2.2.2 K = w.2.2.2 K := fun K => f1.2.2.2 K (by simp)
    rw [I_A' ((aw1 145 j).trans h145), I_A' ((aw1 146 j).trans h146), I_A' ((aw1 147 j).trans h147), jw1]
    have pg1 : PGs m w m w1 := PGs_w f1 (by simp) (by simp) (by simp)
    have lw1 : ∀ e, LOCw e w w1 := LOCw_fr f1 (by simp) (by simp)
    have a9 : A w 109 r = 3 := by
      rcases pr r hr with h | h
      · exact absurd hrd h.1
      · exact h.2.1
    have rq1 : RQs Fv P Fv' P' PR m w1 r wr o (w.2.2.2 148 j) := RQs_st rq rfl rfl (fun _ h => ⟨h, rfl⟩) (fun e _ k hk => (lw1 e).2.2.2.2.1 _ (by omega) (by omega)) (fun e he => by rw [aw1]; exact he) (fun e _ => aw1 89 e)
    have cn1 := CNs_pg cn pg1.1
    obtain ⟨hm, k, z, k', z', g1, g2, g3, g4, g5, g6, g7, g8⟩ := RQ_text rq1 cn1 p24
    obtain ⟨-, -, -, -, -, -, -, -, gw, ho, -⟩ := RQ_src rq1
    unfold fm_M_end
    refine end_text (N := N) (K := fun u _ => gg_M_allEnds N M2 u) (by omega) ho gw cn1.2.1 cn1.2.2.1 cn1.2.2.2.1 g6 g7 g8 (fun M3 w2 tx => ?_)
    obtain ⟨t1, t2, t3, t4, t5⟩ := tx
    generalize hm1 : wi m (pq r 12) (-1) = m1
    have fm : FR [pq r 12] [] [] [] m m1 := by rw [← hm1]; exact FR.wi FR.rf (by simp)
    have fc : FC r [] [] [] [12] [] [] [] m m1 := by rw [← hm1]; exact FC.wi_q FC.rf (by omega) (by simp)
    have i1 : ∀ e l, l < 100 → (e ≠ r ∨ l ≠ 12) → m1.1 (pq e l) = m.1 (pq e l) := fun e l hl h => fm.1 _ (by
      simp
      intro c
      have := pq_e hl (by omega) c
      omega)
    have lm : ∀ e, e ≠ r → LOCm e m m1 := fun e he l hl => ⟨i1 e l hl (Or.inl he), fm.2.1 _ (by simp), fm.2.2.1 _ (by simp), fm.2.2.2 _ (by simp)⟩
    have lw2 : ∀ e, e ≠ r → LOCw e w1 w2 := fun e he => by
      refine ⟨fun K k h => ?_, fun K h => ?_, fun k a c => t4 k (by omega), by rw [t1.2.2.2 111 (by simp)], fun k _ _ => by rw [t1.2.2.2 88 (by simp)], fun k _ _ => by rw [t1.2.2.2 91 (by simp)], fun k _ _ => by rw [t1.2.2.2 93 (by simp)], fun k _ _ => by rw [t1.2.2.2 107 (by simp)]⟩
      · by_cases c : K = 113
        · subst c
          have ke : k = e := by
            rcases h with h | h | h | h
            · exact h.2
            · omega
            · omega
            · omega
          rw [t5, if_neg (by omega)]
        · rw [t1.2.2.1 K (by
            simp only [List.mem_cons, List.not_mem_nil, or_false]
            rcases h with ⟨h, -⟩ | ⟨h, -⟩ | ⟨h, -⟩ | ⟨h, -⟩ <;> omega)]
      · rcases h with rfl | rfl | rfl | rfl
        · rw [t1.2.2.1 89 (by simp)]
        · rw [t1.2.2.1 90 (by simp)]
        · rw [t1.2.2.1 108 (by simp)]
        · rw [t2, if_neg he]
    have wa2 : ∀ K, K ≠ 113 → K ≠ 131 → K ≠ 132 → K ≠ 143 → w2.2.2.1 K = w.2.2.1 K := fun K h1 h2 h3 h4 => by rw [t1.2.2.1 K (by simp; omega), f1.2.2.1 K (by simp)]
    have pg2 : PGs m1 w1 m1 w2 := PGs_w t1 (fun K hK => by simp at hK; unfold PRr; omega) (by simp) (by simp)
    have pgm : PGs m w1 m1 w1 := PGs_fr fm (FR.rf (is := []) (ls := []) (as := []) (js := [])) (fun k hk => by simp at hk; unfold pq at hk; omega) (by simp) (by simp) (by simp) (by simp) (by simp)
    have pg := PGs.tr (PGs.tr pg1 pgm) pg2
    have d2 : DWc Fv P PR m1 := DWc_gl d fc (by simp) (by simp) (fun _ => by
      have := (d.2 r hr).1
      unfold SMQ at this ⊢
      rw [fc.Fq (by omega) (by simp), fc.Fq (by omega) (by simp), fc.Fq (by omega) (by simp), fc.Fq (by omega) (by simp)]
      exact this) (by simp) (by rw [fc.Fg (by omega) (by simp)]; exact d.1.2.2.1) (by rw [fc.Fg (by omega) (by simp)]; exact ⟨d.1.2.2.2.1.2.1, d.1.2.2.2.1.2.2⟩) (by simp)
    have dw1 : DW Fv' P' PR w1 := DW_ev dw f1 e149 e150 (by omega) (by rw [q2]; exact Int.le_refl _) (Or.inl (by rw [h149]; omega))
    have s2 : SFs Fv P Fv' P' PR m1 w2 := ⟨⟨d2, CTX_fr cx (fm.1 22 (by simp [pq_n])) (fm.2.2.1 3 (by simp))⟩, ⟨DW_fr dw1 t1 (by simp) (by simp) (by simp) (by simp) (by simp) (by simp) (by simp) (by simp) (by simp) (by simp) (by simp) (by simp) (by simp) (by simp) (by simp) (by simp) (by simp), LK_fr (LK_fr lk f1 (by simp) (by simp)) t1 (by simp) (by simp), WTQ_fr (WTQ_fr wt f1 (by simp) (by simp) (by simp)) t1 (by simp) (by simp) (by simp)⟩, pb⟩
    have f9 : ∀ e, F m1 (pq e 9) = F m (pq e 9) := fun e => congrArg Int32.toInt (i1 e 9 (by omega) (Or.inr (by omega)))
    have a92 : ∀ e, A w2 109 e = A w 109 e := fun e => by show (w2.2.2.1 109 e).toInt = _; rw [wa2 109 (by omega) (by omega) (by omega) (by omega)]; rfl
    have a89 : ∀ e, A w2 89 e = A w 89 e := fun e => by show (w2.2.2.1 89 e).toInt = _; rw [wa2 89 (by omega) (by omega) (by omega) (by omega)]; rfl
    have hp2 : ∀ e k, hp w2 e k = hp w e k := fun e k => by unfold hp; rw [t1.2.2.2 88 (by simp), f1.2.2.2 88 (by simp)]
    have W2 : WLs RR PR Fv P Fv' P' (some r) (i + 1) (j + 1) m1 w2 := WL_pop W0 s2 pg h54 hr hrd (by rw [q1]; omega) (fun e he => ⟨lm e he, LOCw.tr (lw1 e) (lw2 e he)⟩) (LOCw.tr (lw1 24) (lw2 24 (by omega))) ⟨by rw [f9]; exact hrd, fm.2.2.2 _ (by simp), i1 r 17 (by omega) (Or.inr (by omega)), fm.2.1 _ (by simp)⟩ ⟨fun k _ => hp2 r k, a89 r, by rw [a92]; exact a9⟩ (fm.1 955 (by simp [pq_n])) (fm.2.2.1 54 (by simp)) (by rw [t1.1 150 (by simp), f1' hw1]) (fun K hK => wa2 K (by omega) (by omega) (by omega) (by omega)) (by rw [t1.2.2.2 148 (by simp), jw1])
    have rq2 : RQs Fv P Fv' P' PR m1 w2 r wr o (w.2.2.2 148 j) := RQs_st rq (i1 r 17 (by omega) (Or.inr (by omega))) (fm.2.1 _ (by simp)) (fun e he => ⟨by rw [f9]; exact he, fm.2.2.2 _ (by simp)⟩) (fun e _ k _ => hp2 e k) (fun e he => by rw [a92]; exact he) (fun e _ => a89 e)
    obtain ⟨-, qe2, qe3, L, qe4, qe5⟩ := qe
    have e22 : F m1 22 = F m 22 := FR.F fm (by simp [pq_n])
    have eAT : ATc m1 = ATc m := ATc_eq (fm.2.2.1 2 (by simp)) (fm.2.2.1 3 (by simp))
    have rz : RZs m1 w2 r := by
      refine ⟨hm, k, z, by rw [i1 r 17 (by omega) (Or.inr (by omega))]; exact g1, g2, by rw [f9]; exact g3, by rw [fm.2.2.2 _ (by simp), e22, fm.2.1 _ (by simp)]; exact g4, g5, ?_, fun k9 hk9 => ?_⟩
      · show (w2.2.2.1 132 r).toInt = _
        rw [t2, if_pos rfl, fm.2.2.2 _ (by simp), fm.2.1 _ (by simp), eAT]
        exact I_ti (by omega) (by omega)
      · rw [fm.2.2.2 _ (by simp), fm.2.1 _ (by simp), eAT] at hk9 ⊢
        exact t3 k9 hk9
    have n12 : m1.1 (pq r 12) = I (-1) := by
      rw [← hm1]
      exact if_pos rfl
    have cu : CUs RR PR Fv P Fv' P' i j r wr o (w.2.2.2 148 j) m1 w2 := ⟨W2, ⟨hr, by rw [f9]; exact hrd, by rw [a92]; exact a9⟩, rq2, ⟨n12, by rw [t5, if_pos rfl]⟩, by rw [i1 r 13 (by omega) (Or.inr (by omega)), wa2 114 (by omega) (by omega) (by omega) (by omega)]; exact qe2, by rw [i1 r 5 (by omega) (Or.inr (by omega)), wa2 90 (by omega) (by omega) (by omega) (by omega)]; exact qe3, rz, ⟨by rw [FR.F fm (by simp [pq_n])]; exact h956, by rw [FR.F t1 (by simp)]; exact e149⟩, CNs_pg cn pg.1⟩
    exact hB i j r wr o _ L M2 M3 0 m1 w2 cu (LSm_st qe4 (i1 r 15 (by omega) (Or.inr (by omega))) (fm.2.2.1 _ (by simp))) (LSw_fr qe5 (wa2 116 (by omega) (by omega) (by omega) (by omega)) (wa2 117 (by omega) (by omega) (by omega) (by omega))) (by omega) (WTs_st wts (fm.1 950 (by simp [pq_n])) (fun k _ => fm.2.2.1 k (by simp)) (by rw [t1.1 125 (by simp), f1.1 125 (by simp)]) (fun k hk => wa2 k (by omega) (by omega) (by omega) (by omega)))
where
  f1' {w w1 : MS} {j : Nat} (h : wi w 149 ((j + 1 : Nat) : Int) = w1) : w1.1 150 = w.1 150 := by
    rw [← h]
    exact wi_1 (by omega)
theorem st_all (hN : 3000000 ≤ N) : ∀ M : Nat, (∀ (M2 : Nat) (m w : MS), STq RR PR Fv P Fv' P' m w → PP (fun m2 (_ : Unit) w2 (_ : Unit) => FQs RR PR Fv P Fv' P' m2 w2) ((hg_Wl_settle N M).1 m) (gg_M_allEnds N M2 w)) ∧ ∀ (i j r : Nat) (wr : Int) (o : Nat) (x : Int64) (L : List Int) (M2 M3 v2 : Nat) (m w : MS), CUs RR PR Fv P Fv' P' i j r wr o x m w → LSm m r L → LSw w r (L.drop v2) → v2 ≤ L.length → WTs PR m w → PP (fun m2 (_ : Unit) w2 (_ : Unit) => FQs RR PR Fv P Fv' P' m2 w2) ((hg_Wl_settle N M).2 m r (I ((v2 : Nat) : Int))) (bnd ((gg_M_end N M3).2.1 w (I ((r : Nat) : Int)) (I wr) (I ((o : Nat) : Int)) x) (fun u _ => gg_M_allEnds N M2 u)) := by
  intro M
  induction M with
  | zero => exact ⟨fun _ _ _ _ => pp_nl, fun _ _ _ _ _ _ _ _ _ _ _ _ _ _ _ _ _ => pp_nl⟩
  | succ M ih => exact ⟨fun M2 m w h => st_A ih.2 M2 m w h, fun i j r wr o x L M2 M3 v2 m w c l1 l2 hv hw => st_B ih.1 (ih.2 i j r wr o x L) M2 M3 v2 m w c l1 l2 hv hw hN⟩
theorem settle_pp (st : STq RR PR Fv P Fv' P' m w) (hN : 3000000 ≤ N) : PP (fun m2 (_ : Unit) w2 (_ : Unit) => FQs RR PR Fv P Fv' P' m2 w2) (hm_Wl_settle N m) (fm_M_allEnds N w) := (st_all (PR := PR) (Fv := Fv) (P := P) (Fv' := Fv') (P' := P') hN (N + 1)).1 (N + 1) m w st
end
end
section
set_option maxRecDepth 100000
def WTr (q : Nat) (m w : MS) : Prop := ∃ j nb Hs Os, FAs m w q j nb Hs Os ∧ CTs m w q j nb Hs Os ∧ STs9 m w q j (Hs j) (Os j)
section
variable {b : Int → Nat → Nat → Prop} {Fv Fv' : Int64 → Int64 → Prop} {P P' : Int64 → Prop} {N PR q r p i j U B Wt Y : Nat} {m w m2 w2 : MS} {t x : Int64} {v4 : Int} {cur : Option Nat} {RR : Nat → MS → MS → Prop}
theorem WTr_st (h : WTr q m w) (h1 : EQn q m m2) (h2 : EQv q w w2) : WTr q m2 w2 := by
  obtain ⟨j, nb, Hs, Os, a1, a2, a3⟩ := h
  obtain ⟨c1, c2⟩ := FC_eq ⟨a1, a2⟩ h1 h2
  exact ⟨j, nb, Hs, Os, c1, c2, ST_eq a1.1.2.2 a3 h1 h2⟩
theorem wl_send {a sort : Nat} (hz : (a = 0 ∧ sort = 2) ∨ (a = 4 ∧ sort = 0)) (W : WLs RR PR Fv P Fv' P' cur i j m w) (hc : ∀ c, cur = some c → F m (pq c 9) = 3) (hq : q < PR) (hp : p < PR) (hpal : F m (pq p 9) ≠ 3) (plp : PLs b p m w U B (Wt + 1) Y) (h4 : RG v4) (hN : 3000000 ≤ N) :
    PP (fun m2 (_ : Unit) w2 (_ : Unit) => WLs RR PR Fv P Fv' P' cur i j m2 w2 ∧ MVs m w m2 w2 ∧ ∀ d, d ≠ q → LOCm d m m2 ∧ LOCw d w w2) (hm_Wl_post N m q (I ((a : Nat) : Int)) (I ((p : Nat) : Int)) (I v4) (m.2.2.2 (pq p 35) Wt) (some p)) (fm_M_message N w (I q) (I ((sort : Nat) : Int)) (I v4) (I ((p : Nat) : Int)) (I 0) (I ((p : Nat) : Int)) (w.2.2.2 91 (46000 * p + Wt))) := by
  have W0 := W
  obtain ⟨sf, -, pr, hR⟩ := W
  have p24 := sf.2.1.1.1.2
  have hz' : (a = 0 ∧ sort = 2) ∨ (a = 4 ∧ sort = 0) ∨ (a = 5 ∧ sort = 1) := by omega
  by_cases hal : F m (pq q 9) = 3
  · have h9 : A w 109 q = 3 := by
      rcases pr q hq with h | h
      · exact absurd hal h.1
      · exact h.2.1
    rw [post_dead hal, message_dead (by omega) h9]
    exact pp_end ⟨W0, MVs.rf, fun _ _ => ⟨LOCm.rf, LOCw.rf⟩⟩
  · obtain ⟨⟨ow, kd, pt⟩, ⟨ow', kd', cw⟩, bd, -⟩ := SF_al sf hp hpal plp
    have hU := plp.1.1.2.2
    have g : GT U ow kd P (m.2.2.2 (pq p 35) Wt) := pt.2.2.1.2 Wt (by omega)
    have g' : GT U ow' kd' P' (w.2.2.2 91 (46000 * p + Wt)) := cw.2.2.2.2.2.2.2.1 Wt (by omega)
    have rt : RTb b (m.2.2.2 (pq p 35) Wt) (w.2.2.2 91 (46000 * p + Wt)) := plp.2.2.1.2.2 Wt (by omega)
    obtain ⟨f, s, z⟩ := HP_szc pt.1.2.2 g
    obtain ⟨f', s', z'⟩ := HP_sz cw.2.1 g'
    have es := SZ_iso plp.1.2.1 rt z z'
    subst es
    obtain ⟨h9, b2, U2, B2, W2, Y2, pl, rs⟩ : A w 109 q ≠ 3 ∧ ALr RR m w q := by
      rcases pr q hq with h | h
      · exact h.2
      · exact absurd h.1 hal
    have qc : some q ≠ cur := fun c => hal (hc q c.symm)
    by_cases e : q = p
    · subst e
      exact wl_msg hz' W0 hq hal h9 qc plp rs pt cw (Or.inr ⟨rfl, rfl, rfl, by omega, rfl, rt, ⟨f, z⟩, g'⟩) (Or.inr ⟨q, U, ow, kd, rfl, hp, by omega, pt.1.2.2, g, fun _ => ⟨B, Wt, Y, pt, rfl⟩⟩) (Or.inr (Or.inr ⟨rfl, U, ow', kd', _, _, _, plp.1.1.2.1, cw, g'⟩)) ⟨by omega, by omega⟩ (by omega) (fun _ => hp) h4 hN
    · obtain ⟨⟨ow2, kd2, pt2⟩, ⟨ow2', kd2', cw2⟩, -, -⟩ := SF_al sf hq hal pl
      have ne : p ≠ q := fun c => e c.symm
      exact wl_msg hz' W0 hq hal h9 qc pl rs pt2 cw2 (Or.inl ⟨⟨by omega, Or.inr ⟨p, b, U, ow, kd, f, U, ow', kd', f', rfl, ⟨pt.1.2.2, by omega, fun c => absurd c ne⟩, ⟨cw.2.1, hU, fun c => absurd c ne⟩, plp.1.2.1.w, z, Or.inl ⟨rfl, rt, z'⟩⟩⟩, fun c => ne (by injection c), Or.inr ne⟩) (Or.inr ⟨p, U, ow, kd, rfl, hp, by omega, pt.1.2.2, g, fun c => absurd c ne⟩) (Or.inr (Or.inl ⟨by omega, ne, U, ow', kd', plp.1.1.2.1, hU, cw.2.1, g'⟩)) ⟨by omega, by omega⟩ (by omega) (fun _ => hp) h4 hN
end
end
section
set_option maxRecDepth 100000
section
variable {b : Int → Nat → Nat → Prop} {N p k l U B W Y j : Nat} {m w m2 w2 : MS} {t x : Int64}
theorem put_r (hp : p < 24) (h3 : F w 133 = ((p : Nat) : Int)) (hW : A w 92 p = ((W : Nat) : Int)) (hb : W ≤ 46000) : PK (fun w2 (_ : Unit) => w2 = wa (wj w 91 (46000 * p + W) x) 92 p ((W + 1 : Nat) : Int)) (fm_M_put N w x) := by
  unfold fm_M_put fb_M_put_0
  have ix : (I ((p : Nat) : Int) * 46000 + I ((W : Nat) : Int)).toNatClampNeg = 46000 * p + W := by
    rw [show (46000 : Int32) = I 46000 from rfl, I_mul, I_add]
    exact tnI (n := 46000 * p + W) (by omega) (by omega)
  rw [I_F' h3, tnI (n := p) rfl (by omega), I_A' hW, ix]
  refine pk_ck (fun _ => pk_ck (fun _ => pk_ltq ?_))
  rw [wj_e, show (wj w 91 (46000 * p + W) x).1 133 = I ((p : Nat) : Int) from I_F' h3, tnI (n := p) rfl (by omega), show (wj w 91 (46000 * p + W) x).2.2.1 92 p = I ((W : Nat) : Int) from I_A' hW, show I ((W : Nat) : Int) + 1 = I ((W + 1 : Nat) : Int) from addN]
  refine pk_ck (fun _ => pk_ck (fun _ => pk_ltq ?_))
  rw [wa_e]
  exact pk_some rfl
theorem take_r (hp : p < 24) (h3 : F w 133 = ((p : Nat) : Int)) (hW : A w 92 p = ((W + 1 : Nat) : Int)) (hb : W ≤ 46000) : PK (fun w2 r => w2 = wa w 92 p ((W : Nat) : Int) ∧ r = w.2.2.2 91 (46000 * p + W)) (fm_M_take N w) := by
  unfold fm_M_take fb_M_take_0
  have ix : (I ((p : Nat) : Int) * 46000 + I ((W : Nat) : Int)).toNatClampNeg = 46000 * p + W := by
    rw [show (46000 : Int32) = I 46000 from rfl, I_mul, I_add]
    exact tnI (n := 46000 * p + W) (by omega) (by omega)
  rw [I_F' h3, tnI (n := p) rfl (by omega), I_A' hW, show I ((W + 1 : Nat) : Int) - 1 = I ((W : Nat) : Int) by rw [lit1q, I_sub]; congr 1; omega]
  refine pk_ck (fun _ => pk_ck (fun _ => pk_ltq ?_))
  have e2 : A (wa w 92 p ((W : Nat) : Int)) 92 p = ((W : Nat) : Int) := by rw [A_wa (by omega) (by omega), if_pos rfl, if_pos rfl]
  rw [wa_e, show (wa w 92 p ((W : Nat) : Int)).1 133 = I ((p : Nat) : Int) from I_F' h3, tnI (n := p) rfl (by omega), I_A' e2, ix]
  exact pk_ck (fun _ => pk_ck (fun _ => pk_some ⟨rfl, rfl⟩))
theorem top_r (hp : p < 24) (h3 : F w 133 = ((p : Nat) : Int)) (hW : A w 92 p = ((W : Nat) : Int)) (hb : W ≤ 46000) (hk : k < W) : PK (fun w2 r => w2 = w ∧ r = w.2.2.2 91 (46000 * p + (W - 1 - k))) (fm_M_top N w (I ((k : Nat) : Int))) := by
  unfold fm_M_top fb_M_top_0
  have ix : (I ((p : Nat) : Int) * 46000 + I ((W : Nat) : Int) - 1 - I ((k : Nat) : Int)).toNatClampNeg = 46000 * p + (W - 1 - k) := by
    rw [show (46000 : Int32) = I 46000 from rfl, lit1q, I_mul, I_add, I_sub, I_sub]
    exact tnI (n := 46000 * p + (W - 1 - k)) (by omega) (by omega)
  rw [I_F' h3, tnI (n := p) rfl (by omega), I_A' hW, ix]
  exact pk_ck (fun _ => pk_ck (fun _ => pk_some ⟨rfl, rfl⟩))
theorem goto_r {n : Int} (hp : p < 24) (h3 : F w 133 = ((p : Nat) : Int)) (h95 : A w 95 p = ((j + 1 : Nat) : Int)) (hj : j < 60) : PK (fun w2 (_ : Unit) => w2 = wa w 98 (60 * p + j) n) (fm_M_goTo N w (I n)) := by
  unfold fm_M_goTo fb_M_goTo_0 fm_M_frame0 fb_M_frame0_0
  have ix : (I ((p : Nat) : Int) * 60 + I ((j + 1 : Nat) : Int) - 1).toNatClampNeg = 60 * p + j := by
    rw [show (60 : Int32) = I 60 from rfl, lit1q, I_mul, I_add, I_sub]
    exact tnI (n := 60 * p + j) (by omega) (by omega)
  rw [I_F' h3, tnI (n := p) rfl (by omega), I_A' h95]
  refine pk_bnd (pk_ck (fun _ => pk_some ?_))
  refine pk_ck (fun _ => pk_ltq ?_)
  rw [ix, wa_e]
  exact pk_some rfl
theorem push_m (hW : F m (pq p 26) = ((W : Nat) : Int)) (hl : F m (pq p 45) = ((l : Nat) : Int)) (h1 : W ≤ l) (h2 : l ≤ 1000000) : PK (fun m2 (_ : Unit) => FR [pq p 26, pq p 45] [] [] [pq p 35] m m2 ∧ F m2 (pq p 26) = ((W + 1 : Nat) : Int) ∧ ∀ i, i ≤ W → m2.2.2.2 (pq p 35) i = if i = W then t else m.2.2.2 (pq p 35) i) (hm_Fr_push N m p t) := by
  unfold hm_Fr_push hb_Fr_push_0
  have core : ∀ v : MS, FR [pq p 26, pq p 45] [] [] [pq p 35] m v → F v (pq p 26) = ((W : Nat) : Int) → (∀ i, i < W → v.2.2.2 (pq p 35) i = m.2.2.2 (pq p 35) i) → PK (fun m2 (_ : Unit) => FR [pq p 26, pq p 45] [] [] [pq p 35] m m2 ∧ F m2 (pq p 26) = ((W + 1 : Nat) : Int) ∧ ∀ i, i ≤ W → m2.2.2.2 (pq p 35) i = if i = W then t else m.2.2.2 (pq p 35) i) (hb_Fr_push_30 N () v p t) := fun v f e r => by
    unfold hb_Fr_push_30
    rw [I_F' e, tnI (n := W) rfl (by omega)]
    refine pk_ck (fun _ => pk_ltq ?_)
    rw [wj_e, show (wj v (pq p 35) W t).1 (pq p 26) = I ((W : Nat) : Int) from I_F' e, show I ((W : Nat) : Int) + 1 = I ((W + 1 : Nat) : Int) from addN]
    refine pk_ltq ?_
    rw [wi_e]
    refine pk_some ⟨FR.wi (FR.wj f (by simp)) (by simp), by rw [F_wi (by omega) (by omega), if_pos rfl], fun i hi => ?_⟩
    show (wj v (pq p 35) W t).2.2.2 (pq p 35) i = _
    rw [wj_row]
    by_cases c : i = W
    · rw [if_pos c, if_pos c]
    · rw [if_neg c, if_neg c, r i (by omega)]
  refine pk_br (fun _ => core m FR.rf hW (fun _ _ => rfl)) (fun _ => pk_ck (fun _ => pk_ltq ?_))
  obtain ⟨g, e, hg⟩ := gJ_e (u := m) (q := p) (l := 45) (k := l) (j := 35) hl (by omega)
  rw [e]
  have f0 : FR [pq p 26, pq p 45] [] [] [pq p 35] m (upJ m (pq p 35) g) := ⟨fun _ _ => rfl, fun _ _ => rfl, fun _ _ => rfl, fun k hk => if_neg (fun c => hk (by rw [c]; exact List.mem_singleton.mpr rfl))⟩
  refine core _ (FR.wi f0 (List.mem_cons_of_mem _ (List.mem_singleton.mpr rfl))) ?_ (fun i hi => ?_)
  · rw [F_wi (by omega) (by omega), if_neg (pq_inj (by omega))]
    exact hW
  · show (if pq p 35 = pq p 35 then g else _) i = _
    rw [if_pos rfl]
    exact hg i (by omega)
theorem PLs_push (q : PLs b p m w U B W Y) (r : RTb b t x) (f : FR [pq p 26, pq p 45] [] [] [pq p 35] m m2) (h1 : F m2 (pq p 26) = ((W + 1 : Nat) : Int)) (h2 : ∀ i, i ≤ W → m2.2.2.2 (pq p 35) i = if i = W then t else m.2.2.2 (pq p 35) i) : PLs b p m2 (wa (wj w 91 (46000 * p + W) x) 92 p ((W + 1 : Nat) : Int)) U B (W + 1) Y := by
  obtain ⟨⟨⟨p1, p2, p3⟩, p4, p5⟩, ⟨p6, p7, p8⟩, ⟨p9, p10, p11⟩, p12, p13, p14⟩ := q
  have i1 : ∀ k, k < 100 → k ≠ 26 → k ≠ 45 → m2.1 (pq p k) = m.1 (pq p k) := fun k h0 h1 h2 => f.1 _ (by
    simp
    exact ⟨pq_inj h1, pq_inj h2⟩)
  have fF : ∀ k, k < 100 → k ≠ 26 → k ≠ 45 → F m2 (pq p k) = F m (pq p k) := fun k h0 h1 h2 => congrArg Int32.toInt (i1 k h0 h1 h2)
  have j1 : ∀ k, k ≠ 35 → m2.2.2.2 (pq p k) = m.2.2.2 (pq p k) := fun k h => f.2.2.2 _ (by simp; exact pq_inj h)
  have aw : ∀ k i, k ≠ 92 → A (wa (wj w 91 (46000 * p + W) x) 92 p ((W + 1 : Nat) : Int)) k i = A w k i := fun k i h => by
    show ((if k = 92 then _ else w.2.2.1 k) i).toInt = _
    rw [if_neg h]
    rfl
  have jw : ∀ k, k ≠ 91 → (wa (wj w 91 (46000 * p + W) x) 92 p ((W + 1 : Nat) : Int)).2.2.2 k = w.2.2.2 k := fun k h => if_neg h
  refine ⟨⟨⟨by rw [fF 4 (by omega) (by omega) (by omega)]; exact p1, by rw [aw 89 _ (by omega)]; exact p2, p3⟩, ?_, ?_⟩, ⟨by rw [fF 24 (by omega) (by omega) (by omega)]; exact p6, by rw [aw 94 _ (by omega)]; exact p7, fun i hi => by rw [j1 33 (by omega), jw 93 (by omega)]; exact p8 i hi⟩, ⟨h1, ?_, fun i hi => ?_⟩, by rw [fF 7 (by omega) (by omega) (by omega)]; exact p12, by rw [aw 108 _ (by omega)]; exact p13, fun i hi => by rw [j1 6 (by omega), jw 107 (by omega)]; exact p14 i hi⟩
  · rw [j1 2 (by omega)]
    have e : hp (wa (wj w 91 (46000 * p + W) x) 92 p ((W + 1 : Nat) : Int)) p = hp w p := by unfold hp; rw [jw 88 (by omega)]
    rw [e]
    exact p4
  · rw [i1 5 (by omega) (by omega) (by omega)]
    rw [wa_21 (by omega)]
    exact p5
  · have rg := F_r m2 (pq p 26)
    rw [h1] at rg
    exact wa_sm rg.1 rg.2
  · rw [h2 i (by omega)]
    show RTb b _ ((wj w 91 (46000 * p + W) x).2.2.2 91 (46000 * p + i))
    rw [wj_row]
    by_cases c : i = W
    · rw [if_pos c, if_pos (by omega)]
      exact r
    · rw [if_neg c, if_neg (by omega)]
      exact p11 i (by omega)
theorem PLs_drop (q : PLs b p m w U B (W + k) Y) (hW : W + k ≤ 100000) : PLs b p (wi m (pq p 26) ((W : Nat) : Int)) (wa w 92 p ((W : Nat) : Int)) U B W Y := by
  obtain ⟨⟨⟨p1, p2, p3⟩, p4, p5⟩, ⟨p6, p7, p8⟩, ⟨p9, p10, p11⟩, p12, p13, p14⟩ := q
  have fF : ∀ k, k ≠ 26 → F (wi m (pq p 26) ((W : Nat) : Int)) (pq p k) = F m (pq p k) := fun k h => by rw [F_wi (by omega) (by omega), if_neg (pq_inj h)]
  have aw : ∀ k i, k ≠ 92 → A (wa w 92 p ((W : Nat) : Int)) k i = A w k i := fun k i h => by rw [A_wa (by omega) (by omega), if_neg h]
  refine ⟨⟨⟨by rw [fF 4 (by omega)]; exact p1, by rw [aw 89 _ (by omega)]; exact p2, p3⟩, p4, ?_⟩, ⟨by rw [fF 24 (by omega)]; exact p6, by rw [aw 94 _ (by omega)]; exact p7, p8⟩, ⟨by rw [F_wi (by omega) (by omega), if_pos rfl], by rw [A_wa (by omega) (by omega), if_pos rfl, if_pos rfl], fun i hi => p11 i (by omega)⟩, by rw [fF 7 (by omega)]; exact p12, by rw [aw 108 _ (by omega)]; exact p13, p14⟩
  rw [wi_1 (pq_inj (by omega)), wa_21 (by omega)]
  exact p5
theorem PLs_forget (q : PLs b p m w U (B + k) W Y) (hW : B + k ≤ 100000) : PLs b p (wi m (pq p 24) ((B : Nat) : Int)) (wa w 94 p ((B : Nat) : Int)) U B W Y := by
  obtain ⟨⟨⟨p1, p2, p3⟩, p4, p5⟩, ⟨p6, p7, p8⟩, ⟨p9, p10, p11⟩, p12, p13, p14⟩ := q
  have fF : ∀ k, k ≠ 24 → F (wi m (pq p 24) ((B : Nat) : Int)) (pq p k) = F m (pq p k) := fun k h => by rw [F_wi (by omega) (by omega), if_neg (pq_inj h)]
  have aw : ∀ k i, k ≠ 94 → A (wa w 94 p ((B : Nat) : Int)) k i = A w k i := fun k i h => by rw [A_wa (by omega) (by omega), if_neg h]
  refine ⟨⟨⟨by rw [fF 4 (by omega)]; exact p1, by rw [aw 89 _ (by omega)]; exact p2, p3⟩, p4, ?_⟩, ⟨by rw [F_wi (by omega) (by omega), if_pos rfl], by rw [A_wa (by omega) (by omega), if_pos rfl, if_pos rfl], fun i hi => p8 i (by omega)⟩, ⟨by rw [fF 26 (by omega)]; exact p9, by rw [aw 92 _ (by omega)]; exact p10, p11⟩, by rw [fF 7 (by omega)]; exact p12, by rw [aw 108 _ (by omega)]; exact p13, p14⟩
  rw [wi_1 (pq_inj (by omega)), wa_21 (by omega)]
  exact p5
theorem termOf_s (ha : ∀ i, k < i → i < B → A m (pq p 32) i ≠ ((l : Nat) : Int)) (he : A m (pq p 32) k = ((l : Nat) : Int)) (hl : l < 2147483648) (hk : k < B) (hB : B ≤ 100000) : ∀ (M i : Nat), k ≤ i → i < B → PK (fun m2 r => m2 = m ∧ r = m.2.2.2 (pq p 33) k) (hg_Fr_termOf N M m p (I ((l : Nat) : Int)) (I ((i : Nat) : Int))) := by
  intro M
  induction M with
  | zero => intro i _ _; exact pk_none
  | succ M ih =>
    intro i h1 h2
    show PK _ (hb_Fr_termOf_7 N (hg_Fr_termOf N M) m p (I ((l : Nat) : Int)) (I ((i : Nat) : Int)))
    unfold hb_Fr_termOf_7
    rw [lit0q]
    refine p_less ⟨by omega, by omega⟩ ⟨by decide, by decide⟩ (fun c => absurd c (by omega)) (fun _ => pk_ck (fun _ => ?_))
    rw [tnI (n := i) rfl (by omega), I_A (k := pq p 32)]
    refine p_eq (A_r _ _ _) ⟨by omega, by omega⟩ (fun c => ?_) (fun c => ?_)
    · have : i = k := by
        apply Classical.byContradiction
        intro z
        exact ha i (by omega) h2 c
      subst this
      exact pk_ck (fun _ => pk_some ⟨rfl, rfl⟩)
    · have ik : i ≠ k := fun z => c (by rw [z]; exact he)
      rw [show I ((i : Nat) : Int) + -1 = I ((i - 1 : Nat) : Int) by rw [litm1q, I_add]; congr 1; omega]
      exact ih (i - 1) (by omega) (by omega)
end
end
section
set_option maxRecDepth 100000
def TRr (kd sc : Nat) (m w : MS) (p : Nat) (H O0 : List Nat) : Prop := kd = 3 → ((F w 158 = F m (pq p 8) ∧ DLs (m.2.1 (pq p 10)) (w.2.2.2 111 p)) ∧ ∃ n : Nat, F w 159 = ((n : Nat) : Int) ∧ F w 155 = A w 25 n ∧ A w 23 n = 27 ∧ A w 27 n = ((O0.length : Nat) : Int) ∧ ∃ g, RCs (A m 23) (ROs w) (w.2.2.2 34) (CRs (A m 23) (ROs w) (w.2.2.2 34) g) g sc n H O0)
def GDr (y : Option (Nat × Nat × Nat)) (m w : MS) (p nbj : Nat) (H O : List Nat) : Prop :=
  (y = none ∧ F m 1112 = 0 ∧ F w 152 = 0) ∨
  ∃ kd k sc : Nat, y = some (kd, k, sc) ∧ ∃ (fl W0 : Nat) (O0 X : List Nat), O = O0 ++ X ∧ (F m 1112 = ((fl : Nat) : Int) ∧ 0 < fl ∧ F m 1113 = ((X.length : Nat) : Int) ∧ F m 1114 = ((W0 : Nat) : Int)) ∧ (F w 152 = 1 ∧ F w 153 = ((kd : Nat) : Int) ∧ F w 154 = ((k : Nat) : Int) ∧ F w 156 = ((nbj + H.length + O0.length : Nat) : Int) ∧ F w 157 = ((W0 : Nat) : Int)) ∧ TRr kd sc m w p H O0 ∧ ∃ f g, ZRs (A m 23) (ROs w) (w.2.2.2 34) (CRs (A m 23) (ROs w) (w.2.2.2 34) f) kd sc H O0 g fl (A w 45 k)
def RUs (m w : MS) (p j : Nat) (nb : Nat → Nat) (Hs Os : Nat → List Nat) (y : Option (Nat × Nat × Nat)) (a n : Nat) : Prop :=
  (FAs m w p j nb Hs Os ∧ CTs m w p j nb Hs Os) ∧ (F m 1105 = ((a : Nat) : Int) ∧ A w 98 (60 * p + j) = ((n : Nat) : Int)) ∧ (∃ f, CRs (A m 23) (ROs w) (w.2.2.2 34) f y a n (Hs j) (Os j)) ∧ (F m (pq p 9) = 0 ∧ A w 109 p = 0) ∧ GDr y m w p (nb j) (Hs j) (Os j) ∧ (F m 1108 = 0 ∧ F m 1109 = 0 ∧ F w 151 = 0) ∧ F w 133 = ((p : Nat) : Int) ∧ m.1 1106 = w.1 165 ∧ m.1 1107 = w.1 164
section
variable {p j a n : Nat} {m w m2 w2 : MS} {nb : Nat → Nat} {Hs Os : Nat → List Nat} {y : Option (Nat × Nat × Nat)}
theorem RUs_st (h : RUs m w p j nb Hs Os y a n) (h1 : EQn p m m2) (h2 : EQv p w w2) (pg : PGs m w m2 w2) : RUs m2 w2 p j nb Hs Os y a n := by
  obtain ⟨r1, ⟨r2, r3⟩, ⟨f, r4⟩, ⟨r5, r6⟩, r7, ⟨r8, r9, r10⟩, r11, r12, r13⟩ := h
  have hj : j < 60 := r1.1.1.2.2
  obtain ⟨⟨⟨g1, -, -⟩, g4, g5, -⟩, g7, g8⟩ := pg
  have h23 : A m2 23 = A m 23 := by funext i; show (m2.2.2.1 23 i).toInt = _; rw [g1]; rfl
  have hRO := ROs_eq g4
  have hP : ∀ K, PRr K → A w2 K = A w K := fun K c => by funext i; show (w2.2.2.1 K i).toInt = _; rw [g4 K c]; rfl
  have fm : ∀ k, 1100 ≤ k → k < 1120 → F m2 k = F m k := fun k c1 c2 => congrArg Int32.toInt (g7 k c1 c2).1
  have fw : ∀ k, k = 133 ∨ (151 ≤ k ∧ k ≤ 165) → F w2 k = F w k := fun k c => congrArg Int32.toInt (g8 k c)
  have f8 : F m2 (pq p 8) = F m (pq p 8) := congrArg Int32.toInt (h1.1 8 (by omega) (by simp))
  refine ⟨FC_eq r1 h1 h2, ⟨by rw [fm 1105 (by omega) (by omega)]; exact r2, ?_⟩, ⟨f, by rw [h23, hRO, g5]; exact r4⟩, ⟨?_, ?_⟩, ?_, ⟨by rw [fm 1108 (by omega) (by omega)]; exact r8, by rw [fm 1109 (by omega) (by omega)]; exact r9, by rw [fw 151 (by omega)]; exact r10⟩, by rw [fw 133 (by omega)]; exact r11, by rw [(g7 1106 (by omega) (by omega)).1, g8 165 (by omega)]; exact r12, by rw [(g7 1107 (by omega) (by omega)).1, g8 164 (by omega)]; exact r13⟩
  · show (w2.2.2.1 98 (60 * p + j)).toInt = _
    rw [h2.1 98 _ (Or.inr (Or.inl ⟨⟨by omega, by omega⟩, by omega, by omega⟩)) (by omega) (by omega)]
    exact r3
  · show (m2.1 (pq p 9)).toInt = _
    rw [h1.1 9 (by omega) (by simp)]
    exact r5
  · show (w2.2.2.1 109 p).toInt = _
    rw [h2.1 109 p (Or.inl ⟨by omega, rfl⟩) (by omega) (by omega)]
    exact r6
  · rcases r7 with ⟨c1, c2, c3⟩ | ⟨kd, k, sc, c1, fl, W0, O0, X, c2, ⟨c3, c4, c5, c6⟩, ⟨c7, c8, c9, c10, c11⟩, c12, f2, g, c13⟩
    · exact Or.inl ⟨c1, by rw [fm 1112 (by omega) (by omega)]; exact c2, by rw [fw 152 (by omega)]; exact c3⟩
    · refine Or.inr ⟨kd, k, sc, c1, fl, W0, O0, X, c2, ⟨by rw [fm 1112 (by omega) (by omega)]; exact c3, c4, by rw [fm 1113 (by omega) (by omega)]; exact c5, by rw [fm 1114 (by omega) (by omega)]; exact c6⟩, ⟨by rw [fw 152 (by omega)]; exact c7, by rw [fw 153 (by omega)]; exact c8, by rw [fw 154 (by omega)]; exact c9, by rw [fw 156 (by omega)]; exact c10, by rw [fw 157 (by omega)]; exact c11⟩, fun e3 => ?_, f2, g, by rw [h23, hRO, g5, hP 45 (by unfold PRr; omega)]; exact c13⟩
      obtain ⟨d1, n2, d2, d3, d4, d5, g2, d6⟩ := c12 e3
      exact ⟨⟨by rw [fw 158 (by omega), f8]; exact d1.1, by rw [h1.2.1 10 (by omega) (by omega), h2.2.1]; exact d1.2⟩, n2, by rw [fw 159 (by omega)]; exact d2, by rw [fw 155 (by omega), hP 25 (by unfold PRr; omega)]; exact d3, by rw [hP 23 (by unfold PRr; omega)]; exact d4, by rw [hP 27 (by unfold PRr; omega)]; exact d5, g2, by rw [h23, hRO, g5]; exact d6⟩
def RRp (p : Nat) (q : Nat) (m w : MS) : Prop := (q = p ∧ ∃ j nb Hs Os y a n, RUs m w p j nb Hs Os y a n) ∨ (q ≠ p ∧ WTr q m w)
theorem RRp_stb : STBl (RRp p) := fun q m w m2 w2 h h1 h2 pg => by
  rcases h with ⟨rfl, j, nb, Hs, Os, y, a, n, h⟩ | ⟨e, h⟩
  · exact Or.inl ⟨rfl, j, nb, Hs, Os, y, a, n, RUs_st h h1 h2 pg⟩
  · exact Or.inr ⟨e, WTr_st h h1 h2⟩
end
end
section
set_option maxRecDepth 100000
noncomputable def rsc {γ : Type} (P : Prop) (x : Option γ) : Option γ := @ite _ P (Classical.propDecidable P) x none
section
variable {α β γ : Type} {P : Prop} {Q : MS → α → MS → β → Prop} {x : Option (MS × α)} {z : Option (MS × β)} {o : Option (MS × γ)}
theorem rsc_t {y : Option γ} (h : P) : rsc P y = y := @if_pos _ (Classical.propDecidable P) h _ _ _
theorem rsc_f {y : Option γ} (h : ¬ P) : rsc P y = none := @if_neg _ (Classical.propDecidable P) h _ _ _
theorem pp_cll (h : P → PP Q x z) : PP Q (rsc P x) z := by
  rcases Classical.em P with c | c
  · rw [rsc_t c]; exact h c
  · rw [rsc_f c]; exact pp_nl
theorem pp_clr (h : P → PP Q x z) : PP Q x (rsc P z) := by
  rcases Classical.em P with c | c
  · rw [rsc_t c]; exact h c
  · rw [rsc_f c]; exact pp_nr
theorem l_cl {K : MS → γ → Option (MS × α)} {S : MS → γ → Prop} (hs : PK S o) (h : PP Q (bnd o (fun u r => rsc (S u r) (K u r))) z) : PP Q (bnd o K) z := by
  cases o with
  | none => exact h
  | some y =>
    obtain ⟨u, r⟩ := y
    have hh : PP Q (rsc (S u r) (K u r)) z := h
    rw [rsc_t (hs u r rfl)] at hh
    exact hh
theorem r_cl {K : MS → γ → Option (MS × β)} {S : MS → γ → Prop} (hs : PK S o) (h : PP Q x (bnd o (fun u r => rsc (S u r) (K u r)))) : PP Q x (bnd o K) := by
  cases o with
  | none => exact h
  | some y =>
    obtain ⟨u, r⟩ := y
    have hh : PP Q x (rsc (S u r) (K u r)) := h
    rw [rsc_t (hs u r rfl)] at hh
    exact hh
end
noncomputable def q206 (Sf : MS → Int32 → Prop) (N : Nat) (G : MS → Nat → Int32 → Option (MS × Int32)) (u : MS) (p : Nat) (v3 : Int32) : Option (MS × Int32) := rsc (Sf u v3) (hb_Ma_goOn_206 N G u p v3)
noncomputable def q195 (Sf : MS → Int32 → Prop) (N : Nat) (G : MS → Nat → Int32 → Option (MS × Int32)) (u : MS) (p : Nat) (v3 : Int32) : Option (MS × Int32) := rsc (Sf u v3) (br (decide ((u.1 1109) = 0)) (q206 Sf N G u p v3) (bnd (hm_Ma_raise N u p) (fun u10 _ => q206 Sf N G u10 p v3)))
noncomputable def q67 (Sf : MS → Int32 → Prop) (N : Nat) (G : MS → Nat → Int32 → Option (MS × Int32)) (u : MS) (p : Nat) (v3 : Int32) : Option (MS × Int32) := br (decide (1000000000 ≤ v3)) (hb_Ma_goOn_219 N G u p) (br (decide ((u.1 (pq p 9)) = 0)) (br (decide ((u.1 1108) = 0)) (bnd (hm_Co_at N u (u.1 1105)) (fun u17 r17 => br (decide (r17 = 39)) (bnd (hm_Co_at N u17 ((u17.1 1105) + 1)) (fun u29 r29 => bnd (hm_Ma_predefined N u29 p r29) (fun u31 r31 => q195 Sf N G u31 p (v3)))) (br (decide (r17 = 40)) (bnd (hm_Co_at N u17 ((u17.1 1105) + 1)) (fun u24 r24 => bnd (hm_Ma_toward N u24 p r24) (fun u26 r26 => q195 Sf N G u26 p (v3)))) (br (decide (8 ≤ r17)) (br (decide (18 ≤ r17)) (bnd (hm_Ma_flow N u17 p r17) (fun u19 r19 => q195 Sf N G u19 p (v3))) (bnd (hm_Ma_value N u17 p r17) (fun u20 r20 => q195 Sf N G u20 p (v3)))) (bnd (hm_Ma_making N u17 p r17) (fun u21 r21 => q195 Sf N G u21 p (v3))))))) (hb_Ma_goOn_219 N G u p)) (hb_Ma_goOn_219 N G u p))
noncomputable def qgo (Sf : MS → Int32 → Prop) (N : Nat) : Nat → (MS → Nat → Int32 → Option (MS × Int32))
  | 0 => fun _ _ _ => none
  | n + 1 => q67 Sf N (qgo Sf N n)
end
section
set_option maxRecDepth 100000
section
variable {Sf : MS → Int32 → Prop} {b : Int → Nat → Nat → Prop} {N p k l U B W Y j a n M M2 : Nat} {m w m2 w2 : MS} {t x : Int64} {nb : Nat → Nat} {Hs Os : Nat → List Nat} {y : Option (Nat × Nat × Nat)} {v : Int} {G : MS → Nat → Int32 → Option (MS × Int32)} {α : Type} {Q : MS → α → MS → Int32 → Prop} {Z : Option (MS × α)}
theorem go_67 (h9 : F m (pq p 9) = 0) (h8 : F m 1108 = 0) (hk : k < 1000000000) (ha : F m 1105 = ((a : Nat) : Int)) (ha2 : a < 24000) (hv : A m 23 a = v) : q67 Sf N G m p (I ((k : Nat) : Int)) = br (decide (I v = 39)) (bnd (hm_Co_at N m (I ((a : Nat) : Int) + 1)) (fun u29 r29 => bnd (hm_Ma_predefined N u29 p r29) (fun u31 r31 => q195 Sf N G u31 p (I ((k : Nat) : Int))))) (br (decide (I v = 40)) (bnd (hm_Co_at N m (I ((a : Nat) : Int) + 1)) (fun u24 r24 => bnd (hm_Ma_toward N u24 p r24) (fun u26 r26 => q195 Sf N G u26 p (I ((k : Nat) : Int))))) (br (decide (8 ≤ I v)) (br (decide (18 ≤ I v)) (bnd (hm_Ma_flow N m p (I v)) (fun u19 r19 => q195 Sf N G u19 p (I ((k : Nat) : Int)))) (bnd (hm_Ma_value N m p (I v)) (fun u20 r20 => q195 Sf N G u20 p (I ((k : Nat) : Int))))) (bnd (hm_Ma_making N m p (I v)) (fun u21 r21 => q195 Sf N G u21 p (I ((k : Nat) : Int)))))) := by
  unfold q67
  rw [show (1000000000 : Int32) = I 1000000000 from rfl, decI (by omega) (by omega) (by omega) (by omega), decide_eq_false (by omega), br_fq, I_F' h9, show decide (I 0 = 0) = true from rfl, br_tq, I_F' h8, show decide (I 0 = 0) = true from rfl, br_tq, I_F' ha, Co_e (k := a) rfl ha2, bnd_so, hv, I_F' ha]
theorem go_mk (h9 : F m (pq p 9) = 0) (h8 : F m 1108 = 0) (hk : k < 1000000000) (ha : F m 1105 = ((a : Nat) : Int)) (ha2 : a < 24000) (hv : A m 23 a = v) (h : 0 ≤ v ∧ v < 8) : q67 Sf N G m p (I ((k : Nat) : Int)) = bnd (hm_Ma_making N m p (I v)) (fun u21 _ => q195 Sf N G u21 p (I ((k : Nat) : Int))) := by
  rw [go_67 h9 h8 hk ha ha2 hv, show (39 : Int32) = I 39 from rfl, decE (by omega) (by omega) (by omega) (by omega), decide_eq_false (by omega), br_fq, show (40 : Int32) = I 40 from rfl, decE (by omega) (by omega) (by omega) (by omega), decide_eq_false (by omega), br_fq, show (8 : Int32) = I 8 from rfl, decI (by omega) (by omega) (by omega) (by omega), decide_eq_false (by omega), br_fq]
theorem go_vl (h9 : F m (pq p 9) = 0) (h8 : F m 1108 = 0) (hk : k < 1000000000) (ha : F m 1105 = ((a : Nat) : Int)) (ha2 : a < 24000) (hv : A m 23 a = v) (h : 8 ≤ v ∧ v < 18) : q67 Sf N G m p (I ((k : Nat) : Int)) = bnd (hm_Ma_value N m p (I v)) (fun u21 _ => q195 Sf N G u21 p (I ((k : Nat) : Int))) := by
  rw [go_67 h9 h8 hk ha ha2 hv, show (39 : Int32) = I 39 from rfl, decE (by omega) (by omega) (by omega) (by omega), decide_eq_false (by omega), br_fq, show (40 : Int32) = I 40 from rfl, decE (by omega) (by omega) (by omega) (by omega), decide_eq_false (by omega), br_fq, show (8 : Int32) = I 8 from rfl, decI (by omega) (by omega) (by omega) (by omega), decide_eq_true (by omega), br_tq, show (18 : Int32) = I 18 from rfl, decI (by omega) (by omega) (by omega) (by omega), decide_eq_false (by omega), br_fq]
theorem go_fl (h9 : F m (pq p 9) = 0) (h8 : F m 1108 = 0) (hk : k < 1000000000) (ha : F m 1105 = ((a : Nat) : Int)) (ha2 : a < 24000) (hv : A m 23 a = v) (h : 18 ≤ v ∧ v < 39) : q67 Sf N G m p (I ((k : Nat) : Int)) = bnd (hm_Ma_flow N m p (I v)) (fun u21 _ => q195 Sf N G u21 p (I ((k : Nat) : Int))) := by
  rw [go_67 h9 h8 hk ha ha2 hv, show (39 : Int32) = I 39 from rfl, decE (by omega) (by omega) (by omega) (by omega), decide_eq_false (by omega), br_fq, show (40 : Int32) = I 40 from rfl, decE (by omega) (by omega) (by omega) (by omega), decide_eq_false (by omega), br_fq, show (8 : Int32) = I 8 from rfl, decI (by omega) (by omega) (by omega) (by omega), decide_eq_true (by omega), br_tq, show (18 : Int32) = I 18 from rfl, decI (by omega) (by omega) (by omega) (by omega), decide_eq_true (by omega), br_tq]
theorem go_r (hp : p < 24) (h1 : F w 151 = 0) (h9 : A w 109 p = 0) (h3 : F w 133 = ((p : Nat) : Int)) (h95 : A w 95 p = ((j + 1 : Nat) : Int)) (hj : j < 60) (h98 : A w 98 (60 * p + j) = ((n : Nat) : Int)) (hn : n < 100000) (k : PP Q Z (bnd (fm_M_one N w (I ((n : Nat) : Int)) (I (A w 23 n))) (fun u3 _ => bnd (fm_M_allEnds N u3) (fun u4 _ => gg_M_go N M2 u4 (I ((p : Nat) : Int)))))) : PP Q Z (gg_M_go N (M2 + 1) w (I ((p : Nat) : Int))) := by
  show PP Q Z (fb_M_go_199 N (gg_M_go N M2) w (I ((p : Nat) : Int)))
  unfold fb_M_go_199 fm_M_frame0 fb_M_frame0_0
  have ix : (I ((p : Nat) : Int) * 60 + I ((j + 1 : Nat) : Int) - 1).toNatClampNeg = 60 * p + j := by
    rw [show (60 : Int32) = I 60 from rfl, lit1q, I_mul, I_add, I_sub]
    exact tnI (n := 60 * p + j) (by omega) (by omega)
  rw [I_F' h1, show decide (I 0 = 0) = true from rfl, br_tq]
  refine r_ck (fun _ => ?_)
  rw [tnI (n := p) rfl (by omega), I_A' h9, show decide (I 0 = 0) = true from rfl, br_tq, I_F' h3, tnI (n := p) rfl (by omega), I_A' h95]
  refine r_bnd (pk_ck (fun _ => pk_some ?_))
  refine r_ck (fun _ => r_ck (fun _ => ?_))
  rw [ix, I_A' h98, tnI (n := n) rfl (by omega), I_A (k := 23)]
  exact k
theorem one_1 : fm_M_one N w (I v) (I 1) = bnd (fm_M_goTo N w (I v + 1)) (fun u7 _ => ck (inb (I v) (ln 25)) (ck (inb (I v) (ln 26)) (bnd (fm_M_term N u7 (u7.2.2.1 25 (I v).toNatClampNeg) (u7.2.2.1 26 (I v).toNatClampNeg)) (fun u27 r27 => bnd (fm_M_put N u27 r27) (fun u28 _ => some (u28, ())))))) := rfl
theorem lit_b (h : v = 0 ∨ v = 1 ∨ v = 6) {z : Int} (hz : v = 6 → z = 0) (hr : RG z) : RTb b (mk v z) (mk v z) := by
  have so1 : so (mk v z) = v := so_mk (by omega) (by omega)
  refine RTb_lit (nh_mk (by omega)) (fun e => ?_)
  rw [so1] at e
  rw [va_mk hr.1 hr.2]
  exact hz e
end
end
section
set_option maxRecDepth 100000
def FGm (p : Nat) (m m2 : MS) : Prop := FR [pq p 4, pq p 5, pq p 26, pq p 45, 1105] [] [] [pq p 2, pq p 3, pq p 33, pq p 35, pq p 6, 44, 45, 46] m m2
def FGw (p j : Nat) (w w2 : MS) : Prop := FR [136, 138, 140] [139] [89, 90, 92, 98, 135, 142] [88, 91, 93, 107, 134, 137, 141] w w2 ∧ (∀ k, k ≠ p → A w2 89 k = A w 89 k ∧ w2.2.2.1 90 k = w.2.2.1 90 k ∧ A w2 92 k = A w 92 k) ∧ (∀ k, k ≠ 60 * p + j → A w2 98 k = A w 98 k) ∧ (∀ i, ¬ (500 * p ≤ i ∧ i < 500 * p + 500) → w2.2.2.2 88 i = w.2.2.2 88 i) ∧ (∀ i, ¬ (46000 * p ≤ i ∧ i < 46000 * p + 46000) → w2.2.2.2 91 i = w.2.2.2 91 i) ∧ (∀ i, ¬ (2500 * p ≤ i ∧ i < 2500 * p + 2500) → w2.2.2.2 93 i = w.2.2.2 93 i) ∧ ∀ i, ¬ (30 * p ≤ i ∧ i < 30 * p + 30) → w2.2.2.2 107 i = w.2.2.2 107 i
section
variable {b : Int → Nat → Nat → Prop} {N p k l U B W Y j a a2 n n2 d : Nat} {m w m2 w2 m3 w3 : MS} {t x : Int64} {nb : Nat → Nat} {Hs Os : Nat → List Nat} {y : Option (Nat × Nat × Nat)} {v z : Int}
theorem FGm.tr (h1 : FGm p m m2) (h2 : FGm p m2 m3) : FGm p m m3 := FR.tr h1 h2
theorem FGm.rf : FGm p m m := FR.rf
theorem FGw.rf : FGw p j w w := ⟨FR.rf, fun _ _ => ⟨rfl, rfl, rfl⟩, fun _ _ => rfl, fun _ _ => rfl, fun _ _ => rfl, fun _ _ => rfl, fun _ _ => rfl⟩
theorem FGw.tr (h1 : FGw p j w w2) (h2 : FGw p j w2 w3) : FGw p j w w3 := by
  obtain ⟨a1, a2, a3, a4, a5, a6, a7⟩ := h1
  obtain ⟨c1, c2, c3, c4, c5, c6, c7⟩ := h2
  exact ⟨FR.tr a1 c1, fun k h => ⟨(c2 k h).1.trans (a2 k h).1, (c2 k h).2.1.trans (a2 k h).2.1, (c2 k h).2.2.trans (a2 k h).2.2⟩, fun k h => (c3 k h).trans (a3 k h), fun i h => (c4 i h).trans (a4 i h), fun i h => (c5 i h).trans (a5 i h), fun i h => (c6 i h).trans (a6 i h), fun i h => (c7 i h).trans (a7 i h)⟩
theorem FGm.pc : FGm p m (wi m 1105 v) := FR.wi FR.rf (by simp)
theorem FGm.push (f : FR [pq p 26, pq p 45] [] [] [pq p 35] m m2) : FGm p m m2 := FR.mo f (by simp) (by simp) (by simp) (by simp)
theorem FGm.drop : FGm p m (wi m (pq p 26) v) := FR.wi FR.rf (by simp)
theorem FGw.goto : FGw p j w (wa w 98 (60 * p + j) v) := ⟨FR.wa FR.rf (by simp), fun _ _ => ⟨rfl, rfl, rfl⟩, fun k h => by
  show ((if (98 : Nat) = 98 then upd (w.2.2.1 98) (60 * p + j) (I v) else w.2.2.1 98) k).toInt = _
  rw [if_pos rfl]
  show (if k = 60 * p + j then I v else w.2.2.1 98 k).toInt = _
  rw [if_neg h]
  rfl, fun _ _ => rfl, fun _ _ => rfl, fun _ _ => rfl, fun _ _ => rfl⟩
theorem FGw.w92 : FGw p j w (wa w 92 p v) := ⟨FR.wa FR.rf (by simp), fun k h => ⟨rfl, rfl, by
  show ((if (92 : Nat) = 92 then upd (w.2.2.1 92) p (I v) else w.2.2.1 92) k).toInt = _
  rw [if_pos rfl]
  show (if k = p then I v else w.2.2.1 92 k).toInt = _
  rw [if_neg h]
  rfl⟩, fun _ _ => rfl, fun _ _ => rfl, fun _ _ => rfl, fun _ _ => rfl, fun _ _ => rfl⟩
theorem FGw.w91 (hW : W < 46000) : FGw p j w (wj w 91 (46000 * p + W) x) := ⟨FR.wj FR.rf (by simp), fun _ _ => ⟨rfl, rfl, rfl⟩, fun _ _ => rfl, fun _ _ => rfl, fun i h => by rw [wj_row, if_neg (by omega)], fun _ _ => rfl, fun _ _ => rfl⟩
theorem FGw.put (hW : W < 46000) : FGw p j w (wa (wj w 91 (46000 * p + W) x) 92 p v) := FGw.tr (FGw.w91 hW) FGw.w92
theorem FG_loc (f : FGm p m m2) (g : FGw p j w w2) (hj : j < 60) (hd : d ≠ p) : LOCm d m m2 ∧ LOCw d w w2 := by
  obtain ⟨g1, g2, g3, g4, g5, g6, g7⟩ := g
  have n : ∀ k l, k < 100 → l < 100 → pq d k ≠ pq p l := fun k l hk hl c => hd (pq_e hk hl c).1
  have ai : ∀ {x y : Int32}, x.toInt = y.toInt → x = y := fun h => Int32.toInt_inj.mp h
  refine ⟨fun k hk => ⟨f.1 _ ?_, f.2.1 _ (by simp), f.2.2.1 _ (by simp), f.2.2.2 _ ?_⟩, fun K i h => ?_, fun K h => ?_, fun i _ _ => by rw [g1.2.2.1 131 (by simp)], by rw [g1.2.2.2 111 (by simp)], fun i a c => g4 i (by omega), fun i a c => g5 i (by omega), fun i a c => g6 i (by omega), fun i a c => g7 i (by omega)⟩
  · simp only [List.mem_cons, List.not_mem_nil, or_false]
    intro c
    rcases c with c | c | c | c | c
    · exact n k 4 hk (by omega) c
    · exact n k 5 hk (by omega) c
    · exact n k 26 hk (by omega) c
    · exact n k 45 hk (by omega) c
    · exact pq_n (by omega) c.symm
  · simp only [List.mem_cons, List.not_mem_nil, or_false]
    intro c
    rcases c with c | c | c | c | c | c | c | c
    · exact n k 2 hk (by omega) c
    · exact n k 3 hk (by omega) c
    · exact n k 33 hk (by omega) c
    · exact n k 35 hk (by omega) c
    · exact n k 6 hk (by omega) c
    · exact pq_n (by omega) c.symm
    · exact pq_n (by omega) c.symm
    · exact pq_n (by omega) c.symm
  · by_cases c : K = 92
    · subst c
      have ki : i = d := by
        rcases h with h | h | h | h
        · exact h.2
        · omega
        · omega
        · omega
      subst ki
      exact ai (g2 i hd).2.2
    · by_cases c2 : K = 98
      · subst c2
        have ki : 60 * d ≤ i ∧ i < 60 * d + 60 := by
          rcases h with h | h | h | h
          · omega
          · exact h.2
          · omega
          · omega
        exact ai (g3 i (by omega))
      · rw [g1.2.2.1 K (by
          simp only [List.mem_cons, List.not_mem_nil, or_false]
          rcases h with ⟨h, -⟩ | ⟨h, -⟩ | ⟨h, -⟩ | ⟨h, -⟩ <;> omega)]
  · rcases h with rfl | rfl | rfl | rfl
    · exact ai (g2 d hd).1
    · exact (g2 d hd).2.1
    · rw [g1.2.2.1 108 (by simp)]
    · rw [g1.2.2.1 132 (by simp)]
theorem RUs_mv (h : RUs m w p j nb Hs Os y a n) (f : FGm p m m2) (g : FGw p j w w2) (h1 : F m2 1105 = ((a2 : Nat) : Int)) (h2 : A w2 98 (60 * p + j) = ((n2 : Nat) : Int)) (c : ∃ f, CRs (A m 23) (ROs w) (w.2.2.2 34) f y a2 n2 (Hs j) (Os j)) : RUs m2 w2 p j nb Hs Os y a2 n2 := by
  obtain ⟨r1, -, -, ⟨r5, r6⟩, r7, ⟨r8, r9, r10⟩, r11, r12, r13⟩ := h
  obtain ⟨g1, g2, g3, -⟩ := g
  have hj : j < 60 := r1.1.1.2.2
  have ai : ∀ {x y : Int32}, x.toInt = y.toInt → x = y := fun h => Int32.toInt_inj.mp h
  have i1 : ∀ k, k < 100 → k ≠ 4 → k ≠ 5 → k ≠ 26 → k ≠ 45 → m2.1 (pq p k) = m.1 (pq p k) := fun k h0 h1 h2 h3 h4 => f.1 _ (by
    simp only [List.mem_cons, List.not_mem_nil, or_false]
    intro c
    rcases c with c | c | c | c | c
    · exact pq_inj h1 c
    · exact pq_inj h2 c
    · exact pq_inj h3 c
    · exact pq_inj h4 c
    · exact pq_n (by omega) c.symm)
  have fm : ∀ k, 1106 ≤ k → k < 1120 → m2.1 k = m.1 k := fun k c1 c2 => f.1 k (by simp; unfold pq; omega)
  have fF : ∀ k, 1106 ≤ k → k < 1120 → F m2 k = F m k := fun k c1 c2 => congrArg Int32.toInt (fm k c1 c2)
  have fw : ∀ k, k = 133 ∨ (151 ≤ k ∧ k ≤ 165) → w2.1 k = w.1 k := fun k c => g1.1 k (by simp; omega)
  have wF : ∀ k, k = 133 ∨ (151 ≤ k ∧ k ≤ 165) → F w2 k = F w k := fun k c => congrArg Int32.toInt (fw k c)
  have h23 : A m2 23 = A m 23 := by funext i; exact FR.A f (by simp)
  have pr : ∀ K, PRr K → w2.2.2.1 K = w.2.2.1 K := fun K c => g1.2.2.1 K (by unfold PRr at c; simp; omega)
  have hRO := ROs_eq pr
  have hP : ∀ K, PRr K → A w2 K = A w K := fun K c => by funext i; show (w2.2.2.1 K i).toInt = _; rw [pr K c]; rfl
  have h34 : w2.2.2.2 34 = w.2.2.2 34 := g1.2.2.2 34 (by simp)
  have f8 : F m2 (pq p 8) = F m (pq p 8) := congrArg Int32.toInt (i1 8 (by omega) (by omega) (by omega) (by omega) (by omega))
  refine ⟨FC_w r1 (fun k c => i1 k (by omega) (by omega) (by omega) (by omega) (by omega)) (fun k c => f.2.2.1 _ (by simp)) (f.2.2.1 23 (by simp)) (fun K c => by rw [g1.2.2.1 K (by simp; omega)]) (fun K r c1 c2 c3 c4 => ?_) (fun K c c1 c2 c3 => by rw [g1.2.2.1 K (by simp; omega)]) pr h34, ⟨h1, h2⟩, by rw [h23, hRO, h34]; exact c, ⟨?_, ?_⟩, ?_, ⟨by rw [fF 1108 (by omega) (by omega)]; exact r8, by rw [fF 1109 (by omega) (by omega)]; exact r9, by rw [wF 151 (by omega)]; exact r10⟩, by rw [wF 133 (by omega)]; exact r11, by rw [fm 1106 (by omega) (by omega), fw 165 (by omega)]; exact r12, by rw [fm 1107 (by omega) (by omega), fw 164 (by omega)]; exact r13⟩
  · by_cases c5 : K = 98
    · subst c5
      exact ai (g3 _ (by have := c4 rfl; omega))
    · rw [g1.2.2.1 K (by simp; omega)]
  · show (m2.1 (pq p 9)).toInt = _
    rw [i1 9 (by omega) (by omega) (by omega) (by omega) (by omega)]
    exact r5
  · rw [FR.A g1 (by simp)]
    exact r6
  · rcases r7 with ⟨c1, c2, c3⟩ | ⟨kd, k, sc, c1, fl, W0, O0, X, c2, ⟨c3, c4, c5, c6⟩, ⟨c7, c8, c9, c10, c11⟩, c12, f2, g, c13⟩
    · exact Or.inl ⟨c1, by rw [fF 1112 (by omega) (by omega)]; exact c2, by rw [wF 152 (by omega)]; exact c3⟩
    · refine Or.inr ⟨kd, k, sc, c1, fl, W0, O0, X, c2, ⟨by rw [fF 1112 (by omega) (by omega)]; exact c3, c4, by rw [fF 1113 (by omega) (by omega)]; exact c5, by rw [fF 1114 (by omega) (by omega)]; exact c6⟩, ⟨by rw [wF 152 (by omega)]; exact c7, by rw [wF 153 (by omega)]; exact c8, by rw [wF 154 (by omega)]; exact c9, by rw [wF 156 (by omega)]; exact c10, by rw [wF 157 (by omega)]; exact c11⟩, fun e3 => ?_, f2, g, by rw [h23, hRO, h34, hP 45 (by unfold PRr; omega)]; exact c13⟩
      obtain ⟨d1, n2, d2, d3, d4, d5, g2, d6⟩ := c12 e3
      exact ⟨⟨by rw [wF 158 (by omega), f8]; exact d1.1, by rw [f.2.1 _ (by simp), g1.2.2.2 111 (by simp)]; exact d1.2⟩, n2, by rw [wF 159 (by omega)]; exact d2, by rw [wF 155 (by omega), hP 25 (by unfold PRr; omega)]; exact d3, by rw [hP 23 (by unfold PRr; omega)]; exact d4, by rw [hP 27 (by unfold PRr; omega)]; exact d5, g2, by rw [h23, hRO, h34]; exact d6⟩
end
section
variable {α β : Type} {b : Int → Nat → Nat → Prop} {N p k l U B W Y j a n : Nat} {m w m2 w2 m3 w3 : MS} {t x : Int64} {nb : Nat → Nat} {Hs Os : Nat → List Nat} {y : Option (Nat × Nat × Nat)} {Q : MS → α → MS → β → Prop} {K1 : MS → Option (MS × α)} {K2 : MS → Option (MS × β)}
def BDr (p W l : Nat) (m : MS) : Prop := W < 46000 ∧ F m (pq p 45) = ((l : Nat) : Int) ∧ W ≤ l ∧ l ≤ 1000000
theorem push_pp {a2 n2 : Nat} (hp : p < 24) (ru : RUs m w p j nb Hs Os y a n) (bd : BDr p W l m) (rt : RTb b t x) (f0 : FGm p m m2) (g0 : FGw p j w w2) (pl2 : PLs b p m2 w2 U B W Y) (h45 : F m2 (pq p 45) = ((l : Nat) : Int)) (h133 : F w2 133 = ((p : Nat) : Int)) (h98 : A w2 98 (60 * p + j) = ((n2 : Nat) : Int)) {dz : Nat} (ha : F m2 1105 = ((a : Nat) : Int)) (e2 : a2 = a + dz) (hd : a2 < 1000000) (cr : ∃ f, CRs (A m 23) (ROs w) (w.2.2.2 34) f y a2 n2 (Hs j) (Os j))
    (c : ∀ m3 w3, PLs b p m3 w3 U B (W + 1) Y → RUs m3 w3 p j nb Hs Os y a2 n2 → FGm p m m3 → FGw p j w w3 → PP Q (K1 m3) (K2 w3)) : PP Q (bnd (bnd (hm_Fr_push N m2 p t) (fun u11 _ => lt (upI u11 1105 ((u11.1 1105) + I ((dz : Nat) : Int))) (fun w14 => some (w14, ())))) (fun u (_ : Unit) => K1 u)) (bnd (bnd (fm_M_put N w2 x) (fun u28 _ => some (u28, ()))) (fun u (_ : Unit) => K2 u)) := by
  rw [bb_e, bb_e]
  obtain ⟨b1, b2, b3, b4⟩ := bd
  refine l_bnd (pk_mo (push_m (N := N) (t := t) pl2.2.2.1.1 h45 b3 b4) (fun m3 _ h => ?_))
  obtain ⟨h1, h2, h3⟩ := h
  refine r_bnd (pk_mo (put_r (N := N) (x := x) hp h133 pl2.2.2.1.2.1 (by omega)) (fun w3 _ h => ?_))
  subst h
  have e5 : F m3 1105 = ((a : Nat) : Int) := by rw [FR.F h1 (by simp [pq_n])]; exact ha
  rw [I_F' e5, show I ((a : Nat) : Int) + I ((dz : Nat) : Int) = I ((a + dz : Nat) : Int) from addN, wi_e]
  show PP Q (K1 (wi m3 1105 ((a + dz : Nat) : Int))) (K2 _)
  have pl3 := PLs_push pl2 rt h1 h2 h3
  have f3 : FGm p m (wi m3 1105 ((a + dz : Nat) : Int)) := FGm.tr (FGm.tr f0 (FGm.push h1)) FGm.pc
  have g3 : FGw p j w (wa (wj w2 91 (46000 * p + W) x) 92 p ((W + 1 : Nat) : Int)) := FGw.tr g0 (FGw.put b1)
  refine c _ _ (PLs_cg pl3 (fun k hk => ?_) (fun _ _ => rfl) (fun _ _ => rfl) (fun _ _ => rfl) (fun _ _ => rfl) (fun _ _ => rfl) (fun _ _ => rfl) (fun _ _ => rfl) (fun _ _ => rfl) (fun _ _ => rfl)) (RUs_mv ru f3 g3 (by rw [F_wi (by omega) (by omega), if_pos rfl, e2]) h98 cr) f3 g3
  exact if_neg (fun c => pq_n (by omega) c.symm)
theorem op_lit (hp : p < 24) (pl : PLs b p m w U B W Y) (ru : RUs m w p j nb Hs Os y a n) (bd : BDr p W l m) (ha : a + 3 < 24000) (hn : n < 100000) (c1 : A w 25 n = 0 ∨ A w 25 n = 1 ∨ (A w 25 n = 6 ∧ A w 26 n = 0)) (c2 : A m 23 (a + 1) = A w 25 n) (c3 : A m 23 (a + 2) = A w 26 n) (cr : ∃ f, CRs (A m 23) (ROs w) (w.2.2.2 34) f y (a + 3) (n + 1) (Hs j) (Os j))
    (c : ∀ m3 w3, PLs b p m3 w3 U B (W + 1) Y → RUs m3 w3 p j nb Hs Os y (a + 3) (n + 1) → FGm p m m3 → FGw p j w w3 → PP Q (K1 m3) (K2 w3)) : PP Q (bnd (hm_Ma_making N m p (I 1)) (fun u _ => K1 u)) (bnd (fm_M_one N w (I ((n : Nat) : Int)) (I 1)) (fun u _ => K2 u)) := by
  obtain ⟨⟨fa, ct⟩, ⟨r2, r3⟩, -, ⟨r5, r6⟩, r7, ⟨r8, r9, r10⟩, r11, r12, r13⟩ := id ru
  have hj : j < 60 := fa.1.2.2
  rw [mak1, one_1, show I ((n : Nat) : Int) + 1 = I ((n + 1 : Nat) : Int) from addN, I_F' r2, show I ((a : Nat) : Int) + 1 = I ((a + 1 : Nat) : Int) from addN, Co_e (k := a + 1) rfl (by omega), bnd_so, I_F' r2, show I ((a : Nat) : Int) + 2 = I ((a + 2 : Nat) : Int) from addN, Co_e (k := a + 2) rfl (by omega), bnd_so, c2, c3, e_make, bnd_so]
  refine rb_bnd (pk_mo (goto_r (N := N) (n := ((n + 1 : Nat) : Int)) hp r11 fa.1.2.1 hj) (fun w2 _ h => ?_))
  subst h
  refine rb_ck (fun _ => rb_ck (fun _ => ?_))
  have e25 : A (wa w 98 (60 * p + j) ((n + 1 : Nat) : Int)) 25 n = A w 25 n := by rw [A_wa (by omega) (by omega), if_neg (by omega)]
  have e26 : A (wa w 98 (60 * p + j) ((n + 1 : Nat) : Int)) 26 n = A w 26 n := by rw [A_wa (by omega) (by omega), if_neg (by omega)]
  rw [tnI (n := n) rfl (by omega), I_A' e25, I_A' e26, term_e, rb_bnd_so]
  have rt : RTb b (mk (A w 25 n) (A w 26 n)) (mk (A w 25 n) (A w 26 n)) := lit_b (by omega) (fun h => by omega) (A_r _ _ _)
  refine push_pp (a2 := a + 3) (n2 := n + 1) (dz := 3) hp ru bd rt FGm.rf FGw.goto (PLs_cg pl (fun _ _ => rfl) (fun _ _ => rfl) (fun _ _ => rfl) (fun _ _ => rfl) (fun _ _ => rfl) (fun k hk => ?_) (fun _ _ => rfl) (fun _ _ => rfl) (fun _ _ => rfl) (fun _ _ => rfl)) bd.2.1 r11 (by rw [A_wa (by omega) (by omega), if_pos rfl, if_pos rfl]) r2 rfl (by omega) cr c
  show (if k = 98 then _ else w.2.2.1 k) p = _
  rw [if_neg (by simp at hk; omega)]
end
end
section
set_option maxRecDepth 100000
section
variable {b : Int → Nat → Nat → Prop} {h h' h2 h2' : Nat → Int64} {n n' l : Nat} {tt xx : Nat → Int64} {te xe : Int64}
def bnL (n n' l : Nat) (k : Int) (a c : Nat) : Prop := k = 7 ∧ ∃ i, i < l ∧ a = n + 2 * i ∧ c = n' + 2 * (l - 1 - i)
theorem list_iso (s : ISb b h n h' n') (hl : 0 < l) (hm : n + 2 * l ≤ 1000 ∧ n' + 2 * l ≤ 1000) (hh : ∀ i, i < n → h2 i = h i) (hh' : ∀ i, i < n' → h2' i = h' i) (c1 : ∀ i, i < l → h2 (n + 2 * i) = tt i) (c2 : ∀ i, i + 1 < l → h2 (n + 2 * i + 1) = mk 7 ((n + 2 * (i + 1) : Nat) : Int)) (c3 : h2 (n + 2 * (l - 1) + 1) = te) (d1 : ∀ i, i < l → h2' (n' + 2 * (l - 1 - i)) = xx i) (d2 : ∀ i, i + 1 < l → h2' (n' + 2 * (l - 1 - i) + 1) = mk 7 ((n' + 2 * (l - 1 - (i + 1)) : Nat) : Int)) (d3 : h2' (n' + 1) = xe) (r1 : ∀ i, i < l → RTb b (tt i) (xx i)) (r2 : RTb b te xe) : ISb (fun k a c => b k a c ∨ bnL n n' l k a c) h2 (n + 2 * l) h2' (n' + 2 * l) ∧ RTb (fun k a c => b k a c ∨ bnL n n' l k a c) (mk 7 ((n : Nat) : Int)) (mk 7 ((n' + 2 * (l - 1) : Nat) : Int)) := by
  refine ⟨ISb_ext s (by omega) (by omega) hh hh' (fun k a c q => ?_) (fun k k2 a c a2 c2 q1 q2 => ?_) (fun t x z e1 e2 e3 q => ?_), RTb_mk (Or.inr (Or.inr rfl)) (by omega) (by omega) (Or.inr ⟨rfl, 0, hl, by omega, by omega⟩)⟩
  · obtain ⟨q0, i, q1, q2, q3⟩ := q
    exact ⟨Or.inr (Or.inr q0), by omega, by omega, by omega⟩
  · obtain ⟨-, i, x1, x2, x3⟩ := q1
    obtain ⟨-, j, y1, y2, y3⟩ := q2
    omega
  · obtain ⟨q0, i, q1, q2, q3⟩ := q
    have b1 : blk h2 t = 2 := by unfold blk; rw [if_pos q0]
    have b2 : blk h2' x = 2 := by unfold blk; rw [if_pos (e1.trans q0)]
    refine ⟨⟨by rw [b1, b2], by omega, by omega⟩, fun j j1 j2 => ?_, fun e => by omega⟩
    rw [b1] at j2
    rw [q2, q3]
    have ej : j = 0 ∨ j = 1 := by omega
    rcases ej with e | e
    · subst e
      rw [Nat.add_zero, Nat.add_zero, c1 i q1, d1 i q1]
      exact RTb_mo (fun _ _ _ => Or.inl) (r1 i q1)
    · subst e
      by_cases c : i + 1 < l
      · rw [c2 i c, d2 i c]
        exact RTb_mk (Or.inr (Or.inr rfl)) (by omega) (by omega) (Or.inr ⟨rfl, i + 1, c, rfl, rfl⟩)
      · have ei : i = l - 1 := by omega
        subst ei
        rw [c3, Nat.sub_self, Nat.mul_zero, Nat.add_zero, d3]
        exact RTb_mo (fun _ _ _ => Or.inl) r2
end
end
section
set_option maxRecDepth 100000
section
variable {α β : Type} {b : Int → Nat → Nat → Prop} {N p k l U B W Y j a n : Nat} {m w m2 w2 m3 w3 : MS} {t x : Int64} {nb : Nat → Nat} {Hs Os : Nat → List Nat} {y : Option (Nat × Nat × Nat)} {Q : MS → α → MS → β → Prop} {K1 : MS → Option (MS × α)} {K2 : MS → Option (MS × β)} {v : Int}
theorem one_3 : fm_M_one N w (I v) (I 3) = bnd (fm_M_goTo N w (I v + 1)) (fun u7 _ => ck (inb (I v) (ln 25)) (bnd (fm_M_nameAt N u7 (u7.2.2.1 25 (I v).toNatClampNeg)) (fun u25 r25 => bnd (fm_M_put N u25 r25) (fun u26 _ => some (u26, ()))))) := rfl
theorem nd_ne {L : List Nat} (h : L.Nodup) {i k : Nat} {s e : Nat} (hi : L[i]? = some s) (hk : L[k]? = some e) (hn : i ≠ k) : s ≠ e := fun c => by
  subst c
  obtain ⟨i1, i2⟩ := List.getElem?_eq_some_iff.mp hi
  obtain ⟨k1, k2⟩ := List.getElem?_eq_some_iff.mp hk
  have hp := List.pairwise_iff_getElem.mp h
  rcases Nat.lt_or_gt_of_ne hn with z | z
  · exact hp i k i1 k1 z (by rw [i2, k2])
  · exact hp k i k1 i1 z (by rw [i2, k2])
theorem LKP_at (nd : (Os j).Nodup ∧ (Hs j).Nodup) (lk : LKP (Hs j) (Os j) v (A w 25 n)) : ∃ (s k0 : Nat), v = ((s : Nat) : Int) ∧ (Hs j ++ Os j)[k0]? = some s ∧ (∀ i e, k0 < i → (Hs j ++ Os j)[i]? = some e → e ≠ s) ∧ ((0 ≤ A w 25 n ∧ ((k0 : Nat) : Int) = (((Hs j).length : Nat) : Int) + A w 25 n) ∨ (A w 25 n < 0 ∧ ((k0 : Nat) : Int) = -2 - A w 25 n)) := by
  obtain ⟨s, e, ⟨k, e1, e2⟩ | ⟨k, e1, e2, e3⟩⟩ := lk
  · have kl : k < (Os j).length := (List.getElem?_eq_some_iff.mp e2).1
    refine ⟨s, (Hs j).length + k, e, by rw [List.getElem?_append_right (by omega), show (Hs j).length + k - (Hs j).length = k by omega]; exact e2, fun i z hi hz => ?_, Or.inl ⟨by omega, by omega⟩⟩
    rw [List.getElem?_append_right (by omega)] at hz
    exact nd_ne nd.1 hz e2 (by omega)
  · have kl : k < (Hs j).length := (List.getElem?_eq_some_iff.mp e3).1
    refine ⟨s, k, e, by rw [List.getElem?_append_left kl]; exact e3, fun i z hi hz => ?_, Or.inr ⟨by omega, by omega⟩⟩
    by_cases c : i < (Hs j).length
    · rw [List.getElem?_append_left c] at hz
      exact nd_ne nd.2 hz e3 (by omega)
    · rw [List.getElem?_append_right (by omega)] at hz
      exact fun q => e2 (by rw [← q]; exact List.mem_of_getElem? hz)
theorem op_name (hp : p < 24) (pl : PLs b p m w U B W Y) (ru : RUs m w p j nb Hs Os y a n) (bd : BDr p W l m) (hB : B ≤ 2500) (ha : a + 3 < 24000) (hn : n < 100000) (nd : (Os j).Nodup ∧ (Hs j).Nodup) (lk : LKP (Hs j) (Os j) (A m 23 (a + 1)) (A w 25 n)) (cr : ∃ f, CRs (A m 23) (ROs w) (w.2.2.2 34) f y (a + 2) (n + 1) (Hs j) (Os j))
    (c : ∀ m3 w3, PLs b p m3 w3 U B (W + 1) Y → RUs m3 w3 p j nb Hs Os y (a + 2) (n + 1) → FGm p m m3 → FGw p j w w3 → PP Q (K1 m3) (K2 w3)) : PP Q (bnd (hm_Ma_making N m p (I 3)) (fun u _ => K1 u)) (bnd (fm_M_one N w (I ((n : Nat) : Int)) (I 3)) (fun u _ => K2 u)) := by
  obtain ⟨⟨fa, ct⟩, ⟨r2, r3⟩, -, ⟨r5, r6⟩, r7, ⟨r8, r9, r10⟩, r11, r12, r13⟩ := id ru
  have hj : j < 60 := fa.1.2.2
  obtain ⟨s, k0, e1, e2, e3, e4⟩ := LKP_at nd lk
  have s1 : s < 2147483648 := by
    have := A_r m 23 (a + 1)
    rw [e1] at this
    omega
  have k0l : k0 < (Hs j ++ Os j).length := (List.getElem?_eq_some_iff.mp e2).1
  obtain ⟨-, -, ⟨f99m, f99⟩, -, f101, nms⟩ := fa.2.1 j (Nat.le_refl _)
  have eB : B = nb j + (Hs j ++ Os j).length := by
    have h1 := fa.2.2.2
    have h2 := pl.2.1.1
    omega
  rw [mak3, one_3, show I ((n : Nat) : Int) + 1 = I ((n + 1 : Nat) : Int) from addN, I_F' r2, show I ((a : Nat) : Int) + 1 = I ((a + 1 : Nat) : Int) from addN, Co_e (k := a + 1) rfl (by omega), bnd_so, e1, bb_e]
  unfold hm_Fr_termOf hb_Fr_termOf_0
  rw [I_F' pl.2.1.1, show I ((B : Nat) : Int) - 1 = I ((B - 1 : Nat) : Int) by rw [lit1q, I_sub]; congr 1; omega]
  refine l_bnd (pk_mo (termOf_s (N := N) (m := m) (p := p) (k := nb j + k0) (l := s) (B := B) (fun i h1 h2 => ?_) (nms k0 s e2) s1 (by omega) (by omega) N (B - 1) (by omega) (by omega)) (fun m2 r h => ?_))
  · have il : i - nb j < (Hs j ++ Os j).length := by omega
    have ge : (Hs j ++ Os j)[i - nb j]? = some (Hs j ++ Os j)[i - nb j] := List.getElem?_eq_getElem il
    have e5 := nms (i - nb j) _ ge
    rw [show nb j + (i - nb j) = i by omega] at e5
    rw [e5]
    have := e3 (i - nb j) _ (by omega) ge
    omega
  obtain ⟨rfl, rfl⟩ := h
  refine rb_bnd (pk_mo (goto_r (N := N) (n := ((n + 1 : Nat) : Int)) hp r11 fa.1.2.1 hj) (fun w2 _ h => ?_))
  subst h
  refine rb_ck (fun _ => ?_)
  have aw : ∀ K i, K ≠ 98 → A (wa w 98 (60 * p + j) ((n + 1 : Nat) : Int)) K i = A w K i := fun K i h => by rw [A_wa (by omega) (by omega), if_neg h]
  rw [tnI (n := n) rfl (by omega), I_A' (aw 25 n (by omega))]
  have nm : PK (fun w2 r => w2 = wa w 98 (60 * p + j) ((n + 1 : Nat) : Int) ∧ r = w.2.2.2 93 (2500 * p + (nb j + k0))) (fm_M_nameAt N (wa w 98 (60 * p + j) ((n + 1 : Nat) : Int)) (I (A w 25 n))) := by
    unfold fm_M_nameAt fb_M_nameAt_0 fb_M_nameAt_43 fm_M_frame0 fb_M_frame0_0
    have ix : (I ((p : Nat) : Int) * 60 + I ((j + 1 : Nat) : Int) - 1).toNatClampNeg = 60 * p + j := by
      rw [show (60 : Int32) = I 60 from rfl, lit1q, I_mul, I_add, I_sub]
      exact tnI (n := 60 * p + j) (by omega) (by omega)
    have h133 : F (wa w 98 (60 * p + j) ((n + 1 : Nat) : Int)) 133 = ((p : Nat) : Int) := r11
    rw [I_F' h133, tnI (n := p) rfl (by omega), I_A' ((aw 95 p (by omega)).trans fa.1.2.1)]
    refine pk_bnd (pk_ck (fun _ => pk_some ?_))
    refine pk_ck (fun _ => ?_)
    rw [ix, I_A' ((aw 99 _ (by omega)).trans f99), I_A' ((aw 101 _ (by omega)).trans f101), I_F' h133, lit0q]
    have ra := A_r w 25 n
    refine p_le ⟨by decide, by decide⟩ ra (fun z => ?_) (fun z => ?_)
    · refine pk_ck (fun _ => pk_ck (fun _ => pk_ck (fun _ => pk_some ⟨rfl, ?_⟩)))
      have : (I ((p : Nat) : Int) * 2500 + I ((nb j : Nat) : Int) + (I (((Hs j).length : Nat) : Int) + I (A w 25 n))).toNatClampNeg = 2500 * p + (nb j + k0) := by
        rw [show (2500 : Int32) = I 2500 from rfl, I_mul, I_add, I_add, I_add]
        exact tnI (n := 2500 * p + (nb j + k0)) (by omega) (by omega)
      rw [this]
      rfl
    · refine pk_ck (fun _ => pk_ck (fun _ => pk_some ⟨rfl, ?_⟩))
      have : (I ((p : Nat) : Int) * 2500 + I ((nb j : Nat) : Int) + (-2 - I (A w 25 n))).toNatClampNeg = 2500 * p + (nb j + k0) := by
        rw [show (2500 : Int32) = I 2500 from rfl, show (-2 : Int32) = I (-2) from rfl, I_mul, I_add, I_sub, I_add]
        exact tnI (n := 2500 * p + (nb j + k0)) (by omega) (by omega)
      rw [this]
      rfl
  refine rb_bnd (pk_mo nm (fun w2 r h => ?_))
  obtain ⟨rfl, rfl⟩ := h
  have rt : RTb b (m2.2.2.2 (pq p 33) (nb j + k0)) (w.2.2.2 93 (2500 * p + (nb j + k0))) := pl.2.1.2.2 _ (by omega)
  refine push_pp (a2 := a + 2) (n2 := n + 1) (dz := 2) hp ru bd rt FGm.rf FGw.goto (PLs_cg pl (fun _ _ => rfl) (fun _ _ => rfl) (fun _ _ => rfl) (fun _ _ => rfl) (fun _ _ => rfl) (fun k hk => ?_) (fun _ _ => rfl) (fun _ _ => rfl) (fun _ _ => rfl) (fun _ _ => rfl)) bd.2.1 r11 (by rw [A_wa (by omega) (by omega), if_pos rfl, if_pos rfl]) r2 rfl (by omega) cr c
  show (if k = 98 then _ else w.2.2.1 k) p = _
  rw [if_neg (by simp at hk; omega)]
end
end
section
set_option maxRecDepth 100000
def RRt (p q : Nat) (m w : MS) : Prop := q = p ∨ WTr q m w
def RGm (m m2 : MS) : Prop := FR [1105, 1106, 1107, 1108, 1109, 1111, 1112, 1113, 1114] [1110] [] [] m m2
def RGw (w w2 : MS) : Prop := FR [133, 151, 152, 153, 154, 155, 156, 157, 158, 159, 164, 165] [] [] [] w w2
section
variable {b : Int → Nat → Nat → Prop} {Fv Fv' : Int64 → Int64 → Prop} {P P' : Int64 → Prop} {N PR q r p i j jj d U B W Y a n : Nat} {m w m2 w2 : MS} {t x : Int64} {cur : Option Nat} {RR R2 : Nat → MS → MS → Prop} {nb : Nat → Nat} {Hs Os : Nat → List Nat} {y : Option (Nat × Nat × Nat)}
theorem RRt_st (h : RRt p q m w) (h1 : EQn q m m2) (h2 : EQv q w w2) : RRt p q m2 w2 := by
  rcases h with h | h
  · exact Or.inl h
  · exact Or.inr (WTr_st h h1 h2)
theorem RRt_stb : STBl (RRt p) := fun _ _ _ _ _ h h1 h2 _ => RRt_st h h1 h2
theorem WL_mono (W : WLs RR PR Fv P Fv' P' cur i j m w) (h : ∀ q, RR q m w → R2 q m w) (s : STBl R2) : WLs R2 PR Fv P Fv' P' cur i j m w := by
  obtain ⟨sf, qu, pr, -⟩ := W
  refine ⟨sf, qu, fun r hr => ?_, s⟩
  rcases pr r hr with ⟨x1, x2, b, U, B, W, Y, pl, sc, rr⟩ | x
  · exact Or.inl ⟨x1, x2, b, U, B, W, Y, pl, sc, h r rr⟩
  · exact Or.inr x
theorem WL_t (W : WLs (RRp p) PR Fv P Fv' P' cur i j m w) : WLs (RRt p) PR Fv P Fv' P' cur i j m w := WL_mono W (fun q h => by
  rcases h with h | h
  · exact Or.inl h.1
  · exact Or.inr h.2) RRt_stb
theorem EQn_loc (pg : PG0 m w m2 w2) (h1 : LOCm r m m2) (h2 : LOCw r w w2) : EQn r m m2 ∧ EQv r w w2 := ⟨(EQm_loc pg h1).n, (EQw_loc pg h2).v⟩
theorem WL_reg (W : WLs (RRt p) PR Fv P Fv' P' cur i j m w) (f : RGm m m2) (g : RGw w w2) : WLs (RRt p) PR Fv P Fv' P' cur i j m2 w2 := by
  have W0 := W
  obtain ⟨⟨⟨d, cx⟩, ⟨dw, lk, wt⟩, pb⟩, -, -, -⟩ := W
  have lm : ∀ d, LOCm d m m2 := fun d k hk => ⟨f.1 _ (by simp; unfold pq; omega), f.2.1 _ (by simp; unfold pq; omega), f.2.2.1 _ (by simp), f.2.2.2 _ (by simp)⟩
  have lw : ∀ d, LOCw d w w2 := LOCw_fr g (by simp) (by simp)
  have pg : PG0 m w m2 w2 := PG0_fr f g (by simp) (by simp) (by simp) (by simp) (by simp)
  have fc : FC 0 [1105, 1106, 1107, 1108, 1109, 1111, 1112, 1113, 1114] [1110] [] [] [] [] [] m m2 := FC.of f (by simp) (by simp) (by simp) (by simp)
  have d2 : DWc Fv P PR m2 := DWc_gl d fc (by simp) (by simp) (fun h0 => by
    have := (d.2 0 h0).1
    unfold SMQ at this ⊢
    rw [fc.Fq (by omega) (by simp), fc.Fq (by omega) (by simp), fc.Fq (by omega) (by simp), fc.Fq (by omega) (by simp)]
    exact this) (by simp) (by rw [fc.Fg (by omega) (by simp)]; exact d.1.2.2.1) (by rw [fc.Fg (by omega) (by simp)]; exact ⟨d.1.2.2.2.1.2.1, d.1.2.2.2.1.2.2⟩) (by simp)
  have s2 : SFs Fv P Fv' P' PR m2 w2 := ⟨⟨d2, CTX_fr cx (f.1 22 (by simp)) (f.2.2.1 3 (by simp))⟩, ⟨DW_fr dw g (by simp) (by simp) (by simp) (by simp) (by simp) (by simp) (by simp) (by simp) (by simp) (by simp) (by simp) (by simp) (by simp) (by simp) (by simp) (by simp) (by simp), LK_fr lk g (by simp) (by simp), WTQ_fr wt g (by simp) (by simp) (by simp)⟩, pb⟩
  have f9 : ∀ d, F m2 (pq d 9) = F m (pq d 9) := fun d => congrArg Int32.toInt (lm d 9 (by omega)).1
  have a9 : ∀ d, A w2 109 d = A w 109 d := fun d => FR.A g (by simp)
  refine WL_gen W0 s2 (fun d hd => ⟨by rw [f9]; exact hd, (lm d 2 (by omega)).2.2.2, (lm d 17 (by omega)).1, (lm d 16 (by omega)).2.1⟩) (fun d _ => ⟨fun i hi => (lw d).2.2.2.2.1 _ (by omega) (by omega), FR.A g (by simp)⟩) (fun d hd => by rw [a9]; exact hd) (fun d _ _ _ h => QEs_st h (lm d) (lw d)) (fun d _ _ h => DEs_st h pg (lm d) (lw d) (fun d hd => ⟨by rw [f9]; exact hd, (lm d 2 (by omega)).2.2.2⟩)) (fun d hd x1 x2 x3 => Or.inl ⟨by rw [f9]; exact x1, by rw [a9]; exact x2, ?_⟩) ?_
  · obtain ⟨b, U, B, W, Y, pl, sc, rr⟩ := x3
    obtain ⟨-, -, ⟨b1, b2, b3⟩, b4⟩ := SF_al W0.1 hd x1 pl
    have hU := pl.1.1.2.2
    refine ⟨b, U, B, W, Y, PLs_cg pl (fun k hk => (lm d k (by simp at hk; omega)).1) (fun i _ => by rw [(lm d 2 (by omega)).2.2.2]) (fun i _ => by rw [(lm d 33 (by omega)).2.2.2]) (fun i _ => by rw [(lm d 35 (by omega)).2.2.2]) (fun i _ => by rw [(lm d 6 (by omega)).2.2.2]) (fun k hk => by rw [g.2.2.1 k (by simp)]) (fun i _ => by rw [g.2.2.2 88 (by simp)]) (fun i _ => by rw [g.2.2.2 93 (by simp)]) (fun i _ => by rw [g.2.2.2 91 (by simp)]) (fun i _ => by rw [g.2.2.2 107 (by simp)]), SC_eq sc b4.2 (EQm_loc pg (lm d)) (EQw_loc pg (lw d)), RRt_st rr (EQm_loc pg (lm d)).n (EQw_loc pg (lw d)).v⟩
  · obtain ⟨n, q1, q2, -⟩ := W0.2.1
    exact ⟨i + n, j + n, q1, q2, fun k _ => FR.A f (by simp), fun k _ => ⟨fun K hK => FR.A g (by simp), by rw [g.2.2.2 148 (by simp)]⟩, Or.inl ⟨by rw [FR.F f (by simp)]; exact q1, by rw [FR.F g (by simp)]; exact q2⟩⟩
theorem SC_fg (s : SCs p m w) (f : FGm p m m2) (g : FGw p jj w w2) : SCs p m2 w2 := by
  obtain ⟨s1, s2, s3, s4, s5, s6⟩ := s
  have i1 : ∀ k, k < 100 → k ≠ 4 → k ≠ 5 → k ≠ 26 → k ≠ 45 → m2.1 (pq p k) = m.1 (pq p k) := fun k h0 h1 h2 h3 h4 => f.1 _ (by
    simp only [List.mem_cons, List.not_mem_nil, or_false]
    intro c
    rcases c with c | c | c | c | c
    · exact pq_inj h1 c
    · exact pq_inj h2 c
    · exact pq_inj h3 c
    · exact pq_inj h4 c
    · exact pq_n (by omega) c.symm)
  have aw : ∀ K, 112 ≤ K → K ≤ 117 → w2.2.2.1 K = w.2.2.1 K := fun K h1 h2 => g.1.2.2.1 K (by simp; omega)
  refine ⟨?_, ?_, ?_, ?_, ?_, fun i hi => ?_⟩
  · rw [i1 12 (by omega) (by omega) (by omega) (by omega) (by omega), aw 113 (by omega) (by omega)]; exact s1
  · rw [i1 13 (by omega) (by omega) (by omega) (by omega) (by omega), aw 114 (by omega) (by omega)]; exact s2
  · rw [i1 11 (by omega) (by omega) (by omega) (by omega) (by omega), aw 112 (by omega) (by omega)]; exact s3
  · rw [i1 15 (by omega) (by omega) (by omega) (by omega) (by omega), aw 117 (by omega) (by omega)]; exact s4
  · rw [i1 29 (by omega) (by omega) (by omega) (by omega) (by omega), aw 115 (by omega) (by omega)]; exact s5
  · have e : F m2 (pq p 15) = F m (pq p 15) := congrArg Int32.toInt (i1 15 (by omega) (by omega) (by omega) (by omega) (by omega))
    rw [e] at hi
    rw [f.2.2.1 _ (by simp), aw 116 (by omega) (by omega)]
    exact s6 i hi
theorem WL_run (wl : WLs (RRt p) PR Fv P Fv' P' cur i j m w) (hc : ∀ c, cur = some c → F m (pq c 9) = 3) (hp : p < PR) (hal : F m (pq p 9) ≠ 3) (h9 : A w 109 p ≠ 3) (hj : jj < 60) (s2 : SFs Fv P Fv' P' PR m2 w2) (f : FGm p m m2) (g : FGw p jj w w2) (pl : PLs b p m2 w2 U B W Y) (ru : RUs m2 w2 p jj nb Hs Os y a n) : WLs (RRp p) PR Fv P Fv' P' cur i j m2 w2 := by
  have p24 := wl.1.2.1.1.1.2
  have D : ∀ d, d ≠ p → LOCm d m m2 ∧ LOCw d w w2 := fun d hd => FG_loc f g hj hd
  have pg : PG0 m w m2 w2 := PG0_fr f g.1 (fun k hk => by simp at hk; unfold pq at hk; omega) (by simp) (fun k hk => by simp at hk; omega) (fun k hk => by simp at hk; unfold PRr; omega) (by simp)
  have sc : SCs p m w := by
    rcases wl.2.2.1 p hp with h | h
    · obtain ⟨-, -, b, U, B, W, Y, pl, sc, rr⟩ := h
      exact sc
    · exact absurd h.1 hal
  have W2 : WLs (RRt p) PR Fv P Fv' P' cur i j m w := wl
  have dq : ∀ d, F m (pq d 9) = 3 → d ≠ p := fun d hd c => hal (by rw [← c]; exact hd)
  have dq2 : ∀ d, d = 24 ∨ A w 109 d = 3 → d ≠ p := fun d hd c => by
    rcases hd with hd | hd
    · omega
    · exact h9 (by rw [← c]; exact hd)
  have f9 : ∀ d, d ≠ p → F m2 (pq d 9) = F m (pq d 9) := fun d hd => congrArg Int32.toInt ((D d hd).1 9 (by omega)).1
  have a9 : ∀ d, d ≠ p → A w2 109 d = A w 109 d := fun d hd => congrArg Int32.toInt ((D d hd).2.1 109 d (Or.inl ⟨by omega, rfl⟩))
  have dm : ∀ d, F m (pq d 9) = 3 → F m2 (pq d 9) = 3 ∧ m2.2.2.2 (pq d 2) = m.2.2.2 (pq d 2) ∧ m2.1 (pq d 17) = m.1 (pq d 17) ∧ m2.2.1 (pq d 16) = m.2.1 (pq d 16) := fun d hd => ⟨by rw [f9 d (dq d hd)]; exact hd, ((D d (dq d hd)).1 2 (by omega)).2.2.2, ((D d (dq d hd)).1 17 (by omega)).1, ((D d (dq d hd)).1 16 (by omega)).2.1⟩
  have rp : RUs m2 w2 p jj nb Hs Os y a n := ru
  have W3 : WLs (RRt p) PR Fv P Fv' P' cur i j m2 w2 := by
    refine WL_gen W2 s2 dm (fun d hd => ⟨fun i hi => (D d (dq2 d hd)).2.2.2.2.2.1 _ (by omega) (by omega), congrArg Int32.toInt ((D d (dq2 d hd)).2.2.1 89 (by omega))⟩) (fun d hd => by rw [a9 d (dq2 d (Or.inr hd))]; exact hd) (fun r _ hr _ h => QEs_st h (D r (dq r hr)).1 (D r (dq r hr)).2) (fun r _ _ h => DEs_st h pg (D r (dq r h.1)).1 (D r (dq r h.1)).2 (fun d hd => ⟨(dm d hd).1, (dm d hd).2.1⟩)) (fun r hr x1 x2 x3 => ?_) ?_
    · by_cases rq : r = p
      · subst rq
        exact Or.inl ⟨by rw [ru.2.2.2.1.1]; omega, by rw [ru.2.2.2.1.2]; omega, b, U, B, W, Y, pl, SC_fg sc f g, Or.inl rfl⟩
      · obtain ⟨b, U, B, W, Y, pl, sc, rr⟩ := x3
        obtain ⟨-, -, ⟨b1, b2, b3⟩, b4⟩ := SF_al W2.1 hr x1 pl
        have hU := pl.1.1.2.2
        obtain ⟨l1, l2⟩ := D r rq
        refine Or.inl ⟨by rw [f9 r rq]; exact x1, by rw [a9 r rq]; exact x2, b, U, B, W, Y, PLs_cg pl (fun k hk => (l1 k (by simp at hk; omega)).1) (fun i _ => by rw [(l1 2 (by omega)).2.2.2]) (fun i _ => by rw [(l1 33 (by omega)).2.2.2]) (fun i _ => by rw [(l1 35 (by omega)).2.2.2]) (fun i _ => by rw [(l1 6 (by omega)).2.2.2]) (fun k hk => ?_) (fun i hi => l2.2.2.2.2.1 _ (by omega) (by omega)) (fun i hi => l2.2.2.2.2.2.2.1 _ (by omega) (by omega)) (fun i hi => l2.2.2.2.2.2.1 _ (by omega) (by omega)) (fun i hi => l2.2.2.2.2.2.2.2 _ (by omega) (by omega)), SC_eq sc b4.2 (EQm_loc pg l1) (EQw_loc pg l2), RRt_st rr (EQm_loc pg l1).n (EQw_loc pg l2).v⟩
        simp only [List.mem_cons, List.not_mem_nil, or_false] at hk
        rcases hk with rfl | rfl | rfl | rfl | rfl
        · exact l2.2.1 89 (by omega)
        · exact l2.2.1 90 (by omega)
        · exact l2.1 92 r (Or.inl ⟨by omega, rfl⟩)
        · exact l2.1 94 r (Or.inl ⟨by omega, rfl⟩)
        · exact l2.2.1 108 (by omega)
    · obtain ⟨n, q1, q2, -⟩ := W2.2.1
      exact ⟨i + n, j + n, q1, q2, fun k _ => FR.A f (by simp), fun k _ => ⟨fun K hK => FR.A g.1 (by simp; omega), by rw [g.1.2.2.2 148 (by simp)]⟩, Or.inl ⟨by rw [FR.F f (by simp [pq_n])]; exact q1, by rw [FR.F g.1 (by simp)]; exact q2⟩⟩
  obtain ⟨sf, qu, pr, -⟩ := W3
  refine ⟨sf, qu, fun r hr => ?_, RRp_stb⟩
  rcases pr r hr with ⟨x1, x2, b', U', B', W', Y', pl', sc', rr⟩ | x
  · by_cases rq : r = p
    · subst rq
      exact Or.inl ⟨x1, x2, b', U', B', W', Y', pl', sc', Or.inl ⟨rfl, jj, nb, Hs, Os, y, a, n, ru⟩⟩
    · rcases rr with rr | rr
      · exact absurd rr rq
      · exact Or.inl ⟨x1, x2, b', U', B', W', Y', pl', sc', Or.inr ⟨rq, rr⟩⟩
  · exact Or.inr x
end
end
section
set_option maxRecDepth 100000
section
variable {α β : Type} {b : Int → Nat → Nat → Prop} {N p k l U B W Y j a n : Nat} {m w m2 w2 m3 w3 : MS} {t x : Int64} {nb : Nat → Nat} {Hs Os : Nat → List Nat} {y : Option (Nat × Nat × Nat)} {Q : MS → α → MS → β → Prop} {K1 : MS → Option (MS × α)} {K2 : MS → Option (MS × β)} {v : Int}
theorem one_17 : fm_M_one N w (I v) (I 17) = bnd (fm_M_goTo N w (I v + 1)) (fun u7 _ => bnd (fm_M_take N u7) (fun u20 _ => some (u20, ()))) := rfl
theorem one_26 : fm_M_one N w (I v) (I 26) = bnd (fm_M_goTo N w (I v + 1)) (fun u7 _ => ck (inb (I v) (ln 25)) (br (decide ((u7.2.2.1 25 (I v).toNatClampNeg) = (-2))) (ck (inb (I v) (ln 26)) (ck (inb (u7.2.2.1 26 (I v).toNatClampNeg) (ln 26)) (bnd (fm_M_goTo N u7 (u7.2.2.1 26 (u7.2.2.1 26 (I v).toNatClampNeg).toNatClampNeg)) (fun u2 _ => some (u2, ()))))) (ck (inb (I v) (ln 25)) (bnd (fm_M_goTo N u7 (u7.2.2.1 25 (I v).toNatClampNeg)) (fun u2 _ => some (u2, ())))))) := rfl
theorem one_20 : fm_M_one N w (I v) (I 20) = bnd (fm_M_goTo N w (I v + 1)) (fun u7 _ => bnd (fm_M_otherRun N u7 (I v) (I 20)) (fun u8 _ => some (u8, ()))) := rfl
theorem one_30 : fm_M_one N w (I v) (I 30) = bnd (fm_M_goTo N w (I v + 1)) (fun u7 _ => bnd (fm_M_otherRun N u7 (I v) (I 30)) (fun u8 _ => some (u8, ()))) := rfl
theorem PLs_98 (pl : PLs b p m w U B W Y) {i : Nat} {z : Int} : PLs b p m (wa w 98 i z) U B W Y := PLs_cg pl (fun _ _ => rfl) (fun _ _ => rfl) (fun _ _ => rfl) (fun _ _ => rfl) (fun _ _ => rfl) (fun k hk => by
  show (if k = 98 then _ else w.2.2.1 k) p = _
  rw [if_neg (by simp at hk; omega)]) (fun _ _ => rfl) (fun _ _ => rfl) (fun _ _ => rfl) (fun _ _ => rfl)
theorem PLs_pc (pl : PLs b p m w U B W Y) {z : Int} : PLs b p (wi m 1105 z) w U B W Y := PLs_cg pl (fun k _ => if_neg (fun c => pq_n (by omega) c.symm)) (fun _ _ => rfl) (fun _ _ => rfl) (fun _ _ => rfl) (fun _ _ => rfl) (fun _ _ => rfl) (fun _ _ => rfl) (fun _ _ => rfl) (fun _ _ => rfl) (fun _ _ => rfl)
theorem op_drop (hp : p < 24) (pl : PLs b p m w U B (W + 1) Y) (ru : RUs m w p j nb Hs Os y a n) (hW : W + 1 ≤ 46000) (ha : a + 1 < 24000) (cr : ∃ f, CRs (A m 23) (ROs w) (w.2.2.2 34) f y (a + 1) (n + 1) (Hs j) (Os j))
    (c : ∀ m3 w3, PLs b p m3 w3 U B W Y → RUs m3 w3 p j nb Hs Os y (a + 1) (n + 1) → FGm p m m3 → FGw p j w w3 → PP Q (K1 m3) (K2 w3)) : PP Q (bnd (hm_Ma_value N m p (I 15)) (fun u _ => K1 u)) (bnd (fm_M_one N w (I ((n : Nat) : Int)) (I 17)) (fun u _ => K2 u)) := by
  obtain ⟨⟨fa, ct⟩, ⟨r2, r3⟩, -, ⟨r5, r6⟩, r7, ⟨r8, r9, r10⟩, r11, r12, r13⟩ := id ru
  have hj : j < 60 := fa.1.2.2
  rw [val15, one_17, show I ((n : Nat) : Int) + 1 = I ((n + 1 : Nat) : Int) from addN, I_F' r2, show I ((a : Nat) : Int) + 1 = I ((a + 1 : Nat) : Int) from addN, Co_e (k := a + 1) rfl ha, bnd_so, show (1 : Int32) = I 1 from rfl, drop_e (W := W + 1) (k := 1) (x := 1) pl.2.2.1.1 rfl (by omega), bnd_so, Nat.add_sub_cancel]
  have e5 : F (wi m (pq p 26) ((W : Nat) : Int)) 1105 = ((a : Nat) : Int) := by rw [wi_ne (pq_n (by omega))]; exact r2
  rw [lt_e, I_F' e5, show I ((a : Nat) : Int) + I 1 = I ((a + 1 : Nat) : Int) from addN, wi_e, bnd_so, bb_e]
  refine r_bnd (pk_mo (goto_r (N := N) (n := ((n + 1 : Nat) : Int)) hp r11 fa.1.2.1 hj) (fun w2 _ h => ?_))
  subst h
  have h92 : A (wa w 98 (60 * p + j) ((n + 1 : Nat) : Int)) 92 p = ((W + 1 : Nat) : Int) := by rw [wa_rne (by omega)]; exact pl.2.2.1.2.1
  rw [bb_e]
  refine r_bnd (pk_mo (take_r (N := N) (w := wa w 98 (60 * p + j) ((n + 1 : Nat) : Int)) hp r11 h92 (by omega)) (fun w3 r h => ?_))
  obtain ⟨rfl, -⟩ := h
  rw [bnd_so]
  have f3 : FGm p m (wi (wi m (pq p 26) ((W : Nat) : Int)) 1105 ((a + 1 : Nat) : Int)) := FGm.tr FGm.drop FGm.pc
  have g3 : FGw p j w (wa (wa w 98 (60 * p + j) ((n + 1 : Nat) : Int)) 92 p ((W : Nat) : Int)) := FGw.tr FGw.goto FGw.w92
  have nb9 := (CR_b cr.choose_spec).2.1
  have h98 : A (wa (wa w 98 (60 * p + j) ((n + 1 : Nat) : Int)) 92 p ((W : Nat) : Int)) 98 (60 * p + j) = ((n + 1 : Nat) : Int) := by rw [wa_rne (by omega), wa_sm (by omega) (by omega)]
  exact c _ _ (PLs_pc (PLs_drop (k := 1) (PLs_98 pl) (by omega))) (RUs_mv ru f3 g3 (by rw [wi_sm (by omega) (by omega)]) h98 cr) f3 g3
theorem op_jump {t2 n2 : Nat} (hp : p < 24) (pl : PLs b p m w U B W Y) (ru : RUs m w p j nb Hs Os y a n) (ha : a + 1 < 24000) (hn : n < 100000) (ht : A m 23 (a + 1) = ((t2 : Nat) : Int)) (hn2 : n2 < 100000) (hd : A w 25 n = ((n2 : Nat) : Int) ∨ (A w 25 n = -2 ∧ ∃ r : Nat, A w 26 n = ((r : Nat) : Int) ∧ r < 100000 ∧ A w 26 r = ((n2 : Nat) : Int))) (cr : ∃ f, CRs (A m 23) (ROs w) (w.2.2.2 34) f y t2 n2 (Hs j) (Os j))
    (c : ∀ m3 w3, PLs b p m3 w3 U B W Y → RUs m3 w3 p j nb Hs Os y t2 n2 → FGm p m m3 → FGw p j w w3 → PP Q (K1 m3) (K2 w3)) : PP Q (bnd (hm_Ma_flow N m p (I 18)) (fun u _ => K1 u)) (bnd (fm_M_one N w (I ((n : Nat) : Int)) (I 26)) (fun u _ => K2 u)) := by
  obtain ⟨⟨fa, ct⟩, ⟨r2, r3⟩, -, ⟨r5, r6⟩, r7, ⟨r8, r9, r10⟩, r11, r12, r13⟩ := id ru
  have hj : j < 60 := fa.1.2.2
  have t24 := A_r m 23 (a + 1)
  rw [ht] at t24
  rw [flo18, one_26, show I ((n : Nat) : Int) + 1 = I ((n + 1 : Nat) : Int) from addN, I_F' r2, show I ((a : Nat) : Int) + 1 = I ((a + 1 : Nat) : Int) from addN, Co_e (k := a + 1) rfl ha, bnd_so, ht, lt_e, wi_e, bnd_so, bb_e]
  refine r_bnd (pk_mo (goto_r (N := N) (n := ((n + 1 : Nat) : Int)) hp r11 fa.1.2.1 hj) (fun w2 _ h => ?_))
  subst h
  have aw : ∀ K i, K ≠ 98 → A (wa w 98 (60 * p + j) ((n + 1 : Nat) : Int)) K i = A w K i := fun K i h => by rw [wa_rne h]
  have last : ∀ q : Option (MS × Unit), (PK (fun w3 (_ : Unit) => w3 = wa (wa w 98 (60 * p + j) ((n + 1 : Nat) : Int)) 98 (60 * p + j) ((n2 : Nat) : Int)) q) → PP Q (K1 (wi m 1105 ((t2 : Nat) : Int))) (bnd (bnd q (fun u2 _ => some (u2, ()))) (fun u (_ : Unit) => K2 u)) := fun q hq => by
    rw [bb_e]
    refine r_bnd (pk_mo hq (fun w3 _ h => ?_))
    subst h
    rw [bnd_so]
    have g3 : FGw p j w (wa (wa w 98 (60 * p + j) ((n + 1 : Nat) : Int)) 98 (60 * p + j) ((n2 : Nat) : Int)) := FGw.tr FGw.goto FGw.goto
    exact c _ _ (PLs_pc (PLs_98 (PLs_98 pl))) (RUs_mv ru FGm.pc g3 (by rw [wi_sm t24.1 t24.2]) (by rw [wa_sm (by omega) (by omega)]) cr) FGm.pc g3
  have g2 : PK (fun w3 (_ : Unit) => w3 = wa (wa w 98 (60 * p + j) ((n + 1 : Nat) : Int)) 98 (60 * p + j) ((n2 : Nat) : Int)) (fm_M_goTo N (wa w 98 (60 * p + j) ((n + 1 : Nat) : Int)) (I ((n2 : Nat) : Int))) := goto_r (N := N) (w := wa w 98 (60 * p + j) ((n + 1 : Nat) : Int)) hp r11 ((aw 95 p (by omega)).trans fa.1.2.1) hj
  refine rb_ck (fun _ => ?_)
  rw [tnI (n := n) rfl (by omega)]
  rcases hd with hd | ⟨hd, r, hr, hr1, hr2⟩
  · rw [I_A' ((aw 25 n (by omega)).trans hd), show (-2 : Int32) = I (-2) from rfl, decE (by omega) (by omega) (by omega) (by omega), decide_eq_false (by omega), br_fq]
    exact rb_ck (fun _ => last _ g2)
  · rw [I_A' ((aw 25 n (by omega)).trans hd), show decide (I (-2) = -2) = true from rfl, br_tq]
    refine rb_ck (fun _ => rb_ck (fun _ => ?_))
    rw [I_A' ((aw 26 n (by omega)).trans hr), tnI (n := r) rfl (by omega), I_A' ((aw 26 r (by omega)).trans hr2)]
    exact last _ g2
end
end
section
set_option maxRecDepth 100000
def GGm (p : Nat) (m m2 : MS) : Prop := (∀ d, d ≠ p → LOCm d m m2) ∧ (m2.2.2.1 23 = m.2.2.1 23 ∧ m2.1 22 = m.1 22 ∧ m2.2.2.1 2 = m.2.2.1 2 ∧ m2.2.2.1 3 = m.2.2.1 3) ∧ m2.1 955 = m.1 955 ∧ m2.2.2.1 54 = m.2.2.1 54 ∧ m2.1 956 = m.1 956 ∧ (∀ K, K < 100 → m2.2.2.1 K = m.2.2.1 K) ∧ ∀ k, k < 1100 ∨ k = 1106 ∨ k = 1107 → m2.1 k = m.1 k
def GGw (p : Nat) (w w2 : MS) : Prop := (∀ d, d ≠ p → LOCw d w w2) ∧ ((∀ K, PRr K → w2.2.2.1 K = w.2.2.1 K) ∧ w2.2.2.2 34 = w.2.2.2 34 ∧ w2.2.2.1 12 = w.2.2.1 12 ∧ w2.2.2.1 13 = w.2.2.1 13 ∧ w2.1 14 = w.1 14) ∧ w2.1 150 = w.1 150 ∧ (∀ K, K = 145 ∨ K = 146 ∨ K = 147 → w2.2.2.1 K = w.2.2.1 K) ∧ w2.2.2.2 148 = w.2.2.2 148 ∧ (∀ K, K < 88 ∨ (118 ≤ K ∧ K ≤ 130) → w2.2.2.1 K = w.2.2.1 K) ∧ ∀ k, k ≤ 132 ∨ k = 164 ∨ k = 165 → w2.1 k = w.1 k
section
variable {b : Int → Nat → Nat → Prop} {Fv Fv' : Int64 → Int64 → Prop} {P P' : Int64 → Prop} {N PR q r p i j jj d U B W Y a a2 n n2 t2 nd nn : Nat} {m w m2 w2 m3 w3 : MS} {t x : Int64} {cur : Option Nat} {nb : Nat → Nat} {Hs Os : Nat → List Nat} {y : Option (Nat × Nat × Nat)} {gi gl ga ki kl ka kj : List Nat} {v : Int}
theorem GGm.rf : GGm p m m := ⟨fun _ _ => LOCm.rf, ⟨rfl, rfl, rfl, rfl⟩, rfl, rfl, rfl, fun _ _ => rfl, fun _ _ => rfl⟩
theorem GGw.rf : GGw p w w := ⟨fun _ _ => LOCw.rf, ⟨fun _ _ => rfl, rfl, rfl, rfl, rfl⟩, rfl, fun _ _ => rfl, rfl, fun _ _ => rfl, fun _ _ => rfl⟩
theorem GGm.tr (h : GGm p m m2) (g : GGm p m2 m3) : GGm p m m3 := by
  obtain ⟨a1, ⟨a2, a3, a4, a5⟩, a6, a7, a8, a9, a10⟩ := h
  obtain ⟨c1, ⟨c2, c3, c4, c5⟩, c6, c7, c8, c9, c10⟩ := g
  exact ⟨fun d hd => LOCm.tr (a1 d hd) (c1 d hd), ⟨c2.trans a2, c3.trans a3, c4.trans a4, c5.trans a5⟩, c6.trans a6, c7.trans a7, c8.trans a8, fun K h => (c9 K h).trans (a9 K h), fun k h => (c10 k h).trans (a10 k h)⟩
theorem GGw.tr (h : GGw p w w2) (g : GGw p w2 w3) : GGw p w w3 := by
  obtain ⟨a1, ⟨a2, a3, a4, a5, a6⟩, a7, a8, a9, a10, a11⟩ := h
  obtain ⟨c1, ⟨c2, c3, c4, c5, c6⟩, c7, c8, c9, c10, c11⟩ := g
  exact ⟨fun d hd => LOCw.tr (a1 d hd) (c1 d hd), ⟨fun K hK => (c2 K hK).trans (a2 K hK), c3.trans a3, c4.trans a4, c5.trans a5, c6.trans a6⟩, c7.trans a7, fun K hK => (c8 K hK).trans (a8 K hK), c9.trans a9, fun K h => (c10 K h).trans (a10 K h), fun k h => (c11 k h).trans (a11 k h)⟩
theorem PG0_gg (h : GGm p m m2) (g : GGw p w w2) : PG0 m w m2 w2 := ⟨⟨h.2.1.1, h.2.1.2.1, ATc_eq h.2.1.2.2.1 h.2.1.2.2.2⟩, g.2.1.1, g.2.1.2.1, g.2.1.2.2.1, g.2.1.2.2.2.1, g.2.1.2.2.2.2⟩
theorem GGm_fc (f : FC p gi gl ga ki kl ka kj m m2) (h1 : ∀ k, k < 1100 ∨ k = 1106 ∨ k = 1107 → k ∉ gi) (h2 : 955 ∉ gi ∧ 956 ∉ gi) (h3 : ∀ k, k < 100 → k ∉ ga) : GGm p m m2 := ⟨fun d hd k hk => ⟨f.2.2.2.2.1 d k hk (fun e => absurd e hd), f.2.2.2.2.2.1 d k hk (fun e => absurd e hd), f.2.2.2.2.2.2.1 d k hk (fun e => absurd e hd), f.2.2.2.2.2.2.2 d k hk (fun e => absurd e hd)⟩, ⟨f.2.2.1 23 (by omega) (h3 23 (by omega)), f.1 22 (by omega) (h1 22 (by omega)), f.2.2.1 2 (by omega) (h3 2 (by omega)), f.2.2.1 3 (by omega) (h3 3 (by omega))⟩, f.1 955 (by omega) h2.1, f.2.2.1 54 (by omega) (h3 54 (by omega)), f.1 956 (by omega) h2.2, fun K hK => f.2.2.1 K (by omega) (h3 K hK), fun k hk => f.1 k (by omega) (h1 k hk)⟩
theorem GGm_fg (f : FGm p m m2) : GGm p m m2 := ⟨fun d hd => (FG_loc (j := 0) f (FGw.rf (w := m)) (by omega) hd).1, ⟨f.2.2.1 23 (by simp), f.1 22 (by simp; unfold pq; omega), f.2.2.1 2 (by simp), f.2.2.1 3 (by simp)⟩, f.1 955 (by simp; unfold pq; omega), f.2.2.1 54 (by simp), f.1 956 (by simp; unfold pq; omega), fun K _ => f.2.2.1 K (by simp), fun k hk => f.1 k (by simp; unfold pq; omega)⟩
theorem GGw_fg (g : FGw p jj w w2) (hj : jj < 60) : GGw p w w2 := ⟨fun d hd => (FG_loc (FGm.rf (m := w)) g hj hd).2, ⟨fun K hK => g.1.2.2.1 K (by unfold PRr at hK; simp; omega), g.1.2.2.2 34 (by simp), g.1.2.2.1 12 (by simp), g.1.2.2.1 13 (by simp), g.1.1 14 (by simp)⟩, g.1.1 150 (by simp), fun K hK => g.1.2.2.1 K (by simp; omega), g.1.2.2.2 148 (by simp), fun K hK => g.1.2.2.1 K (by simp; omega), fun k hk => g.1.1 k (by simp; omega)⟩
theorem GGm_reg {k : Nat} (hk : 1105 ≤ k ∧ k < 1120 ∧ k ≠ 1106 ∧ k ≠ 1107) : GGm p m (wi m k v) := ⟨fun d _ l _ => ⟨if_neg (by unfold pq; omega), rfl, rfl, rfl⟩, ⟨rfl, if_neg (by omega), rfl, rfl⟩, if_neg (by omega), rfl, if_neg (by omega), fun _ _ => rfl, fun l hl => if_neg (by omega)⟩
theorem GGm_own {k : Nat} (hk : k < 100) : GGm p m (wi m (pq p k) v) := ⟨fun d hd l hl => ⟨if_neg (fun c => hd (pq_e hl hk c).1), rfl, rfl, rfl⟩, ⟨rfl, if_neg (by unfold pq; omega), rfl, rfl⟩, if_neg (by unfold pq; omega), rfl, if_neg (by unfold pq; omega), fun _ _ => rfl, fun l hl => if_neg (by unfold pq; omega)⟩
theorem wa_at {K K2 i2 : Nat} (h : ¬ (K2 = K ∧ i2 = i)) : (wa w K i v).2.2.1 K2 i2 = w.2.2.1 K2 i2 := by
  by_cases c : K2 = K
  · subst c
    show (if K2 = K2 then upd (w.2.2.1 K2) i (I v) else w.2.2.1 K2) i2 = _
    rw [if_pos rfl]
    show (if i2 = i then I v else w.2.2.1 K2 i2) = _
    rw [if_neg (fun z => h ⟨rfl, z⟩)]
  · show (if K2 = K then _ else w.2.2.1 K2) i2 = _
    rw [if_neg c]
theorem OWi_d {K : Nat} (h1 : OWi p K i) (h2 : OWi d K i) : d = p := by
  unfold OWi at h1 h2
  rcases h1 with h1 | h1 | h1 | h1 <;> rcases h2 with h2 | h2 | h2 | h2 <;> omega
theorem OWi_k {K : Nat} (h : OWi p K i) : 92 ≤ K ∧ K ≠ 108 ∧ K ≠ 131 ∧ K ≠ 132 ∧ K ≠ 145 ∧ K ≠ 146 ∧ K ≠ 147 ∧ (K ≤ 117 ∨ K = 170) := by
  unfold OWi at h
  omega
theorem GGw_own {K : Nat} (h : OWi p K i) : GGw p w (wa w K i v) := by
  have hk := OWi_k h
  have ne : ∀ K2, K2 ≠ K → (wa w K i v).2.2.1 K2 = w.2.2.1 K2 := fun K2 c => if_neg c
  refine ⟨fun d hd => ⟨fun K2 i2 h2 => wa_at (fun c => ?_), fun K2 h2 => by rw [ne K2 (by omega)], fun i2 _ _ => by rw [ne 131 (by omega)], rfl, fun _ _ _ => rfl, fun _ _ _ => rfl, fun _ _ _ => rfl, fun _ _ _ => rfl⟩, ⟨fun K2 h2 => ne K2 (by unfold PRr at h2; omega), rfl, ne 12 (by omega), ne 13 (by omega), rfl⟩, rfl, fun K2 h2 => ne K2 (by omega), rfl, fun K2 h2 => ne K2 (by omega), fun _ _ => rfl⟩
  obtain ⟨rfl, rfl⟩ := c
  exact hd (OWi_d h h2)
theorem WL_own (wl : WLs (RRt p) PR Fv P Fv' P' cur i j m w) (hp : p < PR) (hal : F m (pq p 9) ≠ 3) (h9 : A w 109 p ≠ 3) (s2 : SFs Fv P Fv' P' PR m2 w2) (f : GGm p m m2) (g : GGw p w w2) (pl : PLs b p m2 w2 U B W Y) (sc2 : SCs p m2 w2) (ru : RUs m2 w2 p jj nb Hs Os y a n) : WLs (RRp p) PR Fv P Fv' P' cur i j m2 w2 := by
  have p24 := wl.1.2.1.1.1.2
  have D : ∀ d, d ≠ p → LOCm d m m2 ∧ LOCw d w w2 := fun d hd => ⟨f.1 d hd, g.1 d hd⟩
  have pg : PG0 m w m2 w2 := PG0_gg f g
  have dq : ∀ d, F m (pq d 9) = 3 → d ≠ p := fun d hd c => hal (by rw [← c]; exact hd)
  have dq2 : ∀ d, d = 24 ∨ A w 109 d = 3 → d ≠ p := fun d hd c => by
    rcases hd with hd | hd
    · omega
    · exact h9 (by rw [← c]; exact hd)
  have f9 : ∀ d, d ≠ p → F m2 (pq d 9) = F m (pq d 9) := fun d hd => congrArg Int32.toInt ((D d hd).1 9 (by omega)).1
  have a9 : ∀ d, d ≠ p → A w2 109 d = A w 109 d := fun d hd => congrArg Int32.toInt ((D d hd).2.1 109 d (Or.inl ⟨by omega, rfl⟩))
  have dm : ∀ d, F m (pq d 9) = 3 → F m2 (pq d 9) = 3 ∧ m2.2.2.2 (pq d 2) = m.2.2.2 (pq d 2) ∧ m2.1 (pq d 17) = m.1 (pq d 17) ∧ m2.2.1 (pq d 16) = m.2.1 (pq d 16) := fun d hd => ⟨by rw [f9 d (dq d hd)]; exact hd, ((D d (dq d hd)).1 2 (by omega)).2.2.2, ((D d (dq d hd)).1 17 (by omega)).1, ((D d (dq d hd)).1 16 (by omega)).2.1⟩
  have W3 : WLs (RRt p) PR Fv P Fv' P' cur i j m2 w2 := by
    refine WL_gen wl s2 dm (fun d hd => ⟨fun i hi => (D d (dq2 d hd)).2.2.2.2.2.1 _ (by omega) (by omega), congrArg Int32.toInt ((D d (dq2 d hd)).2.2.1 89 (by omega))⟩) (fun d hd => by rw [a9 d (dq2 d (Or.inr hd))]; exact hd) (fun r _ hr _ h => QEs_st h (D r (dq r hr)).1 (D r (dq r hr)).2) (fun r _ _ h => DEs_st h pg (D r (dq r h.1)).1 (D r (dq r h.1)).2 (fun d hd => ⟨(dm d hd).1, (dm d hd).2.1⟩)) (fun r hr x1 x2 x3 => ?_) ?_
    · by_cases rq : r = p
      · subst rq
        exact Or.inl ⟨by rw [ru.2.2.2.1.1]; omega, by rw [ru.2.2.2.1.2]; omega, b, U, B, W, Y, pl, sc2, Or.inl rfl⟩
      · obtain ⟨b, U, B, W, Y, pl, sc, rr⟩ := x3
        obtain ⟨-, -, ⟨b1, b2, b3⟩, b4⟩ := SF_al wl.1 hr x1 pl
        have hU := pl.1.1.2.2
        obtain ⟨l1, l2⟩ := D r rq
        refine Or.inl ⟨by rw [f9 r rq]; exact x1, by rw [a9 r rq]; exact x2, b, U, B, W, Y, PLs_cg pl (fun k hk => (l1 k (by simp at hk; omega)).1) (fun i _ => by rw [(l1 2 (by omega)).2.2.2]) (fun i _ => by rw [(l1 33 (by omega)).2.2.2]) (fun i _ => by rw [(l1 35 (by omega)).2.2.2]) (fun i _ => by rw [(l1 6 (by omega)).2.2.2]) (fun k hk => ?_) (fun i hi => l2.2.2.2.2.1 _ (by omega) (by omega)) (fun i hi => l2.2.2.2.2.2.2.1 _ (by omega) (by omega)) (fun i hi => l2.2.2.2.2.2.1 _ (by omega) (by omega)) (fun i hi => l2.2.2.2.2.2.2.2 _ (by omega) (by omega)), SC_eq sc b4.2 (EQm_loc pg l1) (EQw_loc pg l2), RRt_st rr (EQm_loc pg l1).n (EQw_loc pg l2).v⟩
        simp only [List.mem_cons, List.not_mem_nil, or_false] at hk
        rcases hk with rfl | rfl | rfl | rfl | rfl
        · exact l2.2.1 89 (by omega)
        · exact l2.2.1 90 (by omega)
        · exact l2.1 92 r (Or.inl ⟨by omega, rfl⟩)
        · exact l2.1 94 r (Or.inl ⟨by omega, rfl⟩)
        · exact l2.2.1 108 (by omega)
    · obtain ⟨n, q1, q2, -⟩ := wl.2.1
      refine ⟨i + n, j + n, q1, q2, fun k _ => ?_, fun k _ => ⟨fun K hK => ?_, by rw [g.2.2.2.2.1]⟩, Or.inl ⟨?_, ?_⟩⟩
      · show (m2.2.2.1 54 k).toInt = _
        rw [f.2.2.2.1]
        rfl
      · show (w2.2.2.1 K k).toInt = _
        rw [g.2.2.2.1 K hK]
        rfl
      · show (m2.1 955).toInt = _
        rw [f.2.2.1]
        exact q1
      · show (w2.1 150).toInt = _
        rw [g.2.2.1]
        exact q2
  obtain ⟨sf, qu, pr, -⟩ := W3
  refine ⟨sf, qu, fun r hr => ?_, RRp_stb⟩
  rcases pr r hr with ⟨x1, x2, b', U', B', W', Y', pl', sc', rr⟩ | x
  · by_cases rq : r = p
    · subst rq
      exact Or.inl ⟨x1, x2, b', U', B', W', Y', pl', sc', Or.inl ⟨rfl, jj, nb, Hs, Os, y, a, n, ru⟩⟩
    · rcases rr with rr | rr
      · exact absurd rr rq
      · exact Or.inl ⟨x1, x2, b', U', B', W', Y', pl', sc', Or.inr ⟨rq, rr⟩⟩
  · exact Or.inr x
theorem GD_w {nbj : Nat} {H O : List Nat} (r7 : GDr y m w p nbj H O) (f8 : m2.1 (pq p 8) = m.1 (pq p 8)) (fL : m2.2.1 (pq p 10) = m.2.1 (pq p 10)) (fJ : w2.2.2.2 111 p = w.2.2.2 111 p) (fm : ∀ k, 1106 ≤ k → k < 1120 → m2.1 k = m.1 k) (fw : ∀ k, k = 133 ∨ (151 ≤ k ∧ k ≤ 165) → w2.1 k = w.1 k) (e23 : m2.2.2.1 23 = m.2.2.1 23) (pr : ∀ K, PRr K → w2.2.2.1 K = w.2.2.1 K) (h34 : w2.2.2.2 34 = w.2.2.2 34) : GDr y m2 w2 p nbj H O := by
  have fF : ∀ k, 1106 ≤ k → k < 1120 → F m2 k = F m k := fun k c1 c2 => congrArg Int32.toInt (fm k c1 c2)
  have wF : ∀ k, k = 133 ∨ (151 ≤ k ∧ k ≤ 165) → F w2 k = F w k := fun k c => congrArg Int32.toInt (fw k c)
  have h23 : A m2 23 = A m 23 := by funext i; show (m2.2.2.1 23 i).toInt = _; rw [e23]; rfl
  have hRO := ROs_eq pr
  have hP : ∀ K, PRr K → A w2 K = A w K := fun K c => by funext i; show (w2.2.2.1 K i).toInt = _; rw [pr K c]; rfl
  have g8 : F m2 (pq p 8) = F m (pq p 8) := congrArg Int32.toInt f8
  rcases r7 with ⟨c1, c2, c3⟩ | ⟨kd, k, sc, c1, fl, W0, O0, X, c2, ⟨c3, c4, c5, c6⟩, ⟨c7, c8, c9, c10, c11⟩, c12, f2, g, c13⟩
  · exact Or.inl ⟨c1, by rw [fF 1112 (by omega) (by omega)]; exact c2, by rw [wF 152 (by omega)]; exact c3⟩
  · refine Or.inr ⟨kd, k, sc, c1, fl, W0, O0, X, c2, ⟨by rw [fF 1112 (by omega) (by omega)]; exact c3, c4, by rw [fF 1113 (by omega) (by omega)]; exact c5, by rw [fF 1114 (by omega) (by omega)]; exact c6⟩, ⟨by rw [wF 152 (by omega)]; exact c7, by rw [wF 153 (by omega)]; exact c8, by rw [wF 154 (by omega)]; exact c9, by rw [wF 156 (by omega)]; exact c10, by rw [wF 157 (by omega)]; exact c11⟩, fun e3 => ?_, f2, g, by rw [h23, hRO, h34, hP 45 (by unfold PRr; omega)]; exact c13⟩
    obtain ⟨d1, n2, d2, d3, d4, d5, g2, d6⟩ := c12 e3
    exact ⟨⟨by rw [wF 158 (by omega), g8]; exact d1.1, by rw [fL, fJ]; exact d1.2⟩, n2, by rw [wF 159 (by omega)]; exact d2, by rw [wF 155 (by omega), hP 25 (by unfold PRr; omega)]; exact d3, by rw [hP 23 (by unfold PRr; omega)]; exact d4, by rw [hP 27 (by unfold PRr; omega)]; exact d5, g2, by rw [h23, hRO, h34]; exact d6⟩
theorem RUs_gen (h : RUs m w p j nb Hs Os y a n) (fa : FAs m2 w2 p j nb Hs Os) (ct : CTs m2 w2 p j nb Hs Os) (f : GGm p m m2) (g : GGw p w w2) (h8 : m2.1 (pq p 8) = m.1 (pq p 8)) (h9 : m2.1 (pq p 9) = m.1 (pq p 9)) (h9w : A w2 109 p = A w 109 p) (hL : m2.2.1 (pq p 10) = m.2.1 (pq p 10)) (hJ : w2.2.2.2 111 p = w.2.2.2 111 p) (fm : ∀ k, 1106 ≤ k → k < 1120 → m2.1 k = m.1 k) (fw : ∀ k, k = 133 ∨ (151 ≤ k ∧ k ≤ 165) → w2.1 k = w.1 k) (h1 : F m2 1105 = ((a2 : Nat) : Int)) (h2 : A w2 98 (60 * p + j) = ((n2 : Nat) : Int)) (c : ∃ f, CRs (A m 23) (ROs w) (w.2.2.2 34) f y a2 n2 (Hs j) (Os j)) : RUs m2 w2 p j nb Hs Os y a2 n2 := by
  obtain ⟨-, -, -, ⟨r5, r6⟩, r7, ⟨r8, r9, r10⟩, r11, r12, r13⟩ := h
  have h23 : A m2 23 = A m 23 := by funext i; show (m2.2.2.1 23 i).toInt = _; rw [f.2.1.1]; rfl
  refine ⟨⟨fa, ct⟩, ⟨h1, h2⟩, by rw [h23, ROs_eq g.2.1.1, g.2.1.2.1]; exact c, ⟨?_, by rw [h9w]; exact r6⟩, GD_w r7 h8 hL hJ fm fw f.2.1.1 g.2.1.1 g.2.1.2.1, ⟨?_, ?_, ?_⟩, ?_, ?_, ?_⟩
  · show (m2.1 (pq p 9)).toInt = _
    rw [h9]; exact r5
  · show (m2.1 1108).toInt = _
    rw [fm 1108 (by omega) (by omega)]; exact r8
  · show (m2.1 1109).toInt = _
    rw [fm 1109 (by omega) (by omega)]; exact r9
  · show (w2.1 151).toInt = _
    rw [fw 151 (by omega)]; exact r10
  · show (w2.1 133).toInt = _
    rw [fw 133 (by omega)]; exact r11
  · rw [fm 1106 (by omega) (by omega), fw 165 (by omega)]; exact r12
  · rw [fm 1107 (by omega) (by omega), fw 164 (by omega)]; exact r13
theorem nb_le (fa : FAs m w p j nb Hs Os) : ∀ d r, r + d = j → nb r + (Hs r).length + (Os r).length ≤ nb j + (Hs j).length + (Os j).length := by
  intro d
  induction d with
  | zero => intro r h; have : r = j := by omega
            subst this; exact Nat.le_refl _
  | succ d ih =>
    intro r h
    have e := (fa.2.2.1 r (by omega)).1
    rw [List.length_append] at e
    have := ih (r + 1) (by omega)
    omega
theorem CT_push (fa : FAs m w p j nb Hs Os) (ct : CTs m w p j nb Hs Os) (hn : F m (pq p 28) = ((n : Nat) : Int)) (hb : n < 1600) (e28 : F m2 (pq p 28) = ((n + 1 : Nat) : Int)) (e106 : A w2 106 p = ((n + 1 : Nat) : Int)) (r37 : ∀ i, i < 4 * n → A m2 (pq p 37) i = A m (pq p 37) i)
    (q0 : A m2 (pq p 37) (4 * n) = ((j + 1 : Nat) : Int)) (q1 : A m2 (pq p 37) (4 * n + 1) = ((nb j + (Hs j ++ Os j).length : Nat) : Int)) (q2 : A m2 (pq p 37) (4 * n + 2) = A w2 104 (1600 * p + n)) (q3 : A m2 (pq p 37) (4 * n + 3) = ((t2 : Nat) : Int))
    (old : ∀ K c, 102 ≤ K → K ≤ 105 → c < n → A w2 K (1600 * p + c) = A w K (1600 * p + c)) (z0 : A w2 102 (1600 * p + n) = ((j : Nat) : Int)) (z3 : A w2 105 (1600 * p + n) = ((nb j + (Hs j ++ Os j).length : Nat) : Int)) (z1 : A w2 103 (1600 * p + n) = ((nd : Nat) : Int)) (h25 : A w 25 nd = ((nn : Nat) : Int))
    (e23 : m2.2.2.1 23 = m.2.2.1 23) (pr : ∀ K, PRr K → w2.2.2.1 K = w.2.2.1 K) (h34 : w2.2.2.2 34 = w.2.2.2 34) (cr : ∃ f, CRs (A m 23) (ROs w) (w.2.2.2 34) f none t2 nn (Hs j) (Os j)) : CTs m2 w2 p j nb Hs Os := by
  obtain ⟨n', c1, c2, c3, c4, c5⟩ := ct
  have e : n' = n := by omega
  subst e
  have h23 : A m2 23 = A m 23 := by funext i; show (m2.2.2.1 23 i).toInt = _; rw [e23]; rfl
  have hP : ∀ K i, PRr K → A w2 K i = A w K i := fun K i c => by show (w2.2.2.1 K i).toInt = _; rw [pr K c]; rfl
  refine ⟨n' + 1, e28, e106, by omega, fun c hc => ?_, fun c hc => ?_⟩
  · by_cases cc : c + 1 = n'
    · obtain ⟨r, k, a, nd2, nn2, s1, -, s3, -, s5, s6, -⟩ := c5 c (by omega)
      have := nb_le fa (j - r) r (by omega)
      rw [cc, old 102 c (by omega) (by omega) (by omega), old 105 c (by omega) (by omega) (by omega), z0, z3, s3, s5, List.length_append]
      omega
    · rw [old 102 c (by omega) (by omega) (by omega), old 105 c (by omega) (by omega) (by omega), old 102 (c + 1) (by omega) (by omega) (by omega), old 105 (c + 1) (by omega) (by omega) (by omega)]
      exact c4 c (by omega)
  · by_cases cc : c = n'
    · subst cc
      refine ⟨j, (Os j).length, t2, nd, nn, Nat.le_refl _, q0, z0, ?_, ?_, Nat.le_refl _, q2, q3, z1, by rw [hP 25 nd (by unfold PRr; omega)]; exact h25, ?_⟩
      · rw [q1, List.length_append]; congr 1; omega
      · rw [z3, List.length_append]; congr 1; omega
      · rw [h23, ROs_eq pr, h34, List.take_length]; exact cr
    · obtain ⟨r, k, a, nd2, nn2, s1, s2, s3, s4, s5, s6, s7, s8, s9, s10, s11⟩ := c5 c (by omega)
      exact ⟨r, k, a, nd2, nn2, s1, by rw [r37 _ (by omega)]; exact s2, by rw [old 102 c (by omega) (by omega) (by omega)]; exact s3, by rw [r37 _ (by omega)]; exact s4, by rw [old 105 c (by omega) (by omega) (by omega)]; exact s5, s6, by rw [r37 _ (by omega), old 104 c (by omega) (by omega) (by omega)]; exact s7, by rw [r37 _ (by omega)]; exact s8, by rw [old 103 c (by omega) (by omega) (by omega)]; exact s9, by rw [hP 25 nd2 (by unfold PRr; omega)]; exact s10, by rw [h23, ROs_eq pr, h34]; exact s11⟩
theorem CT_pop (ct : CTs m w p j nb Hs Os) (hn : F m (pq p 28) = ((n + 1 : Nat) : Int)) (e28 : F m2 (pq p 28) = ((n : Nat) : Int)) (e106 : A w2 106 p = ((n : Nat) : Int)) (r37 : m2.2.2.1 (pq p 37) = m.2.2.1 (pq p 37)) (old : ∀ K c, 102 ≤ K → K ≤ 105 → A w2 K (1600 * p + c) = A w K (1600 * p + c)) (e23 : m2.2.2.1 23 = m.2.2.1 23) (pr : ∀ K, PRr K → w2.2.2.1 K = w.2.2.1 K) (h34 : w2.2.2.2 34 = w.2.2.2 34) : CTs m2 w2 p j nb Hs Os := by
  obtain ⟨n', c1, c2, c3, c4, c5⟩ := ct
  have e : n' = n + 1 := by omega
  subst e
  have h23 : A m2 23 = A m 23 := by funext i; show (m2.2.2.1 23 i).toInt = _; rw [e23]; rfl
  have h37 : ∀ i, A m2 (pq p 37) i = A m (pq p 37) i := fun i => by show (m2.2.2.1 (pq p 37) i).toInt = _; rw [r37]; rfl
  have hP : ∀ K i, PRr K → A w2 K i = A w K i := fun K i c => by show (w2.2.2.1 K i).toInt = _; rw [pr K c]; rfl
  refine ⟨n, e28, e106, by omega, fun c hc => ?_, fun c hc => ?_⟩
  · rw [old 102 c (by omega) (by omega), old 105 c (by omega) (by omega), old 102 (c + 1) (by omega) (by omega), old 105 (c + 1) (by omega) (by omega)]
    exact c4 c (by omega)
  · obtain ⟨r, k, a, nd2, nn2, s1, s2, s3, s4, s5, s6, s7, s8, s9, s10, s11⟩ := c5 c (by omega)
    exact ⟨r, k, a, nd2, nn2, s1, by rw [h37]; exact s2, by rw [old 102 c (by omega) (by omega)]; exact s3, by rw [h37]; exact s4, by rw [old 105 c (by omega) (by omega)]; exact s5, s6, by rw [h37, old 104 c (by omega) (by omega)]; exact s7, by rw [h37]; exact s8, by rw [old 103 c (by omega) (by omega)]; exact s9, by rw [hP 25 nd2 (by unfold PRr; omega)]; exact s10, by rw [h23, ROs_eq pr, h34]; exact s11⟩
end
end
section
set_option maxRecDepth 100000
section
variable {α β : Type} {b : Int → Nat → Nat → Prop} {N p k l U B W Y j a n : Nat} {m w m2 w2 m3 w3 : MS} {t x : Int64} {nb : Nat → Nat} {Hs Os : Nat → List Nat} {y : Option (Nat × Nat × Nat)} {Q : MS → α → MS → β → Prop} {K1 : MS → Option (MS × α)} {K2 : MS → Option (MS × β)} {v : Int}
theorem one_19 : fm_M_one N w (I v) (I 19) = bnd (fm_M_goTo N w (I v + 1)) (fun u7 _ => bnd (fm_M_otherRun N u7 (I v) (I 19)) (fun u8 _ => some (u8, ()))) := rfl
theorem oth_19 {z : Int32} : fm_M_otherRun N w z (I 19) = ck (inb (w.1 133) (ln 106)) (lt (((w.1 133) * 1600) + (w.2.2.1 106 (w.1 133).toNatClampNeg)) (fun y15 => ck (inb (w.1 133) (ln 95)) (ck (inb y15 (ln 102)) (lt (upA w 102 (upd (w.2.2.1 102) y15.toNatClampNeg ((w.2.2.1 95 (w.1 133).toNatClampNeg) - 1))) (fun w16 => ck (inb y15 (ln 103)) (lt (upA w16 103 (upd (w16.2.2.1 103) y15.toNatClampNeg z)) (fun w17 => ck (inb (w17.1 133) (ln 92)) (ck (inb y15 (ln 104)) (lt (upA w17 104 (upd (w17.2.2.1 104) y15.toNatClampNeg (w17.2.2.1 92 (w17.1 133).toNatClampNeg))) (fun w18 => ck (inb (w18.1 133) (ln 94)) (ck (inb y15 (ln 105)) (lt (upA w18 105 (upd (w18.2.2.1 105) y15.toNatClampNeg (w18.2.2.1 94 (w18.1 133).toNatClampNeg))) (fun w19 => ck (inb (w19.1 133) (ln 106)) (ck (inb (w19.1 133) (ln 106)) (lt (upA w19 106 (upd (w19.2.2.1 106) (w19.1 133).toNatClampNeg ((w19.2.2.1 106 (w19.1 133).toNatClampNeg) + 1))) (fun w20 => some (w20, ()))))))))))))))))) := rfl
theorem oth_20 {z : Int32} : fm_M_otherRun N w z (I 20) = ck (inb (w.1 133) (ln 106)) (ck (inb (w.1 133) (ln 106)) (lt (upA w 106 (upd (w.2.2.1 106) (w.1 133).toNatClampNeg ((w.2.2.1 106 (w.1 133).toNatClampNeg) - 1))) (fun w14 => some (w14, ())))) := rfl
theorem catn_r {c B2 W2 : Nat} {z : Int} (hp : p < 24) (h3 : F w 133 = ((p : Nat) : Int)) (h95 : A w 95 p = ((j + 1 : Nat) : Int)) (h92 : A w 92 p = ((W2 : Nat) : Int)) (h94 : A w 94 p = ((B2 : Nat) : Int)) (h106 : A w 106 p = ((c : Nat) : Int)) (hc : c < 1600) (hz : RG z) : PK (fun w2 (_ : Unit) => w2 = wa (wa (wa (wa (wa w 102 (1600 * p + c) ((j : Nat) : Int)) 103 (1600 * p + c) z) 104 (1600 * p + c) ((W2 : Nat) : Int)) 105 (1600 * p + c) ((B2 : Nat) : Int)) 106 p ((c + 1 : Nat) : Int)) (fm_M_otherRun N w (I z) (I 19)) := by
  rw [oth_19]
  have ix : (I ((p : Nat) : Int) * 1600 + I ((c : Nat) : Int)).toNatClampNeg = 1600 * p + c := by
    rw [show (1600 : Int32) = I 1600 from rfl, I_mul, I_add]
    exact tnI (n := 1600 * p + c) (by omega) (by omega)
  rw [I_F' h3, tnI (n := p) rfl (by omega), I_A' h106, I_A' h95, show I ((j + 1 : Nat) : Int) - 1 = I ((j : Nat) : Int) by rw [lit1q, I_sub]; congr 1; omega]
  refine pk_ck (fun _ => pk_ltq (pk_ck (fun _ => pk_ck (fun _ => pk_ltq (pk_ck (fun _ => pk_ltq ?_))))))
  rw [ix, wa_e, wa_e]
  have g3 : F (wa (wa w 102 (1600 * p + c) ((j : Nat) : Int)) 103 (1600 * p + c) z) 133 = ((p : Nat) : Int) := h3
  have g92 : A (wa (wa w 102 (1600 * p + c) ((j : Nat) : Int)) 103 (1600 * p + c) z) 92 p = ((W2 : Nat) : Int) := by
    rw [wa_rne (by omega), wa_rne (by omega)]; exact h92
  rw [I_F' g3, tnI (n := p) rfl (by omega), I_A' g92]
  refine pk_ck (fun _ => pk_ck (fun _ => pk_ltq ?_))
  rw [wa_e]
  have g3' : F (wa (wa (wa w 102 (1600 * p + c) ((j : Nat) : Int)) 103 (1600 * p + c) z) 104 (1600 * p + c) ((W2 : Nat) : Int)) 133 = ((p : Nat) : Int) := h3
  have g94 : A (wa (wa (wa w 102 (1600 * p + c) ((j : Nat) : Int)) 103 (1600 * p + c) z) 104 (1600 * p + c) ((W2 : Nat) : Int)) 94 p = ((B2 : Nat) : Int) := by
    have hW := A_r w 92 p
    rw [h92] at hW
    rw [wa_rne (by omega), wa_rne (by omega), wa_rne (by omega)]; exact h94
  rw [I_F' g3', tnI (n := p) rfl (by omega), I_A' g94]
  refine pk_ck (fun _ => pk_ck (fun _ => pk_ltq ?_))
  rw [wa_e]
  have g3'' : F (wa (wa (wa (wa w 102 (1600 * p + c) ((j : Nat) : Int)) 103 (1600 * p + c) z) 104 (1600 * p + c) ((W2 : Nat) : Int)) 105 (1600 * p + c) ((B2 : Nat) : Int)) 133 = ((p : Nat) : Int) := h3
  have g106 : A (wa (wa (wa (wa w 102 (1600 * p + c) ((j : Nat) : Int)) 103 (1600 * p + c) z) 104 (1600 * p + c) ((W2 : Nat) : Int)) 105 (1600 * p + c) ((B2 : Nat) : Int)) 106 p = ((c : Nat) : Int) := by
    have hW := A_r w 92 p
    rw [h92] at hW
    have hB := A_r w 94 p
    rw [h94] at hB
    rw [wa_rne (by omega), wa_rne (by omega), wa_rne (by omega), wa_rne (by omega)]; exact h106
  rw [I_F' g3'', tnI (n := p) rfl (by omega), I_A' g106, show I ((c : Nat) : Int) + 1 = I ((c + 1 : Nat) : Int) from addN]
  refine pk_ck (fun _ => pk_ck (fun _ => pk_ltq ?_))
  rw [wa_e]
  exact pk_some rfl
theorem SC_ow (s : SCs p m w) (h1 : ∀ k, k = 11 ∨ k = 12 ∨ k = 13 ∨ k = 15 ∨ k = 29 → m2.1 (pq p k) = m.1 (pq p k)) (h2 : m2.2.2.1 (pq p 14) = m.2.2.1 (pq p 14)) (h3 : ∀ K, 112 ≤ K → K ≤ 117 → w2.2.2.1 K = w.2.2.1 K) : SCs p m2 w2 := by
  obtain ⟨s1, s2, s3, s4, s5, s6⟩ := s
  refine ⟨?_, ?_, ?_, ?_, ?_, fun i hi => ?_⟩
  · rw [h1 12 (by omega), h3 113 (by omega) (by omega)]; exact s1
  · rw [h1 13 (by omega), h3 114 (by omega) (by omega)]; exact s2
  · rw [h1 11 (by omega), h3 112 (by omega) (by omega)]; exact s3
  · rw [h1 15 (by omega), h3 117 (by omega) (by omega)]; exact s4
  · rw [h1 29 (by omega), h3 115 (by omega) (by omega)]; exact s5
  · have e : F m2 (pq p 15) = F m (pq p 15) := congrArg Int32.toInt (h1 15 (by omega))
    rw [e] at hi
    rw [h2, h3 116 (by omega) (by omega)]
    exact s6 i hi
theorem op_catch {t2 nn c : Nat} (hp : p < 24) (pl : PLs b p m w U B W Y) (ru : RUs m w p j nb Hs Os none a n) (lb : LNB m p) (hc : F m (pq p 28) = ((c : Nat) : Int)) (hcb : c ≤ 1500) (ha : a + 1 < 24000) (hn : n < 100000) (ht : A m 23 (a + 1) = ((t2 : Nat) : Int)) (hd : A w 25 n = ((nn : Nat) : Int)) (crc : ∃ f, CRs (A m 23) (ROs w) (w.2.2.2 34) f none t2 nn (Hs j) (Os j)) (cr : ∃ f, CRs (A m 23) (ROs w) (w.2.2.2 34) f none (a + 2) (n + 1) (Hs j) (Os j))
    (kk : ∀ m3 w3, PLs b p m3 w3 U B W Y → RUs m3 w3 p j nb Hs Os none (a + 2) (n + 1) → GGm p m m3 → GGw p w w3 → (SCs p m w → SCs p m3 w3) → PP Q (K1 m3) (K2 w3)) : PP Q (bnd (hm_Ma_flow N m p (I 29)) (fun u _ => K1 u)) (bnd (fm_M_one N w (I ((n : Nat) : Int)) (I 19)) (fun u _ => K2 u)) := by
  obtain ⟨⟨fa, ct⟩, ⟨r2, r3⟩, -, ⟨r5, r6⟩, r7, ⟨r8, r9, r10⟩, r11, r12, r13⟩ := id ru
  have hj : j < 60 := fa.1.2.2
  have t24 := A_r m 23 (a + 1)
  rw [ht] at t24
  have h106 : A w 106 p = ((c : Nat) : Int) := by
    obtain ⟨n', c1, c2, -⟩ := ct
    rw [c2, ← c1]; exact hc
  rw [flo29, I_F' r2, show I ((a : Nat) : Int) + 1 = I ((a + 1 : Nat) : Int) from addN, Co_e (k := a + 1) rfl ha, bnd_so, ht, bb_e]
  refine l_bnd (pk_mo (pk_ok (catchTo_ok (N := N) (z := I ((t2 : Nat) : Int)) lb hc hcb)) (fun m2 _ h => ?_))
  obtain ⟨f, j4, e28, -, r37, q0, q1, q2, q3⟩ := h
  have e5 : F m2 1105 = ((a : Nat) : Int) := by rw [f.Fg (by omega) (by simp)]; exact r2
  rw [I_F' e5, show I ((a : Nat) : Int) + 2 = I ((a + 2 : Nat) : Int) from addN, wi_e]
  show PP Q (K1 (wi m2 1105 ((a + 2 : Nat) : Int))) _
  rw [one_19, show I ((n : Nat) : Int) + 1 = I ((n + 1 : Nat) : Int) from addN, bb_e]
  refine r_bnd (pk_mo (goto_r (N := N) (n := ((n + 1 : Nat) : Int)) hp r11 fa.1.2.1 hj) (fun w2 _ h => ?_))
  subst h
  rw [bb_e]
  have aw : ∀ K i, K ≠ 98 → A (wa w 98 (60 * p + j) ((n + 1 : Nat) : Int)) K i = A w K i := fun K i h => by rw [wa_rne h]
  refine r_bnd (pk_mo (catn_r (N := N) (w := wa w 98 (60 * p + j) ((n + 1 : Nat) : Int)) (z := ((n : Nat) : Int)) hp r11 ((aw 95 p (by omega)).trans fa.1.2.1) ((aw 92 p (by omega)).trans pl.2.2.1.2.1) ((aw 94 p (by omega)).trans pl.2.1.2.1) ((aw 106 p (by omega)).trans h106) (by omega) ⟨by omega, by omega⟩) (fun w3 _ h => ?_))
  rw [bnd_so]
  have hW := A_r w 92 p
  rw [pl.2.2.1.2.1] at hW
  have hB := A_r w 94 p
  rw [pl.2.1.2.1] at hB
  have g3 : GGw p w w3 := by
    rw [h]
    refine GGw.tr (GGw.tr (GGw.tr (GGw.tr (GGw.tr (GGw_fg FGw.goto hj) (GGw_own ?_)) (GGw_own ?_)) (GGw_own ?_)) (GGw_own ?_)) (GGw_own ?_)
    · exact Or.inr (Or.inr (Or.inl ⟨by omega, by omega, by omega⟩))
    · exact Or.inr (Or.inr (Or.inl ⟨by omega, by omega, by omega⟩))
    · exact Or.inr (Or.inr (Or.inl ⟨by omega, by omega, by omega⟩))
    · exact Or.inr (Or.inr (Or.inl ⟨by omega, by omega, by omega⟩))
    · exact Or.inl ⟨by omega, rfl⟩
  have fr : FR [] [] [98, 102, 103, 104, 105, 106] [] w w3 := by
    rw [h]
    exact FR.wa (FR.wa (FR.wa (FR.wa (FR.wa (FR.wa FR.rf (by simp)) (by simp)) (by simp)) (by simp)) (by simp)) (by simp)
  have aA : ∀ K i, A w3 K i = if K = 106 then (if i = p then ((c + 1 : Nat) : Int) else A w 106 i) else if K = 105 then (if i = 1600 * p + c then ((B : Nat) : Int) else A w 105 i) else if K = 104 then (if i = 1600 * p + c then ((W : Nat) : Int) else A w 104 i) else if K = 103 then (if i = 1600 * p + c then ((n : Nat) : Int) else A w 103 i) else if K = 102 then (if i = 1600 * p + c then ((j : Nat) : Int) else A w 102 i) else if K = 98 then (if i = 60 * p + j then ((n + 1 : Nat) : Int) else A w 98 i) else A w K i := fun K i => by
    rw [h, A_wa (by omega) (by omega), A_wa hB.1 hB.2, A_wa hW.1 hW.2, A_wa (by omega) (by omega), A_wa (by omega) (by omega), A_wa (by omega) (by omega)]
    by_cases k1 : K = 106
    · subst k1; simp
    · by_cases k2 : K = 105
      · subst k2; simp
      · by_cases k3 : K = 104
        · subst k3; simp
        · by_cases k4 : K = 103
          · subst k4; simp
          · by_cases k5 : K = 102
            · subst k5; simp
            · by_cases k6 : K = 98
              · subst k6; simp
              · simp [k1, k2, k3, k4, k5, k6]
  have f3 : GGm p m (wi m2 1105 ((a + 2 : Nat) : Int)) := GGm.tr (GGm_fc f (by simp) (by simp) (by simp)) (GGm_reg (by omega))
  have i1 : ∀ k, k < 100 → k ≠ 28 → k ≠ 47 → (wi m2 1105 ((a + 2 : Nat) : Int)).1 (pq p k) = m.1 (pq p k) := fun k h1 h2 h3 => (if_neg (fun c => pq_n (by omega) c.symm)).trans (f.2.2.2.2.1 p k h1 (fun _ => by simp; omega))
  have a1 : ∀ k, k < 100 → k ≠ 37 → (wi m2 1105 ((a + 2 : Nat) : Int)).2.2.1 (pq p k) = m.2.2.1 (pq p k) := fun k h1 h2 => f.2.2.2.2.2.2.1 p k h1 (fun _ => by simp; omega)
  have eB : B = nb j + (Hs j ++ Os j).length := by
    have := fa.2.2.2
    rw [pl.2.1.1] at this
    omega
  have fm : ∀ k, 1106 ≤ k → k < 1120 → (wi m2 1105 ((a + 2 : Nat) : Int)).1 k = m.1 k := fun k h1 h2 => (if_neg (by omega)).trans (f.1 k (by omega) (by simp))
  refine kk _ _ (PLs_cg pl (fun k hk => i1 k (by simp at hk; omega) (by simp at hk; omega) (by simp at hk; omega)) (fun i _ => by show m2.2.2.2 _ i = _; rw [j4]) (fun i _ => by show m2.2.2.2 _ i = _; rw [j4]) (fun i _ => by show m2.2.2.2 _ i = _; rw [j4]) (fun i _ => by show m2.2.2.2 _ i = _; rw [j4]) (fun k hk => by rw [fr.2.2.1 k (by simp at hk ⊢; omega)]) (fun i _ => by rw [fr.2.2.2 88 (by simp)]) (fun i _ => by rw [fr.2.2.2 93 (by simp)]) (fun i _ => by rw [fr.2.2.2 91 (by simp)]) (fun i _ => by rw [fr.2.2.2 107 (by simp)])) (RUs_gen ru (FA_w fa (fun k hk => i1 k (by omega) (by omega) (by omega)) (fun k hk => a1 k (by omega) (by omega)) f3.2.1.1 (by rw [fr.2.2.1 95 (by simp)]) (fun K r c1 c2 c3 c4 => ?_) g3.2.1.1 g3.2.1.2.1) (CT_push (n := c) (t2 := t2) (nd := n) (nn := nn) fa ct hc (by omega) ?_ (by rw [aA]; simp) (fun i hi => r37 i hi) ?_ ?_ ?_ ?_ (fun K c2 h1 h2 h3 => ?_) (by rw [aA]; simp) (by rw [aA, eB]; simp) (by rw [aA]; simp) hd f3.2.1.1 g3.2.1.1 g3.2.1.2.1 crc) f3 g3 (i1 8 (by omega) (by omega) (by omega)) (i1 9 (by omega) (by omega) (by omega)) (by rw [aA]; simp) (f.2.2.2.2.2.1 p 10 (by omega) (fun _ => by simp)) (by rw [fr.2.2.2 111 (by simp)]) fm (fun k hk => fr.1 k (by simp)) (by rw [wi_sm (by omega) (by omega)]) (by rw [aA]; simp) cr) f3 g3 (fun s => SC_ow s (fun k hk => i1 k (by omega) (by omega) (by omega)) (a1 14 (by omega) (by omega)) (fun K h1 h2 => fr.2.2.1 K (by simp; omega)))
  · by_cases c5 : K = 98
    · subst c5
      have := c4 rfl
      refine Int32.toInt_inj.mp ?_
      show A w3 98 (60 * p + r) = A w 98 (60 * p + r)
      rw [aA]
      simp
      omega
    · rw [fr.2.2.1 K (by simp; omega)]
  · show F (wi m2 1105 ((a + 2 : Nat) : Int)) (pq p 28) = _
    rw [wi_ne (fun c => pq_n (by omega) c.symm)]
    exact e28
  · show A m2 (pq p 37) (4 * c) = _
    rw [q0]; exact fa.1.1
  · show A m2 (pq p 37) (4 * c + 1) = _
    rw [q1]; exact fa.2.2.2
  · show A m2 (pq p 37) (4 * c + 2) = _
    rw [q2, pl.2.2.1.1, aA]; simp
  · show A m2 (pq p 37) (4 * c + 3) = _
    rw [q3]; exact I_ti t24.1 t24.2
  · rw [aA]
    have e1 : K ≠ 106 := by omega
    have e2 : K ≠ 98 := by omega
    have e3 : 1600 * p + c2 ≠ 1600 * p + c := by omega
    by_cases k2 : K = 105
    · subst k2; simp [show c2 ≠ c by omega]
    · by_cases k3 : K = 104
      · subst k3; simp [show c2 ≠ c by omega]
      · by_cases k4 : K = 103
        · subst k4; simp [show c2 ≠ c by omega]
        · have k5 : K = 102 := by omega
          subst k5; simp [show c2 ≠ c by omega]
theorem op_uncatch {c : Nat} (hp : p < 24) (pl : PLs b p m w U B W Y) (ru : RUs m w p j nb Hs Os y a n) (hc : F m (pq p 28) = ((c + 1 : Nat) : Int)) (hcb : c ≤ 1600) (ha : a + 1 < 24000) (hn : n < 100000) (cr : ∃ f, CRs (A m 23) (ROs w) (w.2.2.2 34) f y (a + 1) (n + 1) (Hs j) (Os j))
    (kk : ∀ m3 w3, PLs b p m3 w3 U B W Y → RUs m3 w3 p j nb Hs Os y (a + 1) (n + 1) → GGm p m m3 → GGw p w w3 → (SCs p m w → SCs p m3 w3) → PP Q (K1 m3) (K2 w3)) : PP Q (bnd (hm_Ma_flow N m p (I 30)) (fun u _ => K1 u)) (bnd (fm_M_one N w (I ((n : Nat) : Int)) (I 20)) (fun u _ => K2 u)) := by
  obtain ⟨⟨fa, ct⟩, ⟨r2, r3⟩, -, ⟨r5, r6⟩, r7, ⟨r8, r9, r10⟩, r11, r12, r13⟩ := id ru
  have hj : j < 60 := fa.1.2.2
  have h106 : A w 106 p = ((c + 1 : Nat) : Int) := by
    obtain ⟨n', c1, c2, -⟩ := ct
    rw [c2, ← c1]; exact hc
  have cm1 : I ((c + 1 : Nat) : Int) - 1 = I ((c : Nat) : Int) := by rw [lit1q, I_sub]; congr 1; omega
  rw [flo30, I_F' r2, show I ((a : Nat) : Int) + 1 = I ((a + 1 : Nat) : Int) from addN, Co_e (k := a + 1) rfl ha, bnd_so, I_F' hc, cm1, wi_e, lt_e]
  have e5 : F (wi m (pq p 28) ((c : Nat) : Int)) 1105 = ((a : Nat) : Int) := by rw [wi_ne (pq_n (by omega))]; exact r2
  rw [I_F' e5, show I ((a : Nat) : Int) + 1 = I ((a + 1 : Nat) : Int) from addN, wi_e]
  show PP Q (K1 (wi (wi m (pq p 28) ((c : Nat) : Int)) 1105 ((a + 1 : Nat) : Int))) _
  rw [one_20, show I ((n : Nat) : Int) + 1 = I ((n + 1 : Nat) : Int) from addN, bb_e]
  refine r_bnd (pk_mo (goto_r (N := N) (n := ((n + 1 : Nat) : Int)) hp r11 fa.1.2.1 hj) (fun w2 _ h => ?_))
  subst h
  have g3 : F (wa w 98 (60 * p + j) ((n + 1 : Nat) : Int)) 133 = ((p : Nat) : Int) := r11
  have g106 : A (wa w 98 (60 * p + j) ((n + 1 : Nat) : Int)) 106 p = ((c + 1 : Nat) : Int) := by rw [wa_rne (by omega)]; exact h106
  rw [oth_20, bb_e, I_F' g3, tnI (n := p) rfl (by omega), I_A' g106, cm1]
  refine rb_ck (fun _ => rb_ck (fun _ => ?_))
  rw [wa_e]
  show PP Q _ (K2 (wa (wa w 98 (60 * p + j) ((n + 1 : Nat) : Int)) 106 p ((c : Nat) : Int)))
  have gg : GGw p w (wa (wa w 98 (60 * p + j) ((n + 1 : Nat) : Int)) 106 p ((c : Nat) : Int)) := GGw.tr (GGw_fg FGw.goto hj) (GGw_own (Or.inl ⟨by omega, rfl⟩))
  have fr : FR [] [] [98, 106] [] w (wa (wa w 98 (60 * p + j) ((n + 1 : Nat) : Int)) 106 p ((c : Nat) : Int)) := FR.wa (FR.wa FR.rf (by simp)) (by simp)
  have f3 : GGm p m (wi (wi m (pq p 28) ((c : Nat) : Int)) 1105 ((a + 1 : Nat) : Int)) := GGm.tr (GGm_own (by omega)) (GGm_reg (by omega))
  have i1 : ∀ k, k < 100 → k ≠ 28 → (wi (wi m (pq p 28) ((c : Nat) : Int)) 1105 ((a + 1 : Nat) : Int)).1 (pq p k) = m.1 (pq p k) := fun k h1 h2 => (if_neg (fun c => pq_n (by omega) c.symm)).trans (if_neg (pq_inj h2))
  have fm : ∀ k, 1106 ≤ k → k < 1120 → (wi (wi m (pq p 28) ((c : Nat) : Int)) 1105 ((a + 1 : Nat) : Int)).1 k = m.1 k := fun k h1 h2 => (if_neg (by omega)).trans (if_neg (pq_n (by omega)))
  have h98 : A (wa (wa w 98 (60 * p + j) ((n + 1 : Nat) : Int)) 106 p ((c : Nat) : Int)) 98 (60 * p + j) = ((n + 1 : Nat) : Int) := by rw [wa_rne (by omega), wa_sm (by omega) (by omega)]
  refine kk _ _ (PLs_cg pl (fun k hk => i1 k (by simp at hk; omega) (by simp at hk; omega)) (fun _ _ => rfl) (fun _ _ => rfl) (fun _ _ => rfl) (fun _ _ => rfl) (fun k hk => by rw [fr.2.2.1 k (by simp at hk ⊢; omega)]) (fun _ _ => rfl) (fun _ _ => rfl) (fun _ _ => rfl) (fun _ _ => rfl)) (RUs_gen ru (FA_w fa (fun k hk => i1 k (by omega) (by omega)) (fun k hk => rfl) rfl (by rw [fr.2.2.1 95 (by simp)]) (fun K r c1 c2 c3 c4 => ?_) gg.2.1.1 gg.2.1.2.1) (CT_pop (n := c) ct hc ?_ (by rw [wa_sm (by omega) (by omega)]) rfl (fun K c2 h1 h2 => FR.A fr (by simp; omega)) rfl gg.2.1.1 gg.2.1.2.1) f3 gg (i1 8 (by omega) (by omega)) (i1 9 (by omega) (by omega)) (FR.A fr (by simp)) rfl rfl fm (fun k hk => rfl) (by rw [wi_sm (by omega) (by omega)]) h98 cr) f3 gg (fun s => SC_ow s (fun k hk => i1 k (by omega) (by omega)) rfl (fun K h1 h2 => fr.2.2.1 K (by simp; omega)))
  · by_cases c5 : K = 98
    · subst c5
      have := c4 rfl
      exact (wa_at (by omega)).trans (wa_at (by omega))
    · rw [fr.2.2.1 K (by simp; omega)]
  · rw [wi_ne (fun c => pq_n (by omega) c.symm), wi_sm (by omega) (by omega)]
end
end
