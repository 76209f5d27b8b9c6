/-! watches as lists, both sides -/
set_option maxRecDepth 100000
/-- who watches whom, by which REFERENCE: there, here -/
def WAm (m : MS) (i : Nat) (x : Int × Int × Int) : Prop := A m 49 i = x.1 ∧ A m 50 i = x.2.1 ∧ A m 51 i = x.2.2
def WAw (w : MS) (i : Nat) (x : Int × Int × Int) : Prop := A w 123 i = x.1 ∧ A w 124 i = x.2.1 ∧ A w 122 i = x.2.2
def WSm (m : MS) (L : List (Int × Int × Int)) : Prop := F m 950 = ((L.length : Nat) : Int) ∧ L.length ≤ 200 ∧ ∀ i x, L[i]? = some x → WAm m i x
def WSw (w : MS) (L : List (Int × Int × Int)) : Prop := F w 125 = ((L.length : Nat) : Int) ∧ L.length ≤ 200 ∧ ∀ i x, L[i]? = some x → WAw w i x
/-- only the watches have changed -/
def WFm (m m2 : MS) : Prop := FR [950] [] [49, 50, 51] [] m m2
def WFw (w w2 : MS) : Prop := FR [125] [] [122, 123, 124] [] w w2
section
variable {N : Nat} {m w w0 m2 w2 : MS} {L L1 L2 : List (Int × Int × Int)} {y : Int × Int × Int}
theorem WAw_r {i : Nat} (h : WAw w i y) : RG y.1 ∧ RG y.2.1 ∧ RG y.2.2 := ⟨by rw [← h.1]; exact A_r _ _ _, by rw [← h.2.1]; exact A_r _ _ _, by rw [← h.2.2]; exact A_r _ _ _⟩
theorem WAm_r {i : Nat} (h : WAm m i y) : RG y.1 ∧ RG y.2.1 ∧ RG y.2.2 := ⟨by rw [← h.1]; exact A_r _ _ _, by rw [← h.2.1]; exact A_r _ _ _, by rw [← h.2.2]; exact A_r _ _ _⟩
/-- one watch less, here -/
theorem rmw_lp (hl : L1.length + L2.length < 200) : ∀ (M c : Nat) (w : MS), c ≤ L2.length → WFw w0 w → F w 125 = ((L1.length + L2.length : Nat) : Int) → (∀ k x, k < L1.length + c → (L1 ++ L2)[k]? = some x → WAw w k x) → (∀ k x, c ≤ k → L2[k]? = some x → WAw w (L1.length + 1 + k) x) → PK (fun w2 (_ : Unit) => WSw w2 (L1 ++ L2) ∧ WFw w0 w2) (gg_M_removeWatch N M w (I ((L1.length + c : Nat) : Int))) := by
  intro M
  induction M with
  | zero => intro c w _ _ _ _ _; exact pk_none
  | succ M ih =>
    intro c w hc f h1 h2 h3
    show PK _ (fb_M_removeWatch_12 N (gg_M_removeWatch N M) w (I ((L1.length + c : Nat) : Int)))
    unfold fb_M_removeWatch_12
    rw [I_F' h1]
    refine p_le ⟨by omega, by omega⟩ ⟨by omega, by omega⟩ (fun z => ?_) (fun z => ?_)
    · refine pk_some ⟨⟨by rw [h1, List.length_append], by rw [List.length_append]; omega, fun i x hx => ?_⟩, f⟩
      refine h2 i x ?_ hx
      apply Classical.byContradiction
      intro q
      rw [List.getElem?_eq_none (by rw [List.length_append]; omega)] at hx
      cases hx
    · have cl : c < L2.length := by omega
      have g : L2[c]? = some L2[c] := List.getElem?_eq_getElem cl
      have wa1 := h3 c _ (Nat.le_refl _) g
      generalize L2[c] = y at g wa1
      obtain ⟨r1, r2, r3⟩ := WAw_r wa1
      obtain ⟨a1, a2, a3⟩ := wa1
      have ei : I ((L1.length + c : Nat) : Int) + 1 = I ((L1.length + 1 + c : Nat) : Int) := by rw [lit1, I_add]; congr 1; omega
      rw [ei, tnI (n := L1.length + c) rfl (by omega), tnI (n := L1.length + 1 + c) rfl (by omega)]
      refine pk_ck (fun _ => pk_ck (fun _ => pk_lt ?_))
      rw [I_A' a3, wa_e]
      refine pk_ck (fun _ => pk_ck (fun _ => pk_lt ?_))
      rw [show (wa w 122 (L1.length + c) y.2.2).2.2.1 123 (L1.length + 1 + c) = I y.1 from I_A' a1, wa_e]
      refine pk_ck (fun _ => pk_ck (fun _ => pk_lt ?_))
      rw [show (wa (wa w 122 (L1.length + c) y.2.2) 123 (L1.length + c) y.1).2.2.1 124 (L1.length + 1 + c) = I y.2.1 from I_A' a2, wa_e]
      generalize hz : wa (wa (wa w 122 (L1.length + c) y.2.2) 123 (L1.length + c) y.1) 124 (L1.length + c) y.2.1 = v
      have e1 : ∀ k, A v 123 k = if k = L1.length + c then y.1 else A w 123 k := fun k => by rw [← hz, wa_rne (by omega), wa_ro r1.1 r1.2, wa_rne (by omega)]
      have e2 : ∀ k, A v 124 k = if k = L1.length + c then y.2.1 else A w 124 k := fun k => by rw [← hz, wa_ro r2.1 r2.2, wa_rne (by omega), wa_rne (by omega)]
      have e3 : ∀ k, A v 122 k = if k = L1.length + c then y.2.2 else A w 122 k := fun k => by rw [← hz, wa_rne (by omega), wa_rne (by omega), wa_ro r3.1 r3.2]
      have ke : ∀ k x, k ≠ L1.length + c → WAw w k x → WAw v k x := fun k x hk h => ⟨by rw [e1, if_neg hk]; exact h.1, by rw [e2, if_neg hk]; exact h.2.1, by rw [e3, if_neg hk]; exact h.2.2⟩
      have := ih (c + 1) v (by omega) (by rw [← hz]; exact FR.wa (FR.wa (FR.wa f (by simp)) (by simp)) (by simp)) (by rw [← hz]; exact h1) (fun k x hk hx => ?_) (fun k x hk hx => ke _ _ (by omega) (h3 k x (by omega) hx))
      · rw [show L1.length + (c + 1) = L1.length + 1 + c by omega] at this
        exact this
      · by_cases ck : k = L1.length + c
        · subst ck
          rw [List.getElem?_append_right (by omega), show L1.length + c - L1.length = c by omega, g] at hx
          injection hx with hx
          subst hx
          exact ⟨by rw [e1, if_pos rfl], by rw [e2, if_pos rfl], by rw [e3, if_pos rfl]⟩
        · exact ke _ _ ck (h2 k x (by omega) hx)
theorem rmw_w (s : WSw w (L1 ++ y :: L2)) : PK (fun w2 (_ : Unit) => WSw w2 (L1 ++ L2) ∧ WFw w w2) (fm_M_removeWatch N w (I ((L1.length : Nat) : Int))) := by
  obtain ⟨s1, s2, s3⟩ := s
  have hl : (L1 ++ y :: L2).length = L1.length + (L2.length + 1) := by rw [List.length_append]; rfl
  rw [hl] at s1 s2
  unfold fm_M_removeWatch fb_M_removeWatch_0
  refine pk_lt ?_
  rw [I_F' s1, show I ((L1.length + (L2.length + 1) : Nat) : Int) - 1 = I ((L1.length + L2.length : Nat) : Int) by rw [lit1, I_sub]; congr 1; omega, wi_e]
  have := rmw_lp (N := N) (w0 := w) (L1 := L1) (L2 := L2) (by omega) N 0 (wi w 125 ((L1.length + L2.length : Nat) : Int)) (by omega) (FR.wi FR.rf (by simp)) (by rw [F_wi (by omega) (by omega), if_pos rfl]) (fun k x hk hx => s3 k x (by rw [List.getElem?_append_left (by omega)]; rw [List.getElem?_append_left (by omega)] at hx; exact hx)) (fun k x _ hx => s3 (L1.length + 1 + k) x (by rw [List.getElem?_append_right (by omega), show L1.length + 1 + k - L1.length = k + 1 by omega, List.getElem?_cons_succ]; exact hx))
  exact this
/-- all of one watcher go, here -/
theorem own_w {r : Nat} (hr : r < 100) : ∀ (M : Nat) (L1 L2 : List (Int × Int × Int)) (w : MS), WFw w0 w → WSw w (L1 ++ L2) → PK (fun w2 (_ : Unit) => WSw w2 (L1 ++ L2.filter (fun y => decide (y.1 ≠ ((r : Nat) : Int)))) ∧ WFw w0 w2) ((gg_M_end N M).2.2.2 w (I ((r : Nat) : Int)) (I ((L1.length : Nat) : Int))) := by
  intro M
  induction M with
  | zero => intro L1 L2 w _ _; exact pk_none
  | succ M ih =>
    intro L1 L2 w f s
    show PK _ (fb_M_end_250 N (gg_M_end N M) w (I ((r : Nat) : Int)) (I ((L1.length : Nat) : Int)))
    unfold fb_M_end_250
    have s0 := s
    obtain ⟨s1, s2, s3⟩ := s
    rw [List.length_append] at s1 s2
    rw [I_F' s1]
    refine p_le ⟨by omega, by omega⟩ ⟨by omega, by omega⟩ (fun z => ?_) (fun z => ?_)
    · have e2 : L2 = [] := List.length_eq_zero_iff.mp (by omega)
      subst e2
      exact pk_some ⟨s0, f⟩
    · cases L2 with
      | nil => exact absurd (by simp) z
      | cons y L3 =>
        have wy := s3 L1.length y mid_get
        obtain ⟨r1, -, -⟩ := WAw_r wy
        refine pk_ck (fun _ => ?_)
        rw [tnI (n := L1.length) rfl (by omega), I_A' wy.1]
        refine p_eq r1 ⟨by omega, by omega⟩ (fun c => ?_) (fun c => ?_)
        · refine pk_bnd (pk_mo (rmw_w (N := N) s0) (fun w2 _ h => ?_))
          have := ih L1 L3 w2 (FR.tr f h.2) h.1
          rw [List.filter_cons, if_neg (by simp [c])]
          exact this
        · have := ih (L1 ++ [y]) L3 w f (by rw [List.append_assoc]; exact s0)
          rw [show (L1 ++ [y]).length = L1.length + 1 by simp, List.append_assoc] at this
          rw [List.filter_cons, if_pos (by simp [c]), show I ((L1.length : Nat) : Int) + 1 = I ((L1.length + 1 : Nat) : Int) from addN]
          exact this
/-- a watch stays, there -/
theorem keepW {i j : Nat} (h : WAm m i y) (hi : i < 200) (hj : j ≤ i) : PK (fun m2 (_ : Unit) => WFm m m2 ∧ m2.1 950 = m.1 950 ∧ WAm m2 j y ∧ ∀ k x, k ≠ j → WAm m k x → WAm m2 k x) (hm_Wl_keepWatch N m (I ((i : Nat) : Int)) (I ((j : Nat) : Int))) := by
  obtain ⟨r1, r2, r3⟩ := WAm_r h
  obtain ⟨a1, a2, a3⟩ := h
  unfold hm_Wl_keepWatch hb_Wl_keepWatch_0
  rw [tnI (n := i) rfl (by omega), tnI (n := j) rfl (by omega)]
  refine pk_ck (fun _ => pk_ck (fun _ => pk_lt ?_))
  rw [I_A' a1, wa_e]
  refine pk_ck (fun _ => pk_ck (fun _ => pk_lt ?_))
  rw [show (wa m 49 j y.1).2.2.1 50 i = I y.2.1 from I_A' a2, wa_e]
  refine pk_ck (fun _ => pk_ck (fun _ => pk_lt ?_))
  rw [show (wa (wa m 49 j y.1) 50 j y.2.1).2.2.1 51 i = I y.2.2 from I_A' a3, wa_e]
  generalize hz : wa (wa (wa m 49 j y.1) 50 j y.2.1) 51 j y.2.2 = v
  have e1 : ∀ k, A v 49 k = if k = j then y.1 else A m 49 k := fun k => by rw [← hz, wa_rne (by omega), wa_rne (by omega), wa_ro r1.1 r1.2]
  have e2 : ∀ k, A v 50 k = if k = j then y.2.1 else A m 50 k := fun k => by rw [← hz, wa_rne (by omega), wa_ro r2.1 r2.2, wa_rne (by omega)]
  have e3 : ∀ k, A v 51 k = if k = j then y.2.2 else A m 51 k := fun k => by rw [← hz, wa_ro r3.1 r3.2, wa_rne (by omega), wa_rne (by omega)]
  exact pk_some ⟨by rw [← hz]; exact FR.wa (FR.wa (FR.wa FR.rf (by simp)) (by simp)) (by simp), by rw [← hz]; rfl, ⟨by rw [e1, if_pos rfl], by rw [e2, if_pos rfl], by rw [e3, if_pos rfl]⟩, fun k x hk hx => ⟨by rw [e1, if_neg hk]; exact hx.1, by rw [e2, if_neg hk]; exact hx.2.1, by rw [e3, if_neg hk]; exact hx.2.2⟩⟩
end
/-- a good watch -/
def GWs (PR : Nat) (y : Int × Int × Int) : Prop := (∃ a : Nat, y.1 = ((a : Nat) : Int) ∧ a < PR) ∧ (0 ≤ y.2.1 ∧ y.2.1 < ((PR : Nat) : Int)) ∧ RG y.2.2
/-- watchers are told, both sides; J: what holds all along, apart from the watches -/
theorem tell_lp {N r PR o : Nat} {wr : Int} {x : Int64} {J : MS → MS → Prop} (hr : r < 100)
    (H1 : ∀ m w a c, J m w → a < PR → RG c → PP (fun m2 (_ : Unit) w2 (_ : Unit) => J m2 w2 ∧ ((∀ k, k = 49 ∨ k = 50 ∨ k = 51 → m2.2.2.1 k = m.2.2.1 k) ∧ m2.1 950 = m.1 950) ∧ (∀ k, k = 122 ∨ k = 123 ∨ k = 124 → w2.2.2.1 k = w.2.2.1 k) ∧ w2.1 125 = w.1 125) (hm_Wl_post N m a 5 (Int32.ofNat r) (I c) (m.2.1 (pq r 16)) (rf (m.1 (pq r 17)))) (fm_M_message N w (I ((a : Nat) : Int)) 1 (I c) (I ((r : Nat) : Int)) (I wr) (I ((o : Nat) : Int)) x))
    (H2 : ∀ m w m2 w2 L, J m w → WFm m m2 → (0 ≤ F m2 950 ∧ F m2 950 ≤ 200) → WFw w w2 → WSw w2 L → (∀ y, y ∈ L → GWs PR y) → J m2 w2) (H3 : ∀ m w a, J m w → a < PR → hm_Wl_find N m (I ((a : Nat) : Int)) = some (m, some a)) :
    ∀ (M M2 : Nat) (K K1 R : List (Int × Int × Int)) (v3 : Nat) (m w : MS), J m w → K.length ≤ v3 → v3 + R.length ≤ 200 → F m 950 = ((v3 + R.length : Nat) : Int) → (∀ i y, K[i]? = some y → WAm m i y) → (∀ i y, R[i]? = some y → WAm m (v3 + i) y) → WSw w (K1 ++ R) → K = K1.filter (fun y => decide (y.1 ≠ ((r : Nat) : Int))) → (∀ y, y ∈ K1 ++ R → GWs PR y) → PP (fun m2 (_ : Unit) w2 (_ : Unit) => J m2 w2 ∧ ∃ L, WSm m2 L ∧ WSw w2 L ∧ ∀ y, y ∈ L → GWs PR y) (hg_Wl_tellWatchers N M m r (I ((K.length : Nat) : Int)) (I ((v3 : Nat) : Int))) ((gg_M_end N M2).2.2.1 w (I ((r : Nat) : Int)) (I wr) (I ((o : Nat) : Int)) x (I ((K1.length : Nat) : Int))) := by
  intro M
  induction M with
  | zero => intro M2 K K1 R v3 m w _ _ _ _ _ _ _ _ _; exact pp_nl
  | succ M ih =>
    intro M2 K K1 R v3 m w j hK hR h950 hk hrr sw ek hb
    cases M2 with
    | zero => exact pp_nr
    | succ M2 =>
      show PP _ (hb_Wl_tellWatchers_4 N (hg_Wl_tellWatchers N M) m r (I ((K.length : Nat) : Int)) (I ((v3 : Nat) : Int))) (fb_M_end_180 N (gg_M_end N M2) w (I ((r : Nat) : Int)) (I wr) (I ((o : Nat) : Int)) x (I ((K1.length : Nat) : Int)))
      unfold hb_Wl_tellWatchers_4 fb_M_end_180
      have sw0 := sw
      obtain ⟨s1, s2, s3⟩ := sw
      rw [List.length_append] at s1 s2
      rw [I_F' h950, I_F' s1, decI (by omega) (by omega) (by omega) (by omega), decI (by omega) (by omega) (by omega) (by omega)]
      cases R with
      | nil =>
        rw [decide_eq_true (by simp), br_t, decide_eq_true (by simp), br_t, lt_e, wi_e]
        rw [List.append_nil] at sw0 hb
        have gK : ∀ y, y ∈ K → GWs PR y := fun y hy => by
          rw [ek] at hy
          exact hb y ((List.mem_filter.mp hy).1)
        have lK : K.length ≤ 200 := by simp at hR; omega
        have k9 : ∀ M3 : Nat, PK (fun w2 (_ : Unit) => WSw w2 K ∧ WFw w w2) ((gg_M_end N M3).2.2.2 w (I ((r : Nat) : Int)) 0) := fun M3 => by
          have := own_w (N := N) (w0 := w) hr M3 [] K1 w FR.rf sw0
          rw [List.nil_append, ← ek] at this
          exact this
        refine pp_l (pk_mo (k9 M2) (fun w2 _ h => ⟨H2 m w _ _ K j (FR.wi FR.rf (by simp)) (by rw [F_wi (by omega) (by omega), if_pos rfl]; omega) h.2 h.1 gK, K, ⟨by rw [F_wi (by omega) (by omega), if_pos rfl], by omega, fun i y hy => hk i y hy⟩, h.1, gK⟩))
      | cons y R2 =>
        have hl2 : (y :: R2).length = R2.length + 1 := rfl
        rw [hl2] at hR h950 s1 s2
        rw [hl2, decide_eq_false (by omega), br_f, decide_eq_false (by omega), br_f]
        have wm : WAm m v3 y := hrr 0 y rfl
        have ww : WAw w K1.length y := s3 K1.length y mid_get
        obtain ⟨r1, r2, r3⟩ := WAw_r ww
        obtain ⟨⟨a, ea, ha⟩, -, hc⟩ := hb y (by simp)
        refine l_ck (fun _ => ?_)
        rw [tnI (n := v3) rfl (by omega), I_A' wm.1, ea, H3 m w a j ha, bnd_so]
        refine l_ck (fun _ => r_ck (fun _ => ?_))
        have ofr : Int32.ofNat r = I ((r : Nat) : Int) := rfl
        rw [tnI (n := K1.length) rfl (by omega), I_A' wm.2.1, I_A' ww.2.1, ofr, decE r2.1 r2.2 (by omega) (by omega)]
        have nx : I ((v3 : Nat) : Int) + 1 = I ((v3 + 1 : Nat) : Int) := addN
        have tl : ∀ i z, R2[i]? = some z → WAm m (v3 + 1 + i) z := fun i z hz => by
          rw [show v3 + 1 + i = v3 + (i + 1) by omega]
          exact hrr (i + 1) z hz
        by_cases c : y.2.1 = ((r : Nat) : Int)
        · rw [decide_eq_true c, br_t, br_t, show decide ((some a : Option Nat) = none) = false from rfl, br_f]
          refine l_ck (fun _ => ?_)
          rw [bo_s, I_A' wm.2.2]
          refine r_ck (fun _ => r_ck (fun _ => ?_))
          rw [I_A' ww.1, I_A' ww.2.2, ea]
          refine r_bnd (pk_mo (rmw_w (N := N) sw0) (fun w1 _ h => ?_))
          have b9 : 0 ≤ F m 950 ∧ F m 950 ≤ 200 := by rw [h950]; omega
          have g9 : ∀ z, z ∈ K1 ++ R2 → GWs PR z := fun z hz => hb z (by simp at hz ⊢; rcases hz with h | h; exact Or.inl h; exact Or.inr (Or.inr h))
          have j1 : J m w1 := H2 m w m w1 _ j FR.rf b9 h.2 h.1 g9
          refine pp_bb (pp_mo (H1 m w1 a y.2.2 j1 ha hc) (fun m2 _ w2 _ g => ?_))
          obtain ⟨g1, ⟨g2, g3⟩, g4, g5⟩ := g
          have mm : ∀ i z, WAm m i z → WAm m2 i z := fun i z h => ⟨by show (m2.2.2.1 49 i).toInt = _; rw [g2 49 (by simp)]; exact h.1, by show (m2.2.2.1 50 i).toInt = _; rw [g2 50 (by simp)]; exact h.2.1, by show (m2.2.2.1 51 i).toInt = _; rw [g2 51 (by simp)]; exact h.2.2⟩
          have sw2 : WSw w2 (K1 ++ R2) := by
            obtain ⟨t1, t2, t3⟩ := h.1
            exact ⟨by show (w2.1 125).toInt = _; rw [g5]; exact t1, t2, fun i z hz => ⟨by show (w2.2.2.1 123 i).toInt = _; rw [g4 123 (by simp)]; exact (t3 i z hz).1, by show (w2.2.2.1 124 i).toInt = _; rw [g4 124 (by simp)]; exact (t3 i z hz).2.1, by show (w2.2.2.1 122 i).toInt = _; rw [g4 122 (by simp)]; exact (t3 i z hz).2.2⟩⟩
          unfold hb_Wl_tellWatchers_92
          rw [nx]
          exact ih M2 K K1 R2 (v3 + 1) m2 w2 g1 (by omega) (by omega) (by show (m2.1 950).toInt = _; rw [g3, show v3 + 1 + R2.length = v3 + (R2.length + 1) by omega]; exact h950) (fun i z hz => mm _ _ (hk i z hz)) (fun i z hz => mm _ _ (tl i z hz)) sw2 ek g9
        · rw [decide_eq_false c, br_f, br_f]
          unfold hb_Wl_tellWatchers_70 hb_Wl_tellWatchers_92
          refine l_ck (fun _ => ?_)
          have e1 : I ((K1.length : Nat) : Int) + 1 = I (((K1 ++ [y]).length : Nat) : Int) := by rw [show (K1 ++ [y]).length = K1.length + 1 by simp]; exact addN
          have sw2 : WSw w ((K1 ++ [y]) ++ R2) := by rw [List.append_assoc]; exact sw0
          rw [tnI (n := v3) rfl (by omega), I_A' wm.1, ofr, decE r1.1 r1.2 (by omega) (by omega), nx, e1]
          have h9502 : ∀ m2 : MS, m2.1 950 = m.1 950 → F m2 950 = ((v3 + 1 + R2.length : Nat) : Int) := fun m2 h => by
            show (m2.1 950).toInt = _
            rw [h, show v3 + 1 + R2.length = v3 + (R2.length + 1) by omega]
            exact h950
          by_cases c2 : y.1 = ((r : Nat) : Int)
          · rw [decide_eq_true c2, br_t]
            exact ih M2 K (K1 ++ [y]) R2 (v3 + 1) m w j (by omega) (by omega) (h9502 m rfl) hk tl sw2 (by rw [List.filter_append, ← ek]; simp [c2]) (fun z hz => hb z (by rw [List.append_assoc] at hz; exact hz))
          · rw [decide_eq_false c2, br_f]
            refine l_bnd (pk_mo (keepW (N := N) wm (by omega) hK) (fun m2 _ h => ?_))
            obtain ⟨h1, h2, h3, h4⟩ := h
            have e3 : I ((K.length : Nat) : Int) + 1 = I (((K ++ [y]).length : Nat) : Int) := by rw [show (K ++ [y]).length = K.length + 1 by simp]; exact addN
            rw [e3]
            refine ih M2 (K ++ [y]) (K1 ++ [y]) R2 (v3 + 1) m2 w (H2 m w m2 w _ j h1 (by show 0 ≤ (m2.1 950).toInt ∧ (m2.1 950).toInt ≤ 200; rw [h2]; show 0 ≤ F m 950 ∧ F m 950 ≤ 200; rw [h950]; omega) FR.rf sw0 hb) (by simp; omega) (by omega) (h9502 m2 h2) (fun i z hz => ?_) (fun i z hz => h4 _ _ (by omega) (tl i z hz)) sw2 (by rw [List.filter_append, ← ek]; simp [c2]) (fun z hz => hb z (by rw [List.append_assoc] at hz; exact hz))
            by_cases ci : i < K.length
            · rw [List.getElem?_append_left ci] at hz
              exact h4 _ _ (by omega) (hk i z hz)
            · rw [List.getElem?_append_right (by omega)] at hz
              by_cases ce : i = K.length
              · subst ce
                rw [Nat.sub_self] at hz
                have : y = z := by simpa using hz
                subst this
                exact h3
              · rw [List.getElem?_eq_none (by simp; omega)] at hz
                cases hz
