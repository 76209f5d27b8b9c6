/-! what is PREDEFINED: watch, one that has not ENDED -/
set_option maxRecDepth 100000
section
variable {N p q : Nat} {u w : MS} {v2 t : Int64} {v7 t1 t2 : Int32}
theorem tw4 : hm_Ma_toward N u p (I 4) = bnd (hm_Ma_processAt N u p 0) (fun u65 r65 => br (decide (r65 = none)) (bnd (hm_Ma_wrong N u65 p 11) (fun u61 _ => some (u61, ()))) (br (decide ((u65.1 950) < 200)) (hb_Ma_toward_95 N () u65 p (I 4) 1 r65) (bnd (hm_Ma_wrong N u65 p 11) (fun u61 _ => some (u61, ()))))) := rfl
theorem prd4 : fm_M_predefinedRun N w (I 4) = bnd (fm_M_processRun N w (I 4)) (fun u6 _ => some (u6, ())) := rfl
theorem prs4 : fm_M_processRun N w (I 4) = bnd (fm_M_top N w 0) (fun u29 r29 => fb_M_processRun_45 N () u29 (I 4) 0 r29) := rfl
theorem prt4 : fb_M_processRun_45 N () w (I 4) 0 t = bnd (fm_M_sortOf N w t) (fun u28 r28 => br (decide (r28 = 4)) (br (decide ((u28.1 125) = 200)) (bnd (fr_M_error N u28 11) (fun u26 _ => some (u26, ()))) (bnd (fm_M_valueOf N u28 t) (fun u25 r25 => ck (inb (u25.1 133) (ln 92)) (fb_M_processRun_151 N () u25 (I 4) 0 r25 92 (u25.1 133) (u25.2.2.1 92 (u25.1 133).toNatClampNeg) 1)))) (bnd (fr_M_error N u28 11) (fun u26 _ => some (u26, ())))) := by
  have d1 : decide ((1 : Int32) = 0) = false := by decide
  have d3 : decide (I 4 = 4) = true := by decide
  have d4 : decide (I 4 = 8) = false := by decide
  have bt : ∀ (p q : Option (MS × Unit)), br true p q = p := fun p q => by rw [br_t]
  have bf : ∀ (p q : Option (MS × Unit)), br false p q = q := fun p q => by rw [br_f]
  unfold fb_M_processRun_45 fb_M_processRun_61 fb_M_processRun_83 fb_M_processRun_104 fb_M_processRun_108 fb_M_processRun_109
  have d5 : decide True = true := rfl
  simp only [d1, d3, d4, d5, bt, bf]
theorem tw95_4 : hb_Ma_toward_95 N () u p (I 4) 1 (some q) = bnd (hm_Ma_watch N u p q) (fun u41 r41 => hb_Ma_toward_335 N () u41 p 1 r41) := rfl
theorem wat_e : hm_Ma_watch N u p q = lt (upI u 945 ((u.1 945) + 1)) (fun w8 => br (decide ((w8.1 (pq q 9)) = 3)) (bnd (hm_Ma_atom N w8 3) (fun u24 r24 => bnd (hm_Wl_post N u24 p 5 (Int32.ofNat q) (u.1 945) r24 none) (fun u25 _ => bnd (hm_Te_make N u25 2 (u.1 945)) (fun u1 r1 => some (u1, r1))))) (br (decide ((some q) = (some p))) (bnd (hm_Te_make N w8 2 (u.1 945)) (fun u1 r1 => some (u1, r1))) (bnd (hm_Wl_addWatch N w8 (Int32.ofNat p) (Int32.ofNat q) (u.1 945)) (fun u18 _ => bnd (hm_Te_make N u18 2 (u.1 945)) (fun u1 r1 => some (u1, r1)))))) := rfl
def awR (u18 : MS) (c v7 : Int32) : Option (MS × Unit) := ck (inb (u18.1 125) (ln 122)) (lt (upA u18 122 (upd (u18.2.2.1 122) (u18.1 125).toNatClampNeg c)) (fun w19 => ck (inb (w19.1 125) (ln 123)) (lt (upA w19 123 (upd (w19.2.2.1 123) (w19.1 125).toNatClampNeg (w19.1 133))) (fun w20 => ck (inb (w20.1 125) (ln 124)) (lt (upA w20 124 (upd (w20.2.2.1 124) (w20.1 125).toNatClampNeg v7)) (fun w21 => lt (upI w21 125 ((w21.1 125) + 1)) (fun w22 => some (w22, ()))))))))
theorem prr_4 : fb_M_processRun_151 N () w (I 4) v2 v7 92 t1 t2 1 = ck (isK 92 4) (ck (inb t1 (ln 92)) (lt (upA w 92 (upd (w.2.2.1 92) t1.toNatClampNeg (t2 - 1))) (fun w3 => lt (upI w3 121 ((w3.1 121) + 1)) (fun w16 => bnd (fm_M_term N w16 2 (w3.1 121)) (fun u17 r17 => bnd (fm_M_put N u17 r17) (fun u18 _ => ck (inb v7 (ln 109)) (br (decide ((u18.2.2.1 109 v7.toNatClampNeg) = 3)) (bnd (fm_M_term N u18 1 3) (fun u23 r23 => bnd (fm_M_message N u23 (u18.1 133) 1 (w3.1 121) v7 0 v7 r23) (fun u24 _ => some (u24, ())))) (br (decide (v7 = (u18.1 133))) (some (u18, ())) (awR u18 (w3.1 121) v7))))))))) := rfl
end
section
variable {b : Int → Nat → Nat → Prop} {Fv Fv' : Int64 → Int64 → Prop} {P P' : Int64 → Prop} {N PR p q i j0 : Nat} {m w : MS} {cur : Option Nat} {RR : Nat → MS → MS → Prop} {L : List (Int × Int × Int)} {c x1 x2 : Int}
theorem la_app {γ : Type} {L : List γ} {x y : γ} {i : Nat} (h : (L ++ [x])[i]? = some y) : (i < L.length ∧ L[i]? = some y) ∨ (i = L.length ∧ y = x) := by
  rcases Nat.lt_trichotomy i L.length with c | c | c
  · rw [List.getElem?_append_left c] at h
    exact Or.inl ⟨c, h⟩
  · subst c
    simp at h
    exact Or.inr ⟨rfl, h.symm⟩
  · rw [List.getElem?_eq_none (by simp; omega)] at h
    cases h
/-- one watch more, there -/
theorem aw_m (s : WSm m L) (hL : L.length < 200) (hp : p < 1000) (hq : q < 1000) (hc : RG c) : ∃ m2, hm_Wl_addWatch N m (I ((p : Nat) : Int)) (I ((q : Nat) : Int)) (I c) = some (m2, ()) ∧ WSm m2 (L ++ [(((p : Nat) : Int), ((q : Nat) : Int), c)]) ∧ WFm m m2 := by
  refine ⟨wi (wa (wa (wa m 49 L.length ((p : Nat) : Int)) 50 L.length ((q : Nat) : Int)) 51 L.length c) 950 ((L.length + 1 : Nat) : Int), ?_, ⟨?_, by simp; omega, fun i y h => ?_⟩, FR.wi (FR.wa (FR.wa (FR.wa FR.rf (by simp)) (by simp)) (by simp)) (by simp)⟩
  · unfold hm_Wl_addWatch hb_Wl_addWatch_0 hb_Wl_addWatch_50
    have e1 : F (wa m 49 L.length ((p : Nat) : Int)) 950 = ((L.length : Nat) : Int) := s.1
    have e2 : F (wa (wa m 49 L.length ((p : Nat) : Int)) 50 L.length ((q : Nat) : Int)) 950 = ((L.length : Nat) : Int) := s.1
    have e3 : F (wa (wa (wa m 49 L.length ((p : Nat) : Int)) 50 L.length ((q : Nat) : Int)) 51 L.length c) 950 = ((L.length : Nat) : Int) := s.1
    have ib : inb (I ((L.length : Nat) : Int)) 200 = true := (I_inb (by omega) (by omega)).mpr ⟨by omega, by omega⟩
    rw [I_F' s.1, show decide (200 ≤ I ((L.length : Nat) : Int)) = false from by
      rw [show (200 : Int32) = I 200 from rfl]
      exact decide_eq_false (by rw [I_le (by omega) (by omega) (by omega) (by omega)]; omega), br_f, ib, ck_t, tnI (n := L.length) rfl (by omega), wa_e, lt_e, I_F' e1, ib, ck_t, tnI (n := L.length) rfl (by omega), wa_e, lt_e, I_F' e2, ib, ck_t, tnI (n := L.length) rfl (by omega), wa_e, lt_e, I_F' e3, show I ((L.length : Nat) : Int) + 1 = I ((L.length + 1 : Nat) : Int) from addN, wi_e, lt_e]
  · rw [wi_sm (by omega) (by omega)]
    simp
  · show A (wa (wa (wa m 49 L.length ((p : Nat) : Int)) 50 L.length ((q : Nat) : Int)) 51 L.length c) 49 i = y.1 ∧ A (wa (wa (wa m 49 L.length ((p : Nat) : Int)) 50 L.length ((q : Nat) : Int)) 51 L.length c) 50 i = y.2.1 ∧ A (wa (wa (wa m 49 L.length ((p : Nat) : Int)) 50 L.length ((q : Nat) : Int)) 51 L.length c) 51 i = y.2.2
    rcases la_app h with ⟨h1, h2⟩ | ⟨rfl, rfl⟩
    · rw [wa_ne (by omega), wa_ne (by omega), wa_ne (by omega), wa_ne (by omega), wa_ne (by omega), wa_ne (by omega), wa_ne (by omega), wa_ne (by omega), wa_ne (by omega)]
      exact s.2.2 i y h2
    · exact ⟨by rw [wa_rne (by omega), wa_rne (by omega)]; exact wa_sm (by omega) (by omega), by rw [wa_rne (by omega)]; exact wa_sm (by omega) (by omega), wa_sm hc.1 hc.2⟩
/-- and here -/
theorem aw_w (s : WSw w L) (hL : L.length < 200) (h33 : F w 133 = ((p : Nat) : Int)) (hp : p < 1000) (hq : q < 1000) (hc : RG c) : PK (fun w2 (_ : Unit) => WSw w2 (L ++ [(((p : Nat) : Int), ((q : Nat) : Int), c)]) ∧ WFw w w2) (awR w (I c) (I ((q : Nat) : Int))) := by
  unfold awR
  have e1 : F (wa w 122 L.length c) 125 = ((L.length : Nat) : Int) := s.1
  have e1' : F (wa w 122 L.length c) 133 = ((p : Nat) : Int) := h33
  have e2 : F (wa (wa w 122 L.length c) 123 L.length ((p : Nat) : Int)) 125 = ((L.length : Nat) : Int) := s.1
  have e3 : F (wa (wa (wa w 122 L.length c) 123 L.length ((p : Nat) : Int)) 124 L.length ((q : Nat) : Int)) 125 = ((L.length : Nat) : Int) := s.1
  refine pk_ck (fun _ => ?_)
  rw [I_F' s.1, tnI (n := L.length) rfl (by omega), wa_e, lt_e]
  refine pk_ck (fun _ => ?_)
  rw [I_F' e1, I_F' e1', tnI (n := L.length) rfl (by omega), wa_e, lt_e]
  refine pk_ck (fun _ => ?_)
  rw [I_F' e2, tnI (n := L.length) rfl (by omega), wa_e, lt_e, I_F' e3, show I ((L.length : Nat) : Int) + 1 = I ((L.length + 1 : Nat) : Int) from addN, wi_e, lt_e]
  refine pk_some ⟨⟨?_, by simp; omega, fun i y h => ?_⟩, FR.wi (FR.wa (FR.wa (FR.wa FR.rf (by simp)) (by simp)) (by simp)) (by simp)⟩
  · rw [wi_sm (by omega) (by omega)]
    simp
  · show A (wa (wa (wa w 122 L.length c) 123 L.length ((p : Nat) : Int)) 124 L.length ((q : Nat) : Int)) 123 i = y.1 ∧ A (wa (wa (wa w 122 L.length c) 123 L.length ((p : Nat) : Int)) 124 L.length ((q : Nat) : Int)) 124 i = y.2.1 ∧ A (wa (wa (wa w 122 L.length c) 123 L.length ((p : Nat) : Int)) 124 L.length ((q : Nat) : Int)) 122 i = y.2.2
    rcases la_app h with ⟨h1, h2⟩ | ⟨rfl, rfl⟩
    · rw [wa_ne (by omega), wa_ne (by omega), wa_ne (by omega), wa_ne (by omega), wa_ne (by omega), wa_ne (by omega), wa_ne (by omega), wa_ne (by omega), wa_ne (by omega)]
      exact s.2.2 i y h2
    · exact ⟨by rw [wa_rne (by omega)]; exact wa_sm (by omega) (by omega), wa_sm (by omega) (by omega), by rw [wa_rne (by omega), wa_rne (by omega)]; exact wa_sm hc.1 hc.2⟩
/-- the number of REFERENCES changes -/
theorem WL_gl (W0 : WLs RR PR Fv P Fv' P' cur i j0 m w) : WLs RR PR Fv P Fv' P' cur i j0 (wi m 945 x1) (wi w 121 x2) := by
  obtain ⟨⟨d, cx⟩, ⟨dw, lk, wt⟩, pb⟩ := W0.1
  have f1 : FR [945] [] [] [] m (wi m 945 x1) := FR.wi FR.rf (by simp)
  have f2 : FR [121] [] [] [] w (wi w 121 x2) := FR.wi FR.rf (by simp)
  have fc : FC 0 [945] [] [] [] [] [] [] m (wi m 945 x1) := FC.of f1 (by simp) (by simp) (by simp) (by simp)
  have d2 : DWc Fv P PR (wi m 945 x1) := DWc_gl d fc (by simp) (by simp) (fun h0 => by
    have := (d.2 0 h0).1
    unfold SMQ at this ⊢
    rw [fc.Fq (by omega) (by simp), fc.Fq (by omega) (by simp), fc.Fq (by omega) (by simp), fc.Fq (by omega) (by simp)]
    exact this) (by simp) (by rw [fc.Fg (by omega) (by simp)]; exact d.1.2.2.1) (by rw [fc.Fg (by omega) (by simp)]; exact ⟨d.1.2.2.2.1.2.1, d.1.2.2.2.1.2.2⟩) (by simp)
  have lm : ∀ d, LOCm d m (wi m 945 x1) := fun d k hk => ⟨wi_1 (fun c => pq_n (by omega) c.symm), rfl, rfl, rfl⟩
  have lw : ∀ d, LOCw d w (wi w 121 x2) := fun d => ⟨fun _ _ _ => rfl, fun _ _ => rfl, fun _ _ _ => rfl, rfl, fun _ _ _ => rfl, fun _ _ _ => rfl, fun _ _ _ => rfl, fun _ _ _ => rfl⟩
  exact WL_same W0 ⟨⟨d2, CTX_fr cx (f1.1 22 (by simp)) rfl⟩, ⟨DW_fr dw f2 (by simp) (by simp) (by simp) (by simp) (by simp) (by simp) (by simp) (by simp) (by simp) (by simp) (by simp) (by simp) (by simp) (by simp) (by simp) (by simp) (by simp), LK_fr lk f2 (by simp) (by simp), WTQ_fr wt f2 (by simp) (by simp) (by simp)⟩, pb⟩ (PGs_fr f1 f2 (by simp) (by simp) (by simp) (by simp) (by simp) (by simp)) lm lw (f1.1 955 (by simp)) rfl (f2.1 150 (by simp)) (fun _ _ => rfl) rfl
end
section
variable {α β : Type} {b : Int → Nat → Nat → Prop} {Fv Fv' : Int64 → Int64 → Prop} {P P' : Int64 → Prop} {N PR p q i j0 U B W Y l j a n : Nat} {m w w1 : MS} {nb : Nat → Nat} {Hs Os : Nat → List Nat} {y : Option (Nat × Nat × Nat)} {Q : MS → α → MS → β → Prop} {K1 : MS → Option (MS × α)} {K2 : MS → Option (MS × β)}
/-- a watch of one that has not ENDED -/
theorem op_watch (hpp : p < PR) (hq : q < PR) (al : F m (pq q 9) ≠ 3) (wl : WLs (RRp p) PR Fv P Fv' P' none i j0 m w) (wt : WTs PR m w) (h950 : F m 950 < 200) (hc : m.1 945 = w.1 121) (ru : RUs m w p j nb Hs Os y a n) (sc : SCs p m w) (hW : W + 1 ≤ 46000) (hl : F m (pq p 45) = ((l : Nat) : Int)) (hl2 : W + 1 ≤ l ∧ l ≤ 1000000) (pl : PLs b p m w1 U B (W + 1) Y) (g1 : FGw p j w w1) (h98 : A w1 98 (60 * p + j) = ((n + 1 : Nat) : Int)) (cr : ∃ f, CRs (A m 23) (ROs w) (w.2.2.2 34) f y (a + 2) (n + 1) (Hs j) (Os j))
    (c : ∀ mB wB m3 w3, (SFs Fv P Fv' P' PR m3 w3 → WLs (RRp p) PR Fv P Fv' P' none i j0 m3 w3) → WTs PR m3 w3 → PLs b p m3 w3 U B (W + 1) Y → RUs m3 w3 p j nb Hs Os y (a + 2) (n + 1) → WFm (wi m 945 (F m 945 + 1)) mB → WFw (wi w 121 (F m 945 + 1)) wB → FGm p mB m3 → FGw p j wB w3 → PP Q (K1 m3) (K2 w3)) : PP Q (bnd (hb_Ma_toward_95 N () m p (I 4) 1 (some q)) (fun u _ => K1 u)) (bnd (fb_M_processRun_151 N () w1 (I 4) 0 (I ((q : Nat) : Int)) 92 (I ((p : Nat) : Int)) (I ((W + 1 : Nat) : Int)) 1) (fun u _ => K2 u)) := by
  obtain ⟨⟨fa, -⟩, ⟨r2, -⟩, -, ⟨q9, q9w⟩, -, -, r11, -, -⟩ := id ru
  have hj : j < 60 := fa.1.2.2
  have p24 : PR ≤ 24 := wl.1.2.1.1.1.2
  have cb2 : a + 2 + 1 < 24000 := by
    obtain ⟨f9, cr9⟩ := cr
    exact (CR_b cr9).1
  have nd := NDs_of wl
  have alw : A w 109 q ≠ 3 := by
    rcases nd.2.2 q hq with ⟨-, h, -⟩ | ⟨h, -⟩
    · exact h
    · exact absurd h al
  obtain ⟨L, sm, sw, gL⟩ := wt
  have hL : L.length < 200 := by have := sm.1; omega
  have i1 : ∀ (u : MS) (k : Nat), u.1 k + 1 = I (F u k + 1) := fun u k => by rw [I_F (k := k), lit1, I_add]
  have r945 := F_r m 945
  have e45 : F m 945 = F w 121 := congrArg Int32.toInt hc
  have g3 : FGw p j w (wa w1 92 p ((W : Nat) : Int)) := FGw.tr g1 FGw.w92
  have h983 : A (wa w1 92 p ((W : Nat) : Int)) 98 (60 * p + j) = ((n + 1 : Nat) : Int) := by rw [wa_rne (by omega)]; exact h98
  have x21 : (wa w1 92 p ((W : Nat) : Int)).1 121 = m.1 945 := by rw [g3.1.1 121 (by simp)]; exact hc.symm
  have f21 : F (wa w1 92 p ((W : Nat) : Int)) 121 = F m 945 := congrArg Int32.toInt x21
  have pdm : ∀ mB, WFm (wi m 945 (F m 945 + 1)) mB → PLs b p (wi mB (pq p 26) ((W : Nat) : Int)) (wi (wa w1 92 p ((W : Nat) : Int)) 121 (F m 945 + 1)) U B W Y := fun mB f => PLs_cg (PLs_drop (k := 1) (W := W) (PLs_tab (PLs_gl (x1 := F m 945 + 1) (x2 := F m 945 + 1) pl) f) (by omega)) (fun _ _ => rfl) (fun _ _ => rfl) (fun _ _ => rfl) (fun _ _ => rfl) (fun _ _ => rfl) (fun _ _ => rfl) (fun _ _ => rfl) (fun _ _ => rfl) (fun _ _ => rfl) (fun _ _ => rfl)
  have fal : decide (((wi m 945 (F m 945 + 1)).1 (pq q 9)) = I 3) = false := by
    have rr9 := F_r m (pq q 9)
    rw [wi_1 (fun c => pq_n (by omega) c.symm), I_F (w := m) (k := pq q 9), decE rr9.1 rr9.2 (by omega) (by omega)]
    exact decide_eq_false al
  rw [tw95_4, prr_4, sub1, tnI (n := p) rfl (by omega), wa_e, wat_e, i1 m 945, wi_e, lt_e, oI, oI, show (3 : Int32) = I 3 from rfl, fal, br_f]
  refine rb_ck (fun _ => rb_ck (fun _ => ?_))
  rw [lt_e, i1 (wa w1 92 p ((W : Nat) : Int)) 121, f21, wi_e, lt_e, x21, I_F (w := m) (k := 945), show (2 : Int32) = I 2 from rfl, term_e, bnd_so]
  refine r_bb ?_
  generalize hw3 : wa w1 92 p ((W : Nat) : Int) = w3 at g3 h983 pdm
  have gA : FGw p j (wi w 121 (F m 945 + 1)) (wi w3 121 (F m 945 + 1)) := FGw_sw g3
  have rtR : RTb b (mk 2 (F m 945)) (mk 2 (F m 945)) := RTb_lit (nh_mk (by omega)) (fun c => by rw [so_mk (by omega) (by omega)] at c; omega)
  have a9 : ∀ w8, FGw p j (wi w 121 (F m 945 + 1)) w8 → decide (w8.2.2.1 109 q = I 3) = false := fun w8 g8 => by
    have rw9 := A_r w8 109 q
    rw [I_A (w := w8) (k := 109) (i := q), decE rw9.1 rw9.2 (by omega) (by omega), FR.A g8.1 (by simp)]
    exact decide_eq_false alw
  have dpq : decide (I ((q : Nat) : Int) = I ((p : Nat) : Int)) = decide (q = p) := by
    rw [decE (by omega) (by omega) (by omega) (by omega)]
    exact decide_eq_decide.mpr ⟨fun h => by omega, fun h => by omega⟩
  have fA0 : FR [] [] [] [] (wi w 121 (F m 945 + 1)) (wi w 121 (F m 945 + 1)) := FR.rf
  have ans : ∀ (mB : MS) (f : WFm (wi m 945 (F m 945 + 1)) mB) (KK : MS → Unit → Option (MS × β)), (∀ m8 w8, PLs b p m8 w8 U B (W + 1) Y → RUs m8 w8 p j nb Hs Os y (a + 2) (n + 1) → FGm p mB m8 → FGw p j (wi w 121 (F m 945 + 1)) w8 → F w8 133 = ((p : Nat) : Int) → PP Q (K1 m8) (KK w8 ())) → PP Q (bnd (hb_Ma_toward_335 N () mB p 1 (mk 2 (F m 945))) (fun u _ => K1 u)) (bnd (fm_M_put N (wi w3 121 (F m 945 + 1)) (mk 2 (F m 945))) KK) := fun mB f KK h => by
    have e26 : F mB (pq p 26) = ((W + 1 : Nat) : Int) := by
      rw [FR.F f (by simp; exact fun c => pq_n (by omega) c.symm), wi_ne (fun c => pq_n (by omega) c.symm)]
      exact pl.2.2.1.1
    have e45 : F mB (pq p 45) = ((l : Nat) : Int) := by
      rw [FR.F f (by simp; exact fun c => pq_n (by omega) c.symm), wi_ne (fun c => pq_n (by omega) c.symm)]
      exact hl
    have cr2 : ∃ f, CRs (A mB 23) (ROs (wi w 121 (F m 945 + 1))) ((wi w 121 (F m 945 + 1)).2.2.2 34) f y (a + 2) (n + 1) (Hs j) (Os j) := by
      rw [show A mB 23 = A m 23 from by funext k; show (mB.2.2.1 23 k).toInt = _; rw [f.2.2.1 23 (by simp)]; rfl]
      exact cr
    have ruB : RUs mB (wi w 121 (F m 945 + 1)) p j nb Hs Os y a n := RUs_st (RUs_gl ru) (tab_n f) EQw.rf.v (PGs_fr f fA0 (by simp) (by simp) (by simp) (by simp) (by simp) (by simp))
    unfold hb_Ma_toward_335 hm_Ma_answer hb_Ma_answer_0
    rw [show (1 : Int32) = I 1 from rfl, drop_e (W := W + 1) (k := 1) (x := 1) e26 rfl (by omega), bnd_so, Nat.add_sub_cancel]
    simp only [bb_e, bnd_so]
    exact pre_pt (K2 := fun u => KK u ()) (l := l) (by omega) ruB (by omega) ⟨by omega, hl2.2⟩ rtR FGm.drop gA (pdm mB f) (by rw [wi_ne (pq_inj (by omega))]; exact e45) h983 (by rw [wi_ne (pq_n (by omega)), FR.F f (by simp), wi_ne (by omega)]; exact r2) (by omega) cr2 h
  have fin : ∀ mB wB m8 w8 L2, WFm (wi m 945 (F m 945 + 1)) mB → WFw (wi w 121 (F m 945 + 1)) wB → WSm mB L2 → WSw wB L2 → (∀ y, y ∈ L2 → GWs PR y) → PLs b p m8 w8 U B (W + 1) Y → RUs m8 w8 p j nb Hs Os y (a + 2) (n + 1) → FGm p mB m8 → FGw p j wB w8 → PP Q (K1 m8) (K2 w8) := fun mB wB m8 w8 L2 fm fw s1 s2 gL2 pl8 ru8 f8 g8 => by
    have b1 : 0 ≤ F mB 950 ∧ F mB 950 ≤ 200 := by
      have := s1.1
      have := s1.2.1
      omega
    refine c mB wB m8 w8 (fun sf => WL_own (WL_t (WL_tab (WL_gl wl) fm b1 fw s2 gL2)) hpp ?_ ?_ sf (GGm_fg f8) (GGw_fg g8 hj) pl8 (SC_fg (SCs_tab (SCs_gl sc) fm fw) f8 g8) ru8) (WTs_st ⟨_, s1, s2, gL2⟩ (f8.1 950 (by simp; unfold pq; omega)) (fun k _ => f8.2.2.1 k (by simp)) (g8.1.1 125 (by simp)) (fun k hk => g8.1.2.2.1 k (by simp; omega))) pl8 ru8 fm fw f8 g8
    · rw [FR.F fm (by simp; exact fun c => pq_n (by omega) c.symm), wi_ne (fun c => pq_n (by omega) c.symm), q9]
      omega
    · rw [FR.A fw (by simp)]
      show A w 109 p ≠ 3
      rw [q9w]
      omega
  have smA : WSm (wi m 945 (F m 945 + 1)) L := WSm_st sm (wi_1 (by omega)) (fun _ _ => rfl)
  have swA : WSw (wi w 121 (F m 945 + 1)) L := WSw_st sw (wi_1 (by omega)) (fun _ _ => rfl)
  by_cases e : q = p
  · subst e
    rw [show decide ((some q : Option Nat) = some q) = true from decide_eq_true rfl, br_t, e_make, bnd_so, bnd_so]
    refine ans _ FR.rf _ (fun m8 w8 pl8 ru8 f8 g8 x33 => ?_)
    refine rb_ck (fun _ => ?_)
    rw [tnI (n := q) rfl (by omega), a9 w8 g8, br_f, I_F' x33, show decide (I ((q : Nat) : Int) = I ((q : Nat) : Int)) = true from decide_eq_true rfl, br_t]
    exact fin _ _ m8 w8 L FR.rf FR.rf smA swA gL pl8 ru8 f8 g8
  · obtain ⟨mB, eB, sB, fB⟩ := aw_m (N := N) (p := p) (q := q) (c := F m 945) smA hL (by omega) (by omega) r945
    rw [show decide ((some q : Option Nat) = some p) = false from decide_eq_false (fun h => e (by injection h)), br_f, eB, bnd_so, e_make, bnd_so, bnd_so]
    refine ans mB fB _ (fun m8 w8 pl8 ru8 f8 g8 x33 => ?_)
    refine rb_ck (fun _ => ?_)
    rw [tnI (n := q) rfl (by omega), a9 w8 g8, br_f, I_F' x33, dpq, decide_eq_false e, br_f]
    have s8 : WSw w8 L := WSw_st swA (g8.1.1 125 (by simp)) (fun k hk => g8.1.2.2.1 k (by simp; omega))
    refine r_bnd (pk_mo (aw_w (p := p) (q := q) s8 hL x33 (by omega) (by omega) r945) (fun w9 _ h => ?_))
    obtain ⟨s9, f9⟩ := h
    obtain ⟨wB, fwB, gB, sB'⟩ := tab_sw g8 f9
    refine fin mB wB m8 w9 _ fB fwB sB (sB' _ s9) (fun y hy => ?_) (PLs_tabw pl8 f9) (RUs_tab ru8 FR.rf f9) f8 gB
    rcases List.mem_append.mp hy with h | h
    · exact gL y h
    · simp at h
      subst h
      exact ⟨⟨p, rfl, hpp⟩, ⟨by simp, by simp; omega⟩, r945⟩
end
