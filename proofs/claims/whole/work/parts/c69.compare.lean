/-! comparing -/
set_option maxRecDepth 100000
section
variable {α β : Type} {b : Int → Nat → Nat → Prop} {N p k l U B W Y j a n na : Nat} {m w m2 w2 m3 w3 : MS} {t x : Int64} {nb : Nat → Nat} {Hs Os : Nat → List Nat} {y : Option (Nat × Nat × Nat)} {Q : MS → α → MS → β → Prop} {K1 : MS → Option (MS × α)} {K2 : MS → Option (MS × β)} {v s o kk : Int} {ow kd ow' kd' fa' : Nat → Nat} {Fv Fv' : Int64 → Int64 → Prop} {P P' : Int64 → Prop} {r r' : Int32}
/-- which answer: here -/
def cmpRs (N : Nat) (w : MS) (s : Int) (r : Int32) : Option (MS × Unit) := br (decide (I s = 12)) (br (decide (r = 0)) (fb_M_twoRun_138 N () w 1) (fb_M_twoRun_138 N () w 0)) (br (decide (I s = 13)) (br (decide (r = 0)) (fb_M_twoRun_138 N () w 0) (fb_M_twoRun_138 N () w 1)) (br (decide (I s = 14)) (br (decide (0 ≤ r)) (fb_M_twoRun_138 N () w 0) (fb_M_twoRun_138 N () w 1)) (br (decide (I s = 15)) (br (decide (0 < r)) (fb_M_twoRun_138 N () w 0) (fb_M_twoRun_138 N () w 1)) (br (decide (I s = 16)) (br (decide (r ≤ 0)) (fb_M_twoRun_138 N () w 0) (fb_M_twoRun_138 N () w 1)) (br (decide (r < 0)) (fb_M_twoRun_138 N () w 0) (fb_M_twoRun_138 N () w 1))))))
theorem two_cm (h : s = 12 ∨ s = 13 ∨ s = 14 ∨ s = 15 ∨ s = 16 ∨ s = 17) : fm_M_twoRun N w (I s) = bnd (fm_M_take N w) (fun u16 r16 => bnd (fm_M_take N u16) (fun u17 r17 => bnd (fm_M_order N u17 r17 r16) (fun u18 r18 => cmpRs N u18 s r18))) := by
  rcases h with rfl | rfl | rfl | rfl | rfl | rfl <;> rfl
theorem sgn_d (h : SGN r r') : decide (r = 0) = decide (r' = 0) ∧ decide (r < 0) = decide (r' < 0) ∧ decide (0 ≤ r) = decide (0 ≤ r') ∧ decide (r ≤ 0) = decide (r' ≤ 0) ∧ decide (0 < r) = decide (0 < r') := by
  have z0 : (0 : Int32).toInt = 0 := rfl
  have e0 : ∀ z : Int32, z = 0 ↔ z.toInt = 0 := fun z => by rw [← z0]; exact Int32.toInt_inj.symm
  have h1 : r.toInt < 0 ↔ r'.toInt < 0 := by
    have := h.1
    rw [Int32.lt_iff_toInt_lt, Int32.lt_iff_toInt_lt, z0] at this
    exact this
  have h2 : r.toInt = 0 ↔ r'.toInt = 0 := by
    have := h.2
    rw [e0, e0] at this
    exact this
  refine ⟨decide_eq_decide.mpr h.2, decide_eq_decide.mpr h.1, decide_eq_decide.mpr ?_, decide_eq_decide.mpr ?_, decide_eq_decide.mpr ?_⟩
  · rw [Int32.le_iff_toInt_le, Int32.le_iff_toInt_le, z0]; omega
  · rw [Int32.le_iff_toInt_le, Int32.le_iff_toInt_le, z0]; omega
  · rw [Int32.lt_iff_toInt_lt, Int32.lt_iff_toInt_lt, z0]; omega
/-- both answer alike -/
theorem cmpz_e (hs : (s = 12 ∧ kk = 39) ∨ (s = 13 ∧ kk = 40) ∨ (s = 14 ∧ kk = 31) ∨ (s = 15 ∧ kk = 41) ∨ (s = 16 ∧ kk = 32) ∨ (s = 17 ∧ kk = 42)) (h : SGN r r') : ∃ z : Int32, (z = 0 ∨ z = 1) ∧ hm_Ma_holds N m (I kk) r = some (m, z) ∧ cmpRs N w s r' = fb_M_twoRun_138 N () w z := by
  obtain ⟨d1, d2, d3, d4, d5⟩ := sgn_d h
  rcases hs with ⟨rfl, rfl⟩ | ⟨rfl, rfl⟩ | ⟨rfl, rfl⟩ | ⟨rfl, rfl⟩ | ⟨rfl, rfl⟩ | ⟨rfl, rfl⟩
  · cases e : decide (r' = 0) with
    | true => exact ⟨1, Or.inr rfl, by show br (decide (r = 0)) _ _ = _; rw [d1, e]; rfl, by show br (decide (r' = 0)) _ _ = _; rw [e]; rfl⟩
    | false => exact ⟨0, Or.inl rfl, by show br (decide (r = 0)) _ _ = _; rw [d1, e]; rfl, by show br (decide (r' = 0)) _ _ = _; rw [e]; rfl⟩
  · cases e : decide (r' = 0) with
    | true => exact ⟨0, Or.inl rfl, by show br (decide (r = 0)) _ _ = _; rw [d1, e]; rfl, by show br (decide (r' = 0)) _ _ = _; rw [e]; rfl⟩
    | false => exact ⟨1, Or.inr rfl, by show br (decide (r = 0)) _ _ = _; rw [d1, e]; rfl, by show br (decide (r' = 0)) _ _ = _; rw [e]; rfl⟩
  · cases e : decide (0 ≤ r') with
    | true => exact ⟨0, Or.inl rfl, by show br (decide (0 ≤ r)) _ _ = _; rw [d3, e]; rfl, by show br (decide (0 ≤ r')) _ _ = _; rw [e]; rfl⟩
    | false => exact ⟨1, Or.inr rfl, by show br (decide (0 ≤ r)) _ _ = _; rw [d3, e]; rfl, by show br (decide (0 ≤ r')) _ _ = _; rw [e]; rfl⟩
  · cases e : decide (0 < r') with
    | true => exact ⟨0, Or.inl rfl, by show br (decide (0 < r)) _ _ = _; rw [d5, e]; rfl, by show br (decide (0 < r')) _ _ = _; rw [e]; rfl⟩
    | false => exact ⟨1, Or.inr rfl, by show br (decide (0 < r)) _ _ = _; rw [d5, e]; rfl, by show br (decide (0 < r')) _ _ = _; rw [e]; rfl⟩
  · cases e : decide (r' ≤ 0) with
    | true => exact ⟨0, Or.inl rfl, by show br (decide (r ≤ 0)) _ _ = _; rw [d4, e]; rfl, by show br (decide (r' ≤ 0)) _ _ = _; rw [e]; rfl⟩
    | false => exact ⟨1, Or.inr rfl, by show br (decide (r ≤ 0)) _ _ = _; rw [d4, e]; rfl, by show br (decide (r' ≤ 0)) _ _ = _; rw [e]; rfl⟩
  · cases e : decide (r' < 0) with
    | true => exact ⟨0, Or.inl rfl, by show br (decide (r < 0)) _ _ = _; rw [d2, e]; rfl, by show br (decide (r' < 0)) _ _ = _; rw [e]; rfl⟩
    | false => exact ⟨1, Or.inr rfl, by show br (decide (r < 0)) _ _ = _; rw [d2, e]; rfl, by show br (decide (r' < 0)) _ _ = _; rw [e]; rfl⟩
/-- two terms are compared -/
theorem op_compare (hs : (s = 12 ∧ kk = 39) ∨ (s = 13 ∧ kk = 40) ∨ (s = 14 ∧ kk = 31) ∨ (s = 15 ∧ kk = 41) ∨ (s = 16 ∧ kk = 32) ∨ (s = 17 ∧ kk = 42)) (hpp : p < 24) (pl : PLs b p m w U B (W + 2) Y) (ru : RUs m w p j nb Hs Os y a n) (hW : W + 2 < 46000) (hl : F m (pq p 45) = ((l : Nat) : Int)) (hl2 : W + 2 ≤ l ∧ l ≤ 1000000) (pt : PTQ m p U ow kd Fv P B (W + 2) Y) (cx : CTX Fv P m) (xc : CX w p (hp w p) U ow' kd' Fv' P' (W + 2) B Y) (hF' : FVH Fv') (hA : ATf m w fa' na) (ha : a + 1 < 24000) (hn : n < 100000) (ht : A m 23 (a + 1) = kk) (hd : A w 25 n = s) (hN : 200000 ≤ N) (cr : ∃ f, CRs (A m 23) (ROs w) (w.2.2.2 34) f y (a + 2) (n + 1) (Hs j) (Os j))
    (c : ∀ m3 w3, PLs b p m3 w3 U B (W + 1) Y → RUs m3 w3 p j nb Hs Os y (a + 2) (n + 1) → FGm p m m3 → FGw p j w w3 → PP Q (K1 m3) (K2 w3)) : PP Q (bnd (hm_Ma_value N m p (I 8)) (fun u _ => K1 u)) (bnd (fm_M_one N w (I ((n : Nat) : Int)) (I 6)) (fun u _ => K2 u)) := by
  obtain ⟨⟨fa, ct⟩, ⟨r2, r3⟩, -, ⟨r5, r6⟩, r7, ⟨r8, r9, r10⟩, r11, r12, r13⟩ := id ru
  have hj : j < 60 := fa.1.2.2
  have hU := pt.1.2.1
  have be0 : hm_Fr_below N m p 0 = some (m, m.2.2.2 (pq p 35) (W + 1)) := by
    have := below_e (N := N) (x := 0) (k := 0) (W := W + 2) (l := l) pl.2.2.1.1 hl hl2.1 hl2.2 rfl (by omega)
    rw [show W + 2 - 1 - 0 = W + 1 by omega] at this
    exact this
  have be1 : hm_Fr_below N m p 1 = some (m, m.2.2.2 (pq p 35) W) := by
    have := below_e (N := N) (x := 1) (k := 1) (W := W + 2) (l := l) pl.2.2.1.1 hl hl2.1 hl2.2 rfl (by omega)
    rw [show W + 2 - 1 - 1 = W by omega] at this
    exact this
  have aw : ∀ K i, K ≠ 98 → A (wa w 98 (60 * p + j) ((n + 1 : Nat) : Int)) K i = A w K i := fun K i h => by rw [wa_rne h]
  rw [val8, one_6, show I ((n : Nat) : Int) + 1 = I ((n + 1 : Nat) : Int) from addN, I_F' r2, show I ((a : Nat) : Int) + 1 = I ((a + 1 : Nat) : Int) from addN, Co_e (k := a + 1) rfl ha, bnd_so, ht, be1, bnd_so, be0, bnd_so, bb_e, bb_e]
  refine r_bnd (pk_mo (goto_r (N := N) (n := ((n + 1 : Nat) : Int)) hpp r11 fa.1.2.1 hj) (fun w2 _ h => ?_))
  subst h
  refine rb_ck (fun _ => ?_)
  rw [tnI (n := n) rfl (by omega), I_A' ((aw 25 n (by omega)).trans hd), two_cm (by omega), bb_e, bb_e]
  have h92 : A (wa w 98 (60 * p + j) ((n + 1 : Nat) : Int)) 92 p = ((W + 1 + 1 : Nat) : Int) := by rw [aw 92 p (by omega)]; exact pl.2.2.1.2.1
  refine r_bnd (pk_mo (take_r (N := N) (W := W + 1) (w := wa w 98 (60 * p + j) ((n + 1 : Nat) : Int)) hpp r11 h92 (by omega)) (fun w3 x0 h => ?_))
  obtain ⟨rfl, rfl⟩ := h
  rw [bb_e]
  have h92b : A (wa (wa w 98 (60 * p + j) ((n + 1 : Nat) : Int)) 92 p ((W + 1 : Nat) : Int)) 92 p = ((W + 1 : Nat) : Int) := by rw [wa_sm (by omega) (by omega)]
  refine r_bnd (pk_mo (take_r (N := N) (W := W) (w := wa (wa w 98 (60 * p + j) ((n + 1 : Nat) : Int)) 92 p ((W + 1 : Nat) : Int)) hpp r11 h92b (by omega)) (fun w3 x1 h => ?_))
  obtain ⟨rfl, rfl⟩ := h
  rw [bb_e]
  have tp : ∀ i, i < W + 2 → TPb b U ow kd P U ow' kd' P' (m.2.2.2 (pq p 35) i) (w.2.2.2 91 (46000 * p + i)) := fun i hi => ⟨pl.2.2.1.2.2 i hi, pt.2.2.1.2 i hi, xc.2.2.2.2.2.2.2.1 i hi⟩
  have op := order_pp (N := N) (v := pq p 2) (m := m) (w := wa (wa (wa w 98 (60 * p + j) ((n + 1 : Nat) : Int)) 92 p ((W + 1 : Nat) : Int)) 92 p ((W : Nat) : Int)) (p := p) (h' := hp w p) (n0 := U) (n0' := U) ⟨fun c => pq_n (by omega) c.symm, fun c => pq_n (by omega) c.symm⟩ rfl rfl pt.1.2.2 hU cx.1 cx.2.1 cx.2.2.1 xc.2.1 hU (by omega) r11 hF' pl.1.2.1 (show ATf m (wa (wa (wa w 98 (60 * p + j) ((n + 1 : Nat) : Int)) 92 p ((W + 1 : Nat) : Int)) 92 p ((W : Nat) : Int)) fa' na from hA) hN (tp W (by omega)) (tp (W + 1) (by omega))
  refine pp_bb (pp_mo op (fun m4 q4 w4 q5 h => ?_))
  obtain ⟨⟨f4, g4⟩, sg⟩ := h
  obtain ⟨z, hz, hz1, hz2⟩ := cmpz_e (N := N) (m := m4) (w := w4) hs sg
  rw [hz1, bnd_so, hz2]
  have i4 : ∀ d, m4.1 d = m.1 d := fun d => f4.1 d (by simp)
  have e26 : F m4 (pq p 26) = ((W + 2 : Nat) : Int) := by
    show (m4.1 (pq p 26)).toInt = _
    rw [i4]; exact pl.2.2.1.1
  have ff : FGm p m m4 := FR.mo f4 (by simp) (by simp) (by simp) (by simp)
  have gg : FGw p j w w4 := FGw.tr (FGw.tr (FGw.tr FGw.goto FGw.w92) FGw.w92) ⟨FR.mo g4 (by simp) (by simp) (by simp) (by simp), fun _ _ => ⟨FR.A g4 (by simp), by rw [g4.2.2.1 90 (by simp)], FR.A g4 (by simp)⟩, fun _ _ => FR.A g4 (by simp), fun i _ => by rw [g4.2.2.2 88 (by simp)], fun i _ => by rw [g4.2.2.2 91 (by simp)], fun i _ => by rw [g4.2.2.2 93 (by simp)], fun i _ => by rw [g4.2.2.2 107 (by simp)]⟩
  have pl4 : PLs b p (wi m4 (pq p 26) ((W : Nat) : Int)) w4 U B W Y := by
    have q1 := PLs_drop (k := 1) (W := W + 1) (PLs_98 (i := 60 * p + j) (z := ((n + 1 : Nat) : Int)) pl) (by omega)
    have q2 := PLs_drop (k := 1) (W := W) q1 (by omega)
    refine PLs_cg q2 (fun d hd => ?_) (fun i _ => by show m4.2.2.2 (pq p 2) i = _; rw [f4.2.2.2 _ (by simp; unfold pq; omega)]; rfl) (fun i _ => by show m4.2.2.2 (pq p 33) i = _; rw [f4.2.2.2 _ (by simp; unfold pq; omega)]; rfl) (fun i _ => by show m4.2.2.2 (pq p 35) i = _; rw [f4.2.2.2 _ (by simp; unfold pq; omega)]; rfl) (fun i _ => by show m4.2.2.2 (pq p 6) i = _; rw [f4.2.2.2 _ (by simp; unfold pq; omega)]; rfl) (fun K hK => by rw [g4.2.2.1 K (by simp)]) (fun i _ => by rw [g4.2.2.2 88 (by simp)]) (fun i _ => by rw [g4.2.2.2 93 (by simp)]) (fun i _ => by rw [g4.2.2.2 91 (by simp)]) (fun i _ => by rw [g4.2.2.2 107 (by simp)])
    show (if pq p d = pq p 26 then _ else m4.1 (pq p d)) = (if pq p d = pq p 26 then _ else if pq p d = pq p 26 then _ else m.1 (pq p d))
    by_cases e : pq p d = pq p 26
    · rw [if_pos e, if_pos e]
    · rw [if_neg e, if_neg e, if_neg e, i4]
  have e5 : F (wi m4 (pq p 26) ((W : Nat) : Int)) 1105 = ((a : Nat) : Int) := by
    rw [wi_ne (pq_n (by omega))]
    show (m4.1 1105).toInt = _
    rw [i4]; exact r2
  have e45 : F (wi m4 (pq p 26) ((W : Nat) : Int)) (pq p 45) = ((l : Nat) : Int) := by
    rw [wi_ne (pq_inj (by omega))]
    show (m4.1 (pq p 45)).toInt = _
    rw [i4]; exact hl
  have w133 : F w4 133 = ((p : Nat) : Int) := by rw [FR.F gg.1 (by simp)]; exact r11
  have h98 : A w4 98 (60 * p + j) = ((n + 1 : Nat) : Int) := by
    rw [FR.A g4 (by simp), wa_rne (by omega), wa_rne (by omega), wa_sm (by omega) (by omega)]
  have fin : ∀ d : Int, (d = 0 ∨ d = 1) → PP Q (bnd (bnd (hm_Fr_push N (wi m4 (pq p 26) ((W : Nat) : Int)) p (mk 1 d)) (fun u11 _ => lt (upI u11 1105 ((u11.1 1105) + I ((2 : Nat) : Int))) (fun w14 => some (w14, ())))) (fun u (_ : Unit) => K1 u)) (bnd (bnd (fm_M_put N w4 (mk 1 d)) (fun u28 _ => some (u28, ()))) (fun u (_ : Unit) => K2 u)) := fun d hd2 => push_pp (N := N) (a2 := a + 2) (n2 := n + 1) (dz := 2) (l := l) (W := W) (t := mk 1 d) (x := mk 1 d) hpp ru ⟨by omega, hl, by omega, hl2.2⟩ (lit_b (by omega) (fun h => by omega) ⟨by omega, by omega⟩) (FGm.tr ff FGm.drop) gg pl4 e45 w133 h98 e5 rfl (by omega) cr c
  unfold hm_Ma_answer hb_Ma_answer_0 fb_M_twoRun_138 fb_M_twoRun_327
  rcases hz with rfl | rfl
  · have fin1 := fin 1 (Or.inr rfl)
    simp only [bb_e, bnd_so] at fin1
    rw [show hm_Ma_truth N m4 0 = some (m4, mk 1 1) from rfl, bnd_so, truth0, show (2 : Int32) = I 2 from rfl, drop_e (W := W + 2) (k := 2) (x := 2) e26 rfl (by omega), bnd_so, Nat.add_sub_cancel]
    simp only [bb_e, bnd_so]
    exact fin1
  · have fin0 := fin 0 (Or.inl rfl)
    simp only [bb_e, bnd_so] at fin0
    rw [show hm_Ma_truth N m4 1 = some (m4, mk 1 0) from rfl, bnd_so, truth1, show (2 : Int32) = I 2 from rfl, drop_e (W := W + 2) (k := 2) (x := 2) e26 rfl (by omega), bnd_so, Nat.add_sub_cancel]
    simp only [bb_e, bnd_so]
    exact fin0
end
