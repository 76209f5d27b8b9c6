/-! TRUTH: not, andalso, orelse, a GUARD that holds -/
set_option maxRecDepth 100000
section
variable {Sf : MS → Int32 → Prop} {α β : Type} {b : Int → Nat → Nat → Prop} {N p k l U B W Y j a n : Nat} {m w m2 w2 m3 w3 : MS} {t x : Int64} {nb : Nat → Nat} {Hs Os : Nat → List Nat} {y : Option (Nat × Nat × Nat)} {Q : MS → α → MS → β → Prop} {K1 : MS → Option (MS × α)} {K2 : MS → Option (MS × β)} {v : Int} {G : MS → Nat → Int32 → Option (MS × Int32)}
theorem RTb_at (r : RTb b t x) : t = mk 1 v ↔ x = mk 1 v := by
  have s1 : so (mk 1 v) = 1 := so_mk (by omega) (by omega)
  rcases r with ⟨-, e, -⟩ | ⟨h, e, -⟩
  · rw [e]
  · constructor
    · intro c
      rw [c] at h
      exact absurd h (nh_mk (by omega))
    · intro c
      have : isH x := by unfold isH at h ⊢; rw [e]; exact h
      rw [c] at this
      exact absurd this (nh_mk (by omega))
theorem dec_lg {t u : Int64} (h : t = u) : decide (lg_cmp t u = 0) = true := decide_eq_true ((lgc_eq t u).mpr h)
theorem dec_lg0 {t u : Int64} (h : t ≠ u) : decide (lg_cmp t u = 0) = false := decide_eq_false (fun c => h ((lgc_eq t u).mp c))
theorem mk10_11 : mk 1 0 ≠ mk 1 1 := by decide
/-- nobody ENDS: on -/
theorem set_id (h : F m 955 ≤ F m 956) : hm_Wl_settle N m = some (m, ()) := by
  have r1 := F_r m 955
  have r2 := F_r m 956
  unfold hm_Wl_settle hb_Wl_settle_0
  rw [I_F (k := 955), I_F (k := 956), decI r1.1 r1.2 r2.1 r2.2, decide_eq_true h, br_t]
theorem go195 {β : Type} {Q : MS → Int32 → MS → β → Prop} {Z : Option (MS × β)} (h9 : F m 1109 = 0) (h : F m 955 ≤ F m 956) (hh : Sf m (I ((k : Nat) : Int)) → PP Q (G m p (I ((k + 1 : Nat) : Int))) Z) : PP Q (q195 Sf N G m p (I ((k : Nat) : Int))) Z := by
  unfold q195 q206 hb_Ma_goOn_206
  refine pp_cll (fun hs => ?_)
  rw [I_F' h9, show decide (I 0 = 0) = true from rfl, br_t]
  refine pp_cll (fun _ => ?_)
  rw [set_id h, bnd_so, show I ((k : Nat) : Int) + 1 = I ((k + 1 : Nat) : Int) from addN]
  exact hh hs
theorem one_22 : fm_M_one N w (I v) (I 22) = bnd (fm_M_goTo N w (I v + 1)) (fun u7 _ => bnd (fm_M_take N u7) (fun u10 r10 => bnd (fm_M_truth N u10 1) (fun u11 r11 => br (decide ((lg_cmp r10 r11) = 0)) (some (u11, ())) (bnd (fr_M_guardFails N u11) (fun u12 _ => some (u12, ())))))) := rfl
theorem one_7 : fm_M_one N w (I v) (I 7) = bnd (fm_M_goTo N w (I v + 1)) (fun u7 _ => bnd (fm_M_otherRun N u7 (I v) (I 7)) (fun u8 _ => some (u8, ()))) := rfl
theorem oth_7 {z : Int32} : fm_M_otherRun N w z (I 7) = bnd (fm_M_take N w) (fun u27 r27 => bnd (fm_M_isTruth N u27 r27) (fun u28 r28 => br (decide (r28 = 0)) (bnd (fr_M_error N u28 11) (fun u29 _ => some (u29, ()))) (bnd (fm_M_truth N u28 0) (fun u30 r30 => br (decide ((lg_cmp r27 r30) = 0)) (bnd (fm_M_truth N u30 1) (fun u5 r5 => bnd (fm_M_put N u5 r5) (fun u6 _ => some (u6, ())))) (bnd (fm_M_truth N u30 0) (fun u5 r5 => bnd (fm_M_put N u5 r5) (fun u6 _ => some (u6, ())))))))) := rfl
theorem isTr_1 (h : t = mk 1 0 ∨ t = mk 1 1) : fm_M_isTruth N w t = some (w, 1) := by
  unfold fm_M_isTruth fb_M_isTruth_0
  rw [truth1, bnd_so]
  by_cases c : t = mk 1 0
  · rw [dec_lg c, br_t]
    rfl
  · have e : t = mk 1 1 := by
      rcases h with h | h
      · exact absurd h c
      · exact h
    rw [dec_lg0 c, br_f, truth0, bnd_so, dec_lg e, br_t]
    rfl
theorem isTr_0 (h0 : t ≠ mk 1 0) (h1 : t ≠ mk 1 1) : fm_M_isTruth N w t = some (w, 0) := by
  unfold fm_M_isTruth fb_M_isTruth_0
  rw [truth1, bnd_so, dec_lg0 h0, br_f, truth0, bnd_so, dec_lg0 h1, br_f]
  rfl
/-- a GUARD holds, or not -/
theorem op_holds (hpp : p < 24) (pl : PLs b p m w U B (W + 1) Y) (ru : RUs m w p j nb Hs Os y a n) (hW : W + 1 ≤ 46000) (hl : F m (pq p 45) = ((l : Nat) : Int)) (hl2 : W + 1 ≤ l ∧ l ≤ 1000000) (ha : a + 1 < 24000) (cr : ∃ f, CRs (A m 23) (ROs w) (w.2.2.2 34) f y (a + 1) (n + 1) (Hs j) (Os j))
    (c : ∀ m3 w3, PLs b p m3 w3 U B W Y → RUs m3 w3 p j nb Hs Os y (a + 1) (n + 1) → FGm p m m3 → FGw p j w w3 → PP Q (K1 m3) (K2 w3))
    (c0 : PP Q (bnd (bnd (hm_Ma_guardFails N m p) (fun u31 _ => some (u31, ()))) (fun u _ => K1 u)) (bnd (bnd (fr_M_guardFails N (wa (wa w 98 (60 * p + j) ((n + 1 : Nat) : Int)) 92 p ((W : Nat) : Int))) (fun u12 _ => some (u12, ()))) (fun u _ => K2 u))) : PP Q (bnd (hm_Ma_flow N m p (I 22)) (fun u _ => K1 u)) (bnd (fm_M_one N w (I ((n : Nat) : Int)) (I 22)) (fun u _ => K2 u)) := by
  obtain ⟨⟨fa, ct⟩, ⟨r2, r3⟩, -, ⟨r5, r6⟩, r7, ⟨r8, r9, r10⟩, r11, r12, r13⟩ := id ru
  have hj : j < 60 := fa.1.2.2
  have rt := pl.2.2.1.2.2 W (by omega)
  have be : hm_Fr_below N m p 0 = some (m, m.2.2.2 (pq p 35) W) := by
    have := below_e (N := N) (x := 0) (k := 0) (W := W + 1) (l := l) pl.2.2.1.1 hl hl2.1 hl2.2 rfl (by omega)
    rw [show W + 1 - 1 - 0 = W by omega] at this
    exact this
  rw [flo22, one_22, show I ((n : Nat) : Int) + 1 = I ((n + 1 : Nat) : Int) from addN, I_F' r2, show I ((a : Nat) : Int) + 1 = I ((a + 1 : Nat) : Int) from addN, Co_e (k := a + 1) rfl ha, bnd_so, be, bnd_so, show hm_Ma_atom N m 0 = some (m, mk 1 0) from rfl, bnd_so, bb_e]
  refine r_bnd (pk_mo (goto_r (N := N) (n := ((n + 1 : Nat) : Int)) hpp r11 fa.1.2.1 hj) (fun w2 _ h => ?_))
  subst h
  have h92 : A (wa w 98 (60 * p + j) ((n + 1 : Nat) : Int)) 92 p = ((W + 1 : Nat) : Int) := by rw [wa_rne (by omega)]; exact pl.2.2.1.2.1
  rw [bb_e]
  refine r_bnd (pk_mo (take_r (N := N) (w := wa w 98 (60 * p + j) ((n + 1 : Nat) : Int)) hpp r11 h92 (by omega)) (fun w3 r h => ?_))
  obtain ⟨rfl, rfl⟩ := h
  rw [truth1, bnd_so]
  have rt' : RTb b (m.2.2.2 (pq p 35) W) ((wa w 98 (60 * p + j) ((n + 1 : Nat) : Int)).2.2.2 91 (46000 * p + W)) := rt
  by_cases e : m.2.2.2 (pq p 35) W = mk 1 0
  · rw [dec_lg e, br_t, dec_lg ((RTb_at rt').mp e), br_t, show (1 : Int32) = I 1 from rfl, drop_e (W := W + 1) (k := 1) (x := 1) pl.2.2.1.1 rfl (by omega), bnd_so, Nat.add_sub_cancel]
    have e5 : F (wi m (pq p 26) ((W : Nat) : Int)) 1105 = ((a : Nat) : Int) := by rw [wi_ne (pq_n (by omega))]; exact r2
    rw [I_F' e5, show I ((a : Nat) : Int) + I 1 = I ((a + 1 : Nat) : Int) from addN, wi_e]
    show PP Q (K1 (wi (wi m (pq p 26) ((W : Nat) : Int)) 1105 ((a + 1 : Nat) : Int))) (K2 (wa (wa w 98 (60 * p + j) ((n + 1 : Nat) : Int)) 92 p ((W : Nat) : Int)))
    have f3 : FGm p m (wi (wi m (pq p 26) ((W : Nat) : Int)) 1105 ((a + 1 : Nat) : Int)) := FGm.tr FGm.drop FGm.pc
    have g3 : FGw p j w (wa (wa w 98 (60 * p + j) ((n + 1 : Nat) : Int)) 92 p ((W : Nat) : Int)) := FGw.tr FGw.goto FGw.w92
    have nb9 := (CR_b cr.choose_spec).2.1
    have h98 : A (wa (wa w 98 (60 * p + j) ((n + 1 : Nat) : Int)) 92 p ((W : Nat) : Int)) 98 (60 * p + j) = ((n + 1 : Nat) : Int) := by rw [wa_rne (by omega), wa_sm (by omega) (by omega)]
    exact c _ _ (PLs_pc (PLs_drop (k := 1) (PLs_98 pl) (by omega))) (RUs_mv ru f3 g3 (by rw [wi_sm (by omega) (by omega)]) h98 cr) f3 g3
  · rw [dec_lg0 e, br_f, dec_lg0 (fun z => e ((RTb_at rt').mpr z)), br_f]
    exact c0
/-- not -/
theorem op_not (hpp : p < 24) (pl : PLs b p m w U B (W + 1) Y) (ru : RUs m w p j nb Hs Os y a n) (hW : W + 1 < 46000) (hl : F m (pq p 45) = ((l : Nat) : Int)) (hl2 : W + 1 ≤ l ∧ l ≤ 1000000) (ha : a + 1 < 24000) (cr : ∃ f, CRs (A m 23) (ROs w) (w.2.2.2 34) f y (a + 1) (n + 1) (Hs j) (Os j))
    (c : ∀ m3 w3, PLs b p m3 w3 U B (W + 1) Y → RUs m3 w3 p j nb Hs Os y (a + 1) (n + 1) → FGm p m m3 → FGw p j w w3 → PP Q (K1 m3) (K2 w3))
    (c0 : PP Q (bnd (hm_Ma_wrong N m p 11) (fun u _ => K1 u)) (bnd (fr_M_error N (wa (wa w 98 (60 * p + j) ((n + 1 : Nat) : Int)) 92 p ((W : Nat) : Int)) 11) (fun u _ => K2 u))) : PP Q (bnd (hm_Ma_value N m p (I 12)) (fun u _ => K1 u)) (bnd (fm_M_one N w (I ((n : Nat) : Int)) (I 7)) (fun u _ => K2 u)) := by
  obtain ⟨⟨fa, ct⟩, ⟨r2, r3⟩, -, ⟨r5, r6⟩, r7, ⟨r8, r9, r10⟩, r11, r12, r13⟩ := id ru
  have hj : j < 60 := fa.1.2.2
  have rt := pl.2.2.1.2.2 W (by omega)
  have be : hm_Fr_below N m p 0 = some (m, m.2.2.2 (pq p 35) W) := by
    have := below_e (N := N) (x := 0) (k := 0) (W := W + 1) (l := l) pl.2.2.1.1 hl hl2.1 hl2.2 rfl (by omega)
    rw [show W + 1 - 1 - 0 = W by omega] at this
    exact this
  have rt' : RTb b (m.2.2.2 (pq p 35) W) ((wa w 98 (60 * p + j) ((n + 1 : Nat) : Int)).2.2.2 91 (46000 * p + W)) := rt
  -- what stands there
  have cl : hm_Ma_not N m p = (if m.2.2.2 (pq p 35) W = mk 1 0 then hb_Ma_not_50 N () m p 1 0 else if m.2.2.2 (pq p 35) W = mk 1 1 then hb_Ma_not_50 N () m p 1 1 else bnd (hm_Ma_wrong N m p 11) (fun u11 _ => some (u11, ()))) := by
    unfold hm_Ma_not hb_Ma_not_0 hb_Ma_not_34
    rw [be, bnd_so, show hm_Ma_atom N m 0 = some (m, mk 1 0) from rfl, bnd_so, show hm_Ma_atom N m 1 = some (m, mk 1 1) from rfl, bnd_so, bnd_so]
    by_cases e0 : m.2.2.2 (pq p 35) W = mk 1 0
    · rw [if_pos e0, dec_lg e0, br_t, dec_lg0 (fun z => mk10_11 (e0.symm.trans z)), br_f]
    · rw [if_neg e0, dec_lg0 e0, br_f]
      by_cases e1 : m.2.2.2 (pq p 35) W = mk 1 1
      · rw [if_pos e1, dec_lg e1, br_t, show hm_Ma_atom N m 1 = some (m, mk 1 1) from rfl, bnd_so, dec_lg e1, br_t]
      · rw [if_neg e1, dec_lg0 e1, br_f]
  rw [val12, one_7, show I ((n : Nat) : Int) + 1 = I ((n + 1 : Nat) : Int) from addN, I_F' r2, show I ((a : Nat) : Int) + 1 = I ((a + 1 : Nat) : Int) from addN, Co_e (k := a + 1) rfl ha, bnd_so, cl, bb_e, bb_e]
  refine r_bnd (pk_mo (goto_r (N := N) (n := ((n + 1 : Nat) : Int)) hpp r11 fa.1.2.1 hj) (fun w2 _ h => ?_))
  subst h
  have h92 : A (wa w 98 (60 * p + j) ((n + 1 : Nat) : Int)) 92 p = ((W + 1 : Nat) : Int) := by rw [wa_rne (by omega)]; exact pl.2.2.1.2.1
  rw [oth_7, bb_e, bb_e]
  refine r_bnd (pk_mo (take_r (N := N) (w := wa w 98 (60 * p + j) ((n + 1 : Nat) : Int)) hpp r11 h92 (by omega)) (fun w3 r h => ?_))
  obtain ⟨rfl, rfl⟩ := h
  have g3 : FGw p j w (wa (wa w 98 (60 * p + j) ((n + 1 : Nat) : Int)) 92 p ((W : Nat) : Int)) := FGw.tr FGw.goto FGw.w92
  have nb9 := (CR_b cr.choose_spec).2.1
  have h98 : A (wa (wa w 98 (60 * p + j) ((n + 1 : Nat) : Int)) 92 p ((W : Nat) : Int)) 98 (60 * p + j) = ((n + 1 : Nat) : Int) := by rw [wa_rne (by omega), wa_sm (by omega) (by omega)]
  have pl2 : PLs b p (wi m (pq p 26) ((W : Nat) : Int)) (wa (wa w 98 (60 * p + j) ((n + 1 : Nat) : Int)) 92 p ((W : Nat) : Int)) U B W Y := PLs_drop (k := 1) (PLs_98 pl) (by omega)
  have e5 : F (wi m (pq p 26) ((W : Nat) : Int)) 1105 = ((a : Nat) : Int) := by rw [wi_ne (pq_n (by omega))]; exact r2
  have e45 : F (wi m (pq p 26) ((W : Nat) : Int)) (pq p 45) = ((l : Nat) : Int) := by rw [wi_ne (pq_inj (by omega))]; exact hl
  -- the answer
  have fin : ∀ z : Int, (z = 0 ∨ z = 1) → ∀ q : Option (MS × Unit), q = bnd (hm_Fr_push N (wi m (pq p 26) ((W : Nat) : Int)) p (mk 1 z)) (fun u11 _ => lt (upI u11 1105 ((u11.1 1105) + I ((1 : Nat) : Int))) (fun w14 => some (w14, ()))) → PP Q (bnd q (fun u (_ : Unit) => K1 u)) (bnd (bnd (fm_M_put N (wa (wa w 98 (60 * p + j) ((n + 1 : Nat) : Int)) 92 p ((W : Nat) : Int)) (mk 1 z)) (fun u28 _ => some (u28, ()))) (fun u (_ : Unit) => K2 u)) := fun z hz q hq => by
    rw [hq]
    exact push_pp (a2 := a + 1) (n2 := n + 1) (dz := 1) (l := l) (W := W) (t := mk 1 z) (x := mk 1 z) hpp ru ⟨by omega, hl, by omega, hl2.2⟩ (lit_b (by omega) (fun h => by omega) ⟨by omega, by omega⟩) FGm.drop g3 pl2 e45 r11 h98 e5 rfl (by omega) cr c
  have ans : ∀ z : Int32, ∀ v : Int, hm_Ma_truth N m z = some (m, mk 1 v) → hb_Ma_not_50 N () m p 1 z = bnd (hm_Fr_push N (wi m (pq p 26) ((W : Nat) : Int)) p (mk 1 v)) (fun u11 _ => lt (upI u11 1105 ((u11.1 1105) + I ((1 : Nat) : Int))) (fun w14 => some (w14, ()))) := fun z v hz => by
    unfold hb_Ma_not_50 hm_Ma_answer hb_Ma_answer_0
    rw [hz, bnd_so, show (1 : Int32) = I 1 from rfl, drop_e (W := W + 1) (k := 1) (x := 1) pl.2.2.1.1 rfl (by omega), bnd_so, Nat.add_sub_cancel, bb_e]
    rfl
  by_cases e0 : m.2.2.2 (pq p 35) W = mk 1 0
  · rw [if_pos e0, isTr_1 (Or.inl ((RTb_at rt').mp e0)), bnd_so, show decide ((1 : Int32) = 0) = false from rfl, br_f, truth0, bnd_so, dec_lg0 (fun z => mk10_11 (((RTb_at rt').mp e0).symm.trans z)), br_f, truth0, bnd_so]
    exact fin 1 (Or.inr rfl) _ (by rw [ans 0 1 rfl])
  · by_cases e1 : m.2.2.2 (pq p 35) W = mk 1 1
    · rw [if_neg e0, if_pos e1, isTr_1 (Or.inr ((RTb_at rt').mp e1)), bnd_so, show decide ((1 : Int32) = 0) = false from rfl, br_f, truth0, bnd_so, dec_lg ((RTb_at rt').mp e1), br_t, truth1, bnd_so]
      exact fin 0 (Or.inl rfl) _ (by rw [ans 1 0 rfl])
    · rw [if_neg e0, if_neg e1, isTr_0 (fun z => e0 ((RTb_at rt').mpr z)) (fun z => e1 ((RTb_at rt').mpr z)), bnd_so, show decide ((0 : Int32) = 0) = true from rfl, br_t, bb_e, bb_e]
      exact c0
end
