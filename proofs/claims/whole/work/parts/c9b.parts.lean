/-! what is PREDEFINED: parts of lists and TUPLES -/
set_option maxRecDepth 100000
theorem lg_leI (x y : Int64) : (lg_cmp x y ≤ 0) ↔ x.toInt ≤ y.toInt := by
  unfold lg_cmp
  simp only [gt_iff_lt, Int64.lt_iff_toInt_lt, ← Int64.toInt_inj]
  repeat' split
  all_goals (constructor <;> intro h <;> first | omega | exact absurd h (by decide) | decide)
theorem lg_leD {x y : Int64} : decide (lg_cmp x y ≤ 0) = decide (x.toInt ≤ y.toInt) := decide_eq_decide.mpr (lg_leI x y)
section
variable {b : Int → Nat → Nat → Prop} {Fv Fv' : Int64 → Int64 → Prop} {P P' : Int64 → Prop} {ow kd ow' kd' : Nat → Nat} {U U' n0 n0' : Nat} {t x : Int64}
theorem TP_tup2 {h h' : Nat → Int64} (is : ISb b h n0 h' n0') (g : HPc h U ow kd Fv P) (g' : HP h' U' ow' kd' Fv' P') (q : TPb b U ow kd P U' ow' kd' P' t x) (e5 : so t = 5) : ∃ k : Nat, (so x = 5 ∧ va t = ((vn t : Nat) : Int) ∧ vn t + 1 + k ≤ U ∧ va x = ((vn x : Nat) : Int) ∧ vn x + 1 + k ≤ U') ∧ va (h (vn t)) = ((k : Nat) : Int) ∧ va (h' (vn x)) = ((k : Nat) : Int) ∧ (h' (vn x)).toInt = ((k : Nat) : Int) ∧ ∀ i, i < k → TPb b U ow kd P U' ow' kd' P' (h (vn t + 1 + i)) (h' (vn x + 1 + i)) := by
  obtain ⟨r, gt, gt'⟩ := q
  have ex : so x = 5 := by rw [RTb_so r]; exact e5
  obtain ⟨bk, cl⟩ := HP_bkc g (Or.inr (Or.inl e5)) gt
  obtain ⟨bk', cl'⟩ := HP_bk g' (Or.inr (Or.inl ex)) gt'
  have hd := bk.2.1 e5
  have hd' := bk'.2.1 ex
  have b1 := bk.2.2.2.1
  have b1' := bk'.2.2.2.1
  have bl : blk h t = 1 + vn (h (vn t)) := by unfold blk; rw [if_neg (by omega), if_pos e5]
  have bl' : blk h' x = 1 + vn (h' (vn x)) := by unfold blk; rw [if_neg (by omega), if_pos ex]
  obtain ⟨⟨eb, -, -⟩, cs, -⟩ := is.1 t x (Or.inr (Or.inl e5)) r
  have pr : prt t = 1 := by unfold prt; rw [e5]; rfl
  have pr' : prt x = 1 := by unfold prt; rw [ex]; rfl
  have hv : va (h (vn t)) = ((vn (h (vn t)) : Nat) : Int) := by
    have h0 := hd.1
    generalize h (vn t) = z at h0 ⊢
    unfold vn; omega
  have hv' : va (h' (vn x)) = ((vn (h' (vn x)) : Nat) : Int) := by
    have h0 := hd'.1
    generalize h' (vn x) = z at h0 ⊢
    unfold vn; omega
  have vt : va t = ((vn t : Nat) : Int) := by have := bk.1; unfold vn; omega
  have vx : va x = ((vn x : Nat) : Int) := by have := bk'.1; unfold vn; omega
  rw [bl, bl'] at eb
  rw [bl] at b1
  rw [bl'] at b1'
  rw [bl, pr] at cl cs
  rw [bl', pr'] at cl'
  have ek : vn (h' (vn x)) = vn (h (vn t)) := by omega
  refine ⟨vn (h (vn t)), ⟨ex, vt, by omega, vx, by omega⟩, hv, by rw [hv', ek], by rw [hd'.2, hv', ek], fun i hi => ?_⟩
  rw [show vn t + 1 + i = vn t + (1 + i) by omega, show vn x + 1 + i = vn x + (1 + i) by omega]
  exact ⟨cs (1 + i) (by omega) (by omega), cl (1 + i) (by omega) (by omega), cl' (1 + i) (by omega) (by omega)⟩
end
section
variable {α β : Type} {b : Int → Nat → Nat → Prop} {Fv Fv' : Int64 → Int64 → Prop} {P P' : Int64 → Prop} {ow kd ow' kd' : Nat → Nat} {N p U B W Y l j a n : Nat} {m w w1 : MS} {nb : Nat → Nat} {Hs Os : Nat → List Nat} {y : Option (Nat × Nat × Nat)} {Q : MS → α → MS → β → Prop} {K1 : MS → Option (MS × α)} {K2 : MS → Option (MS × β)}
/-- hd, tl, length, size -/
theorem op_parts {d k : Int} (hd : (d = 24 ∧ k = 25) ∨ (d = 25 ∧ k = 26) ∨ (d = 26 ∧ k = 27) ∨ (d = 28 ∧ k = 29)) (hp1 : p < 24) (ru : RUs m w p j nb Hs Os y a n) (hW : W + 1 ≤ 46000) (hl : F m (pq p 45) = ((l : Nat) : Int)) (hl2 : W + 1 ≤ l ∧ l ≤ 1000000) (pl : PLs b p m w1 U B (W + 1) Y) (g1 : FGw p j w w1) (h98 : A w1 98 (60 * p + j) = ((n + 1 : Nat) : Int)) (g : HPc (m.2.2.2 (pq p 2)) U ow kd Fv P) (g' : HP (hp w1 p) U ow' kd' Fv' P') (gt : GT U ow kd P (m.2.2.2 (pq p 35) W)) (gt' : GT U ow' kd' P' (w1.2.2.2 91 (46000 * p + W))) (cr : ∃ f, CRs (A m 23) (ROs w) (w.2.2.2 34) f y (a + 2) (n + 1) (Hs j) (Os j))
    (c : ∀ m3 w3, PLs b p m3 w3 U B (W + 1) Y → RUs m3 w3 p j nb Hs Os y (a + 2) (n + 1) → FGm p m m3 → FGw p j w w3 → PP Q (K1 m3) (K2 w3))
    (kX : ∀ w3, PLs b p (wi m (pq p 26) ((W : Nat) : Int)) w3 U B W Y → FGw p j w w3 → (w3.2.2.2 88 = w1.2.2.2 88 ∧ w3.1 140 = w1.1 140) → PP Q (K1 (tld m 1 (-1) (mk 1 11))) (bnd (fr_M_error N w3 11) (fun u _ => K2 u))) : PP Q (bnd (hm_Ma_predefined N m p (I d)) (fun u _ => K1 u)) (bnd (fm_M_predefinedRun N w1 (I k)) (fun u _ => K2 u)) := by
  obtain ⟨-, ⟨r2, -⟩, -, -, -, -, r11, -, -⟩ := id ru
  have cb2 : a + 2 + 1 < 24000 := by
    obtain ⟨f9, cr9⟩ := cr
    exact (CR_b cr9).1
  have x33 : F w1 133 = ((p : Nat) : Int) := by rw [FR.F g1.1 (by simp)]; exact r11
  have hU := pl.1.1.2.2
  have rt := pl.2.2.1.2.2 W (by omega)
  have be : hm_Fr_below N m p 0 = some (m, m.2.2.2 (pq p 35) W) := by
    have := below_e (N := N) (x := 0) (k := 0) (W := W + 1) (l := l) pl.2.2.1.1 hl hl2.1 hl2.2 rfl (by omega)
    rw [show W + 1 - 1 - 0 = W by omega] at this
    exact this
  have pd := PLs_drop (k := 1) (W := W) pl (by omega)
  have is := pl.1.2.1
  have hp3 : hp (wa w1 92 p ((W : Nat) : Int)) p = hp w1 p := rfl
  have x33' : F (wa w1 92 p ((W : Nat) : Int)) 133 = ((p : Nat) : Int) := x33
  have g3 : FGw p j w (wa w1 92 p ((W : Nat) : Int)) := FGw.tr g1 FGw.w92
  generalize hw3 : wa w1 92 p ((W : Nat) : Int) = w3 at pd hp3 x33' g3
  generalize ht : m.2.2.2 (pq p 35) W = t at rt be gt
  generalize hx : w1.2.2.2 91 (46000 * p + W) = x at rt gt'
  have q : TPb b U ow kd P U ow' kd' P' t x := ⟨rt, gt, gt'⟩
  -- what comes of it
  have ans : ∀ t2 x2 : Int64, RTb b t2 x2 → PP Q (bnd (hm_Ma_answer N m p 1 t2) (fun u _ => bnd (hb_Ma_predefined_146 N () u p) (fun u _ => K1 u))) (bnd (fm_M_put N w3 x2) (fun u _ => K2 u)) := fun t2 x2 h => by
    unfold hm_Ma_answer hb_Ma_answer_0
    rw [show (1 : Int32) = I 1 from rfl, drop_e (W := W + 1) (k := 1) (x := 1) pl.2.2.1.1 rfl (by omega), bnd_so, Nat.add_sub_cancel]
    simp only [bb_e, bnd_so]
    exact pre_pp (l := l) hp1 ru (by omega) ⟨by omega, hl2.2⟩ h FGm.drop g3 pd (by rw [wi_ne (pq_inj (by omega))]; exact hl) (by rw [← hw3, wa_rne (by omega)]; exact h98) (by rw [wi_ne (pq_n (by omega))]; exact r2) (by omega) cr c
  have bad : PP Q (bnd (hm_Ma_wrong N m p 11) (fun u _ => bnd (hb_Ma_predefined_146 N () u p) (fun u _ => K1 u))) (bnd (fr_M_error N w3 11) (fun u _ => K2 u)) := by
    rw [wrong_e9, bnd_so, pre_tl ⟨by omega, by omega⟩ (by omega), bnd_so]
    exact kX w3 pd g3 ⟨by rw [← hw3]; rfl, by rw [← hw3]; rfl⟩
  have all : ∀ (G : MS → Int64 → Int32 → Option (MS × Unit)) (G' : MS → Int64 → Int32 → Option (MS × Unit)), PP Q (bnd (G m t (I (so t))) (fun u _ => bnd (hb_Ma_predefined_146 N () u p) (fun u _ => K1 u))) (bnd (G' w3 x (I (so t))) (fun u _ => K2 u)) → PP Q (bnd (ptM N m p G) (fun u _ => K1 u)) (bnd (ptW N w1 G') (fun u _ => K2 u)) := fun G G' h => by
    unfold ptM ptW
    rw [be, bnd_so, e_tag, bnd_so]
    refine l_bb (r_bb ?_)
    refine rb_bnd (pk_mo (take_r (N := N) (W := W) hp1 x33 pl.2.2.1.2.1 (by omega)) (fun w4 r e => ?_))
    obtain ⟨rfl, rfl⟩ := e
    rw [hw3, hx, sortOf_e, bnd_so, RTb_so rt]
    simp only [bb_e, bnd_so]
    exact h
  rcases hd with ⟨rfl, rfl⟩ | ⟨rfl, rfl⟩ | ⟨rfl, rfl⟩ | ⟨rfl, rfl⟩
  · rw [pm24, pr25]
    refine all _ _ ?_
    show PP Q (bnd (br (decide (I (so t) = 7)) (ck (inb (t.toInt32) 512) (bnd (hm_Ma_answer N m p 1 (m.2.2.2 (pq p 2) (t.toInt32).toNatClampNeg)) (fun u4 _ => some (u4, ())))) (bnd (hm_Ma_wrong N m p 11) (fun u25 _ => some (u25, ())))) _) (bnd (br (decide (I (so t) = 7)) (bnd (fm_M_valueOf N w3 x) (fun u25 r25 => bnd (fm_M_cell N u25 (w3.1 133) ((r25 + (I 25 - 18)) - 7)) (fun u26 r26 => bnd (fm_M_put N u26 r26) (fun u27 _ => some (u27, ()))))) (bnd (fr_M_error N w3 11) (fun u28 _ => some (u28, ())))) _)
    rw [show decide (I (so t) = 7) = decide (so t = 7) by rw [show (7 : Int32) = I 7 from rfl, decE (so_r _).1 (so_r _).2 (by omega) (by omega)]]
    by_cases e7 : so t = 7
    · obtain ⟨⟨x7, v1, v2, v3, v4⟩, q0, q1⟩ := TP_pair is g g' q e7
      rw [decide_eq_true e7, br_t, br_t, valI, v1, (I_inb (by omega) (by omega)).mpr ⟨by omega, by omega⟩, ck_t, tnI (n := vn t) rfl (by omega), valueOf_e, bnd_so, v3, I_F' x33', show I ((vn x : Nat) : Int) + (I 25 - 18) - 7 = I ((vn x : Nat) : Int) by rw [show (I 25 - 18 : Int32) = I 7 from rfl, show (7 : Int32) = I 7 from rfl, I_add, I_sub]; congr 1; omega, cell_e (by omega) (by omega), bnd_so, hp3]
      simp only [bb_e, bnd_so]
      exact ans _ _ q0.1
    · rw [decide_eq_false e7, br_f, br_f]
      simp only [bb_e, bnd_so]
      exact bad
  · rw [pm25, pr26]
    refine all _ _ ?_
    show PP Q (bnd (br (decide (I (so t) = 7)) (ck (inb (t.toInt32 + 1) 512) (bnd (hm_Ma_answer N m p 1 (m.2.2.2 (pq p 2) (t.toInt32 + 1).toNatClampNeg)) (fun u4 _ => some (u4, ())))) (bnd (hm_Ma_wrong N m p 11) (fun u25 _ => some (u25, ())))) _) (bnd (br (decide (I (so t) = 7)) (bnd (fm_M_valueOf N w3 x) (fun u25 r25 => bnd (fm_M_cell N u25 (w3.1 133) ((r25 + (I 26 - 18)) - 7)) (fun u26 r26 => bnd (fm_M_put N u26 r26) (fun u27 _ => some (u27, ()))))) (bnd (fr_M_error N w3 11) (fun u28 _ => some (u28, ())))) _)
    rw [show decide (I (so t) = 7) = decide (so t = 7) by rw [show (7 : Int32) = I 7 from rfl, decE (so_r _).1 (so_r _).2 (by omega) (by omega)]]
    by_cases e7 : so t = 7
    · obtain ⟨⟨x7, v1, v2, v3, v4⟩, q0, q1⟩ := TP_pair is g g' q e7
      rw [decide_eq_true e7, br_t, br_t, valI, v1, show I ((vn t : Nat) : Int) + 1 = I ((vn t + 1 : Nat) : Int) from addN, (I_inb (by omega) (by omega)).mpr ⟨by omega, by omega⟩, ck_t, tnI (n := vn t + 1) rfl (by omega), valueOf_e, bnd_so, v3, I_F' x33', show I ((vn x : Nat) : Int) + (I 26 - 18) - 7 = I ((vn x + 1 : Nat) : Int) by rw [show (I 26 - 18 : Int32) = I 8 from rfl, show (7 : Int32) = I 7 from rfl, I_add, I_sub]; congr 1; omega, cell_e (by omega) (by omega), bnd_so, hp3]
      simp only [bb_e, bnd_so]
      exact ans _ _ q1.1
    · rw [decide_eq_false e7, br_f, br_f]
      simp only [bb_e, bnd_so]
      exact bad
  · rw [pm26, pr27]
    refine all _ _ ?_
    show PP Q (bnd (bnd (hm_Te_listLength N m (pq p 2) t) (fun u30 r30 => br (decide (r30 = (-1))) (bnd (hm_Ma_wrong N u30 p 11) (fun u34 _ => some (u34, ()))) (bnd (hm_Te_make N u30 0 r30) (fun u32 r32 => bnd (hm_Ma_answer N u32 p 1 r32) (fun u33 _ => some (u33, ())))))) _) (bnd (bnd (fm_M_lengthOf N w3 x) (fun u21 r21 => br (decide (r21 = (-1))) (bnd (fr_M_error N u21 11) (fun u24 _ => some (u24, ()))) (bnd (fm_M_term N u21 0 r21) (fun u22 r22 => bnd (fm_M_put N u22 r22) (fun u23 _ => some (u23, ())))))) _)
    refine l_bb (r_bb ?_)
    refine pp_bb (pp_mo (len_pp (N := N) (v := pq p 2) rfl hp3 g hU g' hU (by omega) x33' is q) (fun m4 r4 w4 r5 h => ?_))
    obtain ⟨⟨rfl, rfl⟩, rfl, rfl | ⟨k, rfl, k5, -⟩⟩ := h
    · rw [show decide (I (-1) = -1) = true from rfl, br_t, br_t]
      simp only [bb_e, bnd_so]
      exact bad
    · rw [show decide (I ((k : Nat) : Int) = -1) = false from by rw [show (-1 : Int32) = I (-1) from rfl, decE (by omega) (by omega) (by omega) (by omega), decide_eq_false (by omega)], br_f, br_f, show hm_Te_make N m4 0 (I ((k : Nat) : Int)) = some (m4, mk 0 ((k : Nat) : Int)) from rfl, bnd_so, show fm_M_term N w4 0 (I ((k : Nat) : Int)) = some (w4, mk 0 ((k : Nat) : Int)) from rfl, bnd_so]
      simp only [bb_e, bnd_so]
      exact ans _ _ (lit_b (Or.inl rfl) (fun c => by omega) ⟨by omega, by omega⟩)
  · rw [pm28, pr29]
    refine all _ _ ?_
    show PP Q (bnd (br (decide (I (so t) = 5)) (ck (inb (t.toInt32) 512) (bnd (hm_Te_make N m 0 ((m.2.2.2 (pq p 2) (t.toInt32).toNatClampNeg).toInt32)) (fun u23 r23 => bnd (hm_Ma_answer N u23 p 1 r23) (fun u24 _ => some (u24, ()))))) (bnd (hm_Ma_wrong N m p 11) (fun u25 _ => some (u25, ())))) _) (bnd (br (decide (I (so t) = 5)) (bnd (fm_M_valueOf N w3 x) (fun u6 r6 => bnd (fm_M_cell N u6 (w3.1 133) r6) (fun u7 r7 => bnd (fm_M_term N u7 0 (r7.toInt32)) (fun u8 r8 => bnd (fm_M_put N u8 r8) (fun u9 _ => some (u9, ())))))) (bnd (fr_M_error N w3 11) (fun u10 _ => some (u10, ())))) _)
    rw [show decide (I (so t) = 5) = decide (so t = 5) by rw [show (5 : Int32) = I 5 from rfl, decE (so_r _).1 (so_r _).2 (by omega) (by omega)]]
    by_cases e5 : so t = 5
    · obtain ⟨k, ⟨x5, v1, v2, v3, v4⟩, k1, k2, -, -⟩ := TP_tup2 is g g' q e5
      rw [decide_eq_true e5, br_t, br_t, valI, v1, (I_inb (by omega) (by omega)).mpr ⟨by omega, by omega⟩, ck_t, tnI (n := vn t) rfl (by omega), valI, k1, show hm_Te_make N m 0 (I ((k : Nat) : Int)) = some (m, mk 0 ((k : Nat) : Int)) from rfl, bnd_so, valueOf_e, bnd_so, v3, I_F' x33', cell_e (by omega) (by omega), bnd_so, hp3, valI, k2, show fm_M_term N w3 0 (I ((k : Nat) : Int)) = some (w3, mk 0 ((k : Nat) : Int)) from rfl, bnd_so]
      simp only [bb_e, bnd_so]
      exact ans _ _ (lit_b (Or.inl rfl) (fun c => by omega) ⟨by omega, by omega⟩)
    · rw [decide_eq_false e5, br_f, br_f]
      simp only [bb_e, bnd_so]
      exact bad
/-- element -/
theorem op_elem (hp1 : p < 24) (ru : RUs m w p j nb Hs Os y a n) (hW : W + 2 ≤ 46000) (hl : F m (pq p 45) = ((l : Nat) : Int)) (hl2 : W + 2 ≤ l ∧ l ≤ 1000000) (pl : PLs b p m w1 U B (W + 2) Y) (g1 : FGw p j w w1) (h98 : A w1 98 (60 * p + j) = ((n + 1 : Nat) : Int)) (g : HPc (m.2.2.2 (pq p 2)) U ow kd Fv P) (g' : HP (hp w1 p) U ow' kd' Fv' P') (gt : GT U ow kd P (m.2.2.2 (pq p 35) (W + 1))) (gt' : GT U ow' kd' P' (w1.2.2.2 91 (46000 * p + (W + 1)))) (cr : ∃ f, CRs (A m 23) (ROs w) (w.2.2.2 34) f y (a + 2) (n + 1) (Hs j) (Os j))
    (c : ∀ m3 w3, PLs b p m3 w3 U B (W + 1) Y → RUs m3 w3 p j nb Hs Os y (a + 2) (n + 1) → FGm p m m3 → FGw p j w w3 → PP Q (K1 m3) (K2 w3))
    (kX : ∀ w3, PLs b p (wi m (pq p 26) ((W : Nat) : Int)) w3 U B W Y → FGw p j w w3 → (w3.2.2.2 88 = w1.2.2.2 88 ∧ w3.1 140 = w1.1 140) → PP Q (K1 (tld m 1 (-1) (mk 1 11))) (bnd (fr_M_error N w3 11) (fun u _ => K2 u))) : PP Q (bnd (hm_Ma_predefined N m p (I 27)) (fun u _ => K1 u)) (bnd (fm_M_predefinedRun N w1 (I 28)) (fun u _ => K2 u)) := by
  obtain ⟨-, ⟨r2, -⟩, -, -, -, -, r11, -, -⟩ := id ru
  have cb2 : a + 2 + 1 < 24000 := by
    obtain ⟨f9, cr9⟩ := cr
    exact (CR_b cr9).1
  have x33 : F w1 133 = ((p : Nat) : Int) := by rw [FR.F g1.1 (by simp)]; exact r11
  have hU := pl.1.1.2.2
  have rt := pl.2.2.1.2.2 (W + 1) (by omega)
  have rti := pl.2.2.1.2.2 W (by omega)
  have be0 : hm_Fr_below N m p 0 = some (m, m.2.2.2 (pq p 35) (W + 1)) := below_e (N := N) (x := 0) (k := 0) (W := W + 2) (l := l) pl.2.2.1.1 hl hl2.1 hl2.2 rfl (by omega)
  have be1 : hm_Fr_below N m p 1 = some (m, m.2.2.2 (pq p 35) W) := below_e (N := N) (x := 1) (k := 1) (W := W + 2) (l := l) pl.2.2.1.1 hl hl2.1 hl2.2 rfl (by omega)
  have is := pl.1.2.1
  have pd0 := PLs_drop (k := 2) (W := W) pl (by omega)
  have pd : PLs b p (wi m (pq p 26) ((W : Nat) : Int)) (wa (wa w1 92 p ((W + 1 : Nat) : Int)) 92 p ((W : Nat) : Int)) U B W Y := PLs_cg pd0 (fun _ _ => rfl) (fun _ _ => rfl) (fun _ _ => rfl) (fun _ _ => rfl) (fun _ _ => rfl) (fun k hk => by
    by_cases c : k = 92
    · subst c
      rw [wa_s1, wa_s1]
    · rw [wa_at (by omega), wa_at (by omega), wa_at (by omega)]) (fun _ _ => rfl) (fun _ _ => rfl) (fun _ _ => rfl) (fun _ _ => rfl)
  have hp3 : hp (wa (wa w1 92 p ((W + 1 : Nat) : Int)) 92 p ((W : Nat) : Int)) p = hp w1 p := rfl
  have x33' : F (wa (wa w1 92 p ((W + 1 : Nat) : Int)) 92 p ((W : Nat) : Int)) 133 = ((p : Nat) : Int) := x33
  have y33 : F (wa w1 92 p ((W + 1 : Nat) : Int)) 133 = ((p : Nat) : Int) := x33
  have y92 : A (wa w1 92 p ((W + 1 : Nat) : Int)) 92 p = ((W + 1 : Nat) : Int) := wa_sm (by omega) (by omega)
  have g3 : FGw p j w (wa (wa w1 92 p ((W + 1 : Nat) : Int)) 92 p ((W : Nat) : Int)) := FGw.tr (FGw.tr g1 FGw.w92) FGw.w92
  have h983 : A (wa (wa w1 92 p ((W + 1 : Nat) : Int)) 92 p ((W : Nat) : Int)) 98 (60 * p + j) = ((n + 1 : Nat) : Int) := by rw [wa_rne (by omega), wa_rne (by omega)]; exact h98
  have j91 : (wa w1 92 p ((W + 1 : Nat) : Int)).2.2.2 91 (46000 * p + W) = w1.2.2.2 91 (46000 * p + W) := rfl
  generalize hw3 : wa (wa w1 92 p ((W + 1 : Nat) : Int)) 92 p ((W : Nat) : Int) = w3 at pd hp3 x33' g3 h983
  generalize ht : m.2.2.2 (pq p 35) (W + 1) = t at rt be0 gt
  generalize hx : w1.2.2.2 91 (46000 * p + (W + 1)) = x at rt gt'
  generalize hti : m.2.2.2 (pq p 35) W = ti at rti be1
  generalize hxi : w1.2.2.2 91 (46000 * p + W) = xi at rti j91
  have q : TPb b U ow kd P U ow' kd' P' t x := ⟨rt, gt, gt'⟩
  have ans : ∀ t2 x2 : Int64, RTb b t2 x2 → PP Q (bnd (hm_Ma_answer N m p 2 t2) (fun u _ => bnd (hb_Ma_predefined_146 N () u p) (fun u _ => K1 u))) (bnd (fm_M_put N w3 x2) (fun u _ => K2 u)) := fun t2 x2 h => by
    unfold hm_Ma_answer hb_Ma_answer_0
    rw [show (2 : Int32) = I 2 from rfl, drop_e (W := W + 2) (k := 2) (x := 2) pl.2.2.1.1 rfl (by omega), bnd_so, Nat.add_sub_cancel]
    simp only [bb_e, bnd_so]
    exact pre_pp (l := l) hp1 ru (by omega) ⟨by omega, hl2.2⟩ h FGm.drop g3 pd (by rw [wi_ne (pq_inj (by omega))]; exact hl) h983 (by rw [wi_ne (pq_n (by omega))]; exact r2) (by omega) cr c
  have bad : PP Q (bnd (hm_Ma_wrong N m p 11) (fun u _ => bnd (hb_Ma_predefined_146 N () u p) (fun u _ => K1 u))) (bnd (fr_M_error N w3 11) (fun u _ => K2 u)) := by
    rw [wrong_e9, bnd_so, pre_tl ⟨by omega, by omega⟩ (by omega), bnd_so]
    exact kX w3 pd g3 ⟨by rw [← hw3]; rfl, by rw [← hw3]; rfl⟩
  rw [pm27, pr28]
  unfold ptM ptW
  rw [be0, bnd_so, e_tag, bnd_so]
  refine l_bb (r_bb ?_)
  refine rb_bnd (pk_mo (take_r (N := N) (W := W + 1) hp1 x33 pl.2.2.1.2.1 (by omega)) (fun w4 r e => ?_))
  obtain ⟨rfl, rfl⟩ := e
  rw [hx, sortOf_e, bnd_so, RTb_so rt]
  refine rb_bnd (pk_mo (take_r (N := N) (W := W) hp1 y33 y92 (by omega)) (fun w5 r e => ?_))
  obtain ⟨rfl, rfl⟩ := e
  rw [hw3, j91, sortOf_e, bnd_so, RTb_so rti]
  have d5 : decide (I (so t) = 5) = decide (so t = 5) := by rw [show (5 : Int32) = I 5 from rfl, decE (so_r _).1 (so_r _).2 (by omega) (by omega)]
  have d0 : decide (I (so ti) = 0) = decide (so ti = 0) := by rw [lit0, decE (so_r _).1 (so_r _).2 (by omega) (by omega)]
  dsimp only
  rw [d5, d0]
  by_cases e5 : so t = 5
  · obtain ⟨k, ⟨x5, v1, v2, v3, v4⟩, k1, k2, k3, k4⟩ := TP_tup2 is g g' q e5
    rw [decide_eq_true e5, br_t, br_t, valI, v1, (I_inb (by omega) (by omega)).mpr ⟨by omega, by omega⟩, ck_t, be1, bnd_so, e_tag, bnd_so, d0]
    by_cases e0 : so ti = 0
    · have xt : xi = ti := RTb_n rti (by unfold isH; omega)
      have vr := va_r ti
      rw [decide_eq_true e0, br_t, br_t, valueOf_e, bnd_so, xt, valI]
      have d1 : decide (I (va ti) < 1) = decide (va ti < 1) := by
        rw [lit1]
        exact decide_eq_decide.mpr (I_lt vr.1 vr.2 (by omega) (by omega))
      rw [d1]
      by_cases e1 : va ti < 1
      · rw [decide_eq_true e1, br_t, br_t]
        simp only [bb_e, bnd_so]
        exact bad
      · rw [decide_eq_false e1, br_f, br_f, valueOf_e, bnd_so, valueOf_e, bnd_so, v3, I_F' x33', cell_e (by omega) (by omega), bnd_so, hp3, tnI (n := vn t) rfl (by omega), valI, k1, decI vr.1 vr.2 (by omega) (by omega)]
        have dl : decide (lg_cmp (I (va ti)).toInt64 (hp w1 p (vn x)) ≤ 0) = decide (va ti ≤ ((k : Nat) : Int)) := by
          rw [lg_leD, toI64, k3, I_ti vr.1 vr.2]
        rw [dl]
        by_cases e2 : va ti ≤ ((k : Nat) : Int)
        · obtain ⟨z, hz⟩ : ∃ z : Nat, va ti = ((z : Nat) : Int) := ⟨(va ti).toNat, by omega⟩
          rw [decide_eq_true e2, br_t, br_t, hz, addN, (I_inb (by omega) (by omega)).mpr ⟨by omega, by omega⟩, ck_t, tnI (n := vn t + z) rfl (by omega), valueOf_e, bnd_so, v3, valueOf_e, bnd_so, hz, addN, I_F' x33', cell_e (by omega) (by omega), bnd_so, hp3]
          simp only [bb_e, bnd_so]
          have := (k4 (z - 1) (by omega)).1
          rw [show vn t + 1 + (z - 1) = vn t + z by omega, show vn x + 1 + (z - 1) = vn x + z by omega] at this
          exact ans _ _ this
        · rw [decide_eq_false e2, br_f, br_f]
          simp only [bb_e, bnd_so]
          exact bad
    · rw [decide_eq_false e0, br_f, br_f]
      simp only [bb_e, bnd_so]
      exact bad
  · rw [decide_eq_false e5, br_f]
    by_cases e0 : so ti = 0
    · rw [decide_eq_true e0, br_t, br_f]
      simp only [bb_e, bnd_so]
      exact bad
    · rw [decide_eq_false e0, br_f]
      simp only [bb_e, bnd_so]
      exact bad
end
