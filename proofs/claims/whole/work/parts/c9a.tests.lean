/-! what is PREDEFINED: answers, tests -/
set_option maxRecDepth 100000
def tsB (N : Nat) (u : MS) (p : Nat) (z : Int32) : Option (MS × Unit) := bnd (hm_Ma_truth N u z) (fun u1 r1 => bnd (hm_Ma_answer N u1 p 1 r1) (fun u2 _ => some (u2, ())))
def tsR (N : Nat) (u : MS) (z : Int32) : Option (MS × Unit) := bnd (fm_M_truth N u z) (fun u2 r2 => bnd (fm_M_put N u2 r2) (fun u3 _ => some (u3, ())))
/-- a test, there and here -/
def tsM (N : Nat) (u : MS) (p : Nat) (F : Int32 → (Int32 → Option (MS × Unit)) → Option (MS × Unit)) : Option (MS × Unit) := bnd (bnd (hm_Fr_below N u p 0) (fun u16 r16 => bnd (hm_Te_tag N u16 r16) (fun u18 r18 => F r18 (tsB N u18 p)))) (fun u6 _ => hb_Ma_predefined_146 N () u6 p)
def tsW (N : Nat) (u : MS) (F : Int32 → (Int32 → Option (MS × Unit)) → Option (MS × Unit)) : Option (MS × Unit) := bnd (bnd (fm_M_take N u) (fun u4 r4 => bnd (fm_M_sortOf N u4 r4) (fun u5 r5 => F r5 (tsR N u5)))) (fun u _ => some (u, ()))
def tsF (c : Int32) (s : Int32) (k : Int32 → Option (MS × Unit)) : Option (MS × Unit) := br (decide (s = c)) (k 1) (k 0)
def tsL (s : Int32) (k : Int32 → Option (MS × Unit)) : Option (MS × Unit) := br (decide (s = 6)) (k 1) (br (decide (s = 7)) (k 1) (k 0))
section
variable {N p : Nat} {u w : MS} {t : Int64} {s : Int32}
theorem pm17 : hm_Ma_predefined N u p (I 17) = tsM N u p (tsF 0) := rfl
theorem pm18 : hm_Ma_predefined N u p (I 18) = tsM N u p (tsF 1) := rfl
theorem pm19 : hm_Ma_predefined N u p (I 19) = tsM N u p tsL := rfl
theorem pm20 : hm_Ma_predefined N u p (I 20) = tsM N u p (tsF 5) := rfl
theorem pm21 : hm_Ma_predefined N u p (I 21) = tsM N u p (tsF 3) := rfl
theorem pm22 : hm_Ma_predefined N u p (I 22) = tsM N u p (tsF 4) := rfl
theorem pm23 : hm_Ma_predefined N u p (I 23) = tsM N u p (tsF 2) := rfl
theorem pr18 : fm_M_predefinedRun N w (I 18) = tsW N w (tsF 0) := rfl
theorem pr19 : fm_M_predefinedRun N w (I 19) = tsW N w (tsF 1) := rfl
theorem pr20 : fm_M_predefinedRun N w (I 20) = tsW N w tsL := rfl
theorem pr21 : fm_M_predefinedRun N w (I 21) = tsW N w (tsF 5) := rfl
theorem pr22 : fm_M_predefinedRun N w (I 22) = tsW N w (tsF 3) := rfl
theorem pr23 : fm_M_predefinedRun N w (I 23) = tsW N w (tsF 4) := rfl
theorem pr24 : fm_M_predefinedRun N w (I 24) = tsW N w (tsF 2) := rfl
/-- parts of lists and TUPLES, there and here -/
def ptM (N : Nat) (u : MS) (p : Nat) (F : MS → Int64 → Int32 → Option (MS × Unit)) : Option (MS × Unit) := bnd (bnd (hm_Fr_below N u p 0) (fun u16 r16 => bnd (hm_Te_tag N u16 r16) (fun u18 r18 => bnd (F u18 r16 r18) (fun u19 _ => some (u19, ()))))) (fun u6 _ => hb_Ma_predefined_146 N () u6 p)
def ptW (N : Nat) (u : MS) (F : MS → Int64 → Int32 → Option (MS × Unit)) : Option (MS × Unit) := bnd (bnd (fm_M_take N u) (fun u4 r4 => bnd (fm_M_sortOf N u4 r4) (fun u5 r5 => F u5 r4 r5))) (fun u _ => some (u, ()))
theorem pm24 : hm_Ma_predefined N u p (I 24) = ptM N u p (fun u t s => br (decide (s = 7)) (ck (inb (t.toInt32) 512) (bnd (hm_Ma_answer N u p 1 (u.2.2.2 (pq p 2) (t.toInt32).toNatClampNeg)) (fun u4 _ => some (u4, ())))) (bnd (hm_Ma_wrong N u p 11) (fun u25 _ => some (u25, ())))) := rfl
theorem pm25 : hm_Ma_predefined N u p (I 25) = ptM N u p (fun u t s => br (decide (s = 7)) (ck (inb (t.toInt32 + 1) 512) (bnd (hm_Ma_answer N u p 1 (u.2.2.2 (pq p 2) (t.toInt32 + 1).toNatClampNeg)) (fun u4 _ => some (u4, ())))) (bnd (hm_Ma_wrong N u p 11) (fun u25 _ => some (u25, ())))) := rfl
theorem pm26 : hm_Ma_predefined N u p (I 26) = ptM N u p (fun u t s => bnd (hm_Te_listLength N u (pq p 2) t) (fun u30 r30 => br (decide (r30 = (-1))) (bnd (hm_Ma_wrong N u30 p 11) (fun u34 _ => some (u34, ()))) (bnd (hm_Te_make N u30 0 r30) (fun u32 r32 => bnd (hm_Ma_answer N u32 p 1 r32) (fun u33 _ => some (u33, ())))))) := rfl
theorem pm28 : hm_Ma_predefined N u p (I 28) = ptM N u p (fun u t s => br (decide (s = 5)) (ck (inb (t.toInt32) 512) (bnd (hm_Te_make N u 0 ((u.2.2.2 (pq p 2) (t.toInt32).toNatClampNeg).toInt32)) (fun u23 r23 => bnd (hm_Ma_answer N u23 p 1 r23) (fun u24 _ => some (u24, ()))))) (bnd (hm_Ma_wrong N u p 11) (fun u25 _ => some (u25, ())))) := rfl
theorem pm27 : hm_Ma_predefined N u p (I 27) = ptM N u p (fun u t s => br (decide (s = 5)) (ck (inb (t.toInt32) 512) (bnd (hm_Fr_below N u p 1) (fun u14 r14 => bnd (hm_Te_tag N u14 r14) (fun u16 r16 => br (decide (r16 = 0)) (br (decide (r14.toInt32 < 1)) (bnd (hm_Ma_wrong N u16 p 11) (fun u1 _ => some (u1, ()))) (br (decide (r14.toInt32 ≤ (u.2.2.2 (pq p 2) (t.toInt32).toNatClampNeg).toInt32)) (ck (inb (t.toInt32 + r14.toInt32) 512) (bnd (hm_Ma_answer N u16 p 2 (u16.2.2.2 (pq p 2) (t.toInt32 + r14.toInt32).toNatClampNeg)) (fun u22 _ => some (u22, ())))) (bnd (hm_Ma_wrong N u16 p 11) (fun u1 _ => some (u1, ()))))) (bnd (hm_Ma_wrong N u16 p 11) (fun u1 _ => some (u1, ()))))))) (bnd (hm_Ma_wrong N u p 11) (fun u25 _ => some (u25, ())))) := rfl
theorem pr25 : fm_M_predefinedRun N w (I 25) = ptW N w (fun u t s => br (decide (s = 7)) (bnd (fm_M_valueOf N u t) (fun u25 r25 => bnd (fm_M_cell N u25 (u.1 133) ((r25 + (I 25 - 18)) - 7)) (fun u26 r26 => bnd (fm_M_put N u26 r26) (fun u27 _ => some (u27, ()))))) (bnd (fr_M_error N u 11) (fun u28 _ => some (u28, ())))) := rfl
theorem pr26 : fm_M_predefinedRun N w (I 26) = ptW N w (fun u t s => br (decide (s = 7)) (bnd (fm_M_valueOf N u t) (fun u25 r25 => bnd (fm_M_cell N u25 (u.1 133) ((r25 + (I 26 - 18)) - 7)) (fun u26 r26 => bnd (fm_M_put N u26 r26) (fun u27 _ => some (u27, ()))))) (bnd (fr_M_error N u 11) (fun u28 _ => some (u28, ())))) := rfl
theorem pr27 : fm_M_predefinedRun N w (I 27) = ptW N w (fun u t s => bnd (fm_M_lengthOf N u t) (fun u21 r21 => br (decide (r21 = (-1))) (bnd (fr_M_error N u21 11) (fun u24 _ => some (u24, ()))) (bnd (fm_M_term N u21 0 r21) (fun u22 r22 => bnd (fm_M_put N u22 r22) (fun u23 _ => some (u23, ())))))) := rfl
theorem pr28 : fm_M_predefinedRun N w (I 28) = ptW N w (fun u t s => bnd (fm_M_take N u) (fun u11 r11 => bnd (fm_M_sortOf N u11 r11) (fun u12 r12 => br (decide (r12 = 0)) (br (decide (s = 5)) (bnd (fm_M_valueOf N u12 r11) (fun u13 r13 => br (decide (r13 < 1)) (bnd (fr_M_error N u13 11) (fun u1 _ => some (u1, ()))) (bnd (fm_M_valueOf N u13 r11) (fun u14 r14 => bnd (fm_M_valueOf N u14 t) (fun u15 r15 => bnd (fm_M_cell N u15 (u14.1 133) r15) (fun u16 r16 => br (decide ((lg_cmp (r14.toInt64) r16) ≤ 0)) (bnd (fm_M_valueOf N u16 t) (fun u17 r17 => bnd (fm_M_valueOf N u17 r11) (fun u18 r18 => bnd (fm_M_cell N u18 (u16.1 133) (r17 + r18)) (fun u19 r19 => bnd (fm_M_put N u19 r19) (fun u20 _ => some (u20, ())))))) (bnd (fr_M_error N u16 11) (fun u1 _ => some (u1, ()))))))))) (bnd (fr_M_error N u12 11) (fun u1 _ => some (u1, ())))) (bnd (fr_M_error N u12 11) (fun u1 _ => some (u1, ())))))) := rfl
theorem pr29 : fm_M_predefinedRun N w (I 29) = ptW N w (fun u t s => br (decide (s = 5)) (bnd (fm_M_valueOf N u t) (fun u6 r6 => bnd (fm_M_cell N u6 (u.1 133) r6) (fun u7 r7 => bnd (fm_M_term N u7 0 (r7.toInt32)) (fun u8 r8 => bnd (fm_M_put N u8 r8) (fun u9 _ => some (u9, ())))))) (bnd (fr_M_error N u 11) (fun u10 _ => some (u10, ())))) := rfl
theorem wrong_e9 : hm_Ma_wrong N u p 11 = some (tld u 1 (-1) (mk 1 11), ()) := rfl
end
section
variable {α β : Type} {b : Int → Nat → Nat → Prop} {Fv Fv' : Int64 → Int64 → Prop} {P P' : Int64 → Prop} {ow kd ow' kd' : Nat → Nat} {N p U B W Y l j a n : Nat} {m w m2 w1 w2 : MS} {t x : Int64} {nb : Nat → Nat} {Hs Os : Nat → List Nat} {y : Option (Nat × Nat × Nat)} {Q : MS → α → MS → β → Prop} {K1 : MS → Option (MS × α)} {K2 : MS → Option (MS × β)}
/-- it answers, and on -/
theorem pre_pp (hp : p < 24) (ru : RUs m w p j nb Hs Os y a n) (hW : W < 46000) (hl : W ≤ l ∧ l ≤ 1000000) (rt : RTb b t x) (f0 : FGm p m m2) (g0 : FGw p j w w2) (pl2 : PLs b p m2 w2 U B W Y) (h45 : F m2 (pq p 45) = ((l : Nat) : Int)) (h98 : A w2 98 (60 * p + j) = ((n + 1 : Nat) : Int)) (ha : F m2 1105 = ((a : Nat) : Int)) (ha2 : a + 2 < 24000) (cr : ∃ f, CRs (A m 23) (ROs w) (w.2.2.2 34) f y (a + 2) (n + 1) (Hs j) (Os j))
    (c : ∀ m3 w3, PLs b p m3 w3 U B (W + 1) Y → RUs m3 w3 p j nb Hs Os y (a + 2) (n + 1) → FGm p m m3 → FGw p j w w3 → PP Q (K1 m3) (K2 w3)) : PP Q (bnd (hm_Fr_push N m2 p t) (fun u _ => bnd (hb_Ma_predefined_146 N () u p) (fun u _ => K1 u))) (bnd (fm_M_put N w2 x) (fun u _ => K2 u)) := by
  obtain ⟨-, -, -, -, -, ⟨-, r9, -⟩, r11, -, -⟩ := id ru
  have h133 : F w2 133 = ((p : Nat) : Int) := by rw [FR.F g0.1 (by simp)]; exact r11
  refine l_bnd (pk_mo (push_m (N := N) (t := t) pl2.2.2.1.1 h45 hl.1 hl.2) (fun m3 _ h => ?_))
  obtain ⟨h1, h2, h3⟩ := h
  refine r_bnd (pk_mo (put_r (N := N) (x := x) hp h133 pl2.2.2.1.2.1 (by omega)) (fun w3 _ h => ?_))
  subst h
  unfold hb_Ma_predefined_146 hb_Ma_predefined_163
  have e5 : F m3 1105 = ((a : Nat) : Int) := by rw [FR.F h1 (by simp [pq_n])]; exact ha
  have e9 : F m3 1109 = 0 := by rw [FR.F h1 (by simp [pq_n]), FR.F f0 (by simp; unfold pq; omega)]; exact r9
  rw [I_F' e9, show decide (I 0 = 0) = true from rfl, br_t, I_F' e5, show I ((a : Nat) : Int) + 2 = I ((a + 2 : Nat) : Int) from addN, wi_e, lt_e]
  show PP Q (K1 (wi m3 1105 ((a + 2 : Nat) : Int))) (K2 _)
  have pl3 := PLs_pc (z := ((a + 2 : Nat) : Int)) (PLs_push pl2 rt h1 h2 h3)
  have f3 : FGm p m (wi m3 1105 ((a + 2 : Nat) : Int)) := FGm.tr (FGm.tr f0 (FGm.push h1)) FGm.pc
  have g3 : FGw p j w (wa (wj w2 91 (46000 * p + W) x) 92 p ((W + 1 : Nat) : Int)) := FGw.tr g0 (FGw.put hW)
  exact c _ _ pl3 (RUs_mv ru f3 g3 (wi_sm (by omega) (by omega)) (by rw [wa_rne (by omega), A_wj]; exact h98) cr) f3 g3
/-- it has been told that something is wrong: no further, there -/
theorem pre_tl {v0 : Int} (hw : -2147483648 ≤ v0 ∧ v0 < 2147483648) (h0 : v0 ≠ 0) {ar : Int} : hb_Ma_predefined_146 N () (tld m v0 ar t) p = some (tld m v0 ar t, ()) := by
  unfold hb_Ma_predefined_146 hb_Ma_predefined_163
  rw [I_F' (tld_9 (m := m) (ar := ar) (t := t) hw), lit0, decE hw.1 hw.2 (by omega) (by omega), decide_eq_false h0, br_f]
/-- tests of sort -/
theorem op_tests {d k : Int} (hd : (d = 17 ∧ k = 18) ∨ (d = 18 ∧ k = 19) ∨ (d = 19 ∧ k = 20) ∨ (d = 20 ∧ k = 21) ∨ (d = 21 ∧ k = 22) ∨ (d = 22 ∧ k = 23) ∨ (d = 23 ∧ k = 24)) (hp : p < 24) (ru : RUs m w p j nb Hs Os y a n) (hW : W + 1 ≤ 46000) (hl : F m (pq p 45) = ((l : Nat) : Int)) (hl2 : W + 1 ≤ l ∧ l ≤ 1000000) (pl : PLs b p m w1 U B (W + 1) Y) (g1 : FGw p j w w1) (h98 : A w1 98 (60 * p + j) = ((n + 1 : Nat) : Int)) (cr : ∃ f, CRs (A m 23) (ROs w) (w.2.2.2 34) f y (a + 2) (n + 1) (Hs j) (Os j))
    (c : ∀ m3 w3, PLs b p m3 w3 U B (W + 1) Y → RUs m3 w3 p j nb Hs Os y (a + 2) (n + 1) → FGm p m m3 → FGw p j w w3 → PP Q (K1 m3) (K2 w3)) : PP Q (bnd (hm_Ma_predefined N m p (I d)) (fun u _ => K1 u)) (bnd (fm_M_predefinedRun N w1 (I k)) (fun u _ => K2 u)) := by
  obtain ⟨-, ⟨r2, -⟩, -, -, -, -, r11, -, -⟩ := id ru
  have cb2 : a + 2 + 1 < 24000 := by
    obtain ⟨f9, cr9⟩ := cr
    exact (CR_b cr9).1
  have x33 : F w1 133 = ((p : Nat) : Int) := by rw [FR.F g1.1 (by simp)]; exact r11
  have rt := pl.2.2.1.2.2 W (by omega)
  have be : hm_Fr_below N m p 0 = some (m, m.2.2.2 (pq p 35) W) := by
    have := below_e (N := N) (x := 0) (k := 0) (W := W + 1) (l := l) pl.2.2.1.1 hl hl2.1 hl2.2 rfl (by omega)
    rw [show W + 1 - 1 - 0 = W by omega] at this
    exact this
  have pd := PLs_drop (k := 1) (W := W) pl (by omega)
  have core : ∀ z : Int32, z = 1 ∨ z = 0 → PP Q (bnd (tsB N m p z) (fun u _ => bnd (hb_Ma_predefined_146 N () u p) (fun u _ => K1 u))) (bnd (tsR N (wa w1 92 p ((W : Nat) : Int)) z) (fun u _ => K2 u)) := fun z hz => by
    obtain ⟨v, e1, e2, hv⟩ : ∃ v : Int, hm_Ma_truth N m z = some (m, mk 1 v) ∧ fm_M_truth N (wa w1 92 p ((W : Nat) : Int)) z = some (wa w1 92 p ((W : Nat) : Int), mk 1 v) ∧ (v = 0 ∨ v = 1) := by
      rcases hz with rfl | rfl
      · exact ⟨0, rfl, rfl, Or.inl rfl⟩
      · exact ⟨1, rfl, rfl, Or.inr rfl⟩
    unfold tsB tsR hm_Ma_answer hb_Ma_answer_0
    rw [e1, bnd_so, e2, bnd_so, show (1 : Int32) = I 1 from rfl, drop_e (W := W + 1) (k := 1) (x := 1) pl.2.2.1.1 rfl (by omega), bnd_so, Nat.add_sub_cancel]
    simp only [bb_e, bnd_so]
    exact pre_pp (l := l) hp ru (by omega) ⟨by omega, hl2.2⟩ (lit_b (by omega) (fun h => by omega) ⟨by omega, by omega⟩) FGm.drop (FGw.tr g1 FGw.w92) pd (by rw [wi_ne (pq_inj (by omega))]; exact hl) (by rw [wa_rne (by omega)]; exact h98) (by rw [wi_ne (pq_n (by omega))]; exact r2) (by omega) cr c
  have all : ∀ G : Int32 → (Int32 → Option (MS × Unit)) → Option (MS × Unit), (∀ s : Int32, (∀ k, G s k = k 1) ∨ (∀ k, G s k = k 0)) → PP Q (bnd (tsM N m p G) (fun u _ => K1 u)) (bnd (tsW N w1 G) (fun u _ => K2 u)) := fun G hG => by
    unfold tsM tsW
    rw [be, bnd_so, e_tag, bnd_so]
    refine l_bb (r_bb ?_)
    refine rb_bnd (pk_mo (take_r (N := N) (W := W) hp x33 pl.2.2.1.2.1 (by omega)) (fun w3 r e => ?_))
    obtain ⟨rfl, rfl⟩ := e
    rw [sortOf_e, bnd_so, RTb_so rt]
    rcases hG (I (so (m.2.2.2 (pq p 35) W))) with h | h
    · rw [h, h]
      exact core 1 (Or.inl rfl)
    · rw [h, h]
      exact core 0 (Or.inr rfl)
  have hF : ∀ c s : Int32, (∀ k, tsF c s k = k 1) ∨ (∀ k, tsF c s k = k 0) := fun c s => by
    by_cases e : s = c
    · exact Or.inl (fun k => by unfold tsF; rw [decide_eq_true e, br_t])
    · exact Or.inr (fun k => by unfold tsF; rw [decide_eq_false e, br_f])
  have hL : ∀ s : Int32, (∀ k, tsL s k = k 1) ∨ (∀ k, tsL s k = k 0) := fun s => by
    by_cases e : s = 6
    · exact Or.inl (fun k => by unfold tsL; rw [decide_eq_true e, br_t])
    · by_cases e2 : s = 7
      · exact Or.inl (fun k => by unfold tsL; rw [decide_eq_false e, br_f, decide_eq_true e2, br_t])
      · exact Or.inr (fun k => by unfold tsL; rw [decide_eq_false e, br_f, decide_eq_false e2, br_f])
  rcases hd with ⟨rfl, rfl⟩ | ⟨rfl, rfl⟩ | ⟨rfl, rfl⟩ | ⟨rfl, rfl⟩ | ⟨rfl, rfl⟩ | ⟨rfl, rfl⟩ | ⟨rfl, rfl⟩
  · rw [pm17, pr18]; exact all _ (hF 0)
  · rw [pm18, pr19]; exact all _ (hF 1)
  · rw [pm19, pr20]; exact all _ hL
  · rw [pm20, pr21]; exact all _ (hF 5)
  · rw [pm21, pr22]; exact all _ (hF 3)
  · rw [pm22, pr23]; exact all _ (hF 4)
  · rw [pm23, pr24]; exact all _ (hF 2)
end
