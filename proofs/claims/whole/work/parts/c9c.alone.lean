/-! what is PREDEFINED: what needs no other process -/
set_option maxRecDepth 100000
section
variable {N p : Nat} {u w m : MS} {t : Int64} {z : Int32}
theorem pm0 : hm_Ma_predefined N u p (I 0) = bnd (bnd (hm_Fr_below N u p 0) (fun u11 _ => bnd (hm_Te_make N u11 4 (Int32.ofNat p)) (fun u16 r16 => bnd (hm_Ma_answer N u16 p 0 r16) (fun u17 _ => some (u17, ()))))) (fun u4 _ => hb_Ma_predefined_146 N () u4 p) := rfl
theorem pr0 : fm_M_predefinedRun N w (I 0) = bnd (fm_M_term N w 4 (w.1 133)) (fun u3 r3 => bnd (fm_M_put N u3 r3) (fun u4 _ => some (u4, ()))) := rfl
theorem pm16 : hm_Ma_predefined N u p (I 16) = bnd (bnd (hm_Fr_below N u p 0) (fun u11 _ => bnd (hm_Te_make N u11 0 (u11.1 944)) (fun u16 r16 => bnd (hm_Ma_answer N u16 p 0 r16) (fun u17 _ => some (u17, ()))))) (fun u4 _ => hb_Ma_predefined_146 N () u4 p) := rfl
theorem pr17 : fm_M_predefinedRun N w (I 17) = bnd (fm_M_term N w 0 (w.1 120)) (fun u3 r3 => bnd (fm_M_put N u3 r3) (fun u4 _ => some (u4, ()))) := rfl
theorem pm11 : hm_Ma_predefined N u p (I 11) = bnd (bnd (hm_Fr_below N u p 0) (fun u11 _ => bnd (hm_Te_make N u11 2 (u11.1 945)) (fun u42 r42 => bnd (hm_Ma_answer N u42 p 0 r42) (fun u43 _ => lt (upI u43 945 ((u43.1 945) + 1)) (fun w47 => some (w47, ())))))) (fun u4 _ => hb_Ma_predefined_146 N () u4 p) := rfl
theorem pr12 : fm_M_predefinedRun N w (I 12) = bnd (fm_M_term N w 2 (w.1 121)) (fun u3 r3 => bnd (fm_M_put N u3 r3) (fun u4 _ => lt (upI u4 121 ((u4.1 121) + 1)) (fun w5 => some (w5, ())))) := rfl
theorem pm7 : hm_Ma_predefined N u p (I 7) = bnd (bnd (hm_Fr_below N u p 0) (fun u11 r11 => bnd (hm_Ma_tell N u11 p 2 (-1) r11) (fun u35 _ => some (u35, ())))) (fun u4 _ => hb_Ma_predefined_146 N () u4 p) := rfl
theorem pm8 : hm_Ma_predefined N u p (I 8) = bnd (bnd (hm_Fr_below N u p 0) (fun u11 r11 => bnd (hm_Ma_tell N u11 p 3 (-1) r11) (fun u35 _ => some (u35, ())))) (fun u4 _ => hb_Ma_predefined_146 N () u4 p) := rfl
theorem pm9 : hm_Ma_predefined N u p (I 9) = bnd (bnd (hm_Fr_below N u p 0) (fun u11 r11 => bnd (hm_Ma_tell N u11 p 1 (-1) r11) (fun u35 _ => some (u35, ())))) (fun u4 _ => hb_Ma_predefined_146 N () u4 p) := rfl
theorem pr7 : fm_M_predefinedRun N w (I 7) = bnd (fm_M_take N w) (fun u16 r16 => bnd (fr_M_goesUp N u16 1 r16) (fun u2 _ => some (u2, ()))) := rfl
theorem pr9 : fm_M_predefinedRun N w (I 9) = bnd (fm_M_take N w) (fun u16 r16 => bnd (fr_M_goesUp N u16 2 r16) (fun u2 _ => some (u2, ()))) := rfl
theorem pr10 : fm_M_predefinedRun N w (I 10) = bnd (fm_M_take N w) (fun u16 r16 => bnd (fr_M_goesUp N u16 0 r16) (fun u2 _ => some (u2, ()))) := rfl
theorem pm6 : hm_Ma_predefined N u p (I 6) = bnd (bnd (hm_Fr_below N u p 0) (fun u11 r11 => bnd (hm_Ma_atom N u11 0) (fun u32 r32 => br (decide ((lg_cmp r11 r32) = 0)) (hb_Ma_alone_183 N () u32 p (r11)) (bnd (hm_Ma_atom N u32 1) (fun u33 r33 => br (decide ((lg_cmp r11 r33) = 0)) (hb_Ma_alone_183 N () u33 p (r11)) (bnd (hm_Ma_wrong N u33 p 11) (fun u34 _ => some (u34, ())))))))) (fun u4 _ => hb_Ma_predefined_146 N () u4 p) := rfl
theorem pr6 : fm_M_predefinedRun N w (I 6) = bnd (fm_M_take N w) (fun u10 r10 => bnd (fm_M_isTruth N u10 r10) (fun u11 r11 => br (decide (r11 = 0)) (bnd (fr_M_error N u11 11) (fun u12 _ => some (u12, ()))) (ck (inb (u11.1 133) (ln 112)) (bnd (fm_M_truth N u11 (u11.2.2.1 112 (u11.1 133).toNatClampNeg)) (fun u13 r13 => bnd (fm_M_put N u13 r13) (fun u14 _ => bnd (fm_M_truth N u14 1) (fun u15 r15 => br (decide ((lg_cmp r10 r15) = 0)) (fb_M_predefinedRun_251 N () u15 (112) ((u14.1 133)) (1)) (fb_M_predefinedRun_251 N () u15 (112) ((u14.1 133)) (0))))))))) := rfl
theorem bel_k {v : Int32} : PK (fun u2 _ => u2 = m) (hm_Fr_below N m p v) := by
  unfold hm_Fr_below hb_Fr_below_0 hb_Fr_below_23
  exact pk_br (fun _ => pk_ck (fun _ => pk_some rfl)) (fun _ => pk_some rfl)
theorem truth_z : ∃ v : Int, (v = 0 ∨ v = 1) ∧ ∀ u w : MS, hm_Ma_truth N u z = some (u, mk 1 v) ∧ fm_M_truth N w z = some (w, mk 1 v) := by
  by_cases e : z = 0
  · subst e
    exact ⟨1, Or.inr rfl, fun _ _ => ⟨rfl, rfl⟩⟩
  · refine ⟨0, Or.inl rfl, fun u w => ⟨?_, ?_⟩⟩
    · unfold hm_Ma_truth hb_Ma_truth_0
      rw [decide_eq_false e, br_f]
      rfl
    · unfold fm_M_truth fb_M_truth_0
      rw [decide_eq_false e, br_f]
      rfl
end
section
variable {α β : Type} {b : Int → Nat → Nat → Prop} {Fv Fv' : Int64 → Int64 → Prop} {P P' : Int64 → Prop} {ow kd ow' kd' : Nat → Nat} {N p U B W Y l j a n : Nat} {m w w1 m2 : MS} {nb : Nat → Nat} {Hs Os : Nat → List Nat} {y : Option (Nat × Nat × Nat)} {Q : MS → α → MS → β → Prop} {K1 : MS → Option (MS × α)} {K2 : MS → Option (MS × β)}
theorem PLs_d0 (pl : PLs b p m w U B W Y) : PLs b p (wi m (pq p 26) ((W : Nat) : Int)) w U B W Y := PLs_cg pl (fun k hk => by
  by_cases c : k = 26
  · subst c
    rw [wi_s1]
    exact (I_F' pl.2.2.1.1).symm
  · rw [wi_1 (pq_inj c)]) (fun _ _ => rfl) (fun _ _ => rfl) (fun _ _ => rfl) (fun _ _ => rfl) (fun _ _ => rfl) (fun _ _ => rfl) (fun _ _ => rfl) (fun _ _ => rfl) (fun _ _ => rfl)
/-- self, now -/
theorem op_here {d k : Int} (hd : (d = 0 ∧ k = 0) ∨ (d = 16 ∧ k = 17)) (hp1 : p < 24) (ru : RUs m w p j nb Hs Os y a n) (hc : m.1 944 = w.1 120) (hW : W < 46000) (hl : F m (pq p 45) = ((l : Nat) : Int)) (hl2 : W ≤ l ∧ l ≤ 1000000) (pl : PLs b p m w1 U B W Y) (g1 : FGw p j w w1) (h98 : A w1 98 (60 * p + j) = ((n + 1 : Nat) : Int)) (cr : ∃ f, CRs (A m 23) (ROs w) (w.2.2.2 34) f y (a + 2) (n + 1) (Hs j) (Os j))
    (c : ∀ m3 w3, PLs b p m3 w3 U B (W + 1) Y → RUs m3 w3 p j nb Hs Os y (a + 2) (n + 1) → FGm p m m3 → FGw p j w w3 → PP Q (K1 m3) (K2 w3)) : PP Q (bnd (hm_Ma_predefined N m p (I d)) (fun u _ => K1 u)) (bnd (fm_M_predefinedRun N w1 (I k)) (fun u _ => K2 u)) := by
  obtain ⟨-, ⟨r2, -⟩, -, -, -, -, r11, -, -⟩ := id ru
  have cb2 : a + 2 + 1 < 24000 := by
    obtain ⟨f9, cr9⟩ := cr
    exact (CR_b cr9).1
  have x33 : F w1 133 = ((p : Nat) : Int) := by rw [FR.F g1.1 (by simp)]; exact r11
  have pd := PLs_d0 pl
  have ans : ∀ t2 x2 : Int64, RTb b t2 x2 → PP Q (bnd (hm_Ma_answer N m p 0 t2) (fun u _ => bnd (hb_Ma_predefined_146 N () u p) (fun u _ => K1 u))) (bnd (fm_M_put N w1 x2) (fun u _ => K2 u)) := fun t2 x2 h => by
    unfold hm_Ma_answer hb_Ma_answer_0
    rw [show (0 : Int32) = I 0 from rfl, drop_e (W := W) (k := 0) (x := 0) pl.2.2.1.1 rfl (by omega), bnd_so, Nat.sub_zero]
    simp only [bb_e, bnd_so]
    exact pre_pp (l := l) hp1 ru (by omega) ⟨by omega, hl2.2⟩ h FGm.drop g1 pd (by rw [wi_ne (pq_inj (by omega))]; exact hl) h98 (by rw [wi_ne (pq_n (by omega))]; exact r2) (by omega) cr c
  rcases hd with ⟨rfl, rfl⟩ | ⟨rfl, rfl⟩
  · rw [pm0, pr0]
    refine l_bb (lb_bnd (pk_mo bel_k (fun u2 _ e => ?_)))
    subst e
    rw [oI, show (4 : Int32) = I 4 from rfl, e_make, bnd_so, I_F' x33, term_e, bnd_so]
    simp only [bb_e, bnd_so]
    exact ans _ _ (RTb_lit (nh_mk (by omega)) (fun c => by rw [so_mk (by omega) (by omega)] at c; omega))
  · rw [pm16, pr17]
    refine l_bb (lb_bnd (pk_mo bel_k (fun u2 _ e => ?_)))
    subst e
    have x20 : w1.1 120 = u2.1 944 := by rw [g1.1.1 120 (by simp)]; exact hc.symm
    have r9 := F_r u2 944
    rw [x20, I_F (k := 944), lit0, e_make, bnd_so, term_e, bnd_so]
    simp only [bb_e, bnd_so]
    exact ans _ _ (lit_b (Or.inl rfl) (fun c => by omega) r9)
/-- what is told: exit, throw, error -/
theorem op_tells {d k how kn : Int} (hd : (d = 7 ∧ k = 7 ∧ how = 2 ∧ kn = 1) ∨ (d = 8 ∧ k = 9 ∧ how = 3 ∧ kn = 2) ∨ (d = 9 ∧ k = 10 ∧ how = 1 ∧ kn = 0)) (hp1 : p < 24) (ru : RUs m w p j nb Hs Os y a n) (hW : W + 1 ≤ 46000) (hl : F m (pq p 45) = ((l : Nat) : Int)) (hl2 : W + 1 ≤ l ∧ l ≤ 1000000) (pl : PLs b p m w1 U B (W + 1) Y) (g1 : FGw p j w w1)
    (kT : ∀ w3, PLs b p (wi m (pq p 26) ((W : Nat) : Int)) w3 U B W Y → FGw p j w w3 → (w3.2.2.2 88 = w1.2.2.2 88 ∧ w3.1 140 = w1.1 140) → PP Q (K1 (tld m how (-1) (m.2.2.2 (pq p 35) W))) (bnd (fr_M_goesUp N w3 (I kn) (w1.2.2.2 91 (46000 * p + W))) (fun u _ => K2 u))) : PP Q (bnd (hm_Ma_predefined N m p (I d)) (fun u _ => K1 u)) (bnd (fm_M_predefinedRun N w1 (I k)) (fun u _ => K2 u)) := by
  obtain ⟨-, ⟨r2, -⟩, -, -, -, -, r11, -, -⟩ := id ru
  have x33 : F w1 133 = ((p : Nat) : Int) := by rw [FR.F g1.1 (by simp)]; exact r11
  have be : hm_Fr_below N m p 0 = some (m, m.2.2.2 (pq p 35) W) := by
    have := below_e (N := N) (x := 0) (k := 0) (W := W + 1) (l := l) pl.2.2.1.1 hl hl2.1 hl2.2 rfl (by omega)
    rw [show W + 1 - 1 - 0 = W by omega] at this
    exact this
  have pd := PLs_drop (k := 1) (W := W) pl (by omega)
  have fin := kT _ pd (FGw.tr g1 FGw.w92) ⟨rfl, rfl⟩
  have tl : ∀ h : Int, (h = 1 ∨ h = 2 ∨ h = 3) → ∀ v : Int32, v = I h → bnd (bnd (bnd (hm_Fr_below N m p 0) (fun u11 r11 => bnd (hm_Ma_tell N u11 p v (-1) r11) (fun u35 _ => some (u35, ())))) (fun u4 _ => hb_Ma_predefined_146 N () u4 p)) (fun u (_ : Unit) => K1 u) = K1 (tld m h (-1) (m.2.2.2 (pq p 35) W)) := fun h hh v hv => by
    rw [be, bnd_so, hv, show hm_Ma_tell N m p (I h) (-1) (m.2.2.2 (pq p 35) W) = some (tld m h (-1) (m.2.2.2 (pq p 35) W), ()) from rfl, bnd_so, bnd_so, pre_tl ⟨by omega, by omega⟩ (by omega), bnd_so]
  rcases hd with ⟨rfl, rfl, rfl, rfl⟩ | ⟨rfl, rfl, rfl, rfl⟩ | ⟨rfl, rfl, rfl, rfl⟩
  · rw [pm7, pr7, tl 2 (by omega) 2 rfl]
    refine r_bb (r_bnd (pk_mo (take_r (N := N) (W := W) hp1 x33 pl.2.2.1.2.1 (by omega)) (fun w4 r e => ?_)))
    obtain ⟨rfl, rfl⟩ := e
    refine r_bb ?_
    exact fin
  · rw [pm8, pr9, tl 3 (by omega) 3 rfl]
    refine r_bb (r_bnd (pk_mo (take_r (N := N) (W := W) hp1 x33 pl.2.2.1.2.1 (by omega)) (fun w4 r e => ?_)))
    obtain ⟨rfl, rfl⟩ := e
    refine r_bb ?_
    exact fin
  · rw [pm9, pr10, tl 1 (by omega) 1 rfl]
    refine r_bb (r_bnd (pk_mo (take_r (N := N) (W := W) hp1 x33 pl.2.2.1.2.1 (by omega)) (fun w4 r e => ?_)))
    obtain ⟨rfl, rfl⟩ := e
    refine r_bb ?_
    exact fin
end
