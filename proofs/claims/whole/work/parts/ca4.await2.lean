/-! until when is waited is wrong: names that are forgotten there already -/
set_option maxRecDepth 100000
section
variable {N p k : Nat} {w : MS} {z : Int}
theorem wi_id (h : F w k = z) : wi w k z = w := by
  have e : (wi w k z).1 = w.1 := by
    funext l
    by_cases c : l = k
    · subst c
      rw [wi_s1, ← h]
      exact (I_F (w := w) (k := l)).symm
    · exact wi_1 c
  exact Prod.ext e rfl
/-- nobody's end is to be told -/
theorem ends_id (h1 : F w 149 = 0) (h2 : F w 150 = 0) : fm_M_allEnds N w = some (w, ()) := by
  unfold fm_M_allEnds fb_M_allEnds_0
  rw [I_F' h2, I_F' h1, show decide (I 0 ≤ I 0) = true from rfl, br_t, show upI w 149 0 = wi w 149 0 from rfl, wi_id h1, lt_e, show upI w 150 0 = wi w 150 0 from rfl, wi_id h2, lt_e]
theorem ck_c {α : Type} {c : Bool} {x y : Option (MS × α)} (h : x = y) : ck c x = ck c y := by rw [h]
end
section
variable {N p c : Nat} {w : MS} {z : Int} {x : Int64} {v : Int32} {S : SG_M_error}
/-- what goes up to a catch: how many names there were does not matter -/
theorem gup_94 (hpp : p < 24) (h33 : F w 133 = ((p : Nat) : Int)) (h152 : F w 152 = 0) (h106 : A w 106 p = ((c + 1 : Nat) : Int)) (hc : c < 100000) : fm_M_goesUp N S (wa w 94 p z) v x = fm_M_goesUp N S w v x := by
  have key : ∀ (X Y : MS) (y y' : Int32), X = Y → y = y' → (br (decide (v = 2)) (bnd (fm_M_put N X x) (fun u15 _ => fb_M_goesUp_205 N S () u15 (y))) (bnd (fm_M_hand N X (X.1 133) x) (fun u10 _ => bnd (fm_M_wants N u10 (u10.1 133) 3) (fun u11 r11 => br (decide (r11 = 0)) (bnd (fm_M_handNone N u11) (fun u13 _ => bnd (fm_M_noRoom N u13) (fun u14 _ => some (u14, ())))) (bnd (fm_M_handNone N u11) (fun u12 _ => br (decide (v = 0)) (fb_M_goesUp_197 N S () u12 (y) ((u11.2.1 139)) (7)) (fb_M_goesUp_197 N S () u12 (y) ((u11.2.1 139)) (8)))))))) = (br (decide (v = 2)) (bnd (fm_M_put N Y x) (fun u15 _ => fb_M_goesUp_205 N S () u15 (y'))) (bnd (fm_M_hand N Y (Y.1 133) x) (fun u10 _ => bnd (fm_M_wants N u10 (u10.1 133) 3) (fun u11 r11 => br (decide (r11 = 0)) (bnd (fm_M_handNone N u11) (fun u13 _ => bnd (fm_M_noRoom N u13) (fun u14 _ => some (u14, ())))) (bnd (fm_M_handNone N u11) (fun u12 _ => br (decide (v = 0)) (fb_M_goesUp_197 N S () u12 (y') ((u11.2.1 139)) (7)) (fb_M_goesUp_197 N S () u12 (y') ((u11.2.1 139)) (8)))))))) := fun X Y y y' h h' => by rw [h, h']
  have g33 : F (wa w 94 p z) 133 = ((p : Nat) : Int) := h33
  have g152 : F (wa w 94 p z) 152 = 0 := h152
  have g106 : A (wa w 94 p z) 106 p = ((c + 1 : Nat) : Int) := by rw [wa_rne (by omega)]; exact h106
  have d0 : decide (I ((c + 1 : Nat) : Int) = 0) = false := by rw [lit0, decE (by omega) (by omega) (by omega) (by omega)]; exact decide_eq_false (by omega)
  unfold fm_M_goesUp fb_M_goesUp_0
  rw [I_F' h152, I_F' g152, show decide (I 0 = 0) = true from rfl, br_t, br_t, I_F' h33, I_F' g33, tnI (n := p) rfl (by omega), I_A' h106, I_A' g106, d0, br_f, br_f]
  simp only [lt_e]
  refine ck_c (ck_c (ck_c (ck_c (ck_c (ck_c (ck_c (ck_c (ck_c (ck_c ?_)))))))))
  refine key _ _ _ _ ?_ rfl
  refine Prod.ext rfl (Prod.ext rfl (Prod.ext (funext (fun K => ?_)) rfl))
  have hq : (w.1 133).toNatClampNeg = p := by rw [I_F' h33]; exact tnI (n := p) rfl (by omega)
  by_cases k94 : K = 94
  · subst k94
    have uu : ∀ (d : Int32), upd (upd (w.2.2.1 94) p (I z)) ((w.1 133).toNatClampNeg) d = upd (w.2.2.1 94) ((w.1 133).toNatClampNeg) d := fun d => by
      rw [hq]
      funext i
      by_cases ci : i = p
      · exact (if_pos ci).trans (if_pos ci).symm
      · exact (if_neg ci).trans ((if_neg ci).trans (if_neg ci).symm)
    exact uu _
  · by_cases k92 : K = 92
    · subst k92; rfl
    · by_cases k95 : K = 95
      · subst k95; rfl
      · by_cases k106 : K = 106
        · subst k106; rfl
        · exact ((if_neg k94).trans ((if_neg k92).trans ((if_neg k95).trans ((if_neg k106).trans (if_neg k94))))).trans ((if_neg k94).trans ((if_neg k92).trans ((if_neg k95).trans (if_neg k106)))).symm
end
section
variable {α β : Type} {b : Int → Nat → Nat → Prop} {N p PR U B W Wc B' Y j ee ee' : Nat} {m w : MS} {x : Int64} {Q : MS → α → MS → β → Prop} {K1 : MS → Option (MS × α)} {K2 : MS → Option (MS × β)} {ow kd ow' kd' : Nat → Nat} {Fv Fv' : Int64 → Int64 → Prop} {P P' : Int64 → Prop} {S : SG_M_error}
/-- an error that nobody catches: how many names there are does not matter -/
theorem err_n2 (hpp : p < 24) (hpr : p < PR) (is : ISb b (m.2.2.2 (pq p 2)) U (hp w p) U) (h89 : A w 89 p = ((U : Nat) : Int)) (h5 : m.1 (pq p 5) = w.2.2.1 90 p) (h28 : F m (pq p 28) = 0) (h106 : A w 106 p = 0) (h152 : F w 152 = 0) (h133 : F w 133 = ((p : Nat) : Int)) (h9 : F m (pq p 9) ≠ 3 ∧ A w 109 p ≠ 3) (pt : PTQ m p U ow kd Fv P B Wc Y) (cx : CTX Fv P m) (xc : CX w p (hp w p) U ow' kd' Fv' P' W B' Y) (g : GT U ow kd P (m.2.1 1110)) (g' : GT U ow' kd' P' x) (rt : RTb b (m.2.1 1110) x) (hee : F m 955 = ((ee : Nat) : Int) ∧ ee < 24) (hee' : F w 150 = ((ee' : Nat) : Int) ∧ ee' < 4000)
    (ke : ∀ m1 t1, GGm p m m1 → (SCs p m w → SCs p m1 w) → F m1 (pq p 15) = F m (pq p 15) → m1.1 (pq p 5) = w.2.2.1 90 p → RQs Fv P Fv' P' PR (enS m1 p t1 p ee) (enR w p 1 ((p : Nat) : Int) x ee') p 1 p x → PP Q (K1 (enS m1 p t1 p ee)) (K2 (wi (enR w p 1 ((p : Nat) : Int) x ee') 151 1))) : PP Q (bnd (hb_Ma_raise_65 N () m p (I 1)) (fun u _ => K1 u)) (bnd (fm_M_goesUp N S w (I 0) x) (fun u _ => K2 u)) := by
  have hU := pt.1.2.1
  have hcl : hb_Ma_raise_65 N () m p (I 1) = bnd (hm_Pr_pair N m p (I ((7 : Nat) : Int)) (m.2.1 1110)) (fun u8 r8 => bnd (hm_Wl_endsWith N u8 p r8 p) (fun u5 _ => some (u5, ()))) := by
    unfold hb_Ma_raise_65
    rw [I_F' h28, show decide (I 0 = 0) = true from rfl, br_t]
    rfl
  rw [hcl, bb_e]
  refine l_bnd (pk_mo (pk_and (pair_m (N := N) (v := ((7 : Nat) : Int)) (t := m.2.1 1110) pt.1.1 (by omega)) (pk_ok (pair_t (N := N) cx pt.1.1 (by omega) pt.1.2.2 g (by omega)))) (fun m1 t1 h => ?_))
  obtain ⟨⟨hm1, rfl⟩, f1, e4, -, ow2, kd2, hg, gt, -⟩ := h
  have fr : FR [pq p 4] [] [] [pq p 2] m m1 := by
    rw [hm1]
    exact FR.wi (FR.wj (FR.wj (FR.wj FR.rf (by simp)) (by simp)) (by simp)) (by simp)
  have i1 : ∀ d, d ≠ 4 → m1.1 (pq p d) = m.1 (pq p d) := fun d hd => fr.1 _ (by simp; exact pq_inj hd)
  have e9 : F m1 (pq p 9) ≠ 3 := by
    show (m1.1 (pq p 9)).toInt ≠ 3
    rw [i1 9 (by omega)]; exact h9.1
  have e55 : F m1 955 = ((ee : Nat) : Int) := by rw [FR.F fr (by simp [pq_n])]; exact hee.1
  rw [endsW_e e9 e55 hee.2, bnd_so, bnd_so]
  have cm : ∀ i, m1.2.2.2 (pq p 2) i = if i = U + 2 then m.2.1 1110 else if i = U + 1 then mk 1 ((7 : Nat) : Int) else if i = U then mk 8 2 else m.2.2.2 (pq p 2) i := fun i => by
    rw [hm1]
    show (wj (wj (wj m (pq p 2) U (mk 8 2)) (pq p 2) (U + 1) (mk 1 ((7 : Nat) : Int))) (pq p 2) (U + 2) (m.2.1 1110)).2.2.2 (pq p 2) i = _
    rw [wj_row, wj_row, wj_row]
  refine goes_n (wr := 1) (ee' := ee') hpp (by omega) h152 h133 h106 h9.2 hee'.1 hee'.2 ?_
  refine ke m1 _ (GGm_pa fr) (fun s => SC_ow s (fun d hd => i1 d (by omega)) (fr.2.2.1 _ (by simp)) (fun _ _ _ => rfl)) (congrArg Int32.toInt (i1 15 (by omega))) (by rw [i1 5 (by omega)]; exact h5) (RQ_wrap (m := m) (t := m.2.1 1110) (B := B') (W := W) (Y := Y) hpr hpp (Or.inl rfl) is (fun i hi => by rw [cm, if_neg (by omega), if_neg (by omega), if_neg (by omega)]) (by rw [cm, if_neg (by omega), if_neg (by omega), if_pos rfl]) (by rw [cm, if_neg (by omega), if_pos rfl, if_pos rfl]; rfl) (by rw [cm, if_pos rfl]) hg gt xc h89 hU g' rt)
end
