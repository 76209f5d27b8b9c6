/-! what goes up, no catch is there: it ENDS -/
set_option maxRecDepth 100000
section
variable {α β : Type} {b : Int → Nat → Nat → Prop} {N p PR U B W Wc Y ee ee' : Nat} {m w m1 : MS} {t x : Int64} {Q : MS → α → MS → β → Prop} {D : Option (MS × α)} {K : MS → Unit → Option (MS × β)} {K1 : MS → Option (MS × α)} {K2 : MS → Option (MS × β)} {S : SG_M_error} {ow kd ow' kd' : Nat → Nat} {Fv Fv' : Int64 → Int64 → Prop} {P P' : Int64 → Prop} {how kn wr : Int}
theorem goes_n (hpp : p < 24) (hv : (kn = 0 ∧ wr = 1) ∨ (kn = 1 ∧ wr = 0) ∨ (kn = 2 ∧ wr = 2)) (h152 : F w 152 = 0) (h3 : F w 133 = ((p : Nat) : Int)) (h106 : A w 106 p = 0) (h9 : A w 109 p ≠ 3) (he : F w 150 = ((ee' : Nat) : Int)) (hl : ee' < 4000) (h : PP Q D (K (wi (enR w p wr ((p : Nat) : Int) x ee') 151 1) ())) : PP Q D (bnd (fm_M_goesUp N S w (I kn) x) K) := by
  have e43 : ∀ z : Int, fb_M_goesUp_43 N S () w x (I z) = some (wi (enR w p z ((p : Nat) : Int) x ee') 151 1, ()) := fun z => by
    unfold fb_M_goesUp_43
    rw [ends_e hpp h3 h9 he hl, bnd_so]
  unfold fm_M_goesUp fb_M_goesUp_0
  rw [I_F' h152, show decide (I 0 = 0) = true from rfl, br_t]
  refine rb_ck (fun _ => ?_)
  rw [I_F' h3, tnI (n := p) rfl (by omega), I_A' h106, show decide (I 0 = 0) = true from rfl, br_t]
  rcases hv with ⟨rfl, rfl⟩ | ⟨rfl, rfl⟩ | ⟨rfl, rfl⟩
  · rw [show decide (I 0 = 0) = true from rfl, br_t, show (1 : Int32) = I 1 from rfl, e43, bnd_so]
    exact h
  · rw [show decide (I 1 = (0 : Int32)) = false from rfl, br_f, show decide (I 1 = (1 : Int32)) = true from rfl, br_t, lit0, e43, bnd_so]
    exact h
  · rw [show decide (I 2 = (0 : Int32)) = false from rfl, br_f, show decide (I 2 = (1 : Int32)) = false from rfl, br_f, show (2 : Int32) = I 2 from rfl, e43, bnd_so]
    exact h
/-- an exit that nobody catches -/
theorem exit_n (hpp : p < 24) (hpr : p < PR) (pl : PLs b p (wi m (pq p 26) ((W : Nat) : Int)) w U B W Y) (h28 : F m (pq p 28) = 0) (h106 : A w 106 p = 0) (h152 : F w 152 = 0) (h133 : F w 133 = ((p : Nat) : Int)) (h9 : F m (pq p 9) ≠ 3 ∧ A w 109 p ≠ 3) (pt : PTQ m p U ow kd Fv P B Wc Y) (xc : CX w p (hp w p) U ow' kd' Fv' P' W B Y) (g : GT U ow kd P (m.2.1 1110)) (g' : GT U ow' kd' P' x) (rt : RTb b (m.2.1 1110) x) (hee : F m 955 = ((ee : Nat) : Int) ∧ ee < 24) (hee' : F w 150 = ((ee' : Nat) : Int) ∧ ee' < 4000)
    (ke : m.1 (pq p 5) = w.2.2.1 90 p → RQs Fv P Fv' P' PR (enS m p (m.2.1 1110) p ee) (enR w p 0 ((p : Nat) : Int) x ee') p 0 p x → PP Q (K1 (enS m p (m.2.1 1110) p ee)) (K2 (wi (enR w p 0 ((p : Nat) : Int) x ee') 151 1))) : PP Q (bnd (hb_Ma_raise_65 N () m p (I 2)) (fun u _ => K1 u)) (bnd (fm_M_goesUp N S w (I 1) x) (fun u _ => K2 u)) := by
  have hU := pt.1.2.1
  have h5 : m.1 (pq p 5) = w.2.2.1 90 p := by
    have := pl.1.2.2
    rw [show (wi m (pq p 26) ((W : Nat) : Int)).1 (pq p 5) = m.1 (pq p 5) from if_neg (pq_inj (by omega))] at this
    exact this
  unfold hb_Ma_raise_65 hb_Ma_raise_110
  rw [I_F' h28, show decide (I 0 = 0) = true from rfl, br_t, show decide (I 2 = (2 : Int32)) = true from rfl, br_t, endsW_e h9.1 hee.1 hee.2, bnd_so, bnd_so]
  refine goes_n (wr := 0) (ee' := ee') hpp (by omega) h152 h133 h106 h9.2 hee'.1 hee'.2 ?_
  exact ke h5 (RQ_own (B := B) (W := W) (Y := Y) hpr hpp pl.1.2.1 pt.1.2.2 xc pl.1.1.2.1 hU g g' rt)
/-- an error, a throw that nobody catches -/
theorem err_n {v : Nat} (hv : (how = 1 ∧ kn = 0 ∧ wr = 1 ∧ v = 7) ∨ (how = 3 ∧ kn = 2 ∧ wr = 2 ∧ v = 19)) (hpp : p < 24) (hpr : p < PR) (pl : PLs b p (wi m (pq p 26) ((W : Nat) : Int)) w U B W Y) (h28 : F m (pq p 28) = 0) (h106 : A w 106 p = 0) (h152 : F w 152 = 0) (h133 : F w 133 = ((p : Nat) : Int)) (h9 : F m (pq p 9) ≠ 3 ∧ A w 109 p ≠ 3) (pt : PTQ m p U ow kd Fv P B Wc Y) (cx : CTX Fv P m) (xc : CX w p (hp w p) U ow' kd' Fv' P' W B Y) (g : GT U ow kd P (m.2.1 1110)) (g' : GT U ow' kd' P' x) (rt : RTb b (m.2.1 1110) x) (hee : F m 955 = ((ee : Nat) : Int) ∧ ee < 24) (hee' : F w 150 = ((ee' : Nat) : Int) ∧ ee' < 4000)
    (ke : ∀ m1 t1, GGm p m m1 → (SCs p m w → SCs p m1 w) → F m1 (pq p 15) = F m (pq p 15) → m1.1 (pq p 5) = w.2.2.1 90 p → RQs Fv P Fv' P' PR (enS m1 p t1 p ee) (enR w p wr ((p : Nat) : Int) x ee') p wr p x → PP Q (K1 (enS m1 p t1 p ee)) (K2 (wi (enR w p wr ((p : Nat) : Int) x ee') 151 1))) : PP Q (bnd (hb_Ma_raise_65 N () m p (I how)) (fun u _ => K1 u)) (bnd (fm_M_goesUp N S w (I kn) x) (fun u _ => K2 u)) := by
  have hU := pt.1.2.1
  have h5 : m.1 (pq p 5) = w.2.2.1 90 p := by
    have := pl.1.2.2
    rw [show (wi m (pq p 26) ((W : Nat) : Int)).1 (pq p 5) = m.1 (pq p 5) from if_neg (pq_inj (by omega))] at this
    exact this
  have hcl : hb_Ma_raise_65 N () m p (I how) = bnd (hm_Pr_pair N m p (I ((v : Nat) : Int)) (m.2.1 1110)) (fun u8 r8 => bnd (hm_Wl_endsWith N u8 p r8 p) (fun u5 _ => some (u5, ()))) := by
    unfold hb_Ma_raise_65
    rw [I_F' h28, show decide (I 0 = 0) = true from rfl, br_t]
    rcases hv with ⟨rfl, rfl, rfl, rfl⟩ | ⟨rfl, rfl, rfl, rfl⟩ <;> rfl
  rw [hcl, bb_e]
  refine l_bnd (pk_mo (pk_and (pair_m (N := N) (v := ((v : Nat) : Int)) (t := m.2.1 1110) pt.1.1 (by omega)) (pk_ok (pair_t (N := N) cx pt.1.1 (by omega) pt.1.2.2 g (by omega)))) (fun m1 t1 h => ?_))
  obtain ⟨⟨hm1, rfl⟩, f1, e4, -, ow2, kd2, hg, gt, -⟩ := h
  have fr : FR [pq p 4] [] [] [pq p 2] m m1 := by
    rw [hm1]
    exact FR.wi (FR.wj (FR.wj (FR.wj FR.rf (by simp)) (by simp)) (by simp)) (by simp)
  have i1 : ∀ d, d ≠ 4 → m1.1 (pq p d) = m.1 (pq p d) := fun d hd => fr.1 _ (by simp; exact pq_inj hd)
  have e9 : F m1 (pq p 9) ≠ 3 := by
    show (m1.1 (pq p 9)).toInt ≠ 3
    rw [i1 9 (by omega)]; exact h9.1
  have e55 : F m1 955 = ((ee : Nat) : Int) := by rw [FR.F fr (by simp [pq_n])]; exact hee.1
  rw [endsW_e e9 e55 hee.2, bnd_so, bnd_so]
  have cm : ∀ i, m1.2.2.2 (pq p 2) i = if i = U + 2 then m.2.1 1110 else if i = U + 1 then mk 1 ((v : Nat) : Int) else if i = U then mk 8 2 else m.2.2.2 (pq p 2) i := fun i => by
    rw [hm1]
    show (wj (wj (wj m (pq p 2) U (mk 8 2)) (pq p 2) (U + 1) (mk 1 ((v : Nat) : Int))) (pq p 2) (U + 2) (m.2.1 1110)).2.2.2 (pq p 2) i = _
    rw [wj_row, wj_row, wj_row]
  have hwr : wr = 1 ∨ wr = 2 := by omega
  have vv : ((v : Nat) : Int) = if wr = 1 then 7 else 19 := by
    rcases hv with ⟨_, _, rfl, rfl⟩ | ⟨_, _, rfl, rfl⟩ <;> rfl
  refine goes_n (wr := wr) (ee' := ee') hpp (by omega) h152 h133 h106 h9.2 hee'.1 hee'.2 ?_
  refine ke m1 _ (GGm_pa fr) (fun s => SC_ow s (fun d hd => i1 d (by omega)) (fr.2.2.1 _ (by simp)) (fun _ _ _ => rfl)) (congrArg Int32.toInt (i1 15 (by omega))) (by rw [i1 5 (by omega)]; exact h5) (RQ_wrap (m := m) (t := m.2.1 1110) (B := B) (W := W) (Y := Y) hpr hpp hwr pl.1.2.1 (fun i hi => by rw [cm, if_neg (by omega), if_neg (by omega), if_neg (by omega)]) (by rw [cm, if_neg (by omega), if_neg (by omega), if_pos rfl]) (by rw [cm, if_neg (by omega), if_pos rfl, vv]) (by rw [cm, if_pos rfl]) hg gt xc pl.1.1.2.1 hU g' rt)
end
