/-! STRINGS, NAMES while patterns are tried, both sides -/
set_option maxRecDepth 100000
section
variable {b : Int → Nat → Nat → Prop} {N p i n0 n0' U U' : Nat} {m w : MS} {t x : Int64} {ow kd ow' kd' : Nat → Nat} {Fv Fv' : Int64 → Int64 → Prop} {P P' : Int64 → Prop}
theorem RTb_nh {z : Int64} (hz : ¬ isH z) (r : RTb b t x) : t = z ↔ x = z := by
  rcases r with ⟨-, e, -⟩ | ⟨h, e, -⟩
  · rw [e]
  · constructor
    · intro c
      rw [c] at h
      exact absurd h hz
    · intro c
      have : isH x := by unfold isH at h ⊢; rw [e]; exact h
      rw [c] at this
      exact absurd this hz
/-- a PAIR, both sides -/
theorem TP_pair {h h' : Nat → Int64} (is : ISb b h n0 h' n0') (g : HPc h U ow kd Fv P) (g' : HP h' U' ow' kd' Fv' P') (q : TPb b U ow kd P U' ow' kd' P' t x) (e7 : so t = 7) : (so x = 7 ∧ va t = ((vn t : Nat) : Int) ∧ vn t + 2 ≤ U ∧ va x = ((vn x : Nat) : Int) ∧ vn x + 2 ≤ U') ∧ TPb b U ow kd P U' ow' kd' P' (h (vn t)) (h' (vn x)) ∧ TPb b U ow kd P U' ow' kd' P' (h (vn t + 1)) (h' (vn x + 1)) := by
  obtain ⟨r, gt, gt'⟩ := q
  have ex : so x = 7 := by rw [RTb_so r]; exact e7
  obtain ⟨a1, a2, a3, a4⟩ := pair_at g gt e7
  have hx : isH x := Or.inr (Or.inr ex)
  have hb2 : blk h' x = 2 := by unfold blk; rw [if_pos ex]
  have hb1 : blk h t = 2 := by unfold blk; rw [if_pos e7]
  have hpx : prt x = 0 := by unfold prt; rw [if_pos ex]
  have hpt : prt t = 0 := by unfold prt; rw [if_pos e7]
  obtain ⟨bk, b2⟩ := HP_bk g' hx gt'
  have hbl := bk.2.2.2.1
  rw [hb2] at hbl b2
  rw [hpx] at b2
  have vx : va x = ((vn x : Nat) : Int) := by have := bk.1; unfold vn; omega
  have bl := (is.1 t x (Or.inr (Or.inr e7)) r).2.1
  rw [hpt, hb1] at bl
  have r0 := bl 0 (by omega) (by omega)
  have r1 := bl 1 (by omega) (by omega)
  rw [Nat.add_zero, Nat.add_zero] at r0
  have g0 := b2 0 (by omega) (by omega)
  rw [Nat.add_zero] at g0
  exact ⟨⟨ex, a1, a2, vx, hbl⟩, ⟨r0, a3, g0⟩, r1, a4, b2 1 (by omega) (by omega)⟩
/-- a STRING fits, or not -/
theorem str_pp (hp1 : p < 24) (h3 : F w 133 = ((p : Nat) : Int)) (is : ISb b (m.2.2.2 (pq p 2)) n0 (hp w p) n0') (g : HPc (m.2.2.2 (pq p 2)) U ow kd Fv P) (hU : U ≤ 512) (g' : HP (hp w p) U' ow' kd' Fv' P') (hU' : U' ≤ 500) {s0 bb l : Nat} (h19 : A w 19 s0 = ((bb : Nat) : Int)) (h19' : A w 19 (s0 + 1) = ((bb + l : Nat) : Int)) (hl : A m 23 (i + 1) = ((l : Nat) : Int)) (hs : ∀ k, k < l → A m 23 (i + 2 + k) = A w 18 (bb + k)) (hi : i + 2 + l < 24000) (hs9 : s0 < 2147483648) (q : TPb b U ow kd P U' ow' kd' P' t x) : PP (fun m2 r w2 r2 => (m2 = m ∧ w2 = w) ∧ ((r = 0 ∧ r2 = 0) ∨ (r = 1 ∧ r2 = 1))) (hm_Ma_fitsString N m p (I ((i : Nat) : Int)) t) (fm_M_isString N w (I ((s0 : Nat) : Int)) x) := by
  have rb := A_r w 19 (s0 + 1)
  rw [h19'] at rb
  have lp : s0 < 100000 → ∀ (d k M1 M2 : Nat) (t x : Int64), k + d = l → TPb b U ow kd P U' ow' kd' P' t x → PP (fun m2 r w2 r2 => (m2 = m ∧ w2 = w) ∧ ((r = 0 ∧ r2 = 0) ∨ (r = 1 ∧ r2 = 1))) (hg_Ma_fitsString N M1 m p (I ((i : Nat) : Int)) t (I ((l : Nat) : Int)) (I ((k : Nat) : Int))) (gg_M_isString N M2 w (I ((s0 : Nat) : Int)) x (I ((bb + k : Nat) : Int))) := by
    intro hs0 d
    induction d with
    | zero =>
      intro k M1 M2 t x hk q
      cases M1 with
      | zero => exact pp_nl
      | succ M1 =>
      cases M2 with
      | zero => exact pp_nr
      | succ M2 =>
      have : k = l := by omega
      subst this
      show PP _ (hb_Ma_fitsString_18 N (hg_Ma_fitsString N M1) m p (I ((i : Nat) : Int)) t (I ((k : Nat) : Int)) (I ((k : Nat) : Int))) (fb_M_isString_11 N (gg_M_isString N M2) w (I ((s0 : Nat) : Int)) x (I ((bb + k : Nat) : Int)))
      unfold hb_Ma_fitsString_18 hb_Ma_fitsString_107 fb_M_isString_11 fb_M_isString_102
      rw [decI (by omega) (by omega) (by omega) (by omega), decide_eq_true (by omega), br_t, e_tag, bnd_so]
      refine r_ck (fun _ => ?_)
      rw [show I ((s0 : Nat) : Int) + 1 = I ((s0 + 1 : Nat) : Int) from addN, tnI (n := s0 + 1) rfl (by omega), I_A' h19', decI (by omega) (by omega) (by omega) (by omega), show decide (((bb + k : Nat) : Int) ≤ ((bb + k : Nat) : Int)) = true from decide_eq_true (Int.le_refl _), br_t, sortOf_e, bnd_so, RTb_so q.1]
      by_cases c : decide (I (so t) = 6) = true
      · rw [c, br_t, br_t]
        exact l_ck (fun _ => r_ck (fun _ => pp_end ⟨⟨rfl, rfl⟩, Or.inr ⟨rfl, rfl⟩⟩))
      · have c0 : decide (I (so t) = 6) = false := by
          cases hd : decide (I (so t) = 6) with
          | true => exact absurd hd c
          | false => rfl
        rw [c0, br_f, br_f]
        exact l_ck (fun _ => r_ck (fun _ => pp_end ⟨⟨rfl, rfl⟩, Or.inl ⟨rfl, rfl⟩⟩))
    | succ d ih =>
      intro k M1 M2 t x hk q
      cases M1 with
      | zero => exact pp_nl
      | succ M1 =>
      cases M2 with
      | zero => exact pp_nr
      | succ M2 =>
      have kl : k < l := by omega
      show PP _ (hb_Ma_fitsString_18 N (hg_Ma_fitsString N M1) m p (I ((i : Nat) : Int)) t (I ((l : Nat) : Int)) (I ((k : Nat) : Int))) (fb_M_isString_11 N (gg_M_isString N M2) w (I ((s0 : Nat) : Int)) x (I ((bb + k : Nat) : Int)))
      unfold hb_Ma_fitsString_18 fb_M_isString_11 fb_M_isString_62
      rw [decI (by omega) (by omega) (by omega) (by omega), decide_eq_false (by omega), br_f, e_tag, bnd_so]
      refine r_ck (fun _ => ?_)
      rw [show I ((s0 : Nat) : Int) + 1 = I ((s0 + 1 : Nat) : Int) from addN, tnI (n := s0 + 1) rfl (by omega), I_A' h19', decI (by omega) (by omega) (by omega) (by omega), show decide (((bb + l : Nat) : Int) ≤ ((bb + k : Nat) : Int)) = false from decide_eq_false (by omega), br_f, sortOf_e, bnd_so, RTb_so q.1, show (7 : Int32) = I 7 from rfl, decE (so_r _).1 (so_r _).2 (by omega) (by omega)]
      by_cases e7 : so t = 7
      · obtain ⟨⟨x7, v1, v2, v3, v4⟩, q0, q1⟩ := TP_pair is g g' q e7
        rw [decide_eq_true e7, br_t, br_t, valI, v1]
        refine l_ck (fun _ => ?_)
        rw [show I ((i : Nat) : Int) + 2 + I ((k : Nat) : Int) = I ((i + 2 + k : Nat) : Int) by rw [show (2 : Int32) = I ((2 : Nat) : Int) from rfl, addN, addN], Co_e (k := i + 2 + k) rfl (by omega), bnd_so, hs k kl, show hm_Te_make N m 0 (I (A w 18 (bb + k))) = some (m, mk 0 (A w 18 (bb + k))) from rfl, bnd_so, tnI (n := vn t) rfl (by omega), valueOf_e, bnd_so, v3, I_F' h3, cell_e (by omega) (by omega), bnd_so]
        refine r_ck (fun _ => ?_)
        rw [tnI (n := bb + k) rfl (by omega), I_A (k := 18), show fm_M_term N w 0 (I (A w 18 (bb + k))) = some (w, mk 0 (A w 18 (bb + k))) from rfl, bnd_so]
        have nh : ¬ isH (mk 0 (A w 18 (bb + k))) := nh_mk (by omega)
        by_cases ce : m.2.2.2 (pq p 2) (vn t) = mk 0 (A w 18 (bb + k))
        · rw [dec_lg ce, br_t, dec_lg ((RTb_nh nh q0.1).mp ce), br_t]
          refine l_ck (fun _ => ?_)
          rw [show I ((vn t : Nat) : Int) + 1 = I ((vn t + 1 : Nat) : Int) from addN, tnI (n := vn t + 1) rfl (by omega), valueOf_e, bnd_so, v3, show I ((vn x : Nat) : Int) + 1 = I ((vn x + 1 : Nat) : Int) from addN, I_F' h3, cell_e (by omega) (by omega), bnd_so, show I ((k : Nat) : Int) + 1 = I ((k + 1 : Nat) : Int) from addN, show I ((bb + k : Nat) : Int) + 1 = I ((bb + (k + 1) : Nat) : Int) from addN]
          exact ih (k + 1) M1 M2 _ _ (by omega) q1
        · rw [dec_lg0 ce, br_f, dec_lg0 (fun z => ce ((RTb_nh nh q0.1).mpr z)), br_f]
          exact l_ck (fun _ => r_ck (fun _ => pp_end ⟨⟨rfl, rfl⟩, Or.inl ⟨rfl, rfl⟩⟩))
      · rw [decide_eq_false e7, br_f, br_f]
        exact l_ck (fun _ => r_ck (fun _ => pp_end ⟨⟨rfl, rfl⟩, Or.inl ⟨rfl, rfl⟩⟩))
  unfold hm_Ma_fitsString hb_Ma_fitsString_0 fm_M_isString fb_M_isString_0
  rw [show I ((i : Nat) : Int) + 1 = I ((i + 1 : Nat) : Int) from addN, Co_e (k := i + 1) rfl (by omega), bnd_so, hl]
  refine r_ck (fun c9 => ?_)
  have c8 := ((I_inb (by omega) (by omega)).mp c9).2
  have l19 : ln 19 < 100000 := by decide
  rw [tnI (n := s0) rfl (by omega), I_A' h19]
  exact lp (by omega) l 0 N N t x (by omega) q
end
section
variable {b : Int → Nat → Nat → Prop} {N p U W Y nbj jf : Nat} {m w : MS} {H O : List Nat} {v i : Int}
theorem LKP_g (nd : O.Nodup ∧ H.Nodup) (lk : LKP H O v i) : ∃ (s k0 : Nat), v = ((s : Nat) : Int) ∧ (H ++ O)[k0]? = some s ∧ (∀ k e, k0 < k → (H ++ O)[k]? = some e → e ≠ s) ∧ ((0 ≤ i ∧ ((k0 : Nat) : Int) = ((H.length : Nat) : Int) + i) ∨ (i < 0 ∧ ((k0 : Nat) : Int) = -2 - i)) := by
  obtain ⟨s, e, ⟨k, e1, e2⟩ | ⟨k, e1, e2, e3⟩⟩ := lk
  · have kl : k < O.length := (List.getElem?_eq_some_iff.mp e2).1
    refine ⟨s, H.length + k, e, by rw [List.getElem?_append_right (by omega), show H.length + k - H.length = k by omega]; exact e2, fun k2 z hi hz => ?_, Or.inl ⟨by omega, by omega⟩⟩
    rw [List.getElem?_append_right (by omega)] at hz
    exact nd_ne nd.1 hz e2 (by omega)
  · have kl : k < H.length := (List.getElem?_eq_some_iff.mp e3).1
    refine ⟨s, k, e, by rw [List.getElem?_append_left kl]; exact e3, fun k2 z hi hz => ?_, Or.inr ⟨by omega, by omega⟩⟩
    by_cases c : k2 < H.length
    · rw [List.getElem?_append_left c] at hz
      exact nd_ne nd.2 hz e3 (by omega)
    · rw [List.getElem?_append_right (by omega)] at hz
      exact fun q => e2 (by rw [← q]; exact List.mem_of_getElem? hz)
/-- the term of a NAME: there, here -/
theorem name_two (hpp : p < 24) (h3 : F w 133 = ((p : Nat) : Int)) (h95 : A w 95 p = ((jf + 1 : Nat) : Int)) (hj : jf < 60) (h99 : A w 99 (60 * p + jf) = ((nbj : Nat) : Int)) (h101 : A w 101 (60 * p + jf) = ((H.length : Nat) : Int)) (h24 : F m (pq p 24) = ((nbj + (H ++ O).length : Nat) : Int)) (hB : nbj + (H ++ O).length ≤ 2500) (nms : NMs m p nbj (H ++ O)) (nd : O.Nodup ∧ H.Nodup) (lk : LKP H O v i) (rv : RG v) (ri : RG i) : ∃ k0, k0 < (H ++ O).length ∧ PK (fun m2 r => m2 = m ∧ r = m.2.2.2 (pq p 33) (nbj + k0)) (hm_Fr_termOf N m p (I v)) ∧ PK (fun w2 r => w2 = w ∧ r = w.2.2.2 93 (2500 * p + (nbj + k0))) (fm_M_nameAt N w (I i)) := by
  obtain ⟨s, k0, e1, e2, e3, e4⟩ := LKP_g nd lk
  have k0l : k0 < (H ++ O).length := (List.getElem?_eq_some_iff.mp e2).1
  refine ⟨k0, k0l, ?_, ?_⟩
  · unfold hm_Fr_termOf hb_Fr_termOf_0
    rw [I_F' h24, e1, show I ((nbj + (H ++ O).length : Nat) : Int) - 1 = I ((nbj + (H ++ O).length - 1 : Nat) : Int) by rw [lit1, I_sub]; congr 1; omega]
    refine termOf_s (N := N) (m := m) (p := p) (k := nbj + k0) (l := s) (B := nbj + (H ++ O).length) (fun k h1 h2 => ?_) (nms k0 s e2) (by have := rv.2; omega) (by omega) (by omega) N (nbj + (H ++ O).length - 1) (by omega) (by omega)
    have il : k - nbj < (H ++ O).length := by omega
    have ge : (H ++ O)[k - nbj]? = some (H ++ O)[k - nbj] := List.getElem?_eq_getElem il
    have e5 := nms (k - nbj) _ ge
    rw [show nbj + (k - nbj) = k by omega] at e5
    rw [e5]
    have := e3 (k - nbj) _ (by omega) ge
    omega
  · unfold fm_M_nameAt fb_M_nameAt_0 fb_M_nameAt_43 fm_M_frame0 fb_M_frame0_0
    have ix : (I ((p : Nat) : Int) * 60 + I ((jf + 1 : Nat) : Int) - 1).toNatClampNeg = 60 * p + jf := by
      rw [show (60 : Int32) = I 60 from rfl, lit1, I_mul, I_add, I_sub]
      exact tnI (n := 60 * p + jf) (by omega) (by omega)
    rw [I_F' h3, tnI (n := p) rfl (by omega), I_A' h95]
    refine pk_bnd (pk_ck (fun _ => pk_some ?_))
    refine pk_ck (fun _ => ?_)
    rw [ix, I_A' h99, I_A' h101, I_F' h3, lit0]
    refine p_le ⟨by decide, by decide⟩ ri (fun z => ?_) (fun z => ?_)
    · refine pk_ck (fun _ => pk_ck (fun _ => pk_ck (fun _ => pk_some ⟨rfl, ?_⟩)))
      have : (I ((p : Nat) : Int) * 2500 + I ((nbj : Nat) : Int) + (I ((H.length : Nat) : Int) + I i)).toNatClampNeg = 2500 * p + (nbj + k0) := by
        rw [show (2500 : Int32) = I 2500 from rfl, I_mul, I_add, I_add, I_add]
        exact tnI (n := 2500 * p + (nbj + k0)) (by omega) (by omega)
      rw [this]
    · refine pk_ck (fun _ => pk_ck (fun _ => pk_some ⟨rfl, ?_⟩))
      have : (I ((p : Nat) : Int) * 2500 + I ((nbj : Nat) : Int) + (-2 - I i)).toNatClampNeg = 2500 * p + (nbj + k0) := by
        rw [show (2500 : Int32) = I 2500 from rfl, show (-2 : Int32) = I (-2) from rfl, I_mul, I_add, I_sub, I_add]
        exact tnI (n := 2500 * p + (nbj + k0)) (by omega) (by omega)
      rw [this]
end
