/-! FIT there, fitsPart here -/
set_option maxRecDepth 100000
/-- behind the patterns, there -/
def trE (N p : Nat) (B : Int) (u18 : MS) (r18 : Int32) : Option (MS × Unit) := br (decide (r18 = (-1))) (lt (upI u18 (pq p 24) (I B)) (fun w22 => bnd (hm_Co_at N w22 ((w22.1 1105) + 2)) (fun u25 r25 => lt (upI u25 1105 r25) (fun w27 => some (w27, ()))))) (lt (upI u18 1105 r18) (fun w19 => some (w19, ())))
/-- all of the terms of p, here, but for the one at hand -/
def CXf (u : MS) (p : Nat) (h : Nat → Int64) (n : Nat) (ow kd : Nat → Nat) (Fv : Int64 → Int64 → Prop) (P : Int64 → Prop) (opM bnM bxM : Nat) : Prop :=
  hp u p = h ∧ HP h n ow kd Fv P ∧ n ≤ 500 ∧ p < 24 ∧ (A u 92 p = opM ∧ opM ≤ 46000) ∧ (A u 94 p = bnM ∧ bnM ≤ 2500) ∧ (A u 108 p = bxM ∧ bxM ≤ 30) ∧ (∀ i, i < opM → GT n ow kd P (u.2.2.2 91 (46000 * p + i))) ∧ (∀ i, i < bnM → GT n ow kd P (u.2.2.2 93 (2500 * p + i))) ∧ (∀ i, i < bxM → GT n ow kd P (u.2.2.2 107 (30 * p + i))) ∧ True
section
variable {α β γ δ : Type}
/-- both come to an end, then on -/
theorem pp_lk {Q : MS → α → MS → β → Prop} {o : Option (MS × γ)} {f : MS → γ → Option (MS × α)} {t : Option (MS × δ)} {g : MS → δ → Option (MS × β)} (h : PP (fun m z w r => PP Q (f m z) (g w r)) o (bnd t (fun u r => some (u, r)))) : PP Q (bnd o f) (bnd t g) := by
  have e : bnd t (fun u r => some (u, r)) = t := by
    cases t with
    | none => rfl
    | some x => rfl
  rw [e] at h
  exact pp_bb h
end
section
variable {α β : Type} {N p l Wc B n a fl : Nat} {m : MS} {y : Int} {sub : Nat → Int64} {Q : MS → α → MS → β → Prop} {Z : Option (MS × β)} {K : MS → Unit → Option (MS × α)}
/-- what is tried comes on the stack, there -/
theorem fill_pp (hy : (y = ((n : Nat) : Int) ∧ n ≤ 100) ∨ (y = -1 ∧ n = 1) ∨ (y = -2 ∧ n = 1)) (h24 : F m (pq p 24) = ((B : Nat) : Int)) (h26 : F m (pq p 26) = ((Wc : Nat) : Int)) (hl : F m (pq p 45) = ((l : Nat) : Int)) (hl2 : Wc ≤ l ∧ l ≤ 1000000) (hs1 : y ≠ -2 → ∀ k, k < n → k < Wc ∧ sub k = m.2.2.2 (pq p 35) (Wc - 1 - k)) (hs2 : y = -2 → ∃ tr : Nat, F m (pq p 8) = ((tr : Nat) : Int) ∧ tr < 30 ∧ sub 0 = m.2.2.2 (pq p 6) tr) (k : ∀ m2, FR [] [] [] [44] m m2 → (∀ k, k < n → m2.2.2.2 44 k = sub k) → PP Q (bnd (bnd (hm_Ma_fit N m2 p ((m2.1 1105) + 3) (I ((n : Nat) : Int))) (fun u r => trE N p ((B : Nat) : Int) u r)) K) Z) : PP Q (bnd (hm_Ma_tries N m p (I y)) K) Z := by
  have lp : ∀ (d M : Nat) (m1 : MS) (i : Nat), i + d = n → FR [] [] [] [44] m m1 → (∀ k, k < i → m1.2.2.2 44 k = sub k) → PP Q (bnd (hg_Ma_tries N M m1 p (I y) (I ((B : Nat) : Int)) (I ((n : Nat) : Int)) (I ((i : Nat) : Int))) K) Z := by
    intro d
    induction d with
    | zero =>
      intro M m1 i hi f r
      have : i = n := by omega
      subst this
      cases M with
      | zero => exact pp_nl
      | succ M =>
      show PP Q (bnd (hb_Ma_tries_21 N (hg_Ma_tries N M) m1 p (I y) (I ((B : Nat) : Int)) (I ((i : Nat) : Int)) (I ((i : Nat) : Int))) K) Z
      unfold hb_Ma_tries_21
      rw [decI (by omega) (by omega) (by omega) (by omega), decide_eq_true (by omega), br_t]
      exact k m1 f r
    | succ d ih =>
      intro M m1 i hi f r
      cases M with
      | zero => exact pp_nl
      | succ M =>
      have i1 : ∀ j, m1.1 j = m.1 j := fun j => f.1 j (by simp)
      have fF : ∀ j, F m1 j = F m j := fun j => congrArg Int32.toInt (i1 j)
      have jq : ∀ j, m1.2.2.2 (pq p j) = m.2.2.2 (pq p j) := fun j => f.2.2.2 _ (by simp; exact fun c => pq_n (by omega) c.symm)
      show PP Q (bnd (hb_Ma_tries_21 N (hg_Ma_tries N M) m1 p (I y) (I ((B : Nat) : Int)) (I ((n : Nat) : Int)) (I ((i : Nat) : Int))) K) Z
      unfold hb_Ma_tries_21
      rw [decI (by omega) (by omega) (by omega) (by omega), decide_eq_false (by omega), br_f]
      have put : ∀ t : Int64, t = sub i → PP Q (bnd (hb_Ma_tries_93 N (hg_Ma_tries N M) m1 p (I y) (I ((B : Nat) : Int)) (I ((n : Nat) : Int)) (I ((i : Nat) : Int)) (I ((i : Nat) : Int)) t) K) Z := fun t et => by
        unfold hb_Ma_tries_93
        refine lb_ck (fun _ => ?_)
        rw [lt_e, tnI (n := i) rfl (by omega), wj_e, show I ((i : Nat) : Int) + 1 = I ((i + 1 : Nat) : Int) from addN]
        refine ih M _ (i + 1) (by omega) (FR.wj f (by simp)) (fun k hk => ?_)
        rw [wj_row]
        by_cases c : k = i
        · rw [if_pos c, et, c]
        · rw [if_neg c]; exact r k (by omega)
      have bel : y ≠ -2 → PP Q (bnd (hb_Ma_tries_50 N (hg_Ma_tries N M) m1 p (I y) (I ((B : Nat) : Int)) (I ((n : Nat) : Int)) (I ((i : Nat) : Int)) 0) K) Z := fun hne => by
        unfold hb_Ma_tries_50
        obtain ⟨s1, s2⟩ := hs1 hne i (by omega)
        rw [show decide ((0 : Int32) = 0) = true from rfl, br_t, below_e (k := i) (W := Wc) (l := l) (by rw [fF]; exact h26) (by rw [fF]; exact hl) hl2.1 hl2.2 rfl s1, bnd_so]
        exact put _ (by rw [jq]; exact s2.symm)
      by_cases e2 : y = -2
      · obtain ⟨tr, t1, t2, t3⟩ := hs2 e2
        have n1 : n = 1 := by
          clear hs1 hs2 bel put r k ih i1 fF jq t1 t2 t3
          omega
        have i0 : i = 0 := by omega
        subst i0
        rw [e2, show decide (I (-2) = -2) = true from rfl, br_t, I_F' ((fF (pq p 8)).trans t1), show (30 : Int32) = I 30 from rfl, decI (by omega) (by omega) (by omega) (by omega), decide_eq_false (by omega), br_f]
        unfold hb_Ma_tries_50
        rw [show decide ((1 : Int32) = 0) = false from rfl, br_f]
        refine lb_ck (fun _ => ?_)
        rw [I_F' ((fF (pq p 8)).trans t1), tnI (n := tr) rfl (by omega)]
        have := put (m1.2.2.2 (pq p 6) tr) (by rw [jq]; exact t3.symm)
        rw [e2] at this
        exact this
      · rw [show (-2 : Int32) = I (-2) from rfl, decE (by omega) (by omega) (by omega) (by omega), decide_eq_false e2, br_f]
        exact bel e2
  unfold hm_Ma_tries hb_Ma_tries_0 hb_Ma_tries_17
  rw [I_F' h24]
  rcases hy with ⟨rfl, hn⟩ | ⟨rfl, rfl⟩ | ⟨rfl, rfl⟩
  · rw [d_lt0 (by omega), br_f]
    exact lp n N m 0 (by omega) FR.rf (fun k hk => by omega)
  · rw [show decide (I (-1) < 0) = true from rfl, br_t]
    exact lp 1 N m 0 (by omega) FR.rf (fun k hk => by omega)
  · rw [show decide (I (-2) < 0) = true from rfl, br_t]
    exact lp 1 N m 0 (by omega) FR.rf (fun k hk => by omega)
/-- it does not fit, there -/
theorem trE_f {m3 : MS} (h5 : F m3 1105 = ((a : Nat) : Int)) (hfl : A m3 23 (a + 2) = ((fl : Nat) : Int)) (ha : a + 2 < 24000) : trE N p ((B : Nat) : Int) m3 (-1) = some (wi (wi m3 (pq p 24) ((B : Nat) : Int)) 1105 ((fl : Nat) : Int), ()) := by
  unfold trE
  have e5 : F (wi m3 (pq p 24) ((B : Nat) : Int)) 1105 = ((a : Nat) : Int) := by rw [wi_ne (pq_n (by omega))]; exact h5
  have e23 : A (wi m3 (pq p 24) ((B : Nat) : Int)) 23 (a + 2) = ((fl : Nat) : Int) := hfl
  rw [show decide ((-1 : Int32) = -1) = true from rfl, br_t, wi_e, lt_e, I_F' e5, show I ((a : Nat) : Int) + 2 = I ((a + 2 : Nat) : Int) from addN, Co_e (k := a + 2) rfl ha, bnd_so, e23, wi_e, lt_e]
/-- it fits, there -/
theorem trE_s {m3 : MS} {e : Nat} (he : e < 100000) : trE N p ((B : Nat) : Int) m3 (I ((e : Nat) : Int)) = some (wi m3 1105 ((e : Nat) : Int), ()) := by
  unfold trE
  rw [m1I, decE (by omega) (by omega) (by omega) (by omega), decide_eq_false (by omega), br_f, wi_e, lt_e]
end
section
variable {α β : Type} {b : Int → Nat → Nat → Prop} {Fv Fv' : Int64 → Int64 → Prop} {P P' : Int64 → Prop} {ow kd ow' kd' fa' : Nat → Nat} {N p jf nbj U W Y na n a e fl k0 kn : Nat} {H O O2 : List Nat} {m w : MS} {Q : MS → α → MS → β → Prop} {K1 : MS → Option (MS × α)} {K : MS → Int32 → Option (MS × β)}
/-- FIT there, fitsPart here -/
theorem fit_op (ft : FTx b Fv P Fv' P' ow kd ow' kd' p jf nbj U na fa' H m w) (pl : PLs b p m w U (nbj + (H ++ O).length) W Y) (nms : NMs m p nbj (H ++ O)) (nd : O.Nodup) (pt : PTQ m p U ow kd Fv P (nbj + (H ++ O).length) W Y) (xc : CXf w p (hp w p) U ow' kd' Fv' P' W (nbj + (H ++ O).length) Y) (h42 : ((nbj + (H ++ O).length : Nat) : Int) ≤ F m (pq p 42)) (h5 : F m 1105 = ((a : Nat) : Int)) (hfl : A m 23 (a + 2) = ((fl : Nat) : Int))
    (hkn : F w 153 = ((kn : Nat) : Int)) (h154 : F w 154 = ((k0 : Nat) : Int)) (hk0 : k0 < 100000) (hy : (kn = 0 ∧ 0 < n ∧ n ≤ 100 ∧ n ≤ W ∧ A w 41 k0 = ((n : Nat) : Int) ∧ A m 23 (a + 1) = ((n : Nat) : Int)) ∨ (kn = 1 ∧ n = 1 ∧ 1 ≤ W ∧ A m 23 (a + 1) = -1) ∨ (kn = 3 ∧ n = 1 ∧ A m 23 (a + 1) = -2 ∧ ∃ tr : Nat, F m (pq p 8) = ((tr : Nat) : Int) ∧ tr < Y ∧ F w 158 = ((tr : Nat) : Int)))
    (pr : PTr (A m 23) (ROs w) (w.2.2.2 34) H 230 n (a + 3) (A w 40 k0) O e O2) (h8 : A m 23 e = 8) (he : e + 3 < 24000) (hlen : nbj + (H ++ O2).length ≤ 2500) (hN : 200000 ≤ N)
    (kf : ∀ m3 w3, NFx p (nbj + (H ++ O).length) m m3 → FWx p (nbj + (H ++ O).length) w w3 → PP Q (K1 (wi (wi m3 (pq p 24) ((nbj + (H ++ O).length : Nat) : Int)) 1105 ((fl : Nat) : Int))) (K w3 0)) (ks : ∀ m3 w3, FSt b P P' ow kd ow' kd' p (nbj + (H ++ O).length) nbj U W Y H O2 m w m3 w3 → PP Q (K1 (wi m3 1105 ((e + 1 : Nat) : Int))) (K w3 1)) : PP Q (bnd (hm_Ma_tries N m p (I (A m 23 (a + 1)))) (fun u _ => K1 u)) (bnd (fm_M_fitsPart N w) K) := by
  obtain ⟨⟨hp1, h133⟩, -, ⟨-, -, -, hU⟩, -⟩ := id ft
  have bW : W ≤ 46000 := xc.2.2.2.2.1.2
  have bY : Y ≤ 30 := xc.2.2.2.2.2.2.1.2
  obtain ⟨⟨l3, c1, c2, c3⟩, ⟨l5, d1, d2, d3⟩, -⟩ := pt.2.2.2.2
  have fs0 : FSt b P P' ow kd ow' kd' p (nbj + (H ++ O).length) nbj U W Y H O m w m w := by
    refine ⟨⟨FIx.rf, ⟨_, Nat.le_refl _, pl.2.1.1, by rw [c1]; omega, h42⟩, fun _ _ => ⟨rfl, rfl⟩⟩, ⟨FR.rf, fun _ _ => rfl, fun _ _ => rfl⟩, pl, nms, ⟨Nat.le_refl _, nd⟩, fun k hk => ⟨pl.2.1.2.2 k hk, pt.2.1.2 k hk, xc.2.2.2.2.2.2.2.2.1 k hk⟩⟩
  have p0r : RG (A w 40 k0) := A_r _ _ _
  have kF : ∀ m3 w3, NFx p (nbj + (H ++ O).length) m m3 → FWx p (nbj + (H ++ O).length) w w3 → F m3 1105 = ((a : Nat) : Int) ∧ A m3 23 (a + 2) = ((fl : Nat) : Int) := fun m3 w3 a1 _ => ⟨by rw [a1.1.Fg (by omega) (by simp)]; exact h5, by rw [congrFun a1.c]; exact hfl⟩
  have ae : a + 3 < e := by
    obtain ⟨ci, cp, co, z0, zn, -, -, -, z8⟩ := pr
    have n1 : 0 < n := by omega
    have := up_le (c := ci) (n := n) (fun k hk => Nat.le_of_lt (PTs_lt (z8 k hk).1)) (n - 1) 1 (by omega)
    rw [show 1 + (n - 1) = n by omega, zn] at this
    have h01 : ci 0 < ci 1 := PTs_lt (z8 0 n1).1
    rw [z0] at h01
    omega
  have tpw : ∀ k, k < W → TPb b U ow kd P U ow' kd' P' (m.2.2.2 (pq p 35) (W - 1 - k)) (w.2.2.2 91 (46000 * p + (W - 1 - k))) := fun k hk => ⟨pl.2.2.1.2.2 _ (by omega), pt.2.2.1.2 _ (by omega), xc.2.2.2.2.2.2.2.1 _ (by omega)⟩
  rcases hy with ⟨rfl, n0, n1, n2, y1, y2⟩ | ⟨rfl, rfl, n2, y2⟩ | ⟨rfl, rfl, y2, tr, t1, t2, t3⟩
  · -- ARGUMENTS
    rw [y2]
    refine fill_pp (n := n) (B := nbj + (H ++ O).length) (Wc := W) (l := l5) (sub := fun k => m.2.2.2 (pq p 35) (W - 1 - k)) (Or.inl ⟨rfl, n1⟩) pl.2.1.1 pl.2.2.1.1 d1 ⟨d2, d3⟩ (fun _ k hk => ⟨by omega, rfl⟩) (fun c => by omega) (fun m2 f r => ?_)
    unfold fm_M_fitsPart fb_M_fitsPart_0 fb_M_fitsPart_70
    rw [I_F' hkn, show decide (I ((0 : Nat) : Int) = 2) = false from rfl, br_f, show decide (I ((0 : Nat) : Int) = 3) = false from rfl, br_f, show decide (I ((0 : Nat) : Int) = 1) = false from rfl, br_f]
    refine rb_ck (fun _ => rb_ck (fun _ => ?_))
    rw [lt_e, I_F' h154, tnI (n := k0) rfl (by omega), I_A' y1, I_A (k := 40), show I ((n : Nat) : Int) - 1 = I (((n : Nat) : Int) - 1) by rw [lit1, I_sub]]
    have e5 : F m2 1105 = ((a : Nat) : Int) := by rw [FR.F f (by simp)]; exact h5
    rw [I_F' e5, show I ((a : Nat) : Int) + 3 = I ((a + 3 : Nat) : Int) from addN]
    refine l_bb ?_
    refine pp_lk (fit_row (Q := fun m3 r3 w3 r4 => PP Q (bnd (trE N p ((nbj + (H ++ O).length : Nat) : Int) m3 r3) (fun u _ => K1 u)) (K w3 r4)) (K := fun u r => some (u, r)) ft pr h8 (FSt_m fs0 (FR.mo f (by simp) (by simp) (by simp) (by simp))) _ r n2 bW (fun k hk => tpw k (by omega)) p0r he n1 (Nat.le_refl _) hlen hN (fun m3 w3 a1 a2 => pp_end ?_) (fun m3 w3 a1 => pp_end ?_))
    · obtain ⟨b1, b2⟩ := kF m3 w3 a1 a2
      rw [trE_f b1 b2 (by omega), bnd_so]
      exact kf m3 w3 a1 a2
    · rw [trE_s (by omega), bnd_so]
      exact ks m3 w3 a1
  · -- the uppermost
    rw [y2]
    refine fill_pp (n := 1) (B := nbj + (H ++ O).length) (Wc := W) (l := l5) (sub := fun k => m.2.2.2 (pq p 35) (W - 1 - k)) (Or.inr (Or.inl ⟨rfl, rfl⟩)) pl.2.1.1 pl.2.2.1.1 d1 ⟨d2, d3⟩ (fun _ k hk => ⟨by omega, rfl⟩) (fun c => by omega) (fun m2 f r => ?_)
    unfold fm_M_fitsPart fb_M_fitsPart_0 fb_M_fitsPart_70
    rw [I_F' hkn, show decide (I ((1 : Nat) : Int) = 2) = false from rfl, br_f, show decide (I ((1 : Nat) : Int) = 3) = false from rfl, br_f, show decide (I ((1 : Nat) : Int) = 1) = true from rfl, br_t]
    refine rb_ck (fun _ => ?_)
    rw [lt_e, I_F' h154, tnI (n := k0) rfl (by omega), I_A (k := 40), show (1 : Int32) - 1 = I (((1 : Nat) : Int) - 1) from rfl]
    have e5 : F m2 1105 = ((a : Nat) : Int) := by rw [FR.F f (by simp)]; exact h5
    rw [I_F' e5, show I ((a : Nat) : Int) + 3 = I ((a + 3 : Nat) : Int) from addN]
    refine l_bb ?_
    refine pp_lk (fit_row (Q := fun m3 r3 w3 r4 => PP Q (bnd (trE N p ((nbj + (H ++ O).length : Nat) : Int) m3 r3) (fun u _ => K1 u)) (K w3 r4)) (K := fun u r => some (u, r)) ft pr h8 (FSt_m fs0 (FR.mo f (by simp) (by simp) (by simp) (by simp))) _ r n2 bW (fun k hk => tpw k (by omega)) p0r he (by omega) (Nat.le_refl _) hlen hN (fun m3 w3 a1 a2 => pp_end ?_) (fun m3 w3 a1 => pp_end ?_))
    · obtain ⟨b1, b2⟩ := kF m3 w3 a1 a2
      rw [trE_f b1 b2 (by omega), bnd_so]
      exact kf m3 w3 a1 a2
    · rw [trE_s (by omega), bnd_so]
      exact ks m3 w3 a1
  · -- a message
    rw [y2]
    refine fill_pp (n := 1) (B := nbj + (H ++ O).length) (Wc := W) (l := l5) (sub := fun k => m.2.2.2 (pq p 6) tr) (Or.inr (Or.inr ⟨rfl, rfl⟩)) pl.2.1.1 pl.2.2.1.1 d1 ⟨d2, d3⟩ (fun c => absurd rfl c) (fun _ => ⟨tr, t1, by omega, rfl⟩) (fun m2 f r => ?_)
    unfold fm_M_fitsPart fb_M_fitsPart_0
    rw [I_F' hkn, show decide (I ((3 : Nat) : Int) = 2) = false from rfl, br_f, show decide (I ((3 : Nat) : Int) = 3) = true from rfl, br_t]
    refine rb_ck (fun _ => rb_ck (fun _ => ?_))
    have ix : (I ((p : Nat) : Int) * 30 + I ((tr : Nat) : Int)).toNatClampNeg = 30 * p + tr := by
      rw [show (30 : Int32) = I 30 from rfl, I_mul, I_add]
      exact tnI (n := 30 * p + tr) (by omega) (by omega)
    rw [I_F' h154, tnI (n := k0) rfl (by omega), I_A (k := 40), I_F' h133, I_F' t3, ix]
    obtain ⟨ci, cp, co, z0, zn, o0, on, ep, z8⟩ := pr
    obtain ⟨z8, -⟩ := z8 0 (by omega)
    rw [z0, o0, show 0 + 1 = 1 from rfl, zn, on] at z8
    have e5 : F m2 1105 = ((a : Nat) : Int) := by rw [FR.F f (by simp)]; exact h5
    rw [ep] at p0r
    rw [I_F' e5, show I ((a : Nat) : Int) + 3 = I ((a + 3 : Nat) : Int) from addN, ep]
    refine l_bb (r_bb ?_)
    refine pp_lk (fit_1p (Q := fun m3 r3 w3 r4 => PP Q (bnd (trE N p ((nbj + (H ++ O).length : Nat) : Int) m3 r3) (fun u _ => K1 u)) (bnd (ck (isb r4) (some (w3, r4))) K)) (K := fun u r => some (u, r)) (t := m.2.2.2 (pq p 6) tr) ft z8 h8 (FSt_m fs0 (FR.mo f (by simp) (by simp) (by simp) (by simp))) (r 0 (by omega)) ⟨pl.2.2.2.2.2 tr t2, pt.2.2.2.1.2 tr t2, xc.2.2.2.2.2.2.2.2.2.1 tr t2⟩ (by have := p0r.2; omega) he (Nat.le_refl _) hlen hN (fun m3 w3 a1 a2 => pp_end ?_) (fun m3 w3 a1 => pp_end ?_))
    · obtain ⟨b1, b2⟩ := kF m3 w3 a1 a2
      rw [trE_f b1 b2 (by omega), bnd_so]
      exact kf m3 w3 a1 a2
    · rw [trE_s (by omega), bnd_so]
      exact ks m3 w3 a1
end
