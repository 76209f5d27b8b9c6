section
variable {Fv : Int64 → Int64 → Prop} {P : Int64 → Prop} {u v w w2 : MS} {PR N p n n2 opM bnM bxM bx2 ND fr k tp mu CN PN SN UN FN rq q m h mm : Nat} {ow kd ow2 kd2 ro rn rh cb pc ct pM pE : Nat → Nat} {T : TY} {C : CY}
theorem lg_le {x y : Int64} (h : lg_cmp x y ≤ 0) : x.toInt ≤ y.toInt := by
  unfold lg_cmp at h
  by_cases e : x > y
  · rw [if_pos e] at h; exact absurd h (by decide)
  · have : ¬ y.toInt < x.toInt := fun z => e (Int64.lt_iff_toInt_lt.mpr z)
    omega
theorem npre_1 : ∀ k, k < 30 → 18 ≤ k → k ≠ 28 → npre k = 1 := by decide
set_option maxRecDepth 100000 in
theorem testR {k : Nat} (e : ERX Fv P PR T C ND CN p u fr ro rn rh cb pc ct q n ow kd (ro (fr - 1) + tH T q) (rn (fr - 1) + rh (fr - 1) + tM T q) bxM mu) (hp' : PGM Fv P PR T C pM pE ND CN PN SN UN FN u) (hk : 18 ≤ k ∧ k < 30) (hq : tB T q + npre k ≤ tH T q) (hm : m < ND) (hx : NX T q m (tH T q + 1 - npre k) (tM T q)) (h98 : A u 98 (60 * p + (fr - 1)) = ((m : Nat) : Int)) (hN : 60000 ≤ N) : OK (fun v _ => RES Fv P PR T C ND CN p mu u v) (fm_M_testRun N u (I k)) := by
  have i := e.1
  have x4 := MEI_p i
  have hH := (hp'.1.2.2.1 q e.2.2.1).1.1
  have hf := e.2.1.1
  have hro := (e.2.1.2.2.1 (fr - 1) (by omega)).2.2.2.2.1
  have hg := i.2.2.2.2.2.2.1
  have n500 : n ≤ 500 := i.2.2.2.2.2.2.2.1
  have n1 : k ≠ 28 → npre k = 1 := npre_1 k hk.2 hk.1
  have n2 : k = 28 → npre k = 2 := fun z => by rw [z]; rfl
  have e' := e
  rw [show ro (fr - 1) + tH T q = ro (fr - 1) + (tH T q - 1) + 1 from by omega] at e'
  unfold fm_M_testRun fb_M_testRun_0
  refine ok_bnd.mpr (ok_mono (takeE (N := N) e' (by omega)) (fun v t hv => ?_))
  obtain ⟨v1, v2, v3, v4⟩ := hv
  have pt : ∀ t, GT n ow kd P t → k ≠ 28 → OK (fun v _ => RES Fv P PR T C ND CN p mu u v) (fm_M_put N v t) := fun t gt h28 => by
    rw [n1 h28] at hx
    exact ok_mono (putR (N := N) v1 hm hx (by rw [FR.A v3 (by decide)]; exact h98) (by have := n1 h28; omega) rfl gt (by omega)) (fun y _ hy => RES.pre v3 v4 (by decide) (by decide) (by decide) (by decide) hy)
  have er : OK (fun v _ => RES Fv P PR T C ND CN p mu u v) (fr_M_error N v 11) :=
    ok_mono (err_ok (N := N) (a := 11) v1 (PGM_fr hp' v3 (by decide) (by decide)) (by omega) hN) (fun y _ hy => RES.pre v3 v4 (by decide) (by decide) (by decide) (by decide) hy)
  have p153 : k ≠ 28 → ∀ x : Int32, x = 0 ∨ x = 1 → OK (fun v _ => RES Fv P PR T C ND CN p mu u v) (fb_M_testRun_153 N () v x) := fun h28 x hx' => by
    unfold fb_M_testRun_153 fb_M_testRun_381
    rcases hx' with z | z
    · rw [z, truth0, bnd_so]; exact ok_bnd.mpr (ok_mono (pt _ (GT_atom hp'.2.1 (by omega)) h28) (fun y _ hy => ok_some.mpr hy))
    · rw [z, truth1, bnd_so]; exact ok_bnd.mpr (ok_mono (pt _ (GT_atom hp'.2.1 (by omega)) h28) (fun y _ hy => ok_some.mpr hy))
  have rt := so_r t
  have hn18 : ∀ x : Int, 0 ≤ x → x < 100 → decide (I (k : Int) - I 18 = I x) = decide ((k : Int) - 18 = x) := fun x h1 h2 => by rw [I_sub, decE (by omega) (by omega) (by omega) (by omega)]
  have hl18 : ∀ x : Int, 0 ≤ x → x < 100 → decide (I x ≤ I (k : Int) - I 18) = decide (x ≤ (k : Int) - 18) := fun x h1 h2 => by rw [I_sub, decI (by omega) (by omega) (by omega) (by omega)]
  rw [sortOf_e, bnd_so, show (18 : Int32) = I 18 from rfl, show (7 : Int32) = I 7 from rfl, show (9 : Int32) = I 9 from rfl, show (10 : Int32) = I 10 from rfl, hl18 7 (by omega) (by omega), hl18 9 (by omega) (by omega), hn18 9 (by omega) (by omega), hn18 10 (by omega) (by omega)]
  refine ok_br.mpr ⟨fun z7 => ok_br.mpr ⟨fun z9 => ok_br.mpr ⟨fun z => ?_, fun y9 => ok_br.mpr ⟨fun z => ?_, fun y10 => ?_⟩⟩, fun y9 => ?_⟩, fun z7 => ?_⟩
  · 
    have h28 : k ≠ 28 := by have := of_decide_eq_true z; omega
    refine ok_bnd.mpr (ok_mono (lengthOf_ok (N := N) v1.1 v2 (by omega)) (fun x r hx' => ?_))
    obtain ⟨x1, -⟩ := hx'
    subst x1
    refine ok_br.mpr ⟨fun _ => ?_, fun _ => ?_⟩
    · unfold fb_M_testRun_251 fb_M_testRun_381
      exact ok_bnd.mpr (ok_mono er (fun y _ hy => ok_some.mpr hy))
    · rw [term0_e, bnd_so]
      unfold fb_M_testRun_251 fb_M_testRun_381
      exact ok_bnd.mpr (ok_mono (pt _ (GT_int hp'.2.1) h28) (fun y _ hy => ok_some.mpr hy))
  · 
    have h28 : k = 28 := by have := of_decide_eq_true z; omega
    have hn2 := n2 h28
    rw [hn2] at hx hq
    have v1' := v1
    rw [show ro (fr - 1) + (tH T q - 1) = ro (fr - 1) + (tH T q - 2) + 1 from by omega] at v1'
    refine ok_bnd.mpr (ok_mono (takeE (N := N) v1' (by omega)) (fun w t2 hw => ?_))
    obtain ⟨w1, w2, w3, w4⟩ := hw
    have fw : FR [] [] [92] [] u w := FR.tr v3 w3
    have ow' : OTF p u w := OTF.tr v4 w4
    have er2 : OK (fun v _ => RES Fv P PR T C ND CN p mu u v) (fb_M_testRun_311 N () w) := by
      unfold fb_M_testRun_311 fb_M_testRun_342 fb_M_testRun_381
      exact ok_bnd.mpr (ok_mono (err_ok (N := N) (a := 11) w1 (PGM_fr hp' fw (by decide) (by decide)) (by omega) hN) (fun y _ hy => ok_some.mpr (RES.pre fw ow' (by decide) (by decide) (by decide) (by decide) hy)))
    have rt2 := va_r t2
    rw [sortOf_e, bnd_so, show (5 : Int32) = I 5 from rfl, decE (x := so t) rt.1 rt.2 (by omega) (by omega)]
    refine ok_br.mpr ⟨fun _ => ok_br.mpr ⟨fun z5 => ?_, fun _ => er2⟩, fun _ => er2⟩
    have e5 := of_decide_eq_true z5
    have ht : isH t := Or.inr (Or.inl e5)
    have hgw := w1.1.2.2.2.2.2.2.1
    obtain ⟨bk, parts⟩ := HP_bk hgw ht v2
    have bb : blk (hp w p) t = 1 + vn (hp w p (vn t)) := by unfold blk; rw [e5]; rfl
    have pp : prt t = 1 := by unfold prt; rw [e5]; rfl
    have hd := bk.2.1 e5
    have bn := bk.2.2.2.1
    have vt : va t = (vn t : Int) := by have := bk.1; unfold vn; omega
    have vh : va (hp w p (vn t)) = (vn (hp w p (vn t)) : Int) := by have := hd.1; unfold vn at *; omega
    rw [valueOf_e, bnd_so, lit1q, decL rt2.1 rt2.2 (by omega) (by omega)]
    refine ok_br.mpr ⟨fun _ => er2, fun y1 => ?_⟩
    have y1' := of_decide_eq_false y1
    rw [valueOf_e, bnd_so, valueOf_e, bnd_so, I_F' w1.1.2.2.1, vt, cell_e (by omega) (by omega), bnd_so]
    refine ok_br.mpr ⟨fun y2 => ?_, fun _ => er2⟩
    have y2' := lg_le (of_decide_eq_true y2)
    rw [Int32.toInt_toInt64, I_ti rt2.1 rt2.2, hd.2, vh] at y2'
    rw [valueOf_e, bnd_so, valueOf_e, bnd_so, I_F' w1.1.2.2.1, vt, I_add, show (vn t : Int) + va t2 = ((vn t + (va t2).toNat : Nat) : Int) from by omega, cell_e (by omega) (by omega), bnd_so]
    unfold fb_M_testRun_342 fb_M_testRun_381
    exact ok_bnd.mpr (ok_mono (putR (N := N) w1 hm hx (by rw [FR.A fw (by decide)]; exact h98) (by omega) rfl (parts _ (by omega) (by omega)) (by omega)) (fun y _ hy => ok_some.mpr (RES.pre fw ow' (by decide) (by decide) (by decide) (by decide) hy)))
  · 
    have h28 : k ≠ 28 := by have := of_decide_eq_false y10; omega
    rw [show (5 : Int32) = I 5 from rfl, decE (x := so t) rt.1 rt.2 (by omega) (by omega)]
    unfold fb_M_testRun_381
    refine ok_br.mpr ⟨fun z5 => ?_, fun _ => ok_bnd.mpr (ok_mono er (fun y _ hy => ok_some.mpr hy))⟩
    have e5 := of_decide_eq_true z5
    have ht : isH t := Or.inr (Or.inl e5)
    have hgv := v1.1.2.2.2.2.2.2.1
    obtain ⟨bk, parts⟩ := HP_bk hgv ht v2
    have bb : blk (hp v p) t = 1 + vn (hp v p (vn t)) := by unfold blk; rw [e5]; rfl
    have bn := bk.2.2.2.1
    have vt : va t = (vn t : Int) := by have := bk.1; unfold vn; omega
    rw [valueOf_e, bnd_so, I_F' v1.1.2.2.1, vt, cell_e (by omega) (by omega), bnd_so, term0_e, bnd_so]
    exact ok_bnd.mpr (ok_mono (pt _ (GT_int hp'.2.1) h28) (fun y _ hy => ok_some.mpr hy))
  · 
    have h28 : k ≠ 28 := by have := of_decide_eq_false y9; omega
    have h9 := of_decide_eq_false y9
    have h7 := of_decide_eq_true z7
    rw [decE (x := so t) rt.1 rt.2 (by omega) (by omega)]
    unfold fb_M_testRun_381
    refine ok_br.mpr ⟨fun z5 => ?_, fun _ => ok_bnd.mpr (ok_mono er (fun y _ hy => ok_some.mpr hy))⟩
    have e7 := of_decide_eq_true z5
    have ht : isH t := Or.inr (Or.inr e7)
    have hgv := v1.1.2.2.2.2.2.2.1
    obtain ⟨bk, parts⟩ := HP_bk hgv ht v2
    have bb : blk (hp v p) t = 2 := by unfold blk; rw [e7]; rfl
    have pp : prt t = 0 := by unfold prt; rw [e7]; rfl
    have bn := bk.2.2.2.1
    have vt : va t = (vn t : Int) := by have := bk.1; unfold vn; omega
    rw [valueOf_e, bnd_so, I_F' v1.1.2.2.1, vt, I_sub, I_add, I_sub, show (vn t : Int) + ((k : Int) - 18) - 7 = ((vn t + (k - 25) : Nat) : Int) from by omega, cell_e (by omega) (by omega), bnd_so]
    exact ok_bnd.mpr (ok_mono (pt _ (parts _ (by omega) (by omega)) h28) (fun y _ hy => ok_some.mpr hy))
  · have h28 : k ≠ 28 := by have := of_decide_eq_false z7; omega
    have y1 := p153 h28 1 (Or.inr rfl)
    have y0 := p153 h28 0 (Or.inl rfl)
    unfold fb_M_testRun_77
    exact ok_br.mpr ⟨fun _ => ok_br.mpr ⟨fun _ => y1, fun _ => y0⟩, fun _ => ok_br.mpr ⟨fun _ => ok_br.mpr ⟨fun _ => y1, fun _ => y0⟩, fun _ => ok_br.mpr ⟨fun _ => ok_br.mpr ⟨fun _ => y1, fun _ => ok_br.mpr ⟨fun _ => y1, fun _ => y0⟩⟩, fun _ => ok_br.mpr ⟨fun _ => ok_br.mpr ⟨fun _ => y1, fun _ => y0⟩, fun _ => ok_br.mpr ⟨fun _ => ok_br.mpr ⟨fun _ => y1, fun _ => y0⟩, fun _ => ok_br.mpr ⟨fun _ => ok_br.mpr ⟨fun _ => y1, fun _ => y0⟩, fun _ => ok_br.mpr ⟨fun _ => y1, fun _ => y0⟩⟩⟩⟩⟩⟩⟩
end
