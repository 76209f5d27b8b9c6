section
variable {Fv : Int64 → Int64 → Prop} {P : Int64 → Prop} {u v w w2 : MS} {PR N p n n2 opM bnM bxM bx2 ND fr k tp mu CN PN SN UN FN rq q m h mm : Nat} {ow kd ow2 kd2 ro rn rh cb pc ct pM pE : Nat → Nat} {T : TY} {C : CY}
theorem w64_0 {x : Int} (h1 : -2147483648 ≤ x) (h2 : x < 2147483648) (h0 : x ≠ 0) : (I x).toInt64 ≠ 0 := fun z => by
  have := congrArg Int64.toInt32 z
  rw [Int32.toInt32_toInt64] at this
  exact h0 ((I_eq h1 h2 (by omega) (by omega)).mp (this.trans (show (0 : Int64).toInt32 = I 0 from rfl)))
theorem i6 {a : Int} (e : ERX Fv P PR T C ND CN p u fr ro rn rh cb pc ct q n ow kd (ro (fr - 1) + tH T q) (rn (fr - 1) + rh (fr - 1) + tM T q) bxM mu) (hp' : PGM Fv P PR T C pM pE ND CN PN SN UN FN u) (hq : tB T q + 2 ≤ tH T q) (hm : m < ND) (hx : NX T q m (tH T q - 1) (tM T q)) (h98 : A u 98 (60 * p + (fr - 1)) = ((m : Nat) : Int)) (ha : 100 ≤ a ∨ (12 ≤ a ∧ a ≤ 20) ∨ a = 22 ∨ a = 23) (ha2 : a < 2147483648) (hN : 11000000 ≤ N) : OK (fun v _ => RES Fv P PR T C ND CN p mu u v) (fm_M_twoRun N u (I a)) := by
  have i := e.1
  have x4 := MEI_p i
  have hH := (hp'.1.2.2.1 q e.2.2.1).1.1
  have hf := e.2.1.1
  have hro := (e.2.1.2.2.1 (fr - 1) (by omega)).2.2.2.2.1
  have e' := e
  rw [show ro (fr - 1) + tH T q = ro (fr - 1) + (tH T q - 2) + 1 + 1 from by omega] at e'
  have two : ∀ (g : MS → Int64 → Int64 → Option (MS × Unit)), (∀ v t1 t2, ERX Fv P PR T C ND CN p v fr ro rn rh cb pc ct q n ow kd (ro (fr - 1) + (tH T q - 2)) (rn (fr - 1) + rh (fr - 1) + tM T q) bxM mu → GT n ow kd P t1 → GT n ow kd P t2 → FR [] [] [92] [] u v → OTF p u v → OK (fun y _ => RES Fv P PR T C ND CN p mu u y) (g v t1 t2)) → OK (fun y _ => RES Fv P PR T C ND CN p mu u y) (bnd (fm_M_take N u) (fun u7 r7 => bnd (fm_M_take N u7) (fun u8 r8 => g u8 r7 r8))) := fun g hg => by
    refine ok_bnd.mpr (ok_mono (takeE (N := N) e' (by omega)) (fun v r hv => ?_))
    obtain ⟨v1, v2, v3, v4⟩ := hv
    refine ok_bnd.mpr (ok_mono (takeE (N := N) v1 (by omega)) (fun w r2 hw => ?_))
    obtain ⟨w1, w2, w3, w4⟩ := hw
    exact hg w r r2 w1 v2 w2 (FR.tr v3 w3) (OTF.tr v4 w4)
  have pt : ∀ v t, ERX Fv P PR T C ND CN p v fr ro rn rh cb pc ct q n ow kd (ro (fr - 1) + (tH T q - 2)) (rn (fr - 1) + rh (fr - 1) + tM T q) bxM mu → GT n ow kd P t → FR [] [] [92] [141] u v → OTF p u v → OK (fun y _ => RES Fv P PR T C ND CN p mu u y) (bnd (fm_M_put N v t) (fun u2 _ => fb_M_twoRun_327 N () u2)) := fun v t ev gt fv ov => by
    unfold fb_M_twoRun_327
    exact ok_bnd.mpr (ok_mono (putR (N := N) ev hm hx (by rw [FR.A fv (by decide)]; exact h98) (by omega) rfl gt (by omega)) (fun y _ hy => ok_some.mpr (RES.pre fv ov (by decide) (by decide) (by decide) (by decide) hy)))
  have er : ∀ v, ERX Fv P PR T C ND CN p v fr ro rn rh cb pc ct q n ow kd (ro (fr - 1) + (tH T q - 2)) (rn (fr - 1) + rh (fr - 1) + tM T q) bxM mu → FR [] [] [92] [] u v → OTF p u v → OK (fun y _ => RES Fv P PR T C ND CN p mu u y) (fr_M_error N v 12) := fun v ev fv ov =>
    ok_mono (err_ok (N := N) (a := 12) ev (PGM_fr hp' fv (by decide) (by decide)) (by omega) (by omega)) (fun y _ hy => RES.pre fv ov (by decide) (by decide) (by decide) (by decide) hy)
  have X : 17 < a → OK (fun y _ => RES Fv P PR T C ND CN p mu u y) (fb_M_twoRun_147 N () u (I a)) := fun ha17 => by
    unfold fb_M_twoRun_147
    rw [show (22 : Int32) = I 22 from rfl, show (23 : Int32) = I 23 from rfl, show (100 : Int32) = I 100 from rfl, decE (by omega) (by omega) (by omega) (by omega), decE (by omega) (by omega) (by omega) (by omega), decL (by omega) (by omega) (by omega) (by omega)]
    refine ok_br.mpr ⟨fun _ => ?_, fun z22 => ok_br.mpr ⟨fun _ => ?_, fun z23 => ?_⟩⟩
    · unfold fb_M_twoRun_327
      exact ok_bnd.mpr (ok_mono (joined_ok (N := N) e hp' hq hm hx h98 (by omega)) (fun y _ hy => ok_some.mpr hy))
    · unfold fb_M_twoRun_327
      exact ok_bnd.mpr (ok_mono (lessened_ok (N := N) e hp' hq hm hx h98 hN) (fun y _ hy => ok_some.mpr hy))
    have z22' := of_decide_eq_false z22
    have z23' := of_decide_eq_false z23
    refine two (fun u8 r7 r8 => _) (fun v t1 t2 ev g1 g2 fv ov => ?_)
    have no : OK (fun y _ => RES Fv P PR T C ND CN p mu u y) (fb_M_twoRun_212 N () v) := by
      unfold fb_M_twoRun_212
      exact ok_bnd.mpr (ok_mono (er v ev fv ov) (fun y _ hy => ok_some.mpr hy))
    have y295 : ∀ t0 : Int64, OK (fun y _ => RES Fv P PR T C ND CN p mu u y) (fb_M_twoRun_295 N () v t0) := fun t0 => by
      unfold fb_M_twoRun_295
      rw [term0_e, bnd_so]
      refine ok_br.mpr ⟨fun _ => pt v _ ev (GT_int hp'.2.1) (FR.mo fv (by decide) (by decide) (by decide) (by decide)) ov, fun _ => ?_⟩
      unfold fb_M_twoRun_327
      exact ok_bnd.mpr (ok_mono (er v ev fv ov) (fun y _ hy => ok_some.mpr hy))
    have r1 := va_r t1
    have y219 : (a < 100 ∨ va t1 ≠ 0) → OK (fun y _ => RES Fv P PR T C ND CN p mu u y) (fb_M_twoRun_219 N () v (I a) t1 t2) := fun hz => by
      unfold fb_M_twoRun_219
      rw [valueOf_e, bnd_so, valueOf_e, bnd_so, show (18 : Int32) = I 18 from rfl, show (19 : Int32) = I 19 from rfl, show (20 : Int32) = I 20 from rfl, decE (by omega) (by omega) (by omega) (by omega), decE (by omega) (by omega) (by omega) (by omega), decE (by omega) (by omega) (by omega) (by omega)]
      refine ok_br.mpr ⟨fun _ => y295 _, fun z18 => ok_br.mpr ⟨fun _ => y295 _, fun z19 => ok_br.mpr ⟨fun _ => y295 _, fun z20 => ?_⟩⟩⟩
      have := of_decide_eq_false z18
      have := of_decide_eq_false z19
      have := of_decide_eq_false z20
      have nz := w64_0 r1.1 r1.2 (show va t1 ≠ 0 from by omega)
      exact ok_br.mpr ⟨fun _ => ok_ck.mpr ⟨decide_eq_true nz, y295 _⟩, fun _ => ok_ck.mpr ⟨decide_eq_true nz, y295 _⟩⟩
    show OK _ (bnd (fm_M_sortOf N v t2) _)
    rw [sortOf_e, bnd_so]
    refine ok_br.mpr ⟨fun _ => ?_, fun _ => no⟩
    rw [sortOf_e, bnd_so]
    refine ok_br.mpr ⟨fun _ => ok_br.mpr ⟨fun z => y219 (Or.inl (of_decide_eq_true z)), fun _ => ?_⟩, fun _ => no⟩
    rw [valueOf_e, bnd_so, lit0q, decE r1.1 r1.2 (by omega) (by omega)]
    exact ok_br.mpr ⟨fun _ => no, fun z => y219 (Or.inr (of_decide_eq_false z))⟩
  unfold fm_M_twoRun fb_M_twoRun_0
  rw [show (12 : Int32) = I 12 from rfl, show (17 : Int32) = I 17 from rfl, decL (by omega) (by omega) (by omega) (by omega), decL (by omega) (by omega) (by omega) (by omega)]
  refine ok_br.mpr ⟨fun z => by have := of_decide_eq_true z; omega, fun _ => ok_br.mpr ⟨fun z => X (of_decide_eq_true z), fun _ => ?_⟩⟩
  refine two (fun u17 r16 r17 => _) (fun v t1 t2 ev g1 g2 fv ov => ?_)
  show OK _ (bnd (fm_M_order N v t2 t1) _)
  have hpg := PGM_fr hp' fv (by decide) (by decide)
  refine ok_bnd.mpr (ok_mono (order_ok (N := N) (Fv := Fv) (P := P) (n := n) (ow := ow) (kd := kd) ev.1.2.2.2.2.2.2.2.1 x4 hpg.2.2.1 hpg.2.2.2.1 hpg.2.2.2.2 ev.1.2.2.1 ev.1.2.2.2.2.2.2.1 g2 g1 (by omega)) (fun w r fw => ?_))
  have fu : FR [] [] [92] [141] u w := FR.tr (FR.mo fv (by decide) (by decide) (by decide) (by decide)) (FR.mo fw (by decide) (by decide) (by decide) (by decide))
  have ou : OTF p u w := OTF.tr ov (OTF_fr fw (by decide))
  have iw := MEI_fr ev.1 fw (by decide) (by decide) (by decide) (by decide) (by decide) (by decide) (by decide) (by decide) (by decide) (by decide) (by decide) (by decide) (by decide) (by decide) (by decide) (by decide) (by decide) (by decide)
  have ew := ERX_fr ev fw (by decide) (by decide) (by decide) iw (by omega) (Nat.le_refl _)
  have p1 : OK (fun y _ => RES Fv P PR T C ND CN p mu u y) (fb_M_twoRun_138 N () w 1) := by
    unfold fb_M_twoRun_138
    rw [truth1, bnd_so]
    exact pt w _ ew (GT_atom hp'.2.1 (by omega)) fu ou
  have p0 : OK (fun y _ => RES Fv P PR T C ND CN p mu u y) (fb_M_twoRun_138 N () w 0) := by
    unfold fb_M_twoRun_138
    rw [truth0, bnd_so]
    exact pt w _ ew (GT_atom hp'.2.1 (by omega)) fu ou
  exact ok_br.mpr ⟨fun _ => ok_br.mpr ⟨fun _ => p1, fun _ => p0⟩, fun _ => ok_br.mpr ⟨fun _ => ok_br.mpr ⟨fun _ => p0, fun _ => p1⟩, fun _ => ok_br.mpr ⟨fun _ => ok_br.mpr ⟨fun _ => p0, fun _ => p1⟩, fun _ => ok_br.mpr ⟨fun _ => ok_br.mpr ⟨fun _ => p0, fun _ => p1⟩, fun _ => ok_br.mpr ⟨fun _ => ok_br.mpr ⟨fun _ => p0, fun _ => p1⟩, fun _ => ok_br.mpr ⟨fun _ => p0, fun _ => p1⟩⟩⟩⟩⟩⟩
end
