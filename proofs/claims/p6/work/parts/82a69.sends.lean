section
variable {Fv : Int64 → Int64 → Prop} {P P2 : Int64 → Prop} {u v w w2 : MS} {PR PR2 N p n n2 opM bnM bxM bx2 ND fr k tp mu CN PN SN UN FN rq q m h mm AN : Nat} {ow kd ow2 kd2 ro rn rh cb pc ct pM pE : Nat → Nat} {T : TY} {C : CY}
theorem TM_me {q : Nat} {t : Int64} (i : MEI Fv P PR u p n ow kd opM bnM bxM) (g : GT n ow kd P t) : TM Fv P u q p t := by
  have x4 := MEI_p i
  by_cases e : p = q
  · subst e; exact Or.inr (Or.inr ⟨rfl, n, ow, kd, opM, bnM, bxM, i.2.2.2.2.1, i.2.2.2.2.2, g⟩)
  · exact Or.inr (Or.inl ⟨by omega, e, n, ow, kd, i.2.2.2.2.1, i.2.2.2.2.2.2.2.1, i.2.2.2.2.2.2.1, g⟩)
theorem MSG_me {q : Nat} (e : ERX Fv P PR T C ND CN p u fr ro rn rh cb pc ct q n ow kd opM bnM bxM mu) {z : Nat} (h : MSG Fv P PR u z v) : ∃ n2 ow2 kd2 bx2, MEX Fv P PR v p n2 ow2 kd2 opM bnM bx2 := by
  have i := e.1
  exact MEX_of h.1 i.2.1 (by rw [FR.F h.2.1 (by decide)]; exact i.2.2.1) (by rw [FR.A h.2.1 (by decide)]; exact i.2.2.2.2.2.2.2.2.2.1.1) (by rw [FR.A h.2.1 (by decide)]; exact i.2.2.2.2.2.2.2.2.2.2.1.1)
theorem MSG_109 {z y : Nat} (h : MSG Fv P PR u z v) : A v 109 y = A u 109 y ∨ A v 109 y = 3 := by
  by_cases e : y = z
  · subst e; exact h.2.2.2.1
  · exact Or.inl (h.2.2.1 y e).1
theorem i11 (e : ERX Fv (PQ AN PR) PR T C ND CN p u fr ro rn rh cb pc ct q n ow kd (ro (fr - 1) + tH T q) (rn (fr - 1) + rh (fr - 1) + tM T q) bxM mu) (hp' : PGM Fv (PQ AN PR) PR T C pM pE ND CN PN SN UN FN u) (hw : WLD u T ND UN FN PR p) (hG : tG T q = 0) (hq : tB T q + 2 ≤ tH T q) (hm : m < ND) (hx : NX T q m (tH T q - 1) (tM T q)) (h98 : A u 98 (60 * p + (fr - 1)) = ((m : Nat) : Int)) (hN : 60000 ≤ N) : OK (fun v _ => RSW Fv AN T C ND CN UN FN p mu u v) (fm_M_sendRun N u) := by
  have i := e.1
  have x4 := MEI_p i
  have hH := (hp'.1.2.2.1 q e.2.2.1).1.1
  have hf := e.2.1.1
  have hro := (e.2.1.2.2.1 (fr - 1) (by omega)).2.2.2.2.1
  have hT := PRG_26 hp'.1
  obtain ⟨t1, g1⟩ := top_ok (N := N) (k := 1) i (by omega)
  obtain ⟨t0, g0⟩ := top_ok (N := N) (k := 0) i (by omega)
  have y41 : ∀ r : Int32, (r = I (-1) ∨ ∃ z : Nat, z < PR ∧ r = I z) → OK (fun v _ => RSW Fv AN T C ND CN UN FN p mu u v) (fb_M_sendRun_41 N () u r) := fun r hr => by
    unfold fb_M_sendRun_41
    have bad : OK (fun v _ => RSW Fv AN T C ND CN UN FN p mu u v) (bnd (fr_M_error N u 11) (fun u6 _ => some (u6, ()))) := ok_bnd.mpr (ok_mono (err_ok (N := N) (a := 11) e hp' (by omega) hN) (fun y _ hy => ok_some.mpr (RES_rsw hy hw hT i.2.1)))
    refine ok_br.mpr ⟨fun _ => bad, fun z1 => ?_⟩
    obtain ⟨z, hz, rfl⟩ : ∃ z : Nat, z < PR ∧ r = I z := by
      rcases hr with y | y
      · exact absurd y (of_decide_eq_false z1)
      · exact y
    have pr := i.1.1.2
    rw [show (0 : Int32) = I ((0 : Nat) : Int) from rfl, t0, bnd_so, I_F' i.2.2.1, show (2 : Int32) = I ((2 : Nat) : Int) from rfl]
    refine ok_bnd.mpr (ok_mono (message_ok (N := N) (sort := 2) (p := 0) (r := 0) (wr := 0) (o := p) i.1 hz hp'.2.1 (by omega) (fun z => by omega) (by omega) (by omega) (by omega) (fun _ => TM_me i g0) hN) (fun v _ hv => ?_))
    obtain ⟨n2, ow2, kd2, bx2, ix⟩ := MSG_me e hv
    rw [show ro (fr - 1) + tH T q = ro (fr - 1) + (tH T q - 2) + 1 + 1 from by omega] at ix
    refine ok_bnd.mpr (ok_mono (take_x (N := N) ix) (fun v1 r3 hv1 => ?_))
    obtain ⟨a1, a2, a3, a4⟩ := hv1
    refine ok_bnd.mpr (ok_mono (take_x (N := N) a4) (fun v2 r4 hv2 => ?_))
    obtain ⟨b1, b2, b3, b4⟩ := hv2
    refine ok_bnd.mpr (ok_mono (put_x (N := N) b4 a3 (by omega)) (fun v3 _ hv3 => ok_some.mpr ?_))
    obtain ⟨c1, c2, c3⟩ := hv3
    have f1 : FR [] [] [92] [91] v v3 := FR.tr a1 (FR.tr b1 c1)
    have f2 : FR [136, 138, 140, 150] [139] [89, 90, 92, 108, 109, 135, 142, 145, 146, 147] [88, 91, 93, 107, 134, 137, 141, 148] u v3 := FR.tr (FR.mo hv.2.1 (by decide) (by decide) (by decide) (by decide)) (FR.mo f1 (by decide) (by decide) (by decide) (by decide))
    have o1 : OTF p u v3 := OTF.tr (OTF_fr hv.2.1 (by decide)) (OTF.tr a2 (OTF.tr b2 c2))
    have h109 : ∀ y, A v3 109 y = A u 109 y ∨ A v3 109 y = 3 := fun y => by rw [FR.A f1 (by decide)]; exact MSG_109 hv
    have p0 := e.2.2.2.2.2.1
    exact finX e hG hm hx f2 (by decide) (by decide) (by decide) h98 (by have := h109 p; omega) (by rw [show ro (fr - 1) + (tH T q - 1) = ro (fr - 1) + (tH T q - 2) + 1 from by omega]; exact c3) (WLD_fr hw hT o1 f2 (by decide) (by decide) (fun z _ => h109 z)) (FR.mo f2 (by decide) (by decide) (by decide) (by decide))
  unfold fm_M_sendRun fb_M_sendRun_0
  have rs := so_r (u.2.2.2 91 (46000 * p + (ro (fr - 1) + tH T q - 1 - 1)))
  rw [show (1 : Int32) = I ((1 : Nat) : Int) from rfl, t1, bnd_so, sortOf_e, bnd_so, show (4 : Int32) = I 4 from rfl, decE rs.1 rs.2 (by omega) (by omega)]
  refine ok_br.mpr ⟨fun z4 => ?_, fun _ => ?_⟩
  · rw [valueOf_e, bnd_so]
    have e4 := of_decide_eq_true z4
    obtain ⟨z, z1, z2⟩ : ∃ z : Nat, z < PR ∧ va (u.2.2.2 91 (46000 * p + (ro (fr - 1) + tH T q - 1 - 1))) = z := by
      rcases g1 with ⟨-, y⟩ | ⟨y, -⟩
      · rcases y with y | y | y | y | ⟨-, y1, y2⟩
        · omega
        · omega
        · omega
        · omega
        · exact ⟨(va (u.2.2.2 91 (46000 * p + (ro (fr - 1) + tH T q - 1 - 1)))).toNat, by omega, by omega⟩
      · rcases y with y | y | y <;> omega
    rw [z2]
    exact y41 _ (Or.inr ⟨z, z1, rfl⟩)
  · rw [sortOf_e, bnd_so]
    refine ok_br.mpr ⟨fun _ => ?_, fun _ => y41 _ (Or.inl rfl)⟩
    rw [valueOf_e, bnd_so]
    refine ok_bnd.mpr (ok_mono (namedBy_ok (N := N) i.1 (by omega)) (fun v r hv => ?_))
    obtain ⟨v1, v2⟩ := hv
    subst v1
    exact y41 r v2
end
