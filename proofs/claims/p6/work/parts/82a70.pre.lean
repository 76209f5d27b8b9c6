section
variable {Fv : Int64 → Int64 → Prop} {P P2 : Int64 → Prop} {u v w w2 x y : MS} {PR PR2 N p n n2 opM bnM bxM bx2 ND fr k tp mu CN PN SN UN FN rq q m h mm AN : Nat} {ow kd ow2 kd2 ro rn rh cb pc ct pM pE : Nat → Nat} {T : TY} {C : CY}
theorem RES_via {is ls as js : List Nat} (f : FR is ls as js u x) (o : OTF p u x) (r : RES Fv (PQ AN PR) PR T C ND CN p mu x y) (hw : WLD u T ND UN FN PR p) (hT : ∀ q, q < ND → tK T q ≤ 26) (hp : p < PR) (hi : ∀ k, k ∈ [125, 128] → k ∉ is) (ha : ∀ k, k ∈ 109 :: 116 :: 117 :: 123 :: 124 :: 127 :: 132 :: KP → k ∉ as) (h1 : ∀ k, k ∈ is → k ∈ [118, 119, 121, 125, 128, 136, 138, 140, 144, 150, 151, 152, 153, 154, 155, 156, 157, 158, 159, 165, 166, 169]) (h2 : ∀ k, k ∈ ls → k ∈ [139]) (h3 : ∀ k, k ∈ as → k ∈ [89, 90, 92, 94, 95, 96, 97, 98, 99, 100, 101, 102, 103, 104, 105, 106, 108, 109, 110, 112, 113, 114, 115, 116, 117, 122, 123, 124, 126, 127, 132, 135, 142, 143, 145, 146, 147, 160, 162, 168, 170]) (h4 : ∀ k, k ∈ js → k ∈ [88, 91, 93, 107, 111, 134, 137, 141, 148, 161, 163, 167]) : RSW Fv AN T C ND CN UN FN p mu u y :=
  RSW.pre (FR.mo f h1 h2 h3 h4) (RES_rsw r (WLD_fr hw hT o f hi (fun k hk => ha k (List.mem_cons_of_mem _ hk)) (fun z _ => Or.inl (FR.A f (ha _ (by decide))))) hT hp)
theorem PQ_pid {t : Int64} (g : GT n ow kd (PQ AN PR) t) (h4 : so t = 4) : ∃ z : Nat, z < PR ∧ va t = z := by
  rcases g with ⟨-, y⟩ | ⟨y, -⟩
  · rcases y with y | y | y | y | ⟨-, y1, y2⟩
    · omega
    · omega
    · omega
    · omega
    · exact ⟨(va t).toNat, by omega, by omega⟩
  · rcases y with y | y | y <;> omega
theorem br_t_of {α : Type} {b : Bool} {x y : α} (h : b = true) : br b x y = x := by rw [h]; rfl
theorem br_f_of {α : Type} {b : Bool} {x y : α} (h : b = false) : br b x y = y := by rw [h]; rfl
theorem isK113 : isK 113 4 = true := by decide
theorem nameR {k : Nat} (e : ERX Fv (PQ AN PR) PR T C ND CN p u fr ro rn rh cb pc ct q n ow kd (ro (fr - 1) + tH T q) (rn (fr - 1) + rh (fr - 1) + tM T q) bxM mu) (hp' : PGM Fv (PQ AN PR) PR T C pM pE ND CN PN SN UN FN u) (hw : WLD u T ND UN FN PR p) (hk : k = 13 ∨ k = 14 ∨ k = 15) (hq : tB T q + npre k ≤ tH T q) (hm : m < ND) (hx : NX T q m (tH T q + 1 - npre k) (tM T q)) (h98 : A u 98 (60 * p + (fr - 1)) = ((m : Nat) : Int)) (hN : 60000 ≤ N) : OK (fun v _ => RSW Fv AN T C ND CN UN FN p mu u v) (fm_M_nameRun N u (I k)) := by
  have i := e.1
  have x4 := MEI_p i
  have hH := (hp'.1.2.2.1 q e.2.2.1).1.1
  have hf := e.2.1.1
  have hro := (e.2.1.2.2.1 (fr - 1) (by omega)).2.2.2.2.1
  have hT := PRG_26 hp'.1
  have pr := i.1.1.2
  have nk : (k = 13 ∧ npre k = 2) ∨ (k ≠ 13 ∧ npre k = 1) := by rcases hk with z | z | z <;> subst z <;> decide
  have core : ∀ (v : MS) (t0 : Int64), ERX Fv (PQ AN PR) PR T C ND CN p v fr ro rn rh cb pc ct q n ow kd (ro (fr - 1) + (tH T q - npre k) + 1) (rn (fr - 1) + rh (fr - 1) + tM T q) bxM mu → (k = 13 → GT n ow kd (PQ AN PR) t0) → FR [] [] [92] [] u v → OTF p u v → OK (fun y _ => RSW Fv AN T C ND CN UN FN p mu u y) (fb_M_nameRun_14 N () v (I k) t0) := fun v t0 ev g0 fv ov => by
    unfold fb_M_nameRun_14
    refine ok_bnd.mpr (ok_mono (takeE (N := N) ev (by omega)) (fun w t hw' => ?_))
    obtain ⟨w1, gt, w3, w4⟩ := hw'
    have fw : FR [] [] [92] [] u w := FR.tr fv w3
    have ow' : OTF p u w := OTF.tr ov w4
    have dw := w1.1.1
    have er : OK (fun y _ => RSW Fv AN T C ND CN UN FN p mu u y) (bnd (fr_M_error N w 11) (fun u9 _ => fb_M_nameRun_236 N () u9)) := by
      unfold fb_M_nameRun_236
      exact ok_bnd.mpr (ok_mono (err_ok (N := N) (a := 11) w1 (PGM_fr hp' fw (by decide) (by decide)) (by omega) hN) (fun y _ hy => ok_some.mpr (RES_via fw ow' hy hw hT i.2.1 (by decide) (by decide) (by decide) (by decide) (by decide) (by decide))))
    have pt : ∀ x, FR [] [] [113] [] w x → ∀ t, GT n ow kd (PQ AN PR) t → OK (fun y _ => RSW Fv AN T C ND CN UN FN p mu u y) (bnd (fm_M_put N x t) (fun u3 _ => fb_M_nameRun_236 N () u3)) := fun x fx t gt => by
      unfold fb_M_nameRun_236
      have ix := MEI_fr w1.1 fx (by decide) (by decide) (by decide) (by decide) (by decide) (by decide) (by decide) (by decide) (by decide) (by decide) (by decide) (by decide) (by decide) (by decide) (by decide) (by decide) (by decide) (by decide)
      have ex := ERX_fr w1 fx (by decide) (by decide) (by decide) ix (by omega) (Nat.le_refl _)
      have fu : FR [] [] [92, 113] [] u x := FR.tr (FR.mo fw (by decide) (by decide) (by decide) (by decide)) (FR.mo fx (by decide) (by decide) (by decide) (by decide))
      exact ok_bnd.mpr (ok_mono (putR (N := N) ex hm hx (by rw [FR.A fu (by decide)]; exact h98) (by omega) rfl gt (by omega)) (fun y _ hy => ok_some.mpr (RES_via fu (OTF.tr ow' (OTF_fr fx (by decide))) hy hw hT i.2.1 (by decide) (by decide) (by decide) (by decide) (by decide) (by decide))))
    have y227 : ∀ (z : Nat) (t2 : Int32), z < PR → OK (fun y _ => RSW Fv AN T C ND CN UN FN p mu u y) (fb_M_nameRun_227 N () w 113 (I z) t2) := fun z t2 hz => by
      unfold fb_M_nameRun_227
      rw [isK113, ck_t]
      refine ok_ck.mpr ⟨inb_at (k := 113) (n := 24) rfl (by omega) (by omega) (by decide), ok_lt.mpr ?_⟩
      rw [I_tn (x := (z : Int)) (by omega) (by omega), Int.toNat_natCast, I_of t2, wa_e, truth1, bnd_so]
      exact pt _ (FR.wa FR.rf (by decide)) _ (GT_atom hp'.2.1 (by omega))
    have y146 : ∀ (v6 v7 : Int32), (v6 = I (-1) ∨ ∃ z : Nat, z < PR ∧ v6 = I z) → (v7 ≠ 0 → (k = 13 → so t0 = 4) ∧ (k = 14 → v6 ≠ I (-1))) → OK (fun y _ => RSW Fv AN T C ND CN UN FN p mu u y) (fb_M_nameRun_146 N () w (I k) t0 t v6 v7) := fun v6 v7 h6 h7 => by
      unfold fb_M_nameRun_146 fb_M_nameRun_212 fb_M_nameRun_187
      rw [show (15 : Int32) = I 15 from rfl, show (13 : Int32) = I 13 from rfl, decE (by omega) (by omega) (by omega) (by omega), decE (by omega) (by omega) (by omega) (by omega)]
      refine ok_br.mpr ⟨fun _ => er, fun z7 => ok_br.mpr ⟨fun _ => ok_br.mpr ⟨fun _ => ?_, fun z6 => ?_⟩, fun z15 => ok_br.mpr ⟨fun z13 => ?_, fun z13 => ?_⟩⟩⟩
      · rw [lit1q, show (3 : Int32) = I 3 from rfl, term_e, bnd_so]
        exact pt w FR.rf _ (GT_atom hp'.2.1 (by omega))
      · rcases h6 with h6 | ⟨z, hz, h6⟩
        · exact absurd h6 (of_decide_eq_false z6)
        · rw [h6, show (4 : Int32) = I 4 from rfl, term_e, bnd_so]
          exact pt w FR.rf _ (Or.inl ⟨nh_mk (by omega), hp'.2.1.2.1 z hz⟩)
      · have e13 : k = 13 := by have := of_decide_eq_true z13; omega
        obtain ⟨z, hz, ez⟩ := PQ_pid (g0 e13) ((h7 (of_decide_eq_false z7)).1 e13)
        rw [valueOf_e, bnd_so, br_t_of z13, valueOf_e, bnd_so, ez]
        exact y227 z _ hz
      · have e14 : k = 14 := by have := of_decide_eq_false z13; have := of_decide_eq_false z15; omega
        rcases h6 with h6 | ⟨z, hz, h6⟩
        · exact absurd h6 ((h7 (of_decide_eq_false z7)).2 e14)
        · rw [h6, br_f_of z13]
          exact y227 z _ hz
    have y59 : ∀ v6 : Int32, (v6 = I (-1) ∨ ∃ z : Nat, z < PR ∧ v6 = I z) → ∀ b : Int32, OK (fun y _ => RSW Fv AN T C ND CN UN FN p mu u y) (fb_M_nameRun_59 N () w (I k) t0 t v6 b) := fun v6 h6 b => by
      unfold fb_M_nameRun_59 fb_M_nameRun_116 fb_M_nameRun_143 fb_M_nameRun_117 fb_M_nameRun_144
      have y0 := y146 v6 0 h6 (fun z => absurd rfl z)
      rw [show (13 : Int32) = I 13 from rfl, show (14 : Int32) = I 14 from rfl, decE (by omega) (by omega) (by omega) (by omega), decE (by omega) (by omega) (by omega) (by omega)]
      refine ok_br.mpr ⟨fun z13 => ok_br.mpr ⟨fun _ => y0, fun _ => ok_br.mpr ⟨fun _ => ?_, fun _ => y0⟩⟩, fun z13 => ok_br.mpr ⟨fun z14 => ok_br.mpr ⟨fun _ => y0, fun _ => ok_br.mpr ⟨fun _ => y0, fun z6 => ?_⟩⟩, fun z14 => ?_⟩⟩
      · have e13 : k = 13 := by have := of_decide_eq_true z13; omega
        have r0 := so_r t0
        rw [sortOf_e, bnd_so, show (4 : Int32) = I 4 from rfl, decE r0.1 r0.2 (by omega) (by omega)]
        refine ok_br.mpr ⟨fun z4 => ?_, fun _ => y0⟩
        have e4 := of_decide_eq_true z4
        obtain ⟨z, hz, ez⟩ := PQ_pid (g0 e13) e4
        rw [valueOf_e, bnd_so, ez]
        refine ok_ck.mpr ⟨inb_at (k := 109) (n := 24) rfl (by omega) (by omega) (by decide), ok_br.mpr ⟨fun _ => y0, fun _ => ?_⟩⟩
        rw [valueOf_e, bnd_so, ez]
        exact ok_ck.mpr ⟨inb_at (k := 113) (n := 24) rfl (by omega) (by omega) (by decide), ok_br.mpr ⟨fun _ => y146 v6 1 h6 (fun _ => ⟨fun _ => e4, fun z => by omega⟩), fun _ => y0⟩⟩
      · exact y146 v6 1 h6 (fun _ => ⟨fun z => by have := of_decide_eq_false z13; omega, fun _ => of_decide_eq_false z6⟩)
      · have := of_decide_eq_false z13
        have := of_decide_eq_false z14
        exact y146 v6 b h6 (fun _ => ⟨fun z => by omega, fun z => by omega⟩)
    have y43 : ∀ v6 : Int32, (v6 = I (-1) ∨ ∃ z : Nat, z < PR ∧ v6 = I z) → OK (fun y _ => RSW Fv AN T C ND CN UN FN p mu u y) (fb_M_nameRun_43 N () w (I k) t0 t v6) := fun v6 h6 => by
      unfold fb_M_nameRun_43
      rw [sortOf_e, bnd_so]
      exact ok_br.mpr ⟨fun _ => y59 v6 h6 1, fun _ => y59 v6 h6 0⟩
    rw [sortOf_e, bnd_so]
    refine ok_br.mpr ⟨fun _ => ?_, fun _ => y43 _ (Or.inl rfl)⟩
    rw [valueOf_e, bnd_so]
    refine ok_bnd.mpr (ok_mono (namedBy_ok (N := N) dw (by omega)) (fun x r hx' => ?_))
    obtain ⟨x1, x2⟩ := hx'
    subst x1
    exact y43 r x2
  unfold fm_M_nameRun fb_M_nameRun_0
  rw [show (13 : Int32) = I 13 from rfl, decE (by omega) (by omega) (by omega) (by omega)]
  refine ok_br.mpr ⟨fun z13 => ?_, fun z13 => ?_⟩
  · have e13 : k = 13 := by have := of_decide_eq_true z13; omega
    have n2 : npre k = 2 := by omega
    have e' := e
    rw [show ro (fr - 1) + tH T q = ro (fr - 1) + (tH T q - npre k) + 1 + 1 from by omega] at e'
    refine ok_bnd.mpr (ok_mono (takeE (N := N) e' (by omega)) (fun v t hv => ?_))
    obtain ⟨v1, gt, v3, v4⟩ := hv
    exact core v t v1 (fun _ => gt) v3 v4
  · have e13 : k ≠ 13 := by have := of_decide_eq_false z13; omega
    have e' := e
    rw [show ro (fr - 1) + tH T q = ro (fr - 1) + (tH T q - npre k) + 1 from by omega] at e'
    exact core u 0 e' (fun z => absurd z e13) FR.rf (OTF_fr (FR.rf : FR [] [] [] [] u u) (by decide))
end
