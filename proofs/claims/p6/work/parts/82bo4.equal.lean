set_option maxRecDepth 100000
section
variable {α : Type} {R : MS → α → MS → Int32 → Prop} {A : Option (MS × α)} {m0 w0 m w v u m2 m3 w2 x y z xB xC mF vS : MS} {K nm Nk W W1 W2 WA WB : Nat → Nat} {T p n N q X Y X1 X2 XA n2 n3 lo p2 p4 ν μ a b L L' k d o M D s : Nat} {sc sc1 sc2 sc3 sc4 sc5 t t2 t3 t4 t5 : SCT} {e e2 e3 e4 e5 : List Nat × List Nat × Nat} {gd Rf Rg Zf : Bool} {BC : MS → Prop} {v1 v2 r ξ : Int32} {S : SG_M_behind} {NC : Nat → Prop} {CL CM : Int32 × Int32 × Int32 → Prop}
theorem SVG_e (h : SVG w v L) : (∀ k, k ≠ 75 → k ≠ 77 → v.1 k = w.1 k) ∧ ∀ k, k ≠ 74 → k ≠ 76 → v.2.2.1 k = w.2.2.1 k := by
  obtain ⟨a, b, h1, h2, h3, h4, h5⟩ := h
  exact ⟨h3, h4⟩
theorem STQ_fg (h : STQ m0 w0 K T Nk gd m vS p n sc s m2 x q n2 sc2 X W Rf Zf CL) (hs : SVG w vS sc.length) (hL : sc.length ≤ 27) (hw : RLP m0 w0 T p m w) : STQ m0 w0 K T Nk gd m w p n sc s m2 (fgt x) q n2 sc2 X W Rf Zf CL := by
  obtain ⟨s1, s2, s3, s4, s5, s6, s7⟩ := h
  obtain ⟨f1, f2, f3, f4, f5, f6, f7, A0, B0, f8, f9, f10⟩ := s5
  obtain ⟨i1, i2⟩ := SVG_e hs
  obtain ⟨a, b, md⟩ := MID_sv hs
  have mx := MID_e md hL f7
  have x70 : x.1 70 = w.1 70 := by rw [f7.1 70 (by decide), i1 70 (by decide) (by decide)]
  have x67 : x.1 67 = w.1 67 := by rw [f7.1 67 (by decide), i1 67 (by decide) (by decide)]
  refine ⟨⟨s1.1, Kt_I (Kt_I s1.2.1 (by decide)) (by decide), s1.2.2.1, by rw [fgt_i (by decide) (by decide)]; exact s1.2.2.2.1, s1.2.2.2.2.1, by rw [fgt_i (by decide) (by decide)]; exact s1.2.2.2.2.2.1, by rw [fgt_i (by decide) (by decide)]; exact s1.2.2.2.2.2.2⟩, s2, s3, s4, ⟨RNs_fg f1, f2, f3, f4, ?_, ?_, MID_fg mx x67 x70, A0, B0, ⟨by rw [← i1 32 (by decide) (by decide)]; exact f8.1, by rw [fgt_i (by decide) (by decide)]; exact f8.2.1, f8.2.2⟩, f9, fun j hj => ?_⟩, s6, s7⟩
  · rw [fgt_i (by decide) (by decide), ← i1 66 (by decide) (by decide)]; exact f5
  · rw [fgt_i (by decide) (by decide), ← i1 72 (by decide) (by decide)]; exact f6
  · rw [← i2 23 (by decide) (by decide), ← i2 25 (by decide) (by decide), ← i2 26 (by decide) (by decide), ← i2 27 (by decide) (by decide)]
    exact f10 j hj
theorem EXZ_fg (h : EXZ N m0 w0 K T nm Nk p n gd sc o NC0 m vS m2 (.inl ξ) u r) (hs : SVG w vS sc.length) (hL : sc.length ≤ 27) (hw : RLP m0 w0 T p m w) : EXZ N m0 w0 K T nm Nk p n gd sc o NC1 m w m2 (.inl ξ) (fgt u) v1 := by
  obtain ⟨q, n2, μ, sc2, X, W, Rf, Zf, CL, b1, b2, b3, b4, b5, b6, b7, kk, k1, k2, k3, k4, k5⟩ := h
  exact ⟨q, n2, μ, sc2, X, W, Rf, Zf, CL, b1, b2, b3, STQ_fg b4 hs hL hw, b5, b6, PTX_up b7 ⟨fun _ _ _ => ⟨rfl, fun _ => rfl⟩, Kc_rf⟩ (Nat.le_refl _) (Nat.le_refl _) (fun _ z => Or.inl z), kk, k1, k2, k3, fun z y => Or.inl (k4 z y), k5⟩
theorem mat_pp (c : CTZ m0 w0 K T nm Nk) (hB : HBh N m0 w0 K T nm Nk d) (hw : RLP m0 w0 T p m w) (hR : RNs w sc) (hn2 : n ≤ 2 * p) (h70 : w.1 70 = I ((o + 1 : Nat) : Int)) (ho : o + 1 ≤ 25) (hg : decide (w.1 73 = 0) = !gd) (hs : SVG w vS sc.length) (hE : EXZ N m0 w0 K T nm Nk p n gd sc o NC0 m vS m2 (.inl ξ) u r) (uq : u.1 69 = I (q : Nat)) (k30 : K q = 30) (qT : q ≤ T) : PP (fun m' z u' r' => EXZ N m0 w0 K T nm Nk p n gd sc o NC1 m w m' z (fgt u') r') (hb_Pa_matched_19 N (hrc_Pa_matched N D) () m2 ξ (I (K q : Nat))) (fm_M_matched N (rc_M_behind N d) u (I (p : Nat))) := by
  have hl : 1 ≤ sc.length ∧ sc.length ≤ 27 := hR.2.1
  obtain ⟨q', n2, μ, sc2, X, W, Rf, Zf, CL, b1, b2, b3, st, b5, b6, b7, kk, k1, k2, k3, k4, k5⟩ := hE
  have T4 := c.1.1.1
  have qe : q' = q := by
    have := st.1.2.2.2.1.symm.trans uq
    have := (I_eq (x := (q' : Nat)) (y := (q : Nat)) (by omega) (by have := st.1.2.2.2.2.1; omega) (by omega) (by omega)).mp this
    omega
  subst qe
  obtain ⟨i1, i2⟩ := SVG_e hs
  obtain ⟨a, b, md⟩ := MID_sv hs
  obtain ⟨s1, s2, s3, s4, s5, s6, s7⟩ := id st
  obtain ⟨f1, f2, f3, f4, f5, f6, f7, A0, B0, f8, f9, f10⟩ := s5
  have mu := MID_e md hl.2 f7
  have hc := RLP_c c st.1
  have u67 : u.1 67 = 0 := s1.2.2.2.2.2.2
  have u70 : u.1 70 = w.1 70 := by rw [f7.1 70 (by decide), i1 70 (by decide) (by decide)]
  have ql : q' < T := TWK_lt c qT (by omega) (by omega)
  subst b1
  cases sc with
  | nil => exact absurd hl.1 (by decide)
  | cons e t =>
  obtain ⟨isP, hX0, hi, hp⟩ := id b7
  unfold hb_Pa_matched_19
  rw [k30, show decide (I ((30 : Nat) : Int) = 30) = true from rfl, br_tq]
  refine l_bnd (pk_mo (hi 300 m2 ⟨fun _ _ _ => ⟨rfl, fun _ => rfl⟩, Kc_rf⟩) (fun mv rv h => ?_))
  obtain ⟨rfl, rfl⟩ := h
  cases isP with
  | false =>
    rw [show decide (b2c false = 0) = true from rfl, br_tq]
    refine pp_rf (RFS_T (rfs_e hc)) (fun m' => ?_)
    refine pk_mo (mat_no (o := o) (NC := NC0) c hw hR h70 mu u67 u70 uq qT f1 f2 f4.2 f3 (by unfold NC0; rw [k30]; decide) (fun d' w' sc' o' x1 x2 x3 x4 x5 x6 => pk_mo (hp d' w' sc' o' x1 x2 x3 x4 x5 x6) (fun v' r' h => ?_))) (fun v' r' h => fgt_fl h)
    rcases h with ⟨z, -⟩ | ⟨-, z⟩
    · cases z
    · exact z
  | true =>
    have X0 := hX0 rfl
    subst X0
    rw [show decide (b2c true = 0) = false from rfl, br_fq]
    have hp' : ∀ (d : Nat) (w : MS) (sc : SCT) (o' : Nat), WP w K T p → Ktc w0 w → w.1 67 = 0 → w.1 70 = I (o' : Nat) → o' ≤ o → RNs w sc → PK (fun w2 (_ : Int32) => PZW Nk K nm T p q' sc w w2 (fun sc2 X W => PTN N K nm mv n n2 μ false p q' sc sc2 X W)) ((rc_M_rowPattern N d).2 w 0) := fun d' w' sc' o' x1 x2 x3 x4 x5 x6 => pk_mo (hp d' w' sc' o' x1 x2 x3 x4 x5 x6) (fun v' r' h => by
      rcases h with ⟨-, z⟩ | ⟨z, -⟩
      · exact z
      · cases z)
    unfold hb_Pa_matched_41 hb_Pa_matched_69
    rw [hc.2.1, i_suc, show decide (I ((30 : Nat) : Int) = 30) = true from rfl]
    refine l_lt ?_
    rw [br_tq]
    show PP _ (bTm ((hrc_Pa_matched N D).2.2.2.2.2.2.2.2.2.2.2.2.2.2.1 (advc mv q') 0) (fun u2 r2 => bnd (hm_Tr_add N u2 20 (I (q' : Nat)) (I (μ : Nat)) r2 0) (fun u3 r3 => some (u3, .inl r3)))) (fb_M_matched_0 N (rc_M_behind N d) (gg_M_matched N (rc_M_behind N d) N) u (I (p : Nat)))
    unfold fb_M_matched_0
    refine r_bnd (pk_mo (mat_tb hR mu) (fun x1 _ h => ?_))
    obtain ⟨tb, mx1⟩ := h
    have rx := RNs_tb hR f1 f2 f4.2 f3 tb (mu.2.1 65 (by decide))
    rw [show ((e.1, e.2.1, max e.2.2 0) : List Nat × List Nat × Nat) = e by rw [Nat.max_zero]] at rx
    have kx := MID_kt mx1 hw.2.1
    have x70 : x1.1 70 = I ((o + 1 : Nat) : Int) := by rw [tb.2.1 70 (by decide), u70]; exact h70
    have x67 : x1.1 67 = 0 := by rw [tb.2.1 67 (by decide)]; exact u67
    refine r_lt (r_lt (r_bnd (pk_mo (pk_and (hp' 60 (p1s x1 p) (e :: t) o (p1s_w c kx hw.2.2.2.2.1) (p1s_k kx) (by rw [p1s_i (by decide) (by decide)]; exact x67) (p1s_70 x70) (Nat.le_refl _) (p1s_r rx)) (yj_fr_M_patternAt (u0 := p1s x1 p) (v1 := 0) (N := N) Kj_rf)) (fun v r5 h => r_lt ?_))))
    obtain ⟨⟨sc3, XA, WA, g1, g2, g3, g4, ⟨g5, g5b⟩, g6, g7, g8, g9, g10⟩, kj⟩ := h
    generalize hy : upI v 70 (v.1 70 + 1) = y
    have iy : ∀ k, k ≠ 70 → y.1 k = v.1 k := fun k k1 => by rw [← hy, upI_ne k1]
    have ry : y.2.2.1 = v.2.2.1 := by rw [← hy]; rfl
    have y70 : y.1 70 = w.1 70 := by
      rw [← hy, upI_at, g7.1 70 (by decide), p1s_70 x70, h70]
      exact i_suc
    clear hy
    have y67 : y.1 67 = 0 := by rw [iy 67 (by decide), g7.1 67 (by decide), p1s_i (by decide) (by decide)]; exact x67
    have y69 : y.1 69 = I (q' : Nat) := by rw [iy 69 (by decide)]; exact g1.2.1
    have my : MID w y a b (t.length + 1) := by
      have mv : MID w v a b (t.length + 1) := MID_j (MID_g mx1 (fun k hk => p1s_i (by rintro rfl; revert hk; decide) (by rintro rfl; revert hk; decide)) (fun _ _ => rfl) hl.2) hl.2 kj
      exact MID_g mv (fun k hk => iy k (by rintro rfl; revert hk; decide)) (fun k _ => by rw [ry]) hl.2
    have rny : RNs y sc3 := RNs_e g2 (iy 65 (by decide)) (fun k _ _ => by rw [ry])
    have ny : ∀ A : Nat, w.1 32 = I (A : Nat) → A ≤ 100000 → NKP A w y := fun A hA hA2 j hj => by
      have e0 : A = A0 := by
        have := hA.symm.trans ((i1 32 (by decide) (by decide)).symm.trans f8.1)
        have := (I_eq (x := (A : Nat)) (y := (A0 : Nat)) (by omega) (by omega) (by omega) (by omega)).mp this
        omega
      subst e0
      have r23 : ∀ k, k < 33 → y.2.2.1 k = u.2.2.1 k := fun k hk => by
        rw [ry, kj.2 k (Or.inl hk)]
        show x1.2.2.1 k = _
        exact tb.2.2.1 k (by omega) (by omega)
      have := f10 j hj
      rw [i2 23 (by decide) (by decide), i2 25 (by decide) (by decide), i2 26 (by decide) (by decide), i2 27 (by decide) (by decide)] at this
      rw [r23 23 (by decide), r23 25 (by decide), r23 26 (by decide), r23 27 (by decide)]
      exact this
    cases sc3 with
    | nil => exact g3.elim
    | cons e3 t3 =>
    rw [decide_eq_true y67, br_tq, y69, uq, decide_eq_true rfl, br_tq]
    refine mat_lps hR my (fun M xB xb => ?_)
    have rnB : RNs xB ((e.1, e3.2.1, e3.2.2) :: t3) := RNs_B hR rny g3 (fun i hi => (xb.2.2.2.1 i hi).1) (fun i hi => (xb.2.2.2.1 i hi).2) (xb.2.2.2.2 59 (by decide) (by decide) (by decide)) (xb.2.2.2.2 61 (by decide) (by decide) (by decide)) (xb.2.2.2.2 64 (by decide) (by decide) (by decide)) (xb.1.2.1 65 (by decide))
    have go : ∀ xC, ((gd = false ∧ xC = xB) ∨ (gd = true ∧ xC.1 72 ≠ 0 ∧ (∀ k, k ≠ 71 → k ≠ 72 → xC.1 k = xB.1 k) ∧ xC.2.2.1 = xB.2.2.1)) → PP (fun m' z u' r' => EXZ N m0 w0 K T nm Nk p n gd (e :: t) o NC1 m w m' z (fgt u') r') (bTm ((hrc_Pa_matched N D).2.2.2.2.2.2.2.2.2.2.2.2.2.2.1 (advc mv q') 0) (fun u2 r2 => bnd (hm_Tr_add N u2 20 (I (q' : Nat)) (I (μ : Nat)) r2 0) (fun u3 r3 => some (u3, .inl r3)))) (fb_M_matched_154 N (rc_M_behind N d) (gg_M_matched N (rc_M_behind N d) M) xC (I (p : Nat)) (I (q' : Nat))) := fun xC hxC => by
      have cI : ∀ k, k ≠ 71 → k ≠ 72 → xC.1 k = xB.1 k := fun k k1 k2 => by
        rcases hxC with ⟨-, z⟩ | ⟨-, -, z, -⟩
        · rw [z]
        · exact z k k1 k2
      have cR : xC.2.2.1 = xB.2.2.1 := by
        rcases hxC with ⟨-, z⟩ | ⟨-, -, -, z⟩
        · rw [z]
        · exact z
      have mC : MID w xC a b (t.length + 1) := MID_g xb.1 (fun k hk => cI k (by rintro rfl; revert hk; decide) (by rintro rfl; revert hk; decide)) (fun k _ => by rw [cR]) hl.2
      have c69 : xC.1 69 = I (q' : Nat) := by rw [cI 69 (by decide) (by decide), xb.2.2.1.2.1]; exact y69
      have c70 : xC.1 70 = w.1 70 := by rw [cI 70 (by decide) (by decide), xb.2.2.1.2.2]; exact y70
      have rl : RLP m0 w0 T q' mv xC := ⟨s1.1, MID_kt mC hw.2.1, s1.2.2.1, c69, qT, by rw [c70, ← u70]; exact s1.2.2.2.2.2.1, by rw [cI 67 (by decide) (by decide), xb.2.2.1.1]; exact y67⟩
      have aI : ∀ k, k ≠ 69 → (adv xC q').1 k = xC.1 k := fun k hk => by unfold adv; rw [upI_ne hk]
      have rnC : RNs (adv xC q') ((e.1, e3.2.1, e3.2.2) :: t3) := RNs_e rnB (by rw [aI 65 (by decide)]; exact cI 65 (by decide) (by decide)) (fun k _ _ => by show xC.2.2.1 k = _; rw [cR])
      have ndC : ND (adv xC q') := ⟨A0, by rw [aI 32 (by decide), cI 32 (by decide) (by decide), xb.2.1.1, ← i1 32 (by decide) (by decide)]; exact f8.1, by omega⟩
      unfold fb_M_matched_154
      rw [i_suc]
      refine r_lt ?_
      refine pp_bTn (hB D (advc mv q') (adv xC q') (q' + 1) n2 _ gd (o + 1) (RLP_ad rl ql) (by unfold advc; rw [upI_ne (by decide)]; exact s2.2.1) (by omega) rnC ndC (by rw [aI 70 (by decide), c70]; exact h70) (by omega) (by rw [aI 73 (by decide), mC.2.1 73 (by decide)]; exact hg)) (fun m3 v3 u2 r2 hz => ?_) (fun m3 k3 u2 r2 hz => ?_)
      · obtain ⟨p4, n3, xr, sc4, X1, W1, Rf1, Zf1, CL1, d1, d2, d3, st4, d5, d6, d7, d8⟩ := hz
        have u267 : u2.1 67 = 0 := st4.1.2.2.2.2.2.2
        have := st4.2.1
        have := st4.1.2.2.2.2.1
        rw [decide_eq_true u267, br_tq, d1, add_e st4.2.1.2.1 (by omega), bnd_s]
        refine pp_l ?_
        exact mat_fin (gd := gd) c hw hR h70 b3 k30 hn2 s3 s4 ⟨s2.2.1, by omega, by omega⟩ b2 g3 g4 g2.2.2.2.1.1 g8 g9 b7 hp' xb y70 ny hxC ⟨kk, fun z => (k3 z).2.1.symm, k4⟩ st4 (by omega) d2 d6
      · have hz : FLW u2 := hz
        rw [decide_eq_false hz, br_fq]
        exact pk_some (fgt_fl hz)
    rw [xb.1.2.1 73 (by decide)]
    cases gd with
    | false =>
      rw [hg]
      show PP _ _ (br true _ _)
      rw [br_tq]
      exact go xB (Or.inl ⟨rfl, rfl⟩)
    | true =>
      rw [hg]
      show PP _ _ (br false _ _)
      rw [br_fq]
      refine r_bnd (pk_mo (rule_p (by decide)) (fun xC _ h => ?_))
      exact go xC (Or.inr ⟨rfl, h⟩)
end
