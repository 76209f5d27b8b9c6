/-! one pattern is tried, both sides: all kinds -/
set_option maxRecDepth 100000
section
variable {C : Nat → Int} {R : Nat → Nat → Int} {J : Nat → Int64} {H : List Nat}
/-- names come behind those that were there -/
theorem PTs_pre : ∀ {f i p j : Nat} {O O2 : List Nat}, PTs C R J H f i p O j O2 → ∃ X, O2 = O ++ X
  | 0, _, _, _, _, _, z => z.elim
  | f + 1, i, p, j, O, O2, z => by
    have lp : ∀ {n : Nat} {co : Nat → List Nat}, (∀ k, k < n → ∃ X, co (k + 1) = co k ++ X) → ∃ X, co n = co 0 ++ X := by
      intro n co h
      induction n with
      | zero => exact ⟨[], by simp⟩
      | succ n ih =>
        obtain ⟨X, hX⟩ := ih (fun k hk => h k (by omega))
        obtain ⟨Y, hY⟩ := h n (by omega)
        exact ⟨X ++ Y, by rw [hY, hX, List.append_assoc]⟩
    rcases z with ⟨-, -, -, z⟩ | ⟨-, -, -, x, -, -, z⟩ | ⟨-, -, -, z, -⟩ | ⟨-, -, -, z, -⟩ | ⟨-, -, z, -⟩ | ⟨-, -, -, n, -, ci, cp, co, -, -, c0, cn, -, -, z⟩ | ⟨-, n, -, ci, cp, co, -, c0, -, z, e⟩
    · exact ⟨[], by rw [z]; simp⟩
    · exact ⟨[x], z⟩
    · exact ⟨[], by rw [z]; simp⟩
    · exact ⟨[], by rw [z]; simp⟩
    · exact ⟨[], by rw [z]; simp⟩
    · obtain ⟨X, hX⟩ := lp (n := n) (co := co) (fun k hk => PTs_pre (z k hk).1)
      exact ⟨X, by rw [← cn, hX, c0]⟩
    · obtain ⟨X, hX⟩ := lp (n := n) (co := co) (fun k hk => PTs_pre (z k hk).2.1)
      rcases e with ⟨-, -, -, -, -, e⟩ | ⟨-, -, -, e⟩
      · exact ⟨X, by rw [e, hX, c0]⟩
      · obtain ⟨Y, hY⟩ := PTs_pre e
        exact ⟨X ++ Y, by rw [hY, hX, c0, List.append_assoc]⟩
theorem pre_le {O O2 : List Nat} (h : ∃ X, O2 = O ++ X) : (H ++ O).length ≤ (H ++ O2).length := by
  obtain ⟨X, rfl⟩ := h
  simp
end
section
variable {β : Type} {N p : Nat} {Q : MS → Int32 → MS → β → Prop} {Z : Option (MS × β)}
/-- parts of a TUPLE come on the stack, there -/
theorem tupl_pp {v4 : Int32} {cnt : Nat} {z : Int64} {nn : Nat} {h : Nat → Int64} (hv : va z = ((vn z : Nat) : Int)) (hv2 : vn z + nn < 100000) : ∀ (d M top : Nat) (m : MS), d ≤ nn → top + d < 200000 → m.2.2.2 (pq p 2) = h → (∀ (M2 : Nat) (m2 : MS), FR [] [] [] [44] m m2 → (∀ k, k < top → m2.2.2.2 44 k = m.2.2.2 44 k) → (∀ k, k < d → m2.2.2.2 44 (top + k) = h (vn z + (d - k))) → PP Q ((hg_Ma_fit N M2).1 m2 p (v4 + 2) (I ((top + d : Nat) : Int)) (I ((cnt + 1 : Nat) : Int))) Z) → PP Q ((hg_Ma_fit N M).2 m p v4 (I ((top : Nat) : Int)) (I ((cnt : Nat) : Int)) z (I ((d : Nat) : Int))) Z := by
  intro d
  induction d with
  | zero =>
    intro M top m _ ht _ k
    cases M with
    | zero => exact pp_nl
    | succ M =>
      show PP Q (hb_Ma_fit_268 N (hg_Ma_fit N M) m p v4 (I ((top : Nat) : Int)) (I ((cnt : Nat) : Int)) z (I ((0 : Nat) : Int))) Z
      unfold hb_Ma_fit_268 hb_Ma_fit_364
      rw [show decide (I ((0 : Nat) : Int) ≤ 0) = true from rfl, br_t, show I ((cnt : Nat) : Int) + 1 = I ((cnt + 1 : Nat) : Int) from addN]
      exact k M m FR.rf (fun _ _ => rfl) (fun i hi => by omega)
  | succ d ih =>
    intro M top m hd ht hh k
    cases M with
    | zero => exact pp_nl
    | succ M =>
      show PP Q (hb_Ma_fit_268 N (hg_Ma_fit N M) m p v4 (I ((top : Nat) : Int)) (I ((cnt : Nat) : Int)) z (I ((d + 1 : Nat) : Int))) Z
      unfold hb_Ma_fit_268
      rw [lit0, decI (by omega) (by omega) (by omega) (by omega), decide_eq_false (by omega), br_f]
      refine l_ck (fun _ => l_ck (fun _ => l_lt ?_))
      rw [valI, hv, addN, tnI (n := vn z + (d + 1)) rfl (by omega), tnI (n := top) rfl (by omega), show I ((top : Nat) : Int) + 1 = I ((top + 1 : Nat) : Int) from addN, show I ((d + 1 : Nat) : Int) + (-1) = I ((d : Nat) : Int) by rw [m1I, I_add]; congr 1; omega, hh, wj_e]
      have e2 : (wj m 44 top (h (vn z + (d + 1)))).2.2.2 (pq p 2) = h := (wj_22 (fun c => pq_n (by omega) c.symm)).trans hh
      refine ih M (top + 1) _ (by omega) (by omega) e2 (fun M2 m2 f r1 r2 => ?_)
      rw [show top + 1 + d = top + (d + 1) by omega]
      refine k M2 m2 (FR.tr (FR.wj FR.rf (by simp)) f) (fun i hi => ?_) (fun i hi => ?_)
      · rw [r1 i (by omega), wj_row, if_neg (by omega)]
      · by_cases c : i = 0
        · subst c
          rw [Nat.add_zero, r1 top (by omega), wj_row, if_pos rfl, Nat.sub_zero]
        · have := r2 (i - 1) (by omega)
          rw [show top + 1 + (i - 1) = top + i by omega] at this
          rw [this]
          congr 2
          omega
theorem pp_pk {A' : Type} {Q1 : MS → A' → MS → β → Prop} {q : MS → A' → Prop} {a : Option (MS × A')} (h : PK q a) (k : ∀ m3 z, q m3 z → PP Q1 (some (m3, z)) Z) : PP Q1 a Z := fun m z w r e1 e2 => k m z (h m z e1) m z w r rfl e2
end
section
variable {b : Int → Nat → Nat → Prop} {Fv Fv' : Int64 → Int64 → Prop} {P P' : Int64 → Prop} {ow kd ow' kd' : Nat → Nat} {N p B0 U : Nat} {m0 : MS} {t x : Int64}
/-- a list that does not fit, there -/
theorem doom_l {n : Nat} {ci : Nat → Nat} {f : Nat} {tl : Bool} (g : HPc (m0.2.2.2 (pq p 2)) U ow kd Fv P) (hU : U ≤ 500) (hc7 : ∀ k, k < n → A m0 23 (ci k) = 7 ∧ ∃ f2, PCq (A m0 23) f2 (ci k + 1) (ci (k + 1))) (hb : ∀ k, k ≤ n → ci k + 3 < 24000) (hend : tl = false → A m0 23 (ci n) = 1 ∧ A m0 23 (ci n + 1) = 6 ∧ A m0 23 (ci n + 2) = 0) (ns : ¬ SPn (m0.2.2.2 (pq p 2)) t n tl) : ∀ (d k M cnt top : Nat) (s : Nat → Int64) (m : MS), k + d = n → (∀ i, i < k → so (tlc (m0.2.2.2 (pq p 2)) t i) = 7) → GT U ow kd P (tlc (m0.2.2.2 (pq p 2)) t k) → KFb p B0 m0 s (top + 1) m → s top = tlc (m0.2.2.2 (pq p 2)) t k → cnt ≤ ci k → top + 8 < 2048 → PK (fun m3 z => z = I (-1) ∧ NFx p B0 m0 m3) ((hg_Ma_fit N M).1 m p (I ((ci k : Nat) : Int)) (I ((top + 1 : Nat) : Int)) (I ((cnt : Nat) : Int))) := by
  intro d
  induction d with
  | zero =>
    intro k M cnt top s m hk sp gt kb st hc ht
    have : k = n := by omega
    subst this
    have hbk := hb k (Nat.le_refl _)
    cases tl with
    | true => exact absurd ⟨sp, fun e => by cases e⟩ ns
    | false =>
      obtain ⟨c1, c2, c3⟩ := hend rfl
      have n6 : so (tlc (m0.2.2.2 (pq p 2)) t k) ≠ 6 := fun z => ns ⟨sp, fun _ => z⟩
      refine pk_pp (m0 := m0) (fitc_1 (t := tlc (m0.2.2.2 (pq p 2)) t k) (by rw [kb.1.c]; exact c1) (by omega) (by omega) (by omega) (by rw [kb.2 top (by omega)]; exact st) (fun e => ?_) (fun _ => pp_end ⟨rfl, kb.1⟩))
      rw [kb.1.c, c2, c3] at e
      exact absurd (by rw [e]; exact so_mk (by omega) (by omega)) n6
  | succ d ih =>
    intro k M cnt top s m hk sp gt kb st hc ht
    have kn : k < n := by omega
    obtain ⟨c7, f2, pc⟩ := hc7 k kn
    have hbk := hb k (by omega)
    have hbk1 := hb (k + 1) (by omega)
    have pcl := PCq_lt pc
    have e44 : m.2.2.2 44 top = tlc (m0.2.2.2 (pq p 2)) t k := by rw [kb.2 top (by omega)]; exact st
    refine pk_pp (m0 := m0) (fitc_7 (t := tlc (m0.2.2.2 (pq p 2)) t k) (by rw [kb.1.c]; exact c7) (by omega) (by omega) (by omega) e44 (fun e7 => ?_) (fun e7 M3 => ?_) (fun _ => pp_end ⟨rfl, kb.1⟩))
    · obtain ⟨a1, a2, -⟩ := pair_at g gt e7
      exact ⟨a1, by omega⟩
    · obtain ⟨a1, a2, a3, a4⟩ := pair_at g gt e7
      refine pp_pk (q := fun m3 z => z = I (-1) ∧ NFx p B0 m0 m3) ?_ (fun m3 z h => pp_end h)
      rw [kb.1.h]
      have k1 := KFb_w (z := m0.2.2.2 (pq p 2) (vn (tlc (m0.2.2.2 (pq p 2)) t k) + 1)) (KFb_l kb (show top ≤ top + 1 by omega))
      have k2 := KFb_w (z := m0.2.2.2 (pq p 2) (vn (tlc (m0.2.2.2 (pq p 2)) t k))) k1
      refine pc_one (fun _ h => ⟨rfl, h⟩) pc M3 (top + 1) (cnt + 1) _ _ k2 (by omega) (by omega) (by omega) (fun M4 cnt4 m4 kb4 hc4 => ?_)
      refine ih (k + 1) M4 cnt4 top _ m4 (by omega) (fun i hi => ?_) a4 kb4 ?_ hc4 ht
      · by_cases c : i = k
        · rw [c]; exact e7
        · exact sp i (by omega)
      · rw [if_neg (show ¬ top = top + 1 by omega)]
        exact if_pos rfl
end
section
variable {β : Type} {b : Int → Nat → Nat → Prop} {Fv Fv' : Int64 → Int64 → Prop} {P P' : Int64 → Prop} {ow kd ow' kd' fa' : Nat → Nat} {N p B0 jf nbj U W Y na : Nat} {H : List Nat} {m0 w0 : MS} {Q : MS → Int32 → MS → β → Prop} {K : MS → Int32 → Option (MS × β)}
theorem TP_tup {h h' : Nat → Int64} {t x : Int64} (is : ISb b h U h' U) (g : HPc h U ow kd Fv P) (g' : HP h' U ow' kd' Fv' P') (q : TPb b U ow kd P U ow' kd' P' t x) (e5 : so t = 5) : (so x = 5 ∧ va t = ((vn t : Nat) : Int) ∧ va (h (vn t)) = ((vn (h (vn t)) : Nat) : Int) ∧ vn t + (1 + vn (h (vn t))) ≤ U ∧ vn (h' (vn x)) = vn (h (vn t))) ∧ ∀ j, 1 ≤ j → j ≤ vn (h (vn t)) → TPb b U ow kd P U ow' kd' P' (h (vn t + j)) (h' (vn x + j)) := by
  obtain ⟨r, gt, gt'⟩ := q
  have ex : so x = 5 := by rw [RTb_so r]; exact e5
  obtain ⟨a1, a2, a3, a4⟩ := tup_at g gt e5
  have hx : isH x := Or.inr (Or.inl ex)
  have hb2 : blk h' x = 1 + vn (h' (vn x)) := by unfold blk; rw [if_neg (by omega), if_pos ex]
  have hb1 : blk h t = 1 + vn (h (vn t)) := by unfold blk; rw [if_neg (by omega), if_pos e5]
  have hpx : prt x = 1 := by unfold prt; rw [if_neg (by omega), if_pos ex]
  have hpt : prt t = 1 := by unfold prt; rw [if_neg (by omega), if_pos e5]
  obtain ⟨bk, b2⟩ := HP_bk g' hx gt'
  obtain ⟨⟨bl1, -, -⟩, bl2, -⟩ := is.1 t x (Or.inr (Or.inl e5)) r
  rw [hb1, hb2] at bl1
  rw [hpt, hb1] at bl2
  rw [hpx, hb2] at b2
  exact ⟨⟨ex, a1, a2, a3, by omega⟩, fun j h1 h2 => ⟨bl2 j h1 (by omega), a4 j h1 h2, b2 j h1 (by omega)⟩⟩
/-- one pattern: it fits on both sides, or on neither -/
theorem fit_one (ft : FTx b Fv P Fv' P' ow kd ow' kd' p jf nbj U na fa' H m0 w0) (kf : ∀ m3 w3, NFx p B0 m0 m3 → FWx p B0 w0 w3 → PP Q (some (m3, -1)) (K w3 0)) (hN : 200000 ≤ N) : ∀ {f i pp j : Nat} {O O2 : List Nat}, PTs (A m0 23) (ROs w0) (w0.2.2.2 34) H f i pp O j O2 → ∀ (M M2 top cnt many : Nat) (s : Nat → Int64) (P0 : Nat → Int) (X0 : Nat → Int64) (m w : MS) (t x : Int64), FSt b P P' ow kd ow' kd' p B0 nbj U W Y H O m0 w0 m w → (∀ k, k < top → m.2.2.2 44 k = s k) → m.2.2.2 44 top = t → RSk w P0 X0 many → A w 160 many = ((pp : Nat) : Int) → w.2.2.2 161 many = x → TPb b U ow kd P U ow' kd' P' t x → j + 3 < 24000 → cnt ≤ i → top + 8 * f + 8 < 2040 → many + 20 * f < 50000 → nbj + (H ++ O2).length ≤ 2500 → (∀ (M3 M4 cnt3 : Nat) (m3 w3 : MS), FSt b P P' ow kd ow' kd' p B0 nbj U W Y H O2 m0 w0 m3 w3 → (∀ k, k < top → m3.2.2.2 44 k = s k) → RSk w3 P0 X0 many → cnt3 ≤ j → PP Q ((hg_Ma_fit N M3).1 m3 p (I ((j : Nat) : Int)) (I ((top : Nat) : Int)) (I ((cnt3 : Nat) : Int))) (bnd (gg_M_fits N M4 w3 (I ((many : Nat) : Int))) K)) → PP Q ((hg_Ma_fit N M).1 m p (I ((i : Nat) : Int)) (I ((top + 1 : Nat) : Int)) (I ((cnt : Nat) : Int))) (bnd (gg_M_fits N M2 w (I ((many + 1 : Nat) : Int))) K)
  | 0, _, _, _, _, _, z => z.elim
  | f + 1, i, pp, j, O, O2, z => by
    intro M M2 top cnt many s P0 X0 m w t x fs hst ht rs h160 h161 q hj hc htop hmany hlen ks
    have ij := PTs_lt z
    have pre := pre_le (H := H) (PTs_pre z)
    obtain ⟨⟨hpp, h133⟩, ⟨h95, hjf, h99, h101⟩, ⟨is, g, g', hU⟩, cx, hF', hA, hH⟩ := id ft
    obtain ⟨nf, fw, pl, nms, ⟨hB0, hO⟩, tp⟩ := id fs
    have hm : many < 100000 := by omega
    have ec : ∀ k, A m 23 k = A m0 23 k := fun k => congrFun nf.c k
    have er : ∀ K1 k, (K1 = 8 ∨ K1 = 18 ∨ K1 = 19 ∨ (23 ≤ K1 ∧ K1 ≤ 31) ∨ (33 ≤ K1 ∧ K1 ≤ 45) ∨ (47 ≤ K1 ∧ K1 ≤ 57)) → A w K1 k = ROs w0 K1 k := fun K1 k h => by rw [pr_row h]; exact FR.A fw.1 (by simp; omega)
    have wF : F w 133 = ((p : Nat) : Int) := by rw [FR.F fw.1 (by simp)]; exact h133
    have hpw : hp w p = hp w0 p := by unfold hp; rw [fw.1.2.2.2 88 (by simp)]
    have hh := nf.h
    have rpp : pp < 2147483648 := by
      have := A_r w 160 many
      rw [h160] at this
      omega
    rcases z with ⟨z1, z2, z3, z4⟩ | ⟨z1, z2, z3, y, z4, z5, z6⟩ | ⟨z1, z2, z3, z4, z5⟩ | ⟨z1, z2, z3, z4, z5, z6⟩ | ⟨z1, z2, z4, l, ⟨s0, bb, z5, z6, z7, z8, z9⟩, z3⟩ | ⟨z1, z2, z3, n, ⟨z4, z5⟩, ci, cp, co, c0, cn, o0, on, z6, z7, z8⟩ | ⟨z1, n, ⟨z2, n8⟩, ci, cp, co, c0, o0, z6, z7, z8⟩
    · -- anything
      subst z4
      refine fitc_5 (by rw [ec]; exact z2) (by omega) (by omega) (by omega) (fun M3 => fits_0 h160 h161 (by rw [er 33 _ (by omega)]; exact z1) hm (fun M4 => ?_))
      rw [← z3]
      exact ks M3 M4 (cnt + 1) m w fs hst rs (by omega)
    · -- a new NAME
      subst z6
      have el : (H ++ (O ++ [y])).length = (H ++ O).length + 1 := by simp; omega
      obtain ⟨B1, b1, b2, b3, b4⟩ := nf.2.1
      have eB : B1 = nbj + (H ++ O).length := by have := pl.2.1.1; omega
      subst eB
      have e94 : A w 94 p = ((nbj + (H ++ O).length : Nat) : Int) := pl.2.1.2.1
      have ey : A m 23 (i + 1) = ((y : Nat) : Int) := by rw [ec]; exact z4
      have ry := A_r m 23 (i + 1)
      rw [ey] at ry
      refine fitc_4 (by rw [ec]; exact z2) (by omega) (by omega) (by omega) (fun M3 => ?_)
      refine l_bnd (pk_mo (bindc_m (a := I (A m 23 (i + 1))) (t := m.2.2.2 44 top) b2 b3 b4) (fun m3 _ zz => ?_))
      obtain ⟨q1, q2, q3, q4, q5, q6⟩ := zz
      refine fits_1 (B := nbj + (H ++ O).length) h160 h161 (by rw [er 33 _ (by omega)]; exact z1) hm hpp wF e94 (by omega) (fun M4 => ?_)
      rw [← z3]
      rw [ey] at q5
      rw [ht] at q6
      refine ks M3 M4 (cnt + 1) m3 _ (FSt_bind fs hpp q z5 (by omega) (by omega) q1 q3 q4 q5 q6) (fun k hk => by rw [q2]; exact hst k hk) (fun k hk => ⟨?_, ?_⟩) (by omega)
      · rw [wa_rne (by omega), A_wj]; exact (rs k hk).1
      · rw [J_wa, wj_22 (by omega)]; exact (rs k hk).2
    · -- a NAME that is bound
      subst z4
      have e24 : F m (pq p 24) = ((nbj + (H ++ O2).length : Nat) : Int) := pl.2.1.1
      refine fitc_3 (by rw [ec]; exact z2) (by omega) (by omega) (by omega) (fun M3 => fits_2 h160 h161 (by rw [er 33 _ (by omega)]; exact z1) hm (fun M4 => ?_))
      have fwA : ∀ K1 k, K1 ≠ 94 → K1 ≠ 160 → K1 ≠ 162 → A w K1 k = A w0 K1 k := fun K1 k a1 a2 a3 => FR.A fw.1 (by simp; omega)
      obtain ⟨k0, k0l, n1, n2⟩ := name_two (N := N) (v := A m 23 (i + 1)) (i := A w 35 pp) hpp wF ((fwA 95 p (by omega) (by omega) (by omega)).trans h95) hjf ((fwA 99 _ (by omega) (by omega) (by omega)).trans h99) ((fwA 101 _ (by omega) (by omega) (by omega)).trans h101) e24 hlen nms ⟨hO, hH⟩ (by rw [ec, er 35 _ (by omega)]; exact z5) (A_r _ _ _) (A_r _ _ _)
      refine l_bnd (pk_mo n1 (fun m3 r h => ?_))
      obtain ⟨rfl, rfl⟩ := h
      refine rb_bnd (pk_mo n2 (fun w3 r h => ?_))
      obtain ⟨rfl, rfl⟩ := h
      refine r_bb ?_
      have hAt : ATf m3 w3 fa' na := ATf_k hA (nf.1.1 22 (by omega) (by simp)) (nf.1.2.2.1 2 (by omega) (by simp)) (nf.1.2.2.1 3 (by omega) (by simp)) (fw.1.1 14 (by simp)) (fw.1.2.2.1 12 (by simp)) (fw.1.2.2.1 13 (by simp))
      have cx3 : CTX Fv P m3 := CTX_fr cx (nf.1.1 22 (by omega) (by simp)) (nf.1.2.2.1 3 (by omega) (by simp))
      have op := order_pp (N := N) (v := pq p 2) (m := m3) (w := w3) (p := p) (h := m0.2.2.2 (pq p 2)) (h' := hp w0 p) (n0 := U) (n0' := U) ⟨fun c => pq_n (by omega) c.symm, fun c => pq_n (by omega) c.symm⟩ hh hpw g hU cx3.1 cx3.2.1 cx3.2.2.1 g' hU (by omega) wF hF' is hAt hN (tp (nbj + k0) (by omega)) q
      rw [ht]
      refine pp_bb (pp_mo op (fun m4 r4 w4 r5 h => ?_))
      obtain ⟨⟨f4, g4⟩, sg⟩ := h
      have sd := (sgn_d sg).1
      have fs4 := FSt_w (FSt_m fs (FR.mo f4 (by simp) (by simp) (by simp) (by simp))) (FR.mo g4 (by simp) (by simp) (by simp) (by simp))
      rw [sd]
      cases hd : decide (r5 = 0) with
      | true =>
        rw [br_t, br_t, ← z3]
        exact ks M3 M4 (cnt + 1) m4 w4 fs4 (fun k hk => by rw [f4.2.2.2 44 (by simp)]; exact hst k hk) (fun k hk => ⟨by rw [FR.A g4 (by simp)]; exact (rs k hk).1, by rw [g4.2.2.2 161 (by simp)]; exact (rs k hk).2⟩) (by omega)
      | false =>
        rw [br_f, br_f]
        exact kf m4 w4 fs4.1 fs4.2.1
    · -- a term without cells
      subst z4
      have ez : mk (A m0 23 (i + 1)) (A m0 23 (i + 2)) = w0.2.2.2 34 pp := z5.symm
      have nh : ¬ isH (mk (A m0 23 (i + 1)) (A m0 23 (i + 2))) := nh_mk (by omega)
      have w34 : w.2.2.2 34 pp = mk (A m0 23 (i + 1)) (A m0 23 (i + 2)) := by rw [fw.1.2.2.2 34 (by simp), ez]
      refine fitc_1 (t := t) (by rw [ec]; exact z2) (by omega) (by omega) (by omega) ht (fun e M3 => ?_) (fun ne => ?_)
      · rw [ec, ec] at e
        refine fits_3 h160 h161 (by rw [er 33 _ (by omega)]; exact z1) hm (fun _ M4 => ?_) (fun c => absurd (by rw [w34]; exact (RTb_nh nh q.1).mp e) c)
        rw [← z3]
        exact ks M3 M4 (cnt + 1) m w fs hst rs (by omega)
      · rw [ec, ec] at ne
        refine fits_3 h160 h161 (by rw [er 33 _ (by omega)]; exact z1) hm (fun e => ?_) (fun _ => kf m w nf fw)
        rw [w34] at e
        exact absurd ((RTb_nh nh q.1).mpr e) ne
    · -- a STRING
      subst z4
      have e19 : A w 19 s0 = ((bb : Nat) : Int) := by rw [er 19 _ (by omega)]; exact z6
      have e19' : A w 19 (s0 + 1) = ((bb + l : Nat) : Int) := by rw [er 19 _ (by omega)]; exact z7
      have el : A m 23 (i + 1) = ((l : Nat) : Int) := by rw [ec]; exact z8
      have rs0 := A_r w 35 pp
      rw [er 35 _ (by omega), z5] at rs0
      refine fitc_2 (l := l) (by rw [ec]; exact z2) (by omega) (by omega) (by omega) el (fun M3 => fits_4 h160 h161 (by rw [er 33 _ (by omega)]; exact z1) hm (fun M4 => ?_))
      rw [er 35 _ (by omega), z5, ht]
      refine r_bb ?_
      have is' : ISb b (m.2.2.2 (pq p 2)) U (hp w p) U := by rw [hh, hpw]; exact is
      have g1 : HPc (m.2.2.2 (pq p 2)) U ow kd Fv P := by rw [hh]; exact g
      have g2 : HP (hp w p) U ow' kd' Fv' P' := by rw [hpw]; exact g'
      refine pp_bb (pp_mo (str_pp (N := N) (l := l) (s0 := s0) (bb := bb) hpp wF is' g1 (by omega) g2 hU e19 e19' el (fun k hk => ?_) (by omega) (by omega) q) (fun m4 r4 w4 r5 h => ?_))
      · have := z9 k hk
        rw [show i + 1 + 1 + k = i + 2 + k by omega] at this
        rw [ec, er 18 _ (by omega)]
        exact this
      · obtain ⟨⟨rfl, rfl⟩, ⟨rfl, rfl⟩ | ⟨rfl, rfl⟩⟩ := h
        · rw [show decide ((0 : Int32) = 0) = true from rfl, br_t, br_t]
          exact kf m4 w4 nf fw
        · rw [show decide ((1 : Int32) = 0) = false from rfl, br_f, br_f, ← z3]
          exact ks M3 M4 (cnt + 1) m4 w4 fs hst rs (by omega)
    · -- a TUPLE
      have e35 : A w 35 pp = ((n : Nat) : Int) := by rw [er 35 _ (by omega)]; exact z4
      have e35m : A m 23 (i + 1) = ((n : Nat) : Int) := by rw [ec, z3]; exact z4
      have e36 : A w 36 pp = if 0 < n then ((cp 0 : Nat) : Int) else -1 := by
        rw [er 36 _ (by omega)]
        by_cases c : 0 < n
        · rw [if_pos c]; exact z6 c
        · rw [if_neg c]; exact z7 (by omega)
      have nx : ∀ k, k < n → A w 37 (cp k) = if k + 1 < n then ((cp (k + 1) : Nat) : Int) else -1 := fun k hk => by
        rw [er 37 _ (by omega)]
        by_cases c : k + 1 < n
        · rw [if_pos c]; exact (z8 k hk).2.1 c
        · rw [if_neg c]; exact (z8 k hk).2.2 (by omega)
      have cpb : ∀ k, k < n → cp k < 2147483648 := fun k hk => by
        cases k with
        | zero =>
          have := A_r w 36 pp
          rw [e36, if_pos hk] at this
          omega
        | succ k =>
          have := A_r w 37 (cp k)
          rw [nx k (by omega), if_pos hk] at this
          omega
      have cil : ∀ k, k ≤ n → ci k ≤ j := fun k hk => by
        have := up_le (c := ci) (n := n) (fun k hk => Nat.le_of_lt (PTs_lt (z8 k hk).1)) (n - k) k (by omega)
        rw [show k + (n - k) = n by omega, cn] at this
        exact this
      have col : ∀ k, k ≤ n → (H ++ co k).length ≤ (H ++ O2).length := fun k hk => by
        have := up_le (c := fun k => (H ++ co k).length) (n := n) (fun k hk => pre_le (PTs_pre (z8 k hk).1)) (n - k) k (by omega)
        rw [show k + (n - k) = n by omega, on] at this
        exact this
      have hhh : so t = 5 → va t = ((vn t : Nat) : Int) ∧ vn t < 512 ∧ va (m.2.2.2 (pq p 2) (vn t)) = ((vn (m.2.2.2 (pq p 2) (vn t)) : Nat) : Int) := fun e => by
        obtain ⟨⟨-, a1, a2, a3, -⟩, -⟩ := TP_tup is g g' q e
        rw [hh]
        exact ⟨a1, by omega, a2⟩
      have g2 : HP (hp w p) U ow' kd' Fv' P' := by rw [hpw]; exact g'
      have pr5 := parts5_r (N := N) (many := many) (n := n) (cp := cp) (x := x) (pp := pp) hpp wF g2 hU q.2.2 (by rw [er 33 _ (by omega)]; exact z1) e35 e36 rpp z5 (by omega) cpb nx
      by_cases cT : so t = 5 ∧ vn (m.2.2.2 (pq p 2) (vn t)) = n
      · obtain ⟨⟨a0, a1, a2, a3, a4⟩, tpp⟩ := TP_tup is g g' q cT.1
        rw [← hh] at a3 a4 tpp
        rw [← hpw] at a4 tpp
        rw [cT.2] at a3 a4 tpp
        refine fitc_6 (t := t) (n := n) (by rw [ec]; exact z2) (by omega) (by omega) (by omega) e35m z5 ht hhh (fun _ _ M3 => ?_) (fun c => absurd cT c)
        refine fits_5 h160 h161 (by rw [er 33 _ (by omega)]; exact z1) hm (fun M4 => ?_)
        refine rb_bnd (pk_mo pr5 (fun w3 r3 hw3 => ?_))
        obtain ⟨f3, ⟨-, c⟩ | ⟨rfl, -, -, pk1, pk2⟩⟩ := hw3
        · exact absurd ⟨a0, a4⟩ c
        rw [m1I, decE (by omega) (by omega) (by omega) (by omega), decide_eq_false (by omega), br_f]
        refine tupl_pp (h := m.2.2.2 (pq p 2)) (nn := n) a1 (by omega) n M3 top m (Nat.le_refl _) (by omega) rfl (fun M5 m5 f5 r1 r2 => ?_)
        have fs5 := FSt_w (FSt_m fs (FR.mo f5 (by simp) (by simp) (by simp) (by simp))) (FR.mo f3 (by simp) (by simp) (by simp) (by simp))
        have inn : ∀ (d M6 M7 cnt6 : Nat) (m6 w6 : MS), d ≤ n → FSt b P P' ow kd ow' kd' p B0 nbj U W Y H (co (n - d)) m0 w0 m6 w6 → (∀ k, k < top + d → m6.2.2.2 44 k = if k < top then s k else m.2.2.2 (pq p 2) (vn t + (n - (k - top)))) → RSk w6 (fun k => if k < many then P0 k else ((cp (n - 1 - (k - many)) : Nat) : Int)) (fun k => if k < many then X0 k else hp w p (vn x + 1 + (n - 1 - (k - many)))) (many + d) → cnt6 ≤ ci (n - d) → PP Q ((hg_Ma_fit N M6).1 m6 p (I ((ci (n - d) : Nat) : Int)) (I ((top + d : Nat) : Int)) (I ((cnt6 : Nat) : Int))) (bnd (gg_M_fits N M7 w6 (I ((many + d : Nat) : Int))) K) := by
          intro d
          induction d with
          | zero =>
            intro M6 M7 cnt6 m6 w6 _ fs6 st6 rs6 hc6
            rw [Nat.sub_zero, cn] at hc6 ⊢
            rw [Nat.sub_zero, on] at fs6
            refine ks M6 M7 cnt6 m6 w6 fs6 (fun k hk => ?_) (fun k hk => ?_) hc6
            · rw [st6 k (by omega), if_pos hk]
            · obtain ⟨x1, x2⟩ := rs6 k (by omega)
              dsimp only at x1 x2
              rw [if_pos hk] at x1 x2
              exact ⟨x1, x2⟩
          | succ d ih =>
            intro M6 M7 cnt6 m6 w6 hd fs6 st6 rs6 hc6
            obtain ⟨p8, -, -⟩ := z8 (n - (d + 1)) (by omega)
            rw [show n - (d + 1) + 1 = n - d by omega] at p8
            have rsd := rs6 (many + d) (by omega)
            dsimp only at rsd
            rw [if_neg (show ¬ many + d < many by omega), if_neg (show ¬ many + d < many by omega), show n - 1 - (many + d - many) = n - (d + 1) by omega] at rsd
            have std := st6 (top + d) (by omega)
            rw [if_neg (by omega), show n - (top + d - top) = n - (d + 1) + 1 by omega] at std
            have cd := cil (n - d) (by omega)
            have ld := col (n - d) (by omega)
            refine fit_one ft kf hN p8 M6 M7 (top + d) cnt6 (many + d) _ _ _ m6 w6 _ _ fs6 (fun k hk => st6 k (by omega)) std (fun k hk => rs6 k (by omega)) rsd.1 rsd.2 ?_ (by omega) hc6 (by omega) (by omega) (by omega) (fun M8 M9 cnt8 m8 w8 fs8 st8 rs8 hc8 => ih M8 M9 cnt8 m8 w8 (by omega) fs8 st8 rs8 hc8)
            have := tpp (n - (d + 1) + 1) (by omega) (by omega)
            rw [show vn x + 1 + (n - (d + 1)) = vn x + (n - (d + 1) + 1) by omega]
            exact this
        have fin := inn n M5 M4 (cnt + 1) m5 w3 (Nat.le_refl _) (by rw [Nat.sub_self, o0]; exact fs5) (fun k hk => ?_) (fun k hk => ?_) (by rw [Nat.sub_self, c0]; omega)
        · rw [Nat.sub_self, c0] at fin
          rw [show I ((i : Nat) : Int) + 2 = I ((i + 2 : Nat) : Int) from addN]
          exact fin
        · by_cases c : k < top
          · rw [if_pos c, r1 k c]; exact hst k c
          · rw [if_neg c]
            have := r2 (k - top) (by omega)
            rw [show top + (k - top) = k by omega] at this
            exact this
        · dsimp only
          by_cases c : k < many
          · rw [if_pos c, if_pos c]
            exact ⟨(pk2 k c).1.trans (rs k c).1, (pk2 k c).2.trans (rs k c).2⟩
          · rw [if_neg c, if_neg c]
            have := pk1 (n - 1 - (k - many)) (by omega)
            rw [show many + (n - 1 - (n - 1 - (k - many))) = k by omega] at this
            exact this
      · refine fitc_6 (t := t) (n := n) (by rw [ec]; exact z2) (by omega) (by omega) (by omega) e35m z5 ht hhh (fun a1 a2 => absurd ⟨a1, a2⟩ cT) (fun _ => ?_)
        refine fits_5 h160 h161 (by rw [er 33 _ (by omega)]; exact z1) hm (fun M4 => ?_)
        refine rb_bnd (pk_mo pr5 (fun w3 r3 hw3 => ?_))
        obtain ⟨f3, ⟨rfl, -⟩ | ⟨-, ⟨c1, c2⟩, -⟩⟩ := hw3
        · rw [show decide ((-1 : Int32) = -1) = true from rfl, br_t]
          exact kf m w3 nf (fw.fr (FR.mo f3 (by simp) (by simp) (by simp) (by simp)))
        · have e5 : so t = 5 := by rw [← RTb_so q.1]; exact c1
          obtain ⟨⟨-, -, -, -, a4⟩, -⟩ := TP_tup is g g' q e5
          rw [← hh, ← hpw] at a4
          exact absurd ⟨e5, by omega⟩ cT
    · -- a list
      obtain ⟨tl, tl1⟩ : ∃ tl : Bool, (tl = false ∧ ROs w0 38 pp = 0 ∧ A m0 23 (ci n) = 1 ∧ A m0 23 (ci n + 1) = 6 ∧ A m0 23 (ci n + 2) = 0 ∧ j = ci n + 3 ∧ O2 = co n) ∨ (tl = true ∧ ROs w0 38 pp = 1 ∧ 0 < n ∧ ROs w0 37 (cp (n - 1)) = ((cp n : Nat) : Int) ∧ PTs (A m0 23) (ROs w0) (w0.2.2.2 34) H f (ci n) (cp n) (co n) j O2) := by
        rcases z8 with ⟨a1, a2, a3, a4, a5, a6⟩ | ⟨a1, a2, a3, a4⟩
        · exact ⟨false, Or.inl ⟨rfl, a1, a2, a3, a4, a5, a6⟩⟩
        · exact ⟨true, Or.inr ⟨rfl, a1, a2, a3, a4⟩⟩
      have e35 : A w 35 pp = ((n : Nat) : Int) := by rw [er 35 _ (by omega)]; exact z2
      have e38 : A w 38 pp = if tl = true then 1 else 0 := by
        rw [er 38 _ (by omega)]
        rcases tl1 with ⟨rfl, a1, -⟩ | ⟨rfl, a1, -⟩
        · exact a1
        · exact a1
      have cij : ci n < j := by
        rcases tl1 with ⟨-, -, -, -, -, a1, -⟩ | ⟨-, -, -, -, a1⟩
        · omega
        · exact PTs_lt a1
      have cir : ∀ k, k < n → ci k + 1 < ci (k + 1) := fun k hk => PTs_lt (z7 k hk).2.1
      have cil : ∀ k, k ≤ n → ci k ≤ ci n := fun k hk => by
        have := up_le (c := ci) (n := n) (fun k hk => by have := cir k hk; omega) (n - k) k (by omega)
        rw [show k + (n - k) = n by omega] at this
        exact this
      have n1 : n < 12000 := by omega
      have coO : (H ++ co n).length ≤ (H ++ O2).length := by
        rcases tl1 with ⟨-, -, -, -, -, -, a1⟩ | ⟨-, -, -, -, a1⟩
        · rw [a1]; exact Nat.le_refl _
        · exact pre_le (PTs_pre a1)
      have col : ∀ k, k ≤ n → (H ++ co k).length ≤ (H ++ O2).length := fun k hk => by
        have := up_le (c := fun k => (H ++ co k).length) (n := n) (fun k hk => pre_le (PTs_pre (z7 k hk).2.1)) (n - k) k (by omega)
        rw [show k + (n - k) = n by omega] at this
        exact Nat.le_trans this coO
      have nx : ∀ k, k + 1 < n → A w 37 (cp k) = ((cp (k + 1) : Nat) : Int) := fun k hk => by rw [er 37 _ (by omega)]; exact (z7 k (by omega)).2.2 hk
      have nxl : tl = true → 0 < n ∧ A w 37 (cp (n - 1)) = ((cp n : Nat) : Int) := fun h => by
        rcases tl1 with ⟨a0, -⟩ | ⟨-, -, a2, a3, -⟩
        · rw [a0] at h; cases h
        · exact ⟨a2, by rw [er 37 _ (by omega)]; exact a3⟩
      have e36 : 0 < n → A w 36 pp = ((cp 0 : Nat) : Int) := fun h => by rw [er 36 _ (by omega)]; exact z6 h
      have cpb : ∀ k, k < n → cp k < 2147483648 := fun k hk => by
        cases k with
        | zero =>
          have := A_r w 36 pp
          rw [e36 hk] at this
          omega
        | succ k =>
          have := A_r w 37 (cp k)
          rw [nx k (by omega)] at this
          omega
      have cpn : tl = true → cp n < 2147483648 := fun h => by
        have := A_r w 37 (cp (n - 1))
        rw [(nxl h).2] at this
        omega
      have g2 : HP (hp w p) U ow' kd' Fv' P' := by rw [hpw]; exact g'
      have is' : ISb b (m.2.2.2 (pq p 2)) U (hp w p) U := by rw [hh, hpw]; exact is
      have g1 : HPc (m.2.2.2 (pq p 2)) U ow kd Fv P := by rw [hh]; exact g
      have si := sp_iso (n := n) (tl := tl) is' g1 g2 q
      refine fits_6 h160 h161 (by rw [er 33 _ (by omega)]; exact z1) hm (fun M4 => ?_)
      refine rb_bnd (pk_mo (parts6_r (N := N) (many := many) (n := n) (cp := cp) (x := x) (pp := pp) (tl := tl) hpp wF g2 hU q.2.2 (by rw [er 33 _ (by omega)]; exact z1) e35 e36 e38 rpp n1 (by omega) cpb cpn nx nxl) (fun w3 r3 hw3 => ?_))
      obtain ⟨f3, ⟨rfl, bad⟩ | ⟨rfl, good, -, pk1, pk2⟩⟩ := hw3
      · -- it fails: there later
        rw [show decide ((-1 : Int32) = -1) = true from rfl, br_t]
        refine pp_pk (q := fun m3 z => z = I (-1) ∧ NFx p B0 m0 m3) ?_ (fun m3 z h => by rw [h.1]; exact kf m3 w3 h.2 (fw.fr (FR.mo f3 (by simp) (by simp) (by simp) (by simp))))
        have bad2 : ¬ SPn (m0.2.2.2 (pq p 2)) t n tl := fun c => bad (si.mp (by rw [hh]; exact c))
        have := doom_l (N := N) (B0 := B0) (t := t) (ci := ci) (f := f) (n := n) (tl := tl) g hU (fun k hk => ⟨(z7 k hk).1, PTs_PC (z7 k hk).2.1⟩) (fun k hk => by have := cil k hk; omega) (fun h => by
          rcases tl1 with ⟨-, -, a2, a3, a4, -⟩ | ⟨a0, -⟩
          · exact ⟨a2, a3, a4⟩
          · rw [a0] at h; cases h) bad2 n 0 M cnt top (fun k => m.2.2.2 44 k) m (by omega) (fun i hi => by omega) q.2.1 ⟨nf, fun k _ => rfl⟩ ht (by rw [c0]; exact hc) (by omega)
        rw [c0] at this
        exact this
      · -- its parts
        have goodt := si.mpr good
        have ren : many + (if tl = true then n + 1 else n) = many + ((if tl = true then 1 else 0) + n) := by
          cases tl
          · simp
          · simp; omega
        rw [ren, m1I, decE (by omega) (by cases tl <;> simp <;> omega) (by omega) (by omega), decide_eq_false (by omega), br_f]
        have tpk := tl_iso is' g1 g2 q
        have fs3 := FSt_w fs (FR.mo f3 (by simp) (by simp) (by simp) (by simp))
        obtain ⟨e, he⟩ : ∃ e : Nat, e = (if tl = true then 1 else 0) := ⟨_, rfl⟩
        rw [← he]
        have inn : ∀ (d M6 M7 cnt6 : Nat) (m6 w6 : MS), d ≤ n → FSt b P P' ow kd ow' kd' p B0 nbj U W Y H (co (n - d)) m0 w0 m6 w6 → (∀ k, k < top → m6.2.2.2 44 k = s k) → m6.2.2.2 44 top = tlc (m.2.2.2 (pq p 2)) t (n - d) → RSk w6 (fun k => if k < many then P0 k else ((cp (e + n - 1 - (k - many)) : Nat) : Int)) (fun k => if k < many then X0 k else if e + n - 1 - (k - many) < n then hp w p (vn (tlc (hp w p) x (e + n - 1 - (k - many)))) else tlc (hp w p) x n) (many + (e + d)) → cnt6 ≤ ci (n - d) → PP Q ((hg_Ma_fit N M6).1 m6 p (I ((ci (n - d) : Nat) : Int)) (I ((top + 1 : Nat) : Int)) (I ((cnt6 : Nat) : Int))) (bnd (gg_M_fits N M7 w6 (I ((many + (e + d) : Nat) : Int))) K) := by
          intro d
          induction d with
          | zero =>
            intro M6 M7 cnt6 m6 w6 _ fs6 st6 tt6 rs6 hc6
            rw [Nat.sub_zero] at fs6 tt6 hc6 ⊢
            have tpn := tpk n goodt.1
            have e6c : ∀ k, A m6 23 k = A m0 23 k := fun k => congrFun fs6.1.c k
            rcases tl1 with ⟨rfl, a1, a2, a3, a4, a5, a6⟩ | ⟨rfl, a1, a2, a3, a4⟩
            · obtain rfl : e = 0 := he.trans rfl
              have nil : tlc (m.2.2.2 (pq p 2)) t n = mk 6 0 := by
                have s6 := goodt.2 rfl
                exact t_ext (by rw [so_mk (by omega) (by omega)]; exact s6) (by rw [va_mk (by omega) (by omega)]; exact RTb_nil tpn.1 s6)
              refine fitc_1 (t := tlc (m.2.2.2 (pq p 2)) t n) (by rw [e6c]; exact a2) (by omega) (by omega) (by omega) tt6 (fun _ M8 => ?_) (fun c => absurd (by rw [e6c, e6c, a3, a4]; exact nil) c)
              rw [← a5]
              have rs7 : RSk w6 P0 X0 many := fun k hk => by
                obtain ⟨x1, x2⟩ := rs6 k (by omega)
                dsimp only at x1 x2
                rw [if_pos hk] at x1 x2
                exact ⟨x1, x2⟩
              exact ks M8 M7 (cnt6 + 1) m6 w6 (by rw [a6]; exact fs6) st6 rs7 (by omega)
            · obtain rfl : e = 1 := he.trans rfl
              have rsd := rs6 many (by omega)
              dsimp only at rsd
              rw [if_neg (Nat.lt_irrefl many), if_neg (Nat.lt_irrefl many), Nat.sub_self, Nat.sub_zero, show 1 + n - 1 = n by omega, if_neg (Nat.lt_irrefl n)] at rsd
              refine fit_one ft kf hN a4 M6 M7 top cnt6 many s P0 X0 m6 w6 _ _ fs6 st6 tt6 (fun k hk => ?_) rsd.1 rsd.2 tpn hj hc6 (by omega) (by omega) hlen (fun M8 M9 cnt8 m8 w8 fs8 st8 rs8 hc8 => ks M8 M9 cnt8 m8 w8 fs8 st8 rs8 hc8)
              obtain ⟨x1, x2⟩ := rs6 k (by omega)
              dsimp only at x1 x2
              rw [if_pos hk] at x1 x2
              exact ⟨x1, x2⟩
          | succ d ih =>
            intro M6 M7 cnt6 m6 w6 hd fs6 st6 tt6 rs6 hc6
            have kd : n - (d + 1) < n := by omega
            obtain ⟨c7, p8, -⟩ := z7 (n - (d + 1)) kd
            rw [show n - (d + 1) + 1 = n - d by omega] at p8
            have e7 := goodt.1 (n - (d + 1)) kd
            have tpd := tpk (n - (d + 1)) (fun i hi => goodt.1 i (by omega))
            obtain ⟨⟨x7, v1, v2, v3, v4⟩, q0, q1⟩ := TP_pair is' g1 g2 tpd e7
            have h6 : m6.2.2.2 (pq p 2) = m.2.2.2 (pq p 2) := fs6.1.h.trans hh.symm
            have cl1 := cil (n - d) (by omega)
            have cl2 := cir (n - (d + 1)) kd
            rw [show n - (d + 1) + 1 = n - d by omega] at cl2
            refine fitc_7 (t := tlc (m.2.2.2 (pq p 2)) t (n - (d + 1))) (by rw [congrFun fs6.1.c]; exact c7) (by omega) (by omega) (by omega) tt6 (fun _ => ⟨v1, by omega⟩) (fun _ M8 => ?_) (fun c => absurd e7 c)
            rw [h6]
            have fr2 : FR [] [] [] [44, 45, 46] m6 (wj (wj m6 44 top (m.2.2.2 (pq p 2) (vn (tlc (m.2.2.2 (pq p 2)) t (n - (d + 1))) + 1))) 44 (top + 1) (m.2.2.2 (pq p 2) (vn (tlc (m.2.2.2 (pq p 2)) t (n - (d + 1)))))) := FR.wj (FR.wj FR.rf (by simp)) (by simp)
            have r44 : ∀ k, (wj (wj m6 44 top (m.2.2.2 (pq p 2) (vn (tlc (m.2.2.2 (pq p 2)) t (n - (d + 1))) + 1))) 44 (top + 1) (m.2.2.2 (pq p 2) (vn (tlc (m.2.2.2 (pq p 2)) t (n - (d + 1)))))).2.2.2 44 k = if k = top + 1 then m.2.2.2 (pq p 2) (vn (tlc (m.2.2.2 (pq p 2)) t (n - (d + 1)))) else if k = top then tlc (m.2.2.2 (pq p 2)) t (n - d) else m6.2.2.2 44 k := fun k => by
              rw [wj_row]
              by_cases c : k = top + 1
              · rw [if_pos c, if_pos c]
              · rw [if_neg c, if_neg c, wj_row]
                by_cases c2 : k = top
                · rw [if_pos c2, if_pos c2, show n - d = n - (d + 1) + 1 by omega]
                  rfl
                · rw [if_neg c2, if_neg c2]
            have ed : e + (d + 1) = e + d + 1 := by omega
            have rsd := rs6 (many + (e + d)) (by omega)
            dsimp only at rsd
            rw [if_neg (show ¬ many + (e + d) < many by omega), if_neg (show ¬ many + (e + d) < many by omega), show e + n - 1 - (many + (e + d) - many) = n - (d + 1) by omega, if_pos kd] at rsd
            have ld := col (n - d) (by omega)
            rw [show many + (e + (d + 1)) = many + (e + d) + 1 by omega]
            have tlb : e ≤ 1 := by rw [he]; cases tl <;> simp
            refine fit_one ft kf hN p8 M8 M7 (top + 1) (cnt6 + 1) (many + (e + d)) (fun k => if k = top then tlc (m.2.2.2 (pq p 2)) t (n - d) else s k) _ _ _ w6 _ _ (FSt_m fs6 fr2) (fun k hk => ?_) (by rw [r44, if_pos rfl]) (fun k hk => rs6 k (by omega)) rsd.1 rsd.2 q0 (by omega) (by omega) (by omega) (by omega) (by omega) (fun M9 M10 cnt9 m9 w9 fs9 st9 rs9 hc9 => ?_)
            · rw [r44, if_neg (by omega)]
              by_cases c : k = top
              · rw [if_pos c, if_pos c]
              · rw [if_neg c, if_neg c]; exact st6 k (by omega)
            · refine ih M9 M10 cnt9 m9 w9 (by omega) fs9 (fun k hk => ?_) ?_ rs9 hc9
              · rw [st9 k (by omega), if_neg (by omega)]
              · rw [st9 top (by omega), if_pos rfl]
        have fin := inn n M M4 cnt m w3 (Nat.le_refl _) (by rw [Nat.sub_self, o0]; exact fs3) hst (by rw [Nat.sub_self]; exact ht) (fun k hk => ?_) (by rw [Nat.sub_self, c0]; exact hc)
        · rw [Nat.sub_self, c0] at fin
          exact fin
        · have tlb : (if tl = true then n + 1 else n) = e + n := by rw [he]; cases tl <;> simp <;> omega
          dsimp only
          by_cases c : k < many
          · rw [if_pos c, if_pos c]
            exact ⟨(pk2 k c).1.trans (rs k c).1, (pk2 k c).2.trans (rs k c).2⟩
          · rw [if_neg c, if_neg c]
            have := pk1 (e + n - 1 - (k - many)) (by rw [tlb]; omega)
            rw [tlb, show many + (e + n - 1 - (e + n - 1 - (k - many))) = k by omega] at this
            exact this
end
