/-! the order of terms, both sides: one pair, all -/
set_option maxRecDepth 100000
theorem dcE {x : Int} (hx : RG x) {c : Int32} {k : Int} (hc : c = I k) (hk : RG k) : decide (I x = c) = decide (x = k) := by
  subst hc
  exact decE hx.1 hx.2 hk.1 hk.2
/-- how the reference orders what FUNS are of -/
def kfn (z : Int) : Int := if z < 0 then 100000 - z else z
section
variable {b : Int → Nat → Nat → Prop} {h h' : Nat → Int64} {n n' n0 n0' N v p na : Nat} {t t2 x x2 : Int64} {ow kd ow' kd' fa : Nat → Nat} {Fv Fv' : Int64 → Int64 → Prop} {P P' : Int64 → Prop} {m w m0 w0 u : MS}
theorem ATf_fr {js js' : List Nat} (hA : ATf m0 w0 fa na) (f1 : FR [] [] [] js m0 m) (f2 : FR [] [] [] js' w0 w) : ATf m w fa na := by
  unfold ATf at hA ⊢
  rw [f1.1 22 (by simp), f1.2.2.1 3 (by simp), f1.2.2.1 2 (by simp), f2.1 14 (by simp), f2.2.2.1 13 (by simp), f2.2.2.1 12 (by simp)]
  exact hA
theorem wo_pp {y z : Nat} (hA : ATf m w fa na) (hy : y < na) (hz : z < na) : PP (fun m2 r w2 s => (m2 = m ∧ w2 = w) ∧ SGN r s) (hm_Wo_order N m 1 (I (y : Nat)) (I (z : Nat))) (fm_M_orderAtoms N w (I (y : Nat)) (I (z : Nat))) := by
  have hA2 := hA
  obtain ⟨⟨-, c2, c3, c4, c5⟩, ⟨-, w2⟩, e⟩ := hA
  unfold hm_Wo_order hb_Wo_order_0 fm_M_orderAtoms fb_M_orderAtoms_0
  refine l_ck (fun _ => l_ck (fun _ => l_ck (fun _ => l_ck (fun _ => r_ck (fun _ => r_ck (fun _ => r_lt (r_ck (fun _ => r_ck (fun _ => r_lt ?_)))))))))
  rw [lit1, I_add, I_add, show ((y : Nat) : Int) + 1 = ((y + 1 : Nat) : Int) by omega, show ((z : Nat) : Int) + 1 = ((z + 1 : Nat) : Int) by omega, tnI (n := y + 1) rfl (by omega), tnI (n := y) rfl (by omega), tnI (n := z + 1) rfl (by omega), tnI (n := z) rfl (by omega), show (1 + 2 : Nat) = 3 from rfl, c2 (y + 1) (by omega), c2 y (by omega), c2 (z + 1) (by omega), c2 z (by omega), w2 (y + 1) (by omega), w2 y (by omega), w2 (z + 1) (by omega), w2 z (by omega), I_sub, I_sub]
  exact at_pp hA2 hy hz N N 0 (by omega)
theorem hdr5 (s : ISb b h n0 h' n0') (z5 : so t = 5) (r : RTb b t x) (k : BKc h n ow kd Fv t) (k' : BK h' n' ow' kd' Fv' x) : (h' (vn x)).toInt = va (h (vn t)) := by
  obtain ⟨⟨e1, -⟩, -⟩ := s.1 t x (Or.inr (Or.inl z5)) r
  have e5 : so x = 5 := (RTb_so r).trans z5
  have a1 := (k.2.1 z5).1
  have a2 := k'.2.1 e5
  unfold blk at e1
  rw [e5, z5] at e1
  simp at e1
  unfold HDC at a2
  unfold vn at e1 a1 a2 ⊢
  omega
theorem one128_e {c d : Int64} (c1 : -100000 < c.toInt ∧ c.toInt < 100000) (d1 : -100000 < d.toInt ∧ d.toInt < 100000) : fb_M_orderOne_128 N () u c d = some (u, I (cmpZ (kfn c.toInt) (kfn d.toInt))) := by
  unfold fb_M_orderOne_128 fb_M_orderOne_146 fb_M_orderOne_164 fb_M_orderOne_177 kfn
  have e1 := sub_1e5 c1.1 c1.2
  have e2 := sub_1e5 d1.1 d1.2
  by_cases q1 : c.toInt < 0
  · have g1 : ¬ 0 ≤ lg_cmp c 0 := fun z => by have := (lgc_ge c).mp z; omega
    rw [decide_eq_false g1, br_f, if_pos q1]
    by_cases q2 : d.toInt < 0
    · have g2 : ¬ 0 ≤ lg_cmp d 0 := fun z => by have := (lgc_ge d).mp z; omega
      rw [decide_eq_false g2, br_f, if_pos q2, cmp_l, bnd_so, e1, e2]
    · have g2 : 0 ≤ lg_cmp d 0 := (lgc_ge d).mpr (by omega)
      rw [decide_eq_true g2, br_t, if_neg q2, cmp_l, bnd_so, e1]
  · have g1 : 0 ≤ lg_cmp c 0 := (lgc_ge c).mpr (by omega)
    rw [decide_eq_true g1, br_t, if_neg q1]
    by_cases q2 : d.toInt < 0
    · have g2 : ¬ 0 ≤ lg_cmp d 0 := fun z => by have := (lgc_ge d).mp z; omega
      rw [decide_eq_false g2, br_f, if_pos q2, cmp_l, bnd_so, e2]
    · have g2 : 0 ≤ lg_cmp d 0 := (lgc_ge d).mpr (by omega)
      rw [decide_eq_true g2, br_t, if_neg q2, cmp_l, bnd_so]
theorem PLR_c {c c' d d' : Int64} (r1 : PLR c d) (r2 : PLR c' d') : (cmpZ (va c) (va c') < 0 ↔ cmpZ (kfn d.toInt) (kfn d'.toInt) < 0) ∧ (cmpZ (va c) (va c') = 0 ↔ cmpZ (kfn d.toInt) (kfn d'.toInt) = 0) := by
  rw [cmpZ_n, cmpZ_n, cmpZ_0, cmpZ_0]
  unfold kfn
  rcases r1 with ⟨u, u1, u2, u3⟩ | ⟨u, u1, u2, u3⟩ <;> rcases r2 with ⟨k, k1, k2, k3⟩ | ⟨k, k1, k2, k3⟩ <;> (split <;> split <;> omega)
/-- one pair, as far as it does not lie in the parts -/
theorem oal_pp (hh : m.2.2.2 v = h) (hh' : hp w p = h') (g : HPc h n ow kd Fv P) (hn : n ≤ 512) (hP : ∀ t, P t → PT m t) (g' : HP h' n' ow' kd' Fv' P') (hn' : n' ≤ 500) (hp1 : p < 25) (hme : F w 133 = p) (hF' : FVH Fv') (s : ISb b h n0 h' n0') (hA : ATf m w fa na) (r1 : RTb b t x) (r2 : RTb b t2 x2) (g1 : GT n ow kd P t) (g2 : GT n ow kd P t2) (g1' : GT n' ow' kd' P' x) (g2' : GT n' ow' kd' P' x2) : PP (fun m2 r w2 s => (m2 = m ∧ w2 = w) ∧ SGN r s) (hm_Te_orderAlone N m v t t2) (fm_M_orderOne N w x x2) := by
  have rt := so_r t
  have rt2 := so_r t2
  have q1 := RTb_so r1
  have q2 := RTb_so r2
  have k1 := GT_so hP g1
  have k2 := GT_so hP g2
  have nana : F m 22 = ((na : Nat) : Int) := by unfold F; rw [hA.1.1]; exact I_ti (by omega) (by have := hA.1.2.2.2.2; omega)
  have nab := hA.1.2.2.2.2
  unfold hm_Te_orderAlone hb_Te_orderAlone_0 hb_Te_orderAlone_62 hb_Te_orderAlone_107 fm_M_orderOne fb_M_orderOne_0 fb_M_orderOne_192 fb_M_orderOne_205
  simp only [e_tag, bnd_so, valI]
  rw [sortOf_e, bnd_so, sortOf_e, bnd_so, q1, q2, decE rt.1 rt.2 rt2.1 rt2.2]
  by_cases es : so t = so t2
  · rw [decide_eq_true es, br_t, br_t, valueOf_e, bnd_so, valueOf_e, bnd_so, dcE rt (c := 1) (k := 1) rfl ⟨by decide, by decide⟩, dcE rt (c := 5) (k := 5) rfl ⟨by decide, by decide⟩, dcE rt (c := 3) (k := 3) rfl ⟨by decide, by decide⟩, dcE rt (c := 7) (k := 7) rfl ⟨by decide, by decide⟩, dcE rt (c := 6) (k := 6) rfl ⟨by decide, by decide⟩]
    by_cases e1 : so t = 1
    · rw [decide_eq_true e1, br_t, br_t]
      have nt : ¬ isH t := by unfold isH; omega
      have nt2 : ¬ isH t2 := by unfold isH; omega
      rw [RTb_n r1 nt, RTb_n r2 nt2]
      have z1 : PT m t := by
        rcases g1 with z | z
        · exact hP t z.2
        · exact absurd z.1 nt
      have z2 : PT m t2 := by
        rcases g2 with z | z
        · exact hP t2 z.2
        · exact absurd z.1 nt2
      have y1 := z1.2 e1
      have y2 := z2.2 (by omega)
      have v1 := vn_e y1.1
      have v2 := vn_e y2.1
      rw [v1, v2, decE (by omega) (by omega) (by omega) (by omega)]
      by_cases ev : ((vn t : Nat) : Int) = ((vn t2 : Nat) : Int)
      · rw [decide_eq_true ev, br_t, ← ev]
        refine pp_l (pk_bnd ?_)
        have e0 : PK (fun w2 s => w2 = w ∧ s = 0) (fm_M_orderAtoms N w (I ((vn t : Nat) : Int)) (I ((vn t : Nat) : Int))) := by
          unfold fm_M_orderAtoms fb_M_orderAtoms_0
          exact pk_ck (fun _ => pk_ck (fun _ => pk_lt (pk_ck (fun _ => pk_ck (fun _ => pk_lt (at_same N 0))))))
        refine pk_mo e0 (fun w2 s q => pk_some ⟨⟨rfl, q.1⟩, ?_⟩)
        rw [q.2]
        exact ⟨Iff.rfl, Iff.rfl⟩
      · rw [decide_eq_false ev, br_f]
        refine pp_bb (pp_mo (wo_pp hA (y := vn t) (z := vn t2) (by omega) (by omega)) (fun m2 r w2 s q => pp_end q))
    · rw [decide_eq_false e1, br_f, br_f]
      by_cases e5 : so t = 5
      · rw [decide_eq_true e5, br_t, br_t]
        have zt : isH t := Or.inr (Or.inl e5)
        have zt2 : isH t2 := Or.inr (Or.inl (by omega))
        have zx := (RTb_isH r1).mpr zt
        have zx2 := (RTb_isH r2).mpr zt2
        have b1 := (HP_bkc g zt g1).1
        have b2 := (HP_bkc g zt2 g2).1
        have b3 := (HP_bk g' zx g1').1
        have b4 := (HP_bk g' zx2 g2').1
        have p3 := blk_pos (h := h') zx
        have p4 := blk_pos (h := h') zx2
        have n3 := b3.2.2.2.1
        have n4 := b4.2.2.2.1
        have p1 := blk_pos (h := h) zt
        have p2 := blk_pos (h := h) zt2
        have n1 := b1.2.2.2.1
        have n2 := b2.2.2.2.1
        unfold hb_Te_orderAlone_75
        rw [vn_e b1.1, vn_e b2.1, vn_e b3.1, vn_e b4.1]
        refine l_ck (fun _ => l_ck (fun _ => ?_))
        rw [tnI (n := vn t) rfl (by omega), tnI (n := vn t2) rfl (by omega), hh, valI, valI, cmp_c (va_r _) (va_r _), bnd_so, I_F' hme, cell_e (by omega) (by omega), bnd_so, I_F' hme, cell_e (by omega) (by omega), bnd_so, cmp_l, bnd_so, hh', hdr5 s e5 r1 b1 b3, hdr5 s (by omega) r2 b2 b4]
        exact pp_end ⟨⟨rfl, rfl⟩, SGN_i cmpZ_r cmpZ_r Iff.rfl Iff.rfl⟩
      · rw [decide_eq_false e5, br_f, br_f]
        by_cases e3 : so t = 3
        · rw [decide_eq_true e3, br_t, br_t]
          have zt : isH t := Or.inl e3
          have zt2 : isH t2 := Or.inl (by omega)
          have zx := (RTb_isH r1).mpr zt
          have zx2 := (RTb_isH r2).mpr zt2
          have b1 := (HP_bkc g zt g1).1
          have b2 := (HP_bkc g zt2 g2).1
          have b3 := (HP_bk g' zx g1').1
          have b4 := (HP_bk g' zx2 g2').1
          have p3 := blk_pos (h := h') zx
          have p4 := blk_pos (h := h') zx2
          have n3 := b3.2.2.2.1
          have n4 := b4.2.2.2.1
          have p1 := blk_pos (h := h) zt
          have p2 := blk_pos (h := h) zt2
          have n1 := b1.2.2.2.1
          have n2 := b2.2.2.2.1
          have f1 := hF'.1 _ _ (b3.2.2.1 (by omega)).2
          have f2 := hF'.1 _ _ (b4.2.2.1 (by omega)).2
          have l1 := (s.1 t x zt r1).2.2 e3
          have l2 := (s.1 t2 x2 zt2 r2).2.2 (by omega)
          unfold hb_Te_orderAlone_75
          rw [vn_e b1.1, vn_e b2.1, vn_e b3.1, vn_e b4.1]
          refine l_ck (fun _ => l_ck (fun _ => ?_))
          rw [tnI (n := vn t) rfl (by omega), tnI (n := vn t2) rfl (by omega), hh, valI, valI, cmp_c (va_r _) (va_r _), bnd_so, I_F' hme, cell_e (by omega) (by omega), bnd_so, I_F' hme, cell_e (by omega) (by omega), bnd_so, hh']
          have pc := PLR_c l1 l2
          have fin : PP (fun m2 r w2 s => (m2 = m ∧ w2 = w) ∧ SGN r s) (some (m, I (cmpZ (va (h (vn t))) (va (h (vn t2)))))) (some (w, I (cmpZ (kfn (h' (vn x)).toInt) (kfn (h' (vn x2)).toInt)))) := pp_end ⟨⟨rfl, rfl⟩, SGN_i cmpZ_r cmpZ_r pc.1 pc.2⟩
          rw [one128_e f1 f2, cmp_l, bnd_so]
          unfold fb_M_orderOne_177
          refine r_br (fun _ => fin) (fun z => r_br (fun z2 => ?_) (fun _ => fin))
          have z3 : ¬ (h' (vn x)).toInt < 0 := fun y => of_decide_eq_false z ((lgc_lt _).mpr y)
          have z4 : 0 ≤ (h' (vn x2)).toInt := (lgc_ge _).mp (of_decide_eq_true z2)
          have z5 : kfn (h' (vn x)).toInt = (h' (vn x)).toInt := if_neg z3
          have z6 : kfn (h' (vn x2)).toInt = (h' (vn x2)).toInt := if_neg (by omega)
          rw [z5, z6] at fin
          exact fin
        · rw [decide_eq_false e3, br_f, br_f]
          by_cases e7 : so t = 7
          · rw [decide_eq_true e7, br_t, br_t]
            exact pp_end ⟨⟨rfl, rfl⟩, Iff.rfl, Iff.rfl⟩
          · rw [decide_eq_false e7, br_f, br_f]
            have nt : ¬ isH t := by unfold isH; omega
            have nt2 : ¬ isH t2 := by unfold isH; omega
            rw [cmp_c (va_r _) (va_r _), bnd_so]
            by_cases e6 : so t = 6
            · rw [decide_eq_true e6, br_t, RTb_nil r1 e6, RTb_nil r2 (by omega)]
              exact pp_end ⟨⟨rfl, rfl⟩, by decide, by decide⟩
            · rw [decide_eq_false e6, br_f, RTb_n r1 nt, RTb_n r2 nt2, cmp_i (va_r _) (va_r _), bnd_so]
              exact pp_end ⟨⟨rfl, rfl⟩, Iff.rfl, Iff.rfl⟩
  · rw [decide_eq_false es, br_f, br_f, sortOf_e, bnd_so, q2, cmp_i rt rt2, bnd_so, I_sub]
    exact pp_end ⟨⟨rfl, rfl⟩, SGN_i ⟨by omega, by omega⟩ cmpZ_r (by rw [cmpZ_n]; omega) (by rw [cmpZ_0]; omega)⟩
end
