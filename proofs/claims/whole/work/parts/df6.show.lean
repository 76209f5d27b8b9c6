/-! show() answers alike, and what has been shown is alike -/
set_option maxRecDepth 100000
section
variable {N : Nat} {m w : MS} {v1 v2 v3 : Int32}
theorem ATs9_pg {Fv Fv' : Int64 → Int64 → Prop} {P P' : Int64 → Prop} {PR : Nat} (fq : FQs WTr PR Fv P Fv' P' m w) : CNq P P' m w := by
  obtain ⟨i, -, -, -, cn, -⟩ := fq
  exact cn
theorem show_e (h : MCH m w) : PP (fun m2 r w2 s => r = s ∧ ((m2 = m ∧ w2 = upI w 3 0) ∨ SHW m2 w2)) (hm_H_show N m v1 v2 v3) (fm_M_show N w v1 v2 v3) := by
  obtain ⟨x1, e1, hx1⟩ : ∃ x1 : Int, v1 = I x1 ∧ (-2147483648 ≤ x1 ∧ x1 < 2147483648) := ⟨v1.toInt, I_of v1, ti_rng v1⟩
  obtain ⟨x2, e2, hx2⟩ : ∃ x2 : Int, v2 = I x2 ∧ (-2147483648 ≤ x2 ∧ x2 < 2147483648) := ⟨v2.toInt, I_of v2, ti_rng v2⟩
  obtain ⟨x3, e3, hx3⟩ : ∃ x3 : Int, v3 = I x3 ∧ (-2147483648 ≤ x3 ∧ x3 < 2147483648) := ⟨v3.toInt, I_of v3, ti_rng v3⟩
  subst e1
  subst e2
  subst e3
  have ed : PP (fun m2 r w2 s => r = s ∧ ((m2 = m ∧ w2 = upI w 3 0) ∨ SHW m2 w2)) (some (m, (-1 : Int32))) (some (upI w 3 0, (-1 : Int32))) := pp_end ⟨rfl, Or.inl ⟨rfl, rfl⟩⟩
  have l30 : decide (0 ≤ I x3) = decide (0 ≤ x3) := by rw [lit0, decI (by omega) (by omega) hx3.1 hx3.2]
  have l30' : decide (I x3 ≤ 0) = decide (x3 ≤ 0) := by rw [lit0, decI hx3.1 hx3.2 (by omega) (by omega)]
  have d30 : decide (I x3 = 0) = decide (x3 = 0) := by rw [lit0, decE hx3.1 hx3.2 (by omega) (by omega)]
  have d20 : decide (I x2 = 0) = decide (x2 = 0) := by rw [lit0, decE hx2.1 hx2.2 (by omega) (by omega)]
  have d21 : decide (I x2 = 1) = decide (x2 = 1) := by rw [show (1 : Int32) = I 1 from rfl, decE hx2.1 hx2.2 (by omega) (by omega)]
  have d23 : decide (I x2 = 3) = decide (x2 = 3) := by rw [show (3 : Int32) = I 3 from rfl, decE hx2.1 hx2.2 (by omega) (by omega)]
  have l20 : decide (I x2 < 0) = decide (x2 < 0) := by rw [lit0, decL hx2.1 hx2.2 (by omega) (by omega)]
  have l22 : decide (2 < I x2) = decide (2 < x2) := by rw [show (2 : Int32) = I 2 from rfl, decL (by omega) (by omega) hx2.1 hx2.2]
  have l23 : decide (I x2 ≤ 3) = decide (x2 ≤ 3) := by rw [show (3 : Int32) = I 3 from rfl, decI hx2.1 hx2.2 (by omega) (by omega)]
  unfold hm_H_show hb_H_show_0 hb_H_show_19 hb_H_show_39 hb_H_show_93 fm_M_show fb_M_show_0 fb_M_show_17 fb_M_show_38 fb_M_show_113
  refine r_lt ?_
  rcases who_e (N := N) h hx1 with ⟨a1, a2⟩ | ⟨-, T, Fv, P, PR, Fv', AN, TT, CC, ND, CN, PN, SN, UN, FN, q, ⟨rfl, hq, p24⟩, a1, a2, W, per, rest, fq, tb⟩
  · rw [a1, a2, bnd_so, bnd_so, show decide ((none : Option Nat) = none) = true from rfl, br_t, show decide ((0 : Int32) = 0) = true from rfl, br_t]
    exact ed
  rw [a1, a2, bnd_so, bnd_so, show decide ((some q : Option Nat) = none) = false from rfl, br_f, show decide ((1 : Int32) = 0) = false from rfl, br_f, l30]
  by_cases z3 : 0 ≤ x3
  rotate_left
  · rw [decide_eq_false z3, br_f, br_f]; exact ed
  rw [decide_eq_true z3, br_t, br_t, d23]
  have bs : ∀ f : Nat → Option (MS × Int32), bo (some q) f = f q := fun _ => rfl
  have r9 := F_r m (pq q 9)
  have d9 : decide (m.1 (pq q 9) = 3) = decide (F m (pq q 9) = 3) := by
    rw [I_F (k := pq q 9), show (3 : Int32) = I 3 from rfl, decE r9.1 r9.2 (by omega) (by omega)]
  have ro : ∀ k, (upI w 3 0).2.2.1 k = w.2.2.1 k := fun _ => rfl
  have rj : ∀ k, (upI w 3 0).2.2.2 k = w.2.2.2 k := fun _ => rfl
  have q9 := A_r w 109 q
  have tnq : (I ((q : Nat) : Int)).toNatClampNeg = q := tnI (n := q) rfl (by omega)
  have d109 : decide (w.2.2.1 109 q = 3) = decide (A w 109 q = 3) := by
    rw [I_A (k := 109), show (3 : Int32) = I 3 from rfl, decE q9.1 q9.2 (by omega) (by omega)]
  have cn := ATs9_pg fq
  have at3 : ATM (upI w 3 0) := ATM_q cn.2.1 FQw_3u
  have f14 : F (upI w 3 0) 14 = F w 14 := congrArg Int32.toInt (upI_ne (by decide))
  have hA1 : WDc m 1 := W.2.1.2.2.1
  by_cases z2 : x2 = 3
  · -- the REASON
    rw [decide_eq_true z2, br_t, br_t, bs, d9]
    refine r_ck (fun _ => ?_)
    rw [tnq, ro, d109, l30', d30]
    rcases FQ_one fq hq with ⟨y1, y2, -⟩ | ⟨y1, y2, de⟩
    · rw [decide_eq_false y1, br_f, decide_eq_false y2, br_f]; exact ed
    rw [decide_eq_true y1, br_t, decide_eq_true y2, br_t]
    by_cases z0 : x3 = 0
    rotate_left
    · rw [decide_eq_false z0, br_f, decide_eq_false (show ¬ x3 ≤ 0 by omega), br_f]; exact ed
    rw [decide_eq_true z0, br_t, decide_eq_true (show x3 ≤ 0 by omega), br_t]
    obtain ⟨hm, k, z, g1, g2, g3, g4, g5, g6, g7⟩ := de.2.2.1
    rw [g1, show ∀ f : Nat → Option (MS × Int32), bo (some hm) f = f hm from fun _ => rfl]
    intro m2 r w2 s e1 e2
    obtain ⟨c1, c2⟩ := SH_eq (show_m (N := N) (p := hm) hA1 rfl g4 g5 m2 r e1) (shz_lp (N := N) (w0 := upI w 3 0) (show q < 24 by omega) g6 g7 N 0 (upI w 3 0) (Nat.zero_le _) FR.rf (fun k hk => absurd hk (Nat.not_lt_zero _)) w2 s e2)
    exact ⟨c1, Or.inr c2⟩
  rw [decide_eq_false z2, br_f, br_f, l20, l22]
  refine r_ck (fun _ => ?_)
  rw [tnq, ro, d109, l23]
  have out : ∀ {A' B' : Option (MS × Int32)}, (F m (pq q 9) ≠ 3 → A w 109 q ≠ 3 → ALr WTr m w q → 0 ≤ x2 → x2 ≤ 2 → PP (fun m2 r w2 s => r = s ∧ ((m2 = m ∧ w2 = upI w 3 0) ∨ SHW m2 w2)) A' B') → PP (fun m2 r w2 s => r = s ∧ ((m2 = m ∧ w2 = upI w 3 0) ∨ SHW m2 w2)) (br (decide (x2 < 0)) (some (m, -1)) (br (decide (2 < x2)) (some (m, -1)) (br (decide (F m (pq q 9) = 3)) (some (m, -1)) A'))) (br (decide (A w 109 q = 3)) (some (upI w 3 0, -1)) (br (decide (x2 < 0)) (some (upI w 3 0, -1)) (br (decide (x2 ≤ 3)) B' (some (upI w 3 0, -1))))) := fun {A' B'} hh => by
    have e3 : F m (pq q 9) = 3 ↔ A w 109 q = 3 := by
      rcases FQ_one fq hq with ⟨y1, y2, -⟩ | ⟨y1, y2, -⟩
      · exact ⟨fun e => absurd e y1, fun e => absurd e y2⟩
      · exact ⟨fun _ => y2, fun _ => y1⟩
    by_cases c9 : F m (pq q 9) = 3
    · rw [decide_eq_true (e3.mp c9), br_t]
      by_cases b1 : x2 < 0
      · rw [decide_eq_true b1, br_t]; exact ed
      rw [decide_eq_false b1, br_f]
      by_cases b2 : 2 < x2
      · rw [decide_eq_true b2, br_t]; exact ed
      rw [decide_eq_false b2, br_f, decide_eq_true c9, br_t]; exact ed
    · rw [decide_eq_false (fun e => c9 (e3.mpr e)), br_f]
      by_cases b1 : x2 < 0
      · rw [decide_eq_true b1, br_t, br_t]; exact ed
      rw [decide_eq_false b1, br_f, br_f]
      by_cases b2 : 2 < x2
      · rw [decide_eq_true b2, br_t, decide_eq_false (show ¬ x2 ≤ 3 by omega), br_f]; exact ed
      rw [decide_eq_false b2, br_f, decide_eq_false c9, br_f, decide_eq_true (show x2 ≤ 3 by omega), br_t]
      rcases FQ_one fq hq with ⟨y1, y2, al⟩ | ⟨y1, y2, -⟩
      · exact hh y1 y2 al (by omega) (by omega)
      · exact absurd y1 c9
  rw [bs, d9]
  refine out (fun y1 y2 al w0 w2' => ?_)
  obtain ⟨b, U, B, W4, Y, pl, sc, j, nb, Hs, Os, fa, -⟩ := al
  obtain ⟨⟨f1, f2, hj⟩, fl, fn, f24⟩ := fa
  obtain ⟨g1, g2, ⟨g3, g4⟩, g5, g6, g7⟩ := fl j (Nat.le_refl _)
  have sf : SFs Fv P Fv' (PWs AN) PR m w := by
    obtain ⟨i, W0, -⟩ := fq
    exact W0.1
  obtain ⟨⟨ow, kd, pt⟩, ⟨ow', kd', cx⟩, -, -⟩ := SF_al sf hq y1 pl
  have hU : U ≤ 500 := pt.1.2.1
  -- one term
  have tx : ∀ t x, RTb b t x → GT U ow kd P t → GT U ow' kd' (PWs AN) x → PP (fun m2 r w2 s => r = s ∧ ((m2 = m ∧ w2 = upI w 3 0) ∨ SHW m2 w2)) (hb_H_show_209 N () m q t) (fb_M_show_257 N (gg_M_show N N) (upI w 3 0) (I ((q : Nat) : Int)) x) := fun t x rt gt gt' => by
    obtain ⟨kf, ks, sz⟩ := HP_szc pt.1.2.2 gt
    have hhp : HP (hp w q) U ow' kd' Fv' (PWs AN) := cx.2.1
    obtain ⟨kf', ks', sz'⟩ := HP_sz hhp gt'
    have z1 := SZ_max pt.1.2.2 sz
    have z2 := SZ_1000 hhp (by omega) sz'
    have sp := SZp_c (R := LFs (F m 22)) (show U ≤ 1000 by omega) cn.2.2.2.2.2 sz
    have sp' := SZp_m (R := LFr (F w 14)) (show U ≤ 1000 by omega) cn.2.2.2.2.1 sz'
    have eT : TXs (m.2.2.2 (pq q 2)) (ATc m) t = TXs (hp w q) (ATr w) x := TXs_isr pl.1.2.1.w cn.1 rt sp'
    intro m2 r w2 s e1 e2
    have c1 := show_m (N := N) (p := q) hA1 rfl sp (by omega) m2 r e1
    have c2 := show_r (N := N) (p := q) (w := upI w 3 0) (by omega) at3 (by rw [f14]; exact sp') z2 w2 s e2
    rw [eT] at c1
    obtain ⟨c3, c4⟩ := SH_eq c1 c2
    exact ⟨c3, Or.inr c4⟩
  have e95 : w.2.2.1 95 q = I ((j + 1 : Nat) : Int) := I_A' f2
  have e21 : m.1 (pq q 21) - 1 = I ((j : Nat) : Int) := by
    rw [I_F' f1, show (1 : Int32) = I 1 from rfl, I_sub]
    congr 1
    omega
  have ey8 : I ((q : Nat) : Int) * 60 + w.2.2.1 95 q - 1 = I ((60 * q + j : Nat) : Int) := by
    rw [e95, show (60 : Int32) = I 60 from rfl, I_mul, I_add, show (1 : Int32) = I 1 from rfl, I_sub]
    congr 1
    omega
  have tny : (I ((60 * q + j : Nat) : Int)).toNatClampNeg = 60 * q + j := tnI (n := 60 * q + j) rfl (by omega)
  rw [e21, d20, d21]
  refine r_ck (fun _ => r_lt ?_)
  rw [ro 95, ey8]
  obtain ⟨l, rfl⟩ : ∃ l : Nat, x3 = ((l : Nat) : Int) := ⟨x3.toNat, by omega⟩
  unfold hb_H_show_145 fb_M_show_179
  rw [d20, d21]
  by_cases c0 : x2 = 0
  · -- letters
    rw [decide_eq_true c0, br_t, br_t, br_t, br_t]
    refine r_ck (fun _ => ?_)
    have e7 : m.1 (pq q 7) = I ((Y : Nat) : Int) := I_F' pl.2.2.2.1
    have e108 : w.2.2.1 108 q = I ((Y : Nat) : Int) := I_A' pl.2.2.2.2.1
    have rY : ((Y : Nat) : Int) < 2147483648 := by have := (F_r m (pq q 7)).2; rw [pl.2.2.2.1] at this; exact this
    rw [ro 108, e7, e108, decL hx3.1 hx3.2 (by omega) rY]
    by_cases cl : ((l : Nat) : Int) < ((Y : Nat) : Int)
    · rw [decide_eq_true cl, br_t, br_t]
      refine l_ck (fun _ => r_ck (fun _ => ?_))
      rw [show (30 : Int32) = I 30 from rfl, I_mul, I_add, tnI (n := l) rfl (by omega), tnI (n := 30 * q + l) (by omega) (by have := cx.2.2.2.2.2.2.1.2; omega), rj]
      exact tx _ _ (pl.2.2.2.2.2 l (by omega)) (pt.2.2.2.1.2 l (by omega)) (cx.2.2.2.2.2.2.2.2.2.1 l (by omega))
    · rw [decide_eq_false cl, br_f, br_f]; exact ed
  rw [decide_eq_false c0, br_f, br_f]
  have n2 := nm_in (N := N) f1 hj (Nat.le_refl j)
  have w2 := wt_in (N := N) f1 hj (Nat.le_refl j)
  rw [if_pos rfl] at n2 w2
  have o2 := fr_of (N := N) (k := 2) f1 hj (Nat.le_refl j) (by omega)
  have o3 := fr_of (N := N) (k := 3) f1 hj (Nat.le_refl j) (by omega)
  by_cases c1 : x2 = 1
  · -- names
    rw [decide_eq_true c1, br_t, br_t, n2, bnd_so]
    simp only [br_t, br_f]
    refine r_ck (fun _ => r_ck (fun _ => ?_))
    have e24 : m.1 (pq q 24) = I ((B : Nat) : Int) := I_F' pl.2.1.1
    have e94 : w.2.2.1 94 q = I ((B : Nat) : Int) := I_A' pl.2.1.2.1
    have rB : B ≤ 2500 := cx.2.2.2.2.2.1.2
    have eb : m.2.2.1 (pq q 30) (5 * j + 2) = I ((nb j : Nat) : Int) := I_A' g3
    have e99 : w.2.2.1 99 (60 * q + j) = I ((nb j : Nat) : Int) := I_A' g4
    have hnb : nb j ≤ B := by
      have q24 : F m (pq q 24) = ((B : Nat) : Int) := pl.2.1.1
      omega
    rw [ro 94, tny, ro 99, e24, e94, eb, e99, I_sub, decL hx3.1 hx3.2 (by omega) (by omega)]
    by_cases cl : ((l : Nat) : Int) < ((B : Nat) : Int) - ((nb j : Nat) : Int)
    · rw [decide_eq_true cl, br_t, br_t, show (2 : Int32) = I ((2 : Nat) : Int) from rfl, o2, bnd_so, eb]
      refine l_ck (fun _ => r_ck (fun _ => r_ck (fun _ => ?_)))
      rw [show (2500 : Int32) = I 2500 from rfl, I_mul, I_add, I_add, I_add, tnI (n := nb j + l) (by omega) (by omega), tnI (n := 2500 * q + (nb j + l)) (by omega) (by omega), rj]
      exact tx _ _ (pl.2.1.2.2 (nb j + l) (by omega)) (pt.2.1.2 (nb j + l) (by omega)) (cx.2.2.2.2.2.2.2.2.1 (nb j + l) (by omega))
    · rw [decide_eq_false cl, br_f, br_f]; exact ed
  -- what waits
  rw [decide_eq_false c1, br_f, br_f, w2, bnd_so]
  simp only [br_t, br_f]
  refine r_ck (fun _ => r_ck (fun _ => ?_))
  have e26 : m.1 (pq q 26) = I ((W4 : Nat) : Int) := I_F' pl.2.2.1.1
  have e92 : w.2.2.1 92 q = I ((W4 : Nat) : Int) := I_A' pl.2.2.1.2.1
  have rW : W4 ≤ 46000 := cx.2.2.2.2.1.2
  obtain ⟨j', wb, nb', cb, rk, i, hh, mm, L, x, st, -, -, -, q26, -⟩ := W.2.2.2.2.1 q hq y1
  obtain ⟨-, ⟨b1, -⟩, ⟨-, c2⟩, -⟩ := st
  have ej : j' = j := by omega
  subst ej
  have hwb : wb ≤ W4 := by have := pl.2.2.1.1; omega
  have eb : m.2.2.1 (pq q 30) (5 * j' + 3) = I ((wb : Nat) : Int) := I_A' c2
  have e100 : w.2.2.1 100 (60 * q + j') = I ((wb : Nat) : Int) := I_A' (g5.symm.trans c2)
  rw [ro 92, tny, ro 100, e26, e92, eb, e100, I_sub, decL hx3.1 hx3.2 (by omega) (by omega)]
  by_cases cl : ((l : Nat) : Int) < ((W4 : Nat) : Int) - ((wb : Nat) : Int)
  · rw [decide_eq_true cl, br_t, br_t, show (3 : Int32) = I ((3 : Nat) : Int) from rfl, o3, bnd_so, eb]
    refine l_ck (fun _ => r_ck (fun _ => r_ck (fun _ => ?_)))
    rw [show (46000 : Int32) = I 46000 from rfl, I_mul, I_add, I_add, I_add, tnI (n := wb + l) (by omega) (by omega), tnI (n := 46000 * q + (wb + l)) (by omega) (by omega), rj]
    exact tx _ _ (pl.2.2.1.2.2 (wb + l) (by omega)) (pt.2.2.1.2 (wb + l) (by omega)) (cx.2.2.2.2.2.2.2.1 (wb + l) (by omega))
  · rw [decide_eq_false cl, br_f, br_f]; exact ed
end
