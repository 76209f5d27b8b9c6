section
set_option maxRecDepth 100000
section
variable {β : Type} {N p M top cnt i B : Nat} {m : MS} {t : Int64} {Q : MS → Int32 → MS → β → Prop} {Z : Option (MS × β)}
theorem pk_pp {A' : Type} {Q1 : MS → A' → Prop} {a : Option (MS × A')} {m0 : MS} (h : PP (fun m z (_ : MS) (_ : Unit) => Q1 m z) a (some (m0, ()))) : PK Q1 a := fun w r e => h w r m0 () e rfl
theorem d_lt0 (ht : top < 100000) : decide (I ((top : Nat) : Int) < 0) = false := decide_eq_false (fun c => by
  rw [lit0q, I_lt (by omega) (by omega) (by omega) (by omega)] at c
  omega)
theorem d_lt8 (ht : top + 8 < 2048) : decide (I ((top : Nat) : Int) + 8 < 2048) = true := decide_eq_true (by
  rw [show (8 : Int32) = I ((8 : Nat) : Int) from rfl, addN, show (2048 : Int32) = I 2048 from rfl, I_lt (by omega) (by omega) (by omega) (by omega)]
  omega)
theorem e_top : I ((top + 1 : Nat) : Int) + (-1) = I ((top : Nat) : Int) := by rw [m1I, I_add]; congr 1; omega
theorem fitc_1 (hv : A m 23 i = 1) (hi : i + 3 < 24000) (hc : cnt < 1000000000) (ht : top + 8 < 2048) (et : m.2.2.2 44 top = t) (h1 : t = mk (A m 23 (i + 1)) (A m 23 (i + 2)) → ∀ M3, PP Q ((hg_Ma_fit N M3).1 m p (I ((i + 3 : Nat) : Int)) (I ((top : Nat) : Int)) (I ((cnt + 1 : Nat) : Int))) Z) (h2 : t ≠ mk (A m 23 (i + 1)) (A m 23 (i + 2)) → PP Q (some (m, -1)) Z) : PP Q ((hg_Ma_fit N M).1 m p (I ((i : Nat) : Int)) (I ((top + 1 : Nat) : Int)) (I ((cnt : Nat) : Int))) Z := by
  cases M with
  | zero => exact pp_nl
  | succ M =>
  show PP Q (hb_Ma_fit_17 N (hg_Ma_fit N M) m p (I ((i : Nat) : Int)) (I ((top + 1 : Nat) : Int)) (I ((cnt : Nat) : Int))) Z
  unfold hb_Ma_fit_17 hb_Ma_fit_57 hb_Ma_fit_262 hb_Ma_fit_364
  rw [show (1000000000 : Int32) = I 1000000000 from rfl, decI (by omega) (by omega) (by omega) (by omega), decide_eq_false (by omega), br_fq, Co_e (k := i) rfl (by omega), bnd_so, hv, show decide (I 1 = 8) = false from rfl, br_fq, e_top, d_lt0 (by omega), br_fq, d_lt8 ht, br_tq]
  refine l_ck (fun _ => ?_)
  rw [show I ((i : Nat) : Int) + 1 = I ((i + 1 : Nat) : Int) from addN, Co_e (k := i + 1) rfl (by omega), bnd_so, Co_e (k := i) rfl (by omega), bnd_so, hv, show decide (I 1 = 1) = true from rfl, br_tq, tnI (n := top) rfl (by omega), show I ((cnt : Nat) : Int) + 1 = I ((cnt + 1 : Nat) : Int) from addN]
  rw [show I ((i : Nat) : Int) + 2 = I ((i + 2 : Nat) : Int) from addN, Co_e (k := i + 2) rfl (by omega), bnd_so, e_make, bnd_so, et, show I ((i : Nat) : Int) + 3 = I ((i + 3 : Nat) : Int) from addN]
  by_cases c : t = mk (A m 23 (i + 1)) (A m 23 (i + 2))
  · rw [dec_lg c, br_tq]
    exact h1 c M
  · rw [dec_lg0 c, br_fq]
    exact h2 c
theorem fitc_2 (hv : A m 23 i = 2) (hi : i + 3 < 24000) (hc : cnt < 1000000000) (ht : top + 8 < 2048) {l : Nat} (hl : A m 23 (i + 1) = ((l : Nat) : Int)) (h : ∀ M3, PP Q (bnd (hm_Ma_fitsString N m p (I ((i : Nat) : Int)) (m.2.2.2 44 top)) (fun u23 r23 => br (decide (r23 = 0)) (some (u23, -1)) ((hg_Ma_fit N M3).1 u23 p (I ((i + 2 + l : Nat) : Int)) (I ((top : Nat) : Int)) (I ((cnt + 1 : Nat) : Int))))) Z) : PP Q ((hg_Ma_fit N M).1 m p (I ((i : Nat) : Int)) (I ((top + 1 : Nat) : Int)) (I ((cnt : Nat) : Int))) Z := by
  cases M with
  | zero => exact pp_nl
  | succ M =>
  show PP Q (hb_Ma_fit_17 N (hg_Ma_fit N M) m p (I ((i : Nat) : Int)) (I ((top + 1 : Nat) : Int)) (I ((cnt : Nat) : Int))) Z
  unfold hb_Ma_fit_17 hb_Ma_fit_57 hb_Ma_fit_262 hb_Ma_fit_364
  rw [show (1000000000 : Int32) = I 1000000000 from rfl, decI (by omega) (by omega) (by omega) (by omega), decide_eq_false (by omega), br_fq, Co_e (k := i) rfl (by omega), bnd_so, hv, show decide (I 2 = 8) = false from rfl, br_fq, e_top, d_lt0 (by omega), br_fq, d_lt8 ht, br_tq]
  refine l_ck (fun _ => ?_)
  rw [show I ((i : Nat) : Int) + 1 = I ((i + 1 : Nat) : Int) from addN, Co_e (k := i + 1) rfl (by omega), bnd_so, Co_e (k := i) rfl (by omega), bnd_so, hv, show decide (I 2 = 1) = false from rfl, br_fq, show decide (I 2 = 2) = true from rfl, br_tq, tnI (n := top) rfl (by omega), show I ((cnt : Nat) : Int) + 1 = I ((cnt + 1 : Nat) : Int) from addN]
  rw [hl, show (2 : Int32) = I ((2 : Nat) : Int) from rfl, addN, addN, show i + (2 + l) = i + 2 + l by omega]
  exact h M
theorem fitc_3 (hv : A m 23 i = 3) (hi : i + 3 < 24000) (hc : cnt < 1000000000) (ht : top + 8 < 2048) (h : ∀ M3, PP Q (bnd (hm_Fr_termOf N m p (I (A m 23 (i + 1)))) (fun u29 r29 => bnd (hm_Te_order N u29 (pq p 2) r29 (m.2.2.2 44 top)) (fun u31 r31 => br (decide (r31 = 0)) ((hg_Ma_fit N M3).1 u31 p (I ((i + 2 : Nat) : Int)) (I ((top : Nat) : Int)) (I ((cnt + 1 : Nat) : Int))) (some (u31, -1))))) Z) : PP Q ((hg_Ma_fit N M).1 m p (I ((i : Nat) : Int)) (I ((top + 1 : Nat) : Int)) (I ((cnt : Nat) : Int))) Z := by
  cases M with
  | zero => exact pp_nl
  | succ M =>
  show PP Q (hb_Ma_fit_17 N (hg_Ma_fit N M) m p (I ((i : Nat) : Int)) (I ((top + 1 : Nat) : Int)) (I ((cnt : Nat) : Int))) Z
  unfold hb_Ma_fit_17 hb_Ma_fit_57 hb_Ma_fit_262 hb_Ma_fit_364
  rw [show (1000000000 : Int32) = I 1000000000 from rfl, decI (by omega) (by omega) (by omega) (by omega), decide_eq_false (by omega), br_fq, Co_e (k := i) rfl (by omega), bnd_so, hv, show decide (I 3 = 8) = false from rfl, br_fq, e_top, d_lt0 (by omega), br_fq, d_lt8 ht, br_tq]
  refine l_ck (fun _ => ?_)
  rw [show I ((i : Nat) : Int) + 1 = I ((i + 1 : Nat) : Int) from addN, Co_e (k := i + 1) rfl (by omega), bnd_so, Co_e (k := i) rfl (by omega), bnd_so, hv, show decide (I 3 = 1) = false from rfl, br_fq, show decide (I 3 = 2) = false from rfl, br_fq, show decide (I 3 = 3) = true from rfl, br_tq, tnI (n := top) rfl (by omega), show I ((cnt : Nat) : Int) + 1 = I ((cnt + 1 : Nat) : Int) from addN]
  rw [show I ((i : Nat) : Int) + 2 = I ((i + 2 : Nat) : Int) from addN]
  exact h M
theorem fitc_4 (hv : A m 23 i = 4) (hi : i + 3 < 24000) (hc : cnt < 1000000000) (ht : top + 8 < 2048) (h : ∀ M3, PP Q (bnd (hm_Fr_bind N m p (I (A m 23 (i + 1))) (m.2.2.2 44 top)) (fun u34 _ => (hg_Ma_fit N M3).1 u34 p (I ((i + 2 : Nat) : Int)) (I ((top : Nat) : Int)) (I ((cnt + 1 : Nat) : Int)))) Z) : PP Q ((hg_Ma_fit N M).1 m p (I ((i : Nat) : Int)) (I ((top + 1 : Nat) : Int)) (I ((cnt : Nat) : Int))) Z := by
  cases M with
  | zero => exact pp_nl
  | succ M =>
  show PP Q (hb_Ma_fit_17 N (hg_Ma_fit N M) m p (I ((i : Nat) : Int)) (I ((top + 1 : Nat) : Int)) (I ((cnt : Nat) : Int))) Z
  unfold hb_Ma_fit_17 hb_Ma_fit_57 hb_Ma_fit_262 hb_Ma_fit_364
  rw [show (1000000000 : Int32) = I 1000000000 from rfl, decI (by omega) (by omega) (by omega) (by omega), decide_eq_false (by omega), br_fq, Co_e (k := i) rfl (by omega), bnd_so, hv, show decide (I 4 = 8) = false from rfl, br_fq, e_top, d_lt0 (by omega), br_fq, d_lt8 ht, br_tq]
  refine l_ck (fun _ => ?_)
  rw [show I ((i : Nat) : Int) + 1 = I ((i + 1 : Nat) : Int) from addN, Co_e (k := i + 1) rfl (by omega), bnd_so, Co_e (k := i) rfl (by omega), bnd_so, hv, show decide (I 4 = 1) = false from rfl, br_fq, show decide (I 4 = 2) = false from rfl, br_fq, show decide (I 4 = 3) = false from rfl, br_fq, show decide (I 4 = 4) = true from rfl, br_tq, tnI (n := top) rfl (by omega), show I ((cnt : Nat) : Int) + 1 = I ((cnt + 1 : Nat) : Int) from addN]
  rw [show I ((i : Nat) : Int) + 2 = I ((i + 2 : Nat) : Int) from addN]
  exact h M
theorem fitc_5 (hv : A m 23 i = 5) (hi : i + 3 < 24000) (hc : cnt < 1000000000) (ht : top + 8 < 2048) (h : ∀ M3, PP Q ((hg_Ma_fit N M3).1 m p (I ((i + 1 : Nat) : Int)) (I ((top : Nat) : Int)) (I ((cnt + 1 : Nat) : Int))) Z) : PP Q ((hg_Ma_fit N M).1 m p (I ((i : Nat) : Int)) (I ((top + 1 : Nat) : Int)) (I ((cnt : Nat) : Int))) Z := by
  cases M with
  | zero => exact pp_nl
  | succ M =>
  show PP Q (hb_Ma_fit_17 N (hg_Ma_fit N M) m p (I ((i : Nat) : Int)) (I ((top + 1 : Nat) : Int)) (I ((cnt : Nat) : Int))) Z
  unfold hb_Ma_fit_17 hb_Ma_fit_57 hb_Ma_fit_262 hb_Ma_fit_364
  rw [show (1000000000 : Int32) = I 1000000000 from rfl, decI (by omega) (by omega) (by omega) (by omega), decide_eq_false (by omega), br_fq, Co_e (k := i) rfl (by omega), bnd_so, hv, show decide (I 5 = 8) = false from rfl, br_fq, e_top, d_lt0 (by omega), br_fq, d_lt8 ht, br_tq]
  refine l_ck (fun _ => ?_)
  rw [show I ((i : Nat) : Int) + 1 = I ((i + 1 : Nat) : Int) from addN, Co_e (k := i + 1) rfl (by omega), bnd_so, Co_e (k := i) rfl (by omega), bnd_so, hv, show decide (I 5 = 1) = false from rfl, br_fq, show decide (I 5 = 2) = false from rfl, br_fq, show decide (I 5 = 3) = false from rfl, br_fq, show decide (I 5 = 4) = false from rfl, br_fq, show decide (I 5 = 5) = true from rfl, br_tq, show I ((cnt : Nat) : Int) + 1 = I ((cnt + 1 : Nat) : Int) from addN]
  exact h M
theorem fitc_6 (hv : A m 23 i = 6) (hi : i + 3 < 24000) (hc : cnt < 1000000000) (ht : top + 8 < 2048) {n : Nat} (hn : A m 23 (i + 1) = ((n : Nat) : Int)) (hn8 : n ≤ 8) (et : m.2.2.2 44 top = t) (hh : so t = 5 → va t = ((vn t : Nat) : Int) ∧ vn t < 512 ∧ va (m.2.2.2 (pq p 2) (vn t)) = ((vn (m.2.2.2 (pq p 2) (vn t)) : Nat) : Int)) (h1 : so t = 5 → vn (m.2.2.2 (pq p 2) (vn t)) = n → ∀ M3, PP Q ((hg_Ma_fit N M3).2 m p (I ((i : Nat) : Int)) (I ((top : Nat) : Int)) (I ((cnt : Nat) : Int)) t (I ((n : Nat) : Int))) Z) (h2 : ¬ (so t = 5 ∧ vn (m.2.2.2 (pq p 2) (vn t)) = n) → PP Q (some (m, -1)) Z) : PP Q ((hg_Ma_fit N M).1 m p (I ((i : Nat) : Int)) (I ((top + 1 : Nat) : Int)) (I ((cnt : Nat) : Int))) Z := by
  cases M with
  | zero => exact pp_nl
  | succ M =>
  show PP Q (hb_Ma_fit_17 N (hg_Ma_fit N M) m p (I ((i : Nat) : Int)) (I ((top + 1 : Nat) : Int)) (I ((cnt : Nat) : Int))) Z
  unfold hb_Ma_fit_17 hb_Ma_fit_57 hb_Ma_fit_262 hb_Ma_fit_364
  rw [show (1000000000 : Int32) = I 1000000000 from rfl, decI (by omega) (by omega) (by omega) (by omega), decide_eq_false (by omega), br_fq, Co_e (k := i) rfl (by omega), bnd_so, hv, show decide (I 6 = 8) = false from rfl, br_fq, e_top, d_lt0 (by omega), br_fq, d_lt8 ht, br_tq]
  refine l_ck (fun _ => ?_)
  rw [show I ((i : Nat) : Int) + 1 = I ((i + 1 : Nat) : Int) from addN, Co_e (k := i + 1) rfl (by omega), bnd_so, Co_e (k := i) rfl (by omega), bnd_so, hv, show decide (I 6 = 1) = false from rfl, br_fq, show decide (I 6 = 2) = false from rfl, br_fq, show decide (I 6 = 3) = false from rfl, br_fq, show decide (I 6 = 4) = false from rfl, br_fq, show decide (I 6 = 5) = false from rfl, br_fq, show decide (I 6 = 6) = true from rfl, br_tq, tnI (n := top) rfl (by omega)]
  rw [e_tag, bnd_so, et, show (5 : Int32) = I 5 from rfl, decE (so_r _).1 (so_r _).2 (by omega) (by omega), hn]
  by_cases c : so t = 5
  · obtain ⟨v1, v2, v3⟩ := hh c
    rw [decide_eq_true c, br_tq, valI, v1, tnI (n := vn t) rfl (by omega), valI, v3, decE (by have := va_r (m.2.2.2 (pq p 2) (vn t)); omega) (by have := va_r (m.2.2.2 (pq p 2) (vn t)); omega) (by omega) (by omega)]
    refine l_ck (fun _ => ?_)
    by_cases c2 : vn (m.2.2.2 (pq p 2) (vn t)) = n
    · rw [decide_eq_true (by omega), br_tq]
      exact h1 c c2 M
    · rw [decide_eq_false (by omega), br_fq]
      exact h2 (fun z => c2 z.2)
  · rw [decide_eq_false c, br_fq]
    exact h2 (fun z => c z.1)
theorem fitc_7 (hv : A m 23 i = 7) (hi : i + 3 < 24000) (hc : cnt < 1000000000) (ht : top + 8 < 2048) (et : m.2.2.2 44 top = t) (hh : so t = 7 → va t = ((vn t : Nat) : Int) ∧ vn t < 500) (h1 : so t = 7 → ∀ M3, PP Q ((hg_Ma_fit N M3).1 (wj (wj m 44 top (m.2.2.2 (pq p 2) (vn t + 1))) 44 (top + 1) (m.2.2.2 (pq p 2) (vn t))) p (I ((i + 1 : Nat) : Int)) (I ((top + 1 + 1 : Nat) : Int)) (I ((cnt + 1 : Nat) : Int))) Z) (h2 : so t ≠ 7 → PP Q (some (m, -1)) Z) : PP Q ((hg_Ma_fit N M).1 m p (I ((i : Nat) : Int)) (I ((top + 1 : Nat) : Int)) (I ((cnt : Nat) : Int))) Z := by
  cases M with
  | zero => exact pp_nl
  | succ M =>
  show PP Q (hb_Ma_fit_17 N (hg_Ma_fit N M) m p (I ((i : Nat) : Int)) (I ((top + 1 : Nat) : Int)) (I ((cnt : Nat) : Int))) Z
  unfold hb_Ma_fit_17 hb_Ma_fit_57 hb_Ma_fit_262 hb_Ma_fit_364
  rw [show (1000000000 : Int32) = I 1000000000 from rfl, decI (by omega) (by omega) (by omega) (by omega), decide_eq_false (by omega), br_fq, Co_e (k := i) rfl (by omega), bnd_so, hv, show decide (I 7 = 8) = false from rfl, br_fq, e_top, d_lt0 (by omega), br_fq, d_lt8 ht, br_tq]
  refine l_ck (fun _ => ?_)
  rw [show I ((i : Nat) : Int) + 1 = I ((i + 1 : Nat) : Int) from addN, Co_e (k := i + 1) rfl (by omega), bnd_so, Co_e (k := i) rfl (by omega), bnd_so, hv, show decide (I 7 = 1) = false from rfl, br_fq, show decide (I 7 = 2) = false from rfl, br_fq, show decide (I 7 = 3) = false from rfl, br_fq, show decide (I 7 = 4) = false from rfl, br_fq, show decide (I 7 = 5) = false from rfl, br_fq, show decide (I 7 = 6) = false from rfl, br_fq, show decide (I 7 = 7) = true from rfl, br_tq, tnI (n := top) rfl (by omega), show I ((cnt : Nat) : Int) + 1 = I ((cnt + 1 : Nat) : Int) from addN]
  rw [e_tag, bnd_so, et, show (7 : Int32) = I 7 from rfl, decE (so_r _).1 (so_r _).2 (by omega) (by omega)]
  by_cases c : so t = 7
  · obtain ⟨v1, v2⟩ := hh c
    rw [decide_eq_true c, br_tq, valI, v1, show I ((vn t : Nat) : Int) + 1 = I ((vn t + 1 : Nat) : Int) from addN, tnI (n := vn t) rfl (by omega), tnI (n := vn t + 1) rfl (by omega), show I ((top : Nat) : Int) + 1 = I ((top + 1 : Nat) : Int) from addN, tnI (n := top + 1) rfl (by omega), show I ((top : Nat) : Int) + 2 = I ((top + 1 + 1 : Nat) : Int) from addN]
    refine l_ck (fun _ => l_ck (fun _ => l_lt (l_ck (fun _ => l_ck (fun _ => l_lt ?_)))))
    have e2 : (upJ m 44 (vp_updL (m.2.2.2 44) top (m.2.2.2 (pq p 2) (vn t + 1)))).2.2.2 (pq p 2) = m.2.2.2 (pq p 2) := if_neg (fun c => pq_n (by omega) c.symm)
    rw [e2, wj_e, wj_e]
    exact h1 c M
  · rw [decide_eq_false c, br_fq]
    exact h2 c
end
section
variable {α : Type} {N p M many pp B : Nat} {w : MS} {x : Int64} {β : Type} {Q : MS → α → MS → β → Prop} {Z : Option (MS × α)} {K : MS → Int32 → Option (MS × β)}
theorem fits_0 (h160 : A w 160 many = ((pp : Nat) : Int)) (h161 : w.2.2.2 161 many = x) (h33 : A w 33 pp = 0) (hm : many < 100000) (h : ∀ M3, PP Q Z (bnd (gg_M_fits N M3 w (I ((many : Nat) : Int))) K)) : PP Q Z (bnd (gg_M_fits N M w (I ((many + 1 : Nat) : Int))) K) := by
  cases M with
  | zero => exact pp_nr
  | succ M =>
  have rp := A_r w 160 many
  rw [h160] at rp
  show PP Q Z (bnd (fb_M_fits_17 N (gg_M_fits N M) w (I ((many + 1 : Nat) : Int))) K)
  unfold fb_M_fits_17 fb_M_fits_198
  refine rb_le (j := 0) ⟨by omega, by omega⟩ ⟨by omega, by omega⟩ (fun c => absurd c (by omega)) (fun _ => ?_)
  rw [e_top]
  refine rb_ck (fun _ => rb_lt (rb_ck (fun _ => rb_lt (rb_ck (fun _ => ?_)))))
  rw [tnI (n := many) rfl (by omega), I_A' h160, tnI (n := pp) rfl (by omega), I_A' h33, h161, show decide (I 0 = 1) = false from rfl, br_fq, show decide (I 0 = 2) = false from rfl, br_fq, show decide (I 0 = 3) = false from rfl, br_fq, show decide (I 0 = 4) = false from rfl, br_fq, show decide (I 0 ≤ 4) = true from rfl, br_tq]
  exact h M
theorem fits_1 (h160 : A w 160 many = ((pp : Nat) : Int)) (h161 : w.2.2.2 161 many = x) (h33 : A w 33 pp = 1) (hm : many < 100000) (hpp : p < 24) (h3 : F w 133 = ((p : Nat) : Int)) (h94 : A w 94 p = ((B : Nat) : Int)) (hB : B < 2500) (h : ∀ M3, PP Q Z (bnd (gg_M_fits N M3 (wa (wj w 93 (2500 * p + B) x) 94 p ((B + 1 : Nat) : Int)) (I ((many : Nat) : Int))) K)) : PP Q Z (bnd (gg_M_fits N M w (I ((many + 1 : Nat) : Int))) K) := by
  cases M with
  | zero => exact pp_nr
  | succ M =>
  have rp := A_r w 160 many
  rw [h160] at rp
  show PP Q Z (bnd (fb_M_fits_17 N (gg_M_fits N M) w (I ((many + 1 : Nat) : Int))) K)
  unfold fb_M_fits_17 fb_M_fits_198
  refine rb_le (j := 0) ⟨by omega, by omega⟩ ⟨by omega, by omega⟩ (fun c => absurd c (by omega)) (fun _ => ?_)
  rw [e_top]
  refine rb_ck (fun _ => rb_lt (rb_ck (fun _ => rb_lt (rb_ck (fun _ => ?_)))))
  rw [tnI (n := many) rfl (by omega), I_A' h160, tnI (n := pp) rfl (by omega), I_A' h33, h161, show decide (I 1 = 1) = true from rfl, br_tq]
  have ix : (I ((p : Nat) : Int) * 2500 + I ((B : Nat) : Int)).toNatClampNeg = 2500 * p + B := by
    rw [show (2500 : Int32) = I 2500 from rfl, I_mul, I_add]
    exact tnI (n := 2500 * p + B) (by omega) (by omega)
  rw [I_F' h3, tnI (n := p) rfl (by omega), I_A' h94, ix]
  refine rb_ck (fun _ => rb_ck (fun _ => rb_lt (rb_ck (fun _ => rb_ck (fun _ => rb_lt ?_)))))
  rw [wj_e]
  have e3 : F (wj w 93 (2500 * p + B) x) 133 = ((p : Nat) : Int) := h3
  have e94 : A (wj w 93 (2500 * p + B) x) 94 p = ((B : Nat) : Int) := h94
  rw [I_F' e3, tnI (n := p) rfl (by omega), I_A' e94, show I ((B : Nat) : Int) + 1 = I ((B + 1 : Nat) : Int) from addN, wa_e]
  exact h M
theorem fits_2 (h160 : A w 160 many = ((pp : Nat) : Int)) (h161 : w.2.2.2 161 many = x) (h33 : A w 33 pp = 2) (hm : many < 100000) (h : ∀ M3, PP Q Z (bnd (bnd (fm_M_nameAt N w (I (A w 35 pp))) (fun u5 r5 => bnd (fm_M_order N u5 r5 x) (fun u6 r6 => br (decide (r6 = 0)) (gg_M_fits N M3 u6 (I ((many : Nat) : Int))) (ck (isb 0) (some (u6, 0)))))) K)) : PP Q Z (bnd (gg_M_fits N M w (I ((many + 1 : Nat) : Int))) K) := by
  cases M with
  | zero => exact pp_nr
  | succ M =>
  have rp := A_r w 160 many
  rw [h160] at rp
  show PP Q Z (bnd (fb_M_fits_17 N (gg_M_fits N M) w (I ((many + 1 : Nat) : Int))) K)
  unfold fb_M_fits_17 fb_M_fits_198
  refine rb_le (j := 0) ⟨by omega, by omega⟩ ⟨by omega, by omega⟩ (fun c => absurd c (by omega)) (fun _ => ?_)
  rw [e_top]
  refine rb_ck (fun _ => rb_lt (rb_ck (fun _ => rb_lt (rb_ck (fun _ => ?_)))))
  rw [tnI (n := many) rfl (by omega), I_A' h160, tnI (n := pp) rfl (by omega), I_A' h33, h161, show decide (I 2 = 1) = false from rfl, br_fq, show decide (I 2 = 2) = true from rfl, br_tq]
  refine rb_ck (fun _ => ?_)
  rw [I_A (k := 35)]
  exact h M
theorem fits_3 (h160 : A w 160 many = ((pp : Nat) : Int)) (h161 : w.2.2.2 161 many = x) (h33 : A w 33 pp = 3) (hm : many < 100000) (h1 : x = w.2.2.2 34 pp → ∀ M3, PP Q Z (bnd (gg_M_fits N M3 w (I ((many : Nat) : Int))) K)) (h2 : x ≠ w.2.2.2 34 pp → PP Q Z (K w 0)) : PP Q Z (bnd (gg_M_fits N M w (I ((many + 1 : Nat) : Int))) K) := by
  cases M with
  | zero => exact pp_nr
  | succ M =>
  have rp := A_r w 160 many
  rw [h160] at rp
  show PP Q Z (bnd (fb_M_fits_17 N (gg_M_fits N M) w (I ((many + 1 : Nat) : Int))) K)
  unfold fb_M_fits_17 fb_M_fits_198
  refine rb_le (j := 0) ⟨by omega, by omega⟩ ⟨by omega, by omega⟩ (fun c => absurd c (by omega)) (fun _ => ?_)
  rw [e_top]
  refine rb_ck (fun _ => rb_lt (rb_ck (fun _ => rb_lt (rb_ck (fun _ => ?_)))))
  rw [tnI (n := many) rfl (by omega), I_A' h160, tnI (n := pp) rfl (by omega), I_A' h33, h161, show decide (I 3 = 1) = false from rfl, br_fq, show decide (I 3 = 2) = false from rfl, br_fq, show decide (I 3 = 3) = true from rfl, br_tq]
  refine rb_ck (fun _ => ?_)
  by_cases c : x = w.2.2.2 34 pp
  · rw [dec_lg c.symm, br_tq]
    exact h1 c M
  · rw [dec_lg0 (fun z => c z.symm), br_fq]
    exact h2 c
theorem fits_4 (h160 : A w 160 many = ((pp : Nat) : Int)) (h161 : w.2.2.2 161 many = x) (h33 : A w 33 pp = 4) (hm : many < 100000) (h : ∀ M3, PP Q Z (bnd (bnd (fm_M_isString N w (I (A w 35 pp)) x) (fun u4 r4 => br (decide (r4 = 0)) (ck (isb 0) (some (u4, 0))) (gg_M_fits N M3 u4 (I ((many : Nat) : Int))))) K)) : PP Q Z (bnd (gg_M_fits N M w (I ((many + 1 : Nat) : Int))) K) := by
  cases M with
  | zero => exact pp_nr
  | succ M =>
  have rp := A_r w 160 many
  rw [h160] at rp
  show PP Q Z (bnd (fb_M_fits_17 N (gg_M_fits N M) w (I ((many + 1 : Nat) : Int))) K)
  unfold fb_M_fits_17 fb_M_fits_198
  refine rb_le (j := 0) ⟨by omega, by omega⟩ ⟨by omega, by omega⟩ (fun c => absurd c (by omega)) (fun _ => ?_)
  rw [e_top]
  refine rb_ck (fun _ => rb_lt (rb_ck (fun _ => rb_lt (rb_ck (fun _ => ?_)))))
  rw [tnI (n := many) rfl (by omega), I_A' h160, tnI (n := pp) rfl (by omega), I_A' h33, h161, show decide (I 4 = 1) = false from rfl, br_fq, show decide (I 4 = 2) = false from rfl, br_fq, show decide (I 4 = 3) = false from rfl, br_fq, show decide (I 4 = 4) = true from rfl, br_tq]
  refine rb_ck (fun _ => ?_)
  rw [I_A (k := 35)]
  exact h M
theorem fits_5 (h160 : A w 160 many = ((pp : Nat) : Int)) (h161 : w.2.2.2 161 many = x) (h33 : A w 33 pp = 5) (hm : many < 100000) (h : ∀ M3, PP Q Z (bnd (bnd (fm_M_parts1 N w (I ((pp : Nat) : Int)) x (I ((many : Nat) : Int))) (fun u3 r3 => br (decide (r3 = -1)) (ck (isb 0) (some (u3, 0))) (gg_M_fits N M3 u3 r3))) K)) : PP Q Z (bnd (gg_M_fits N M w (I ((many + 1 : Nat) : Int))) K) := by
  cases M with
  | zero => exact pp_nr
  | succ M =>
  have rp := A_r w 160 many
  rw [h160] at rp
  show PP Q Z (bnd (fb_M_fits_17 N (gg_M_fits N M) w (I ((many + 1 : Nat) : Int))) K)
  unfold fb_M_fits_17 fb_M_fits_198
  refine rb_le (j := 0) ⟨by omega, by omega⟩ ⟨by omega, by omega⟩ (fun c => absurd c (by omega)) (fun _ => ?_)
  rw [e_top]
  refine rb_ck (fun _ => rb_lt (rb_ck (fun _ => rb_lt (rb_ck (fun _ => ?_)))))
  rw [tnI (n := many) rfl (by omega), I_A' h160, tnI (n := pp) rfl (by omega), I_A' h33, h161, show decide (I 5 = 1) = false from rfl, br_fq, show decide (I 5 = 2) = false from rfl, br_fq, show decide (I 5 = 3) = false from rfl, br_fq, show decide (I 5 = 4) = false from rfl, br_fq, show decide (I 5 ≤ 4) = false from rfl, br_fq]
  exact h M
theorem fits_6 (h160 : A w 160 many = ((pp : Nat) : Int)) (h161 : w.2.2.2 161 many = x) (h33 : A w 33 pp = 6) (hm : many < 100000) (h : ∀ M3, PP Q Z (bnd (bnd (fm_M_parts1 N w (I ((pp : Nat) : Int)) x (I ((many : Nat) : Int))) (fun u3 r3 => br (decide (r3 = -1)) (ck (isb 0) (some (u3, 0))) (gg_M_fits N M3 u3 r3))) K)) : PP Q Z (bnd (gg_M_fits N M w (I ((many + 1 : Nat) : Int))) K) := by
  cases M with
  | zero => exact pp_nr
  | succ M =>
  have rp := A_r w 160 many
  rw [h160] at rp
  show PP Q Z (bnd (fb_M_fits_17 N (gg_M_fits N M) w (I ((many + 1 : Nat) : Int))) K)
  unfold fb_M_fits_17 fb_M_fits_198
  refine rb_le (j := 0) ⟨by omega, by omega⟩ ⟨by omega, by omega⟩ (fun c => absurd c (by omega)) (fun _ => ?_)
  rw [e_top]
  refine rb_ck (fun _ => rb_lt (rb_ck (fun _ => rb_lt (rb_ck (fun _ => ?_)))))
  rw [tnI (n := many) rfl (by omega), I_A' h160, tnI (n := pp) rfl (by omega), I_A' h33, h161, show decide (I 6 = 1) = false from rfl, br_fq, show decide (I 6 = 2) = false from rfl, br_fq, show decide (I 6 = 3) = false from rfl, br_fq, show decide (I 6 = 4) = false from rfl, br_fq, show decide (I 6 ≤ 4) = false from rfl, br_fq]
  exact h M
end
end
section
set_option maxRecDepth 100000
section
variable {N p n many pp U' : Nat} {w : MS} {x : Int64} {P : Nat → Int} {X : Nat → Int64} {ow kd : Nat → Nat} {Fv : Int64 → Int64 → Prop} {P' : Int64 → Prop}
def PSk (n many : Nat) (P : Nat → Int) (X : Nat → Int64) (w w2 : MS) : Prop := FR [] [] [160, 162] [161, 163] w w2 ∧ (∀ k, k < n → A w2 160 (many + (n - 1 - k)) = P k ∧ w2.2.2.2 161 (many + (n - 1 - k)) = X k) ∧ ∀ k, k < many → A w2 160 k = A w 160 k ∧ w2.2.2.2 161 k = w.2.2.2 161 k
theorem prt_c (hb : many + n < 100000) : ∀ (d M : Nat) (w1 : MS), d ≤ n → FR [] [] [160, 162] [161, 163] w w1 → (∀ k, k < n → A w1 162 k = P k ∧ w1.2.2.2 163 k = X k) → (∀ k, d ≤ k → k < n → A w1 160 (many + (n - 1 - k)) = P k ∧ w1.2.2.2 161 (many + (n - 1 - k)) = X k) → (∀ k, k < many → A w1 160 k = A w 160 k ∧ w1.2.2.2 161 k = w.2.2.2 161 k) → PK (fun w2 r => r = I ((many + n : Nat) : Int) ∧ PSk n many P X w w2) ((gg_M_parts1 N M).2.2 w1 (I ((many : Nat) : Int)) (I ((n : Nat) : Int)) (I (((d : Nat) : Int) - 1))) := by
  intro d
  induction d with
  | zero =>
    intro M w1 _ f _ h2 h3
    cases M with
    | zero => exact pk_none
    | succ M =>
    show PK _ (fb_M_parts1_266 N (gg_M_parts1 N M) w1 (I ((many : Nat) : Int)) (I ((n : Nat) : Int)) (I (((0 : Nat) : Int) - 1)))
    unfold fb_M_parts1_266
    rw [show decide (I (((0 : Nat) : Int) - 1) < 0) = true from rfl, br_tq, addN]
    exact pk_some ⟨rfl, f, fun k hk => h2 k (by omega) hk, h3⟩
  | succ d ih =>
    intro M w1 hd f h1 h2 h3
    cases M with
    | zero => exact pk_none
    | succ M =>
    show PK _ (fb_M_parts1_266 N (gg_M_parts1 N M) w1 (I ((many : Nat) : Int)) (I ((n : Nat) : Int)) (I (((d + 1 : Nat) : Int) - 1)))
    unfold fb_M_parts1_266
    have ed : ((d + 1 : Nat) : Int) - 1 = ((d : Nat) : Int) := by omega
    have ix : I ((many : Nat) : Int) + I ((n : Nat) : Int) - 1 - I ((d : Nat) : Int) = I ((many + (n - 1 - d) : Nat) : Int) := by
      rw [lit1q, I_add, I_sub, I_sub]
      congr 1
      omega
    rw [ed, d_lt0 (by omega), br_fq, ix]
    obtain ⟨p1, p2⟩ := h1 d (by omega)
    have rp := A_r w1 162 d
    rw [p1] at rp
    refine pk_ck (fun _ => pk_ck (fun _ => pk_ltq (pk_ck (fun _ => pk_ck (fun _ => pk_ltq ?_)))))
    rw [tnI (n := d) rfl (by omega), tnI (n := many + (n - 1 - d)) rfl (by omega), I_A' p1, wa_e, show (wa w1 160 (many + (n - 1 - d)) (P d)).2.2.2 163 d = X d from p2, wj_e, show I ((d : Nat) : Int) + (-1) = I (((d : Nat) : Int) - 1) by rw [m1I, I_add]; congr 1]
    have aw : ∀ k, A (wj (wa w1 160 (many + (n - 1 - d)) (P d)) 161 (many + (n - 1 - d)) (X d)) 160 k = if k = many + (n - 1 - d) then P d else A w1 160 k := fun k => by rw [A_wj, wa_ro rp.1 rp.2]
    have jw : ∀ k, (wj (wa w1 160 (many + (n - 1 - d)) (P d)) 161 (many + (n - 1 - d)) (X d)).2.2.2 161 k = if k = many + (n - 1 - d) then X d else w1.2.2.2 161 k := fun k => wj_row
    refine ih M _ (by omega) (FR.wj (FR.wa f (by simp)) (by simp)) (fun k hk => ?_) (fun k hk hk2 => ?_) (fun k hk => ?_)
    · refine ⟨?_, ?_⟩
      · rw [A_wj, wa_rne (by omega)]; exact (h1 k hk).1
      · rw [wj_22 (by omega)]; exact (h1 k hk).2
    · rw [aw, jw]
      by_cases c : k = d
      · subst c
        rw [if_pos rfl, if_pos rfl]
        exact ⟨rfl, rfl⟩
      · rw [if_neg (by omega), if_neg (by omega)]
        exact h2 k (by omega) hk2
    · rw [aw, jw, if_neg (by omega), if_neg (by omega)]
      exact h3 k hk
theorem prt_260 (hb : many + n < 100000) {M : Nat} {w1 : MS} (f : FR [] [] [160, 162] [161, 163] w w1) (h1 : ∀ k, k < n → A w1 162 k = P k ∧ w1.2.2.2 163 k = X k) (h3 : ∀ k, k < many → A w1 160 k = A w 160 k ∧ w1.2.2.2 161 k = w.2.2.2 161 k) : PK (fun w2 r => r = I ((many + n : Nat) : Int) ∧ PSk n many P X w w2) (fb_M_parts1_260 N (gg_M_parts1 N M) w1 (I ((many : Nat) : Int)) (I ((n : Nat) : Int))) := by
  unfold fb_M_parts1_260
  rw [show I ((n : Nat) : Int) - 1 = I (((n : Nat) : Int) - 1) by rw [lit1q, I_sub]]
  exact prt_c hb n M w1 (Nat.le_refl _) f h1 (fun k a b => by omega) h3
theorem tup_f {cp : Nat → Nat} (hp1 : p < 24) (h3 : F w 133 = ((p : Nat) : Int)) (vx : va x = ((vn x : Nat) : Int)) (hx : vn x + (1 + n) ≤ 500) (hb : many + n < 100000) (hc : ∀ k, k < n → cp k < 2147483648) (nx : ∀ k, k < n → A w 37 (cp k) = if k + 1 < n then ((cp (k + 1) : Nat) : Int) else -1) : ∀ (d k M : Nat) (w1 : MS), k + d = n → FR [] [] [162] [163] w w1 → (∀ i, i < k → A w1 162 i = ((cp i : Nat) : Int) ∧ w1.2.2.2 163 i = hp w p (vn x + 1 + i)) → PK (fun w2 r => r = I ((many + n : Nat) : Int) ∧ PSk n many (fun k => ((cp k : Nat) : Int)) (fun k => hp w p (vn x + 1 + k)) w w2) ((gg_M_parts1 N M).1 w1 (I ((many : Nat) : Int)) x (I ((k : Nat) : Int)) (I (if k < n then ((cp k : Nat) : Int) else -1))) := by
  intro d
  induction d with
  | zero =>
    intro k M w1 hk f h
    have : k = n := by omega
    subst this
    cases M with
    | zero => exact pk_none
    | succ M =>
    show PK _ (fb_M_parts1_59 N (gg_M_parts1 N M) w1 (I ((many : Nat) : Int)) x (I ((k : Nat) : Int)) (I (if k < k then ((cp k : Nat) : Int) else -1)))
    unfold fb_M_parts1_59
    rw [if_neg (Nat.lt_irrefl k), show decide (I (-1) = -1) = true from rfl, br_tq]
    exact prt_260 hb (FR.mo f (by simp) (by simp) (by simp) (by simp)) h (fun i _ => ⟨FR.A f (by simp), by rw [f.2.2.2 161 (by simp)]⟩)
  | succ d ih =>
    intro k M w1 hk f h
    cases M with
    | zero => exact pk_none
    | succ M =>
    show PK _ (fb_M_parts1_59 N (gg_M_parts1 N M) w1 (I ((many : Nat) : Int)) x (I ((k : Nat) : Int)) (I (if k < n then ((cp k : Nat) : Int) else -1)))
    unfold fb_M_parts1_59
    have kn : k < n := by omega
    have ck := hc k kn
    rw [if_pos kn, m1I, decE (by omega) (by omega) (by omega) (by omega), decide_eq_false (by omega), br_fq]
    refine pk_ck (fun _ => pk_ltq ?_)
    rw [valueOf_e, bnd_so, tnI (n := k) rfl (by omega), wa_e, vx]
    have e3 : F (wa w1 162 k ((cp k : Nat) : Int)) 133 = ((p : Nat) : Int) := by rw [F_wa, FR.F f (by simp)]; exact h3
    have ix : I ((vn x : Nat) : Int) + 1 + I ((k : Nat) : Int) = I ((vn x + 1 + k : Nat) : Int) := by rw [lit1q, I_add, I_add]; congr 1
    have hpe : hp (wa w1 162 k ((cp k : Nat) : Int)) p = hp w p := by unfold hp; rw [show (wa w1 162 k ((cp k : Nat) : Int)).2.2.2 88 = w.2.2.2 88 from f.2.2.2 88 (by simp)]
    rw [I_F' e3, ix, cell_e (by omega) (by omega), bnd_so, hpe]
    refine pk_ck (fun _ => pk_ltq (pk_ck (fun _ => pk_ltq ?_)))
    rw [wj_e, tnI (n := cp k) rfl (by omega)]
    have e37 : A (wj (wa w1 162 k ((cp k : Nat) : Int)) 163 k (hp w p (vn x + 1 + k))) 37 (cp k) = if k + 1 < n then ((cp (k + 1) : Nat) : Int) else -1 := by rw [A_wj, wa_rne (by omega), FR.A f (by simp)]; exact nx k kn
    rw [I_A' e37, show I ((k : Nat) : Int) + 1 = I ((k + 1 : Nat) : Int) from addN]
    refine ih (k + 1) M _ (by omega) (FR.wj (FR.wa f (by simp)) (by simp)) (fun i hi => ⟨?_, ?_⟩)
    · rw [A_wj, wa_ro (by omega) (by omega)]
      by_cases c : i = k
      · rw [if_pos c, c]
      · rw [if_neg c]; exact (h i (by omega)).1
    · rw [wj_row]
      by_cases c : i = k
      · rw [if_pos c, c]
      · rw [if_neg c]; exact (h i (by omega)).2
theorem parts5_r {cp : Nat → Nat} (hp1 : p < 24) (h3 : F w 133 = ((p : Nat) : Int)) (g : HP (hp w p) U' ow kd Fv P') (hU : U' ≤ 500) (gt : GT U' ow kd P' x) (h33 : A w 33 pp = 5) (h35 : A w 35 pp = ((n : Nat) : Int)) (h36 : A w 36 pp = if 0 < n then ((cp 0 : Nat) : Int) else -1) (hpp : pp < 2147483648) (hn : n ≤ 8) (hb : many + n < 100000) (hc : ∀ k, k < n → cp k < 2147483648) (nx : ∀ k, k < n → A w 37 (cp k) = if k + 1 < n then ((cp (k + 1) : Nat) : Int) else -1) : PK (fun w2 r => FR [] [] [160, 162] [161, 163] w w2 ∧ ((r = -1 ∧ ¬ (so x = 5 ∧ vn (hp w p (vn x)) = n)) ∨ (r = I ((many + n : Nat) : Int) ∧ (so x = 5 ∧ vn (hp w p (vn x)) = n) ∧ PSk n many (fun k => ((cp k : Nat) : Int)) (fun k => hp w p (vn x + 1 + k)) w w2))) (fm_M_parts1 N w (I ((pp : Nat) : Int)) x (I ((many : Nat) : Int))) := by
  unfold fm_M_parts1 fb_M_parts1_0 fb_M_parts1_49
  refine pk_ck (fun _ => ?_)
  rw [tnI (n := pp) rfl (by omega), I_A' h33, show decide (I 5 = 5) = true from rfl, br_tq, sortOf_e, bnd_so, show (5 : Int32) = I 5 from rfl, decE (so_r _).1 (so_r _).2 (by omega) (by omega)]
  by_cases c : so x = 5
  · obtain ⟨bk, -⟩ := HP_bk g (Or.inr (Or.inl c)) gt
    have hd := bk.2.1 c
    have vx : va x = ((vn x : Nat) : Int) := by have := bk.1; unfold vn; omega
    have bl : blk (hp w p) x = 1 + vn (hp w p (vn x)) := by unfold blk; rw [if_neg (by omega), if_pos c]
    have b1 := bk.2.2.2.1
    rw [bl] at b1
    have hv : va (hp w p (vn x)) = ((vn (hp w p (vn x)) : Nat) : Int) := by have h0 := hd.1; generalize hp w p (vn x) = z at h0 ⊢; unfold vn; omega
    rw [decide_eq_true c, br_tq, valueOf_e, bnd_so, vx, I_F' h3, cell_e (by omega) (by omega), bnd_so]
    refine pk_ck (fun _ => ?_)
    rw [I_A' h35]
    by_cases c2 : hp w p (vn x) = (I ((n : Nat) : Int)).toInt64
    · have ev : vn (hp w p (vn x)) = n := by
        have : (hp w p (vn x)).toInt = ((n : Nat) : Int) := by rw [c2, Int32.toInt_toInt64, I_ti (by omega) (by omega)]
        rw [hd.2, hv] at this
        omega
      rw [dec_lg c2, br_tq]
      refine pk_ck (fun _ => pk_ltq ?_)
      rw [I_A' h36, lit0q]
      refine pk_mo (tup_f (n := n) hp1 h3 vx (by omega) hb hc nx n 0 N w (by omega) FR.rf (fun i hi => by omega)) (fun w2 r h => ⟨h.2.1, Or.inr ⟨h.1, ⟨c, ev⟩, h.2⟩⟩)
    · rw [dec_lg0 c2, br_fq]
      refine pk_some ⟨FR.rf, Or.inl ⟨rfl, fun z => c2 ?_⟩⟩
      apply Int64.toInt_inj.mp
      rw [hd.2, hv, z.2, Int32.toInt_toInt64, I_ti (by omega) (by omega)]
  · rw [decide_eq_false c, br_fq]
    exact pk_some ⟨FR.rf, Or.inl ⟨rfl, fun z => c z.1⟩⟩
def SPn (h : Nat → Int64) (x : Int64) (n : Nat) (tl : Bool) : Prop := (∀ k, k < n → so (tlc h x k) = 7) ∧ (tl = false → so (tlc h x n) = 6)
theorem lst_f {cp : Nat → Nat} {tl : Bool} {x0 : Int64} (hp1 : p < 24) (h3 : F w 133 = ((p : Nat) : Int)) (g : HP (hp w p) U' ow kd Fv P') (hU : U' ≤ 500) (h35 : A w 35 pp = ((n : Nat) : Int)) (h38 : A w 38 pp = if tl = true then 1 else 0) (hpp : pp < 2147483648) (hn : n < 12000) (hb : many + n + 1 < 100000) (hc : ∀ k, k < n → cp k < 2147483648) (hcn : tl = true → cp n < 2147483648) (nx : ∀ k, k + 1 < n → A w 37 (cp k) = ((cp (k + 1) : Nat) : Int)) (nxl : tl = true → 0 < n ∧ A w 37 (cp (n - 1)) = ((cp n : Nat) : Int)) : ∀ (d k M : Nat) (w1 : MS) (c : Int), k + d = n → (k < n → c = ((cp k : Nat) : Int)) → (k = n → tl = true → c = ((cp n : Nat) : Int)) → RG c → FR [] [] [162] [163] w w1 → GT U' ow kd P' (tlc (hp w p) x0 k) → (∀ i, i < k → so (tlc (hp w p) x0 i) = 7) → (∀ i, i < k → A w1 162 i = ((cp i : Nat) : Int) ∧ w1.2.2.2 163 i = hp w p (vn (tlc (hp w p) x0 i))) → PK (fun w2 r => FR [] [] [160, 162] [161, 163] w w2 ∧ ((r = -1 ∧ ¬ SPn (hp w p) x0 n tl) ∨ (r = I ((many + (if tl = true then n + 1 else n) : Nat) : Int) ∧ SPn (hp w p) x0 n tl ∧ PSk (if tl = true then n + 1 else n) many (fun k => ((cp k : Nat) : Int)) (fun k => if k < n then hp w p (vn (tlc (hp w p) x0 k)) else tlc (hp w p) x0 n) w w2))) ((gg_M_parts1 N M).2.1 w1 (I ((pp : Nat) : Int)) (I ((many : Nat) : Int)) (tlc (hp w p) x0 k) (I ((k : Nat) : Int)) (I c) (I ((k : Nat) : Int))) := by
  intro d
  induction d with
  | zero =>
    intro k M w1 c hk _ hcl rc f gx sp h
    have : k = n := by omega
    subst this
    cases M with
    | zero => exact pk_none
    | succ M =>
    show PK _ (fb_M_parts1_128 N (gg_M_parts1 N M) w1 (I ((pp : Nat) : Int)) (I ((many : Nat) : Int)) (tlc (hp w p) x0 k) (I ((k : Nat) : Int)) (I c) (I ((k : Nat) : Int)))
    unfold fb_M_parts1_128
    have f2 : FR [] [] [160, 162] [161, 163] w w1 := FR.mo f (by simp) (by simp) (by simp) (by simp)
    refine pk_ck (fun _ => ?_)
    rw [tnI (n := pp) rfl (by omega), I_A' ((FR.A f (by simp)).trans h35), decI (by omega) (by omega) (by omega) (by omega), decide_eq_true (by omega), br_tq]
    refine pk_ck (fun _ => ?_)
    rw [I_A' ((FR.A f (by simp)).trans h38)]
    cases tl with
    | false =>
      rw [show decide (I (if false = true then 1 else 0) = 0) = true from rfl, br_tq, sortOf_e, bnd_so, show (6 : Int32) = I 6 from rfl, decE (so_r _).1 (so_r _).2 (by omega) (by omega)]
      by_cases c6 : so (tlc (hp w p) x0 k) = 6
      · rw [decide_eq_true c6, br_tq]
        refine pk_mo (prt_260 (n := k) (P := fun k => ((cp k : Nat) : Int)) (X := fun k' => if k' < k then hp w p (vn (tlc (hp w p) x0 k')) else tlc (hp w p) x0 k) (by omega) f2 (fun i hi => ⟨(h i hi).1, by rw [if_pos hi]; exact (h i hi).2⟩) (fun i _ => ⟨FR.A f (by simp), by rw [f.2.2.2 161 (by simp)]⟩)) (fun w2 r z => ⟨z.2.1, Or.inr ⟨z.1, ⟨sp, fun _ => c6⟩, z.2⟩⟩)
      · rw [decide_eq_false c6, br_fq]
        exact pk_some ⟨f2, Or.inl ⟨rfl, fun z => c6 (z.2 rfl)⟩⟩
    | true =>
      have ec := hcl rfl rfl
      subst ec
      rw [show decide (I (if true = true then 1 else 0) = 0) = false from rfl, br_fq]
      refine pk_ck (fun _ => pk_ltq (pk_ck (fun _ => pk_ltq ?_)))
      have cn := hcn rfl
      rw [tnI (n := k) rfl (by omega), wa_e, wj_e, show I ((k : Nat) : Int) + 1 = I ((k + 1 : Nat) : Int) from addN]
      refine pk_mo (prt_260 (n := k + 1) (P := fun k => ((cp k : Nat) : Int)) (X := fun k' => if k' < k then hp w p (vn (tlc (hp w p) x0 k')) else tlc (hp w p) x0 k) (w := w) (by omega) (FR.wj (FR.wa f2 (by simp)) (by simp)) (fun i hi => ⟨?_, ?_⟩) (fun i _ => ⟨by rw [A_wj, wa_rne (by omega)]; exact FR.A f (by simp), by rw [wj_22 (by omega)]; exact congrFun (f.2.2.2 161 (by simp)) i⟩)) (fun w2 r z => ⟨z.2.1, Or.inr ⟨z.1, ⟨sp, fun e => by cases e⟩, z.2⟩⟩)
      · rw [A_wj, wa_ro (by omega) (by omega)]
        by_cases ci : i = k
        · rw [if_pos ci, ci]
        · rw [if_neg ci]; exact (h i (by omega)).1
      · rw [wj_row]
        by_cases ci : i = k
        · rw [if_pos ci, if_neg (by omega)]
        · rw [if_neg ci, if_pos (by omega)]; exact (h i (by omega)).2
  | succ d ih =>
    intro k M w1 c hk hcc _ rc f gx sp h
    have kn : k < n := by omega
    have ec := hcc kn
    subst ec
    cases M with
    | zero => exact pk_none
    | succ M =>
    show PK _ (fb_M_parts1_128 N (gg_M_parts1 N M) w1 (I ((pp : Nat) : Int)) (I ((many : Nat) : Int)) (tlc (hp w p) x0 k) (I ((k : Nat) : Int)) (I ((cp k : Nat) : Int)) (I ((k : Nat) : Int)))
    unfold fb_M_parts1_128
    have f2 : FR [] [] [160, 162] [161, 163] w w1 := FR.mo f (by simp) (by simp) (by simp) (by simp)
    refine pk_ck (fun _ => ?_)
    rw [tnI (n := pp) rfl (by omega), I_A' ((FR.A f (by simp)).trans h35), decI (by omega) (by omega) (by omega) (by omega), decide_eq_false (by omega), br_fq, sortOf_e, bnd_so, show (7 : Int32) = I 7 from rfl, decE (so_r _).1 (so_r _).2 (by omega) (by omega)]
    by_cases c7 : so (tlc (hp w p) x0 k) = 7
    · obtain ⟨bk, b2⟩ := HP_bk g (Or.inr (Or.inr c7)) gx
      have vx : va (tlc (hp w p) x0 k) = ((vn (tlc (hp w p) x0 k) : Nat) : Int) := by have := bk.1; unfold vn; omega
      have bl : blk (hp w p) (tlc (hp w p) x0 k) = 2 := by unfold blk; rw [if_pos c7]
      have pr : prt (tlc (hp w p) x0 k) = 0 := by unfold prt; rw [if_pos c7]
      have b1 := bk.2.2.2.1
      rw [bl] at b1 b2
      rw [pr] at b2
      have g2 := b2 1 (by omega) (by omega)
      have ck := hc k kn
      rw [decide_eq_true c7, br_tq]
      refine pk_ck (fun _ => pk_ltq ?_)
      rw [valueOf_e, bnd_so, tnI (n := k) rfl (by omega), wa_e, vx]
      have e3 : F (wa w1 162 k ((cp k : Nat) : Int)) 133 = ((p : Nat) : Int) := by rw [F_wa, FR.F f (by simp)]; exact h3
      have hpe : hp (wa w1 162 k ((cp k : Nat) : Int)) p = hp w p := by unfold hp; rw [show (wa w1 162 k ((cp k : Nat) : Int)).2.2.2 88 = w.2.2.2 88 from f.2.2.2 88 (by simp)]
      rw [I_F' e3, cell_e (by omega) (by omega), bnd_so, hpe]
      refine pk_ck (fun _ => pk_ltq ?_)
      rw [wj_e, valueOf_e, bnd_so, vx]
      have e3' : F (wj (wa w1 162 k ((cp k : Nat) : Int)) 163 k (hp w p (vn (tlc (hp w p) x0 k)))) 133 = ((p : Nat) : Int) := by rw [F_wj]; exact e3
      have hpe' : hp (wj (wa w1 162 k ((cp k : Nat) : Int)) 163 k (hp w p (vn (tlc (hp w p) x0 k)))) p = hp w p := by unfold hp; rw [wj_22 (by omega)]; exact hpe
      rw [I_F' e3', show I ((vn (tlc (hp w p) x0 k) : Nat) : Int) + 1 = I ((vn (tlc (hp w p) x0 k) + 1 : Nat) : Int) from addN, cell_e (by omega) (by omega), bnd_so, hpe']
      refine pk_ck (fun _ => pk_ltq ?_)
      have e37 : A (wj (wa w1 162 k ((cp k : Nat) : Int)) 163 k (hp w p (vn (tlc (hp w p) x0 k)))) 37 (cp k) = A w 37 (cp k) := by rw [A_wj, wa_rne (by omega), FR.A f (by simp)]
      rw [tnI (n := cp k) rfl (by omega), I_A' e37, show I ((k : Nat) : Int) + 1 = I ((k + 1 : Nat) : Int) from addN, show hp w p (vn (tlc (hp w p) x0 k) + 1) = tlc (hp w p) x0 (k + 1) from rfl]
      refine ih (k + 1) M _ (A w 37 (cp k)) (by omega) (fun hk2 => nx k hk2) (fun hk2 ht => ?_) (A_r _ _ _) (FR.wj (FR.wa f (by simp)) (by simp)) g2 (fun i hi => ?_) (fun i hi => ⟨?_, ?_⟩)
      · have := (nxl ht).2
        rw [show n - 1 = k by omega] at this
        exact this
      · by_cases ci : i = k
        · rw [ci]; exact c7
        · exact sp i (by omega)
      · rw [A_wj, wa_ro (by omega) (by omega)]
        by_cases ci : i = k
        · rw [if_pos ci, ci]
        · rw [if_neg ci]; exact (h i (by omega)).1
      · rw [wj_row]
        by_cases ci : i = k
        · rw [if_pos ci, ci]
        · rw [if_neg ci]; exact (h i (by omega)).2
    · rw [decide_eq_false c7, br_fq]
      exact pk_some ⟨f2, Or.inl ⟨rfl, fun z => c7 (z.1 k kn)⟩⟩
theorem parts6_r {cp : Nat → Nat} {tl : Bool} (hp1 : p < 24) (h3 : F w 133 = ((p : Nat) : Int)) (g : HP (hp w p) U' ow kd Fv P') (hU : U' ≤ 500) (gt : GT U' ow kd P' x) (h33 : A w 33 pp = 6) (h35 : A w 35 pp = ((n : Nat) : Int)) (h36 : 0 < n → A w 36 pp = ((cp 0 : Nat) : Int)) (h38 : A w 38 pp = if tl = true then 1 else 0) (hpp : pp < 2147483648) (hn : n < 12000) (hb : many + n + 1 < 100000) (hc : ∀ k, k < n → cp k < 2147483648) (hcn : tl = true → cp n < 2147483648) (nx : ∀ k, k + 1 < n → A w 37 (cp k) = ((cp (k + 1) : Nat) : Int)) (nxl : tl = true → 0 < n ∧ A w 37 (cp (n - 1)) = ((cp n : Nat) : Int)) : PK (fun w2 r => FR [] [] [160, 162] [161, 163] w w2 ∧ ((r = -1 ∧ ¬ SPn (hp w p) x n tl) ∨ (r = I ((many + (if tl = true then n + 1 else n) : Nat) : Int) ∧ SPn (hp w p) x n tl ∧ PSk (if tl = true then n + 1 else n) many (fun k => ((cp k : Nat) : Int)) (fun k => if k < n then hp w p (vn (tlc (hp w p) x k)) else tlc (hp w p) x n) w w2))) (fm_M_parts1 N w (I ((pp : Nat) : Int)) x (I ((many : Nat) : Int))) := by
  unfold fm_M_parts1 fb_M_parts1_0
  refine pk_ck (fun _ => ?_)
  rw [tnI (n := pp) rfl (by omega), I_A' h33, show decide (I 6 = 5) = false from rfl, br_fq]
  refine pk_ck (fun _ => ?_)
  rw [I_A (k := 36), lit0q]
  exact lst_f (x0 := x) hp1 h3 g hU h35 h38 hpp hn hb hc hcn nx nxl n 0 N w (A w 36 pp) (by omega) (fun h => h36 h) (fun h1 h2 => by have := (nxl h2).1; omega) (A_r _ _ _) FR.rf gt (fun i hi => by omega) (fun i hi => by omega)
end
end
section
set_option maxRecDepth 100000
section
variable {b : Int → Nat → Nat → Prop} {N p i n0 n0' U U' : Nat} {m w : MS} {t x : Int64} {ow kd ow' kd' : Nat → Nat} {Fv Fv' : Int64 → Int64 → Prop} {P P' : Int64 → Prop}
theorem RTb_nh {z : Int64} (hz : ¬ isH z) (r : RTb b t x) : t = z ↔ x = z := by
  rcases r with ⟨-, e, -⟩ | ⟨h, e, -⟩
  · rw [e]
  · constructor
    · intro c
      rw [c] at h
      exact absurd h hz
    · intro c
      have : isH x := by unfold isH at h ⊢; rw [e]; exact h
      rw [c] at this
      exact absurd this hz
theorem TP_pair {h h' : Nat → Int64} (is : ISb b h n0 h' n0') (g : HPc h U ow kd Fv P) (g' : HP h' U' ow' kd' Fv' P') (q : TPb b U ow kd P U' ow' kd' P' t x) (e7 : so t = 7) : (so x = 7 ∧ va t = ((vn t : Nat) : Int) ∧ vn t + 2 ≤ U ∧ va x = ((vn x : Nat) : Int) ∧ vn x + 2 ≤ U') ∧ TPb b U ow kd P U' ow' kd' P' (h (vn t)) (h' (vn x)) ∧ TPb b U ow kd P U' ow' kd' P' (h (vn t + 1)) (h' (vn x + 1)) := by
  obtain ⟨r, gt, gt'⟩ := q
  have ex : so x = 7 := by rw [RTb_so r]; exact e7
  obtain ⟨a1, a2, a3, a4⟩ := pair_at g gt e7
  have hx : isH x := Or.inr (Or.inr ex)
  have hb2 : blk h' x = 2 := by unfold blk; rw [if_pos ex]
  have hb1 : blk h t = 2 := by unfold blk; rw [if_pos e7]
  have hpx : prt x = 0 := by unfold prt; rw [if_pos ex]
  have hpt : prt t = 0 := by unfold prt; rw [if_pos e7]
  obtain ⟨bk, b2⟩ := HP_bk g' hx gt'
  have hbl := bk.2.2.2.1
  rw [hb2] at hbl b2
  rw [hpx] at b2
  have vx : va x = ((vn x : Nat) : Int) := by have := bk.1; unfold vn; omega
  have bl := (is.1 t x (Or.inr (Or.inr e7)) r).2.1
  rw [hpt, hb1] at bl
  have r0 := bl 0 (by omega) (by omega)
  have r1 := bl 1 (by omega) (by omega)
  rw [Nat.add_zero, Nat.add_zero] at r0
  have g0 := b2 0 (by omega) (by omega)
  rw [Nat.add_zero] at g0
  exact ⟨⟨ex, a1, a2, vx, hbl⟩, ⟨r0, a3, g0⟩, r1, a4, b2 1 (by omega) (by omega)⟩
theorem str_pp (hp1 : p < 24) (h3 : F w 133 = ((p : Nat) : Int)) (is : ISb b (m.2.2.2 (pq p 2)) n0 (hp w p) n0') (g : HPc (m.2.2.2 (pq p 2)) U ow kd Fv P) (hU : U ≤ 512) (g' : HP (hp w p) U' ow' kd' Fv' P') (hU' : U' ≤ 500) {s0 bb l : Nat} (h19 : A w 19 s0 = ((bb : Nat) : Int)) (h19' : A w 19 (s0 + 1) = ((bb + l : Nat) : Int)) (hl : A m 23 (i + 1) = ((l : Nat) : Int)) (hs : ∀ k, k < l → A m 23 (i + 2 + k) = A w 18 (bb + k)) (hi : i + 2 + l < 24000) (hs9 : s0 < 2147483648) (q : TPb b U ow kd P U' ow' kd' P' t x) : PP (fun m2 r w2 r2 => (m2 = m ∧ w2 = w) ∧ ((r = 0 ∧ r2 = 0) ∨ (r = 1 ∧ r2 = 1))) (hm_Ma_fitsString N m p (I ((i : Nat) : Int)) t) (fm_M_isString N w (I ((s0 : Nat) : Int)) x) := by
  have rb := A_r w 19 (s0 + 1)
  rw [h19'] at rb
  have lp : s0 < 100000 → ∀ (d k M1 M2 : Nat) (t x : Int64), k + d = l → TPb b U ow kd P U' ow' kd' P' t x → PP (fun m2 r w2 r2 => (m2 = m ∧ w2 = w) ∧ ((r = 0 ∧ r2 = 0) ∨ (r = 1 ∧ r2 = 1))) (hg_Ma_fitsString N M1 m p (I ((i : Nat) : Int)) t (I ((l : Nat) : Int)) (I ((k : Nat) : Int))) (gg_M_isString N M2 w (I ((s0 : Nat) : Int)) x (I ((bb + k : Nat) : Int))) := by
    intro hs0 d
    induction d with
    | zero =>
      intro k M1 M2 t x hk q
      cases M1 with
      | zero => exact pp_nl
      | succ M1 =>
      cases M2 with
      | zero => exact pp_nr
      | succ M2 =>
      have : k = l := by omega
      subst this
      show PP _ (hb_Ma_fitsString_18 N (hg_Ma_fitsString N M1) m p (I ((i : Nat) : Int)) t (I ((k : Nat) : Int)) (I ((k : Nat) : Int))) (fb_M_isString_11 N (gg_M_isString N M2) w (I ((s0 : Nat) : Int)) x (I ((bb + k : Nat) : Int)))
      unfold hb_Ma_fitsString_18 hb_Ma_fitsString_107 fb_M_isString_11 fb_M_isString_102
      rw [decI (by omega) (by omega) (by omega) (by omega), decide_eq_true (by omega), br_tq, e_tag, bnd_so]
      refine r_ck (fun _ => ?_)
      rw [show I ((s0 : Nat) : Int) + 1 = I ((s0 + 1 : Nat) : Int) from addN, tnI (n := s0 + 1) rfl (by omega), I_A' h19', decI (by omega) (by omega) (by omega) (by omega), show decide (((bb + k : Nat) : Int) ≤ ((bb + k : Nat) : Int)) = true from decide_eq_true (Int.le_refl _), br_tq, sortOf_e, bnd_so, RTb_so q.1]
      by_cases c : decide (I (so t) = 6) = true
      · rw [c, br_tq, br_tq]
        exact l_ck (fun _ => r_ck (fun _ => pp_end ⟨⟨rfl, rfl⟩, Or.inr ⟨rfl, rfl⟩⟩))
      · have c0 : decide (I (so t) = 6) = false := by
          cases hd : decide (I (so t) = 6) with
          | true => exact absurd hd c
          | false => rfl
        rw [c0, br_fq, br_fq]
        exact l_ck (fun _ => r_ck (fun _ => pp_end ⟨⟨rfl, rfl⟩, Or.inl ⟨rfl, rfl⟩⟩))
    | succ d ih =>
      intro k M1 M2 t x hk q
      cases M1 with
      | zero => exact pp_nl
      | succ M1 =>
      cases M2 with
      | zero => exact pp_nr
      | succ M2 =>
      have kl : k < l := by omega
      show PP _ (hb_Ma_fitsString_18 N (hg_Ma_fitsString N M1) m p (I ((i : Nat) : Int)) t (I ((l : Nat) : Int)) (I ((k : Nat) : Int))) (fb_M_isString_11 N (gg_M_isString N M2) w (I ((s0 : Nat) : Int)) x (I ((bb + k : Nat) : Int)))
      unfold hb_Ma_fitsString_18 fb_M_isString_11 fb_M_isString_62
      rw [decI (by omega) (by omega) (by omega) (by omega), decide_eq_false (by omega), br_fq, e_tag, bnd_so]
      refine r_ck (fun _ => ?_)
      rw [show I ((s0 : Nat) : Int) + 1 = I ((s0 + 1 : Nat) : Int) from addN, tnI (n := s0 + 1) rfl (by omega), I_A' h19', decI (by omega) (by omega) (by omega) (by omega), show decide (((bb + l : Nat) : Int) ≤ ((bb + k : Nat) : Int)) = false from decide_eq_false (by omega), br_fq, sortOf_e, bnd_so, RTb_so q.1, show (7 : Int32) = I 7 from rfl, decE (so_r _).1 (so_r _).2 (by omega) (by omega)]
      by_cases e7 : so t = 7
      · obtain ⟨⟨x7, v1, v2, v3, v4⟩, q0, q1⟩ := TP_pair is g g' q e7
        rw [decide_eq_true e7, br_tq, br_tq, valI, v1]
        refine l_ck (fun _ => ?_)
        rw [show I ((i : Nat) : Int) + 2 + I ((k : Nat) : Int) = I ((i + 2 + k : Nat) : Int) by rw [show (2 : Int32) = I ((2 : Nat) : Int) from rfl, addN, addN], Co_e (k := i + 2 + k) rfl (by omega), bnd_so, hs k kl, show hm_Te_make N m 0 (I (A w 18 (bb + k))) = some (m, mk 0 (A w 18 (bb + k))) from rfl, bnd_so, tnI (n := vn t) rfl (by omega), valueOf_e, bnd_so, v3, I_F' h3, cell_e (by omega) (by omega), bnd_so]
        refine r_ck (fun _ => ?_)
        rw [tnI (n := bb + k) rfl (by omega), I_A (k := 18), show fm_M_term N w 0 (I (A w 18 (bb + k))) = some (w, mk 0 (A w 18 (bb + k))) from rfl, bnd_so]
        have nh : ¬ isH (mk 0 (A w 18 (bb + k))) := nh_mk (by omega)
        by_cases ce : m.2.2.2 (pq p 2) (vn t) = mk 0 (A w 18 (bb + k))
        · rw [dec_lg ce, br_tq, dec_lg ((RTb_nh nh q0.1).mp ce), br_tq]
          refine l_ck (fun _ => ?_)
          rw [show I ((vn t : Nat) : Int) + 1 = I ((vn t + 1 : Nat) : Int) from addN, tnI (n := vn t + 1) rfl (by omega), valueOf_e, bnd_so, v3, show I ((vn x : Nat) : Int) + 1 = I ((vn x + 1 : Nat) : Int) from addN, I_F' h3, cell_e (by omega) (by omega), bnd_so, show I ((k : Nat) : Int) + 1 = I ((k + 1 : Nat) : Int) from addN, show I ((bb + k : Nat) : Int) + 1 = I ((bb + (k + 1) : Nat) : Int) from addN]
          exact ih (k + 1) M1 M2 _ _ (by omega) q1
        · rw [dec_lg0 ce, br_fq, dec_lg0 (fun z => ce ((RTb_nh nh q0.1).mpr z)), br_fq]
          exact l_ck (fun _ => r_ck (fun _ => pp_end ⟨⟨rfl, rfl⟩, Or.inl ⟨rfl, rfl⟩⟩))
      · rw [decide_eq_false e7, br_fq, br_fq]
        exact l_ck (fun _ => r_ck (fun _ => pp_end ⟨⟨rfl, rfl⟩, Or.inl ⟨rfl, rfl⟩⟩))
  unfold hm_Ma_fitsString hb_Ma_fitsString_0 fm_M_isString fb_M_isString_0
  rw [show I ((i : Nat) : Int) + 1 = I ((i + 1 : Nat) : Int) from addN, Co_e (k := i + 1) rfl (by omega), bnd_so, hl]
  refine r_ck (fun c9 => ?_)
  have c8 := ((I_inb (by omega) (by omega)).mp c9).2
  have l19 : ln 19 < 100000 := by decide
  rw [tnI (n := s0) rfl (by omega), I_A' h19]
  exact lp (by omega) l 0 N N t x (by omega) q
end
section
variable {b : Int → Nat → Nat → Prop} {N p U W Y nbj jf : Nat} {m w : MS} {H O : List Nat} {v i : Int}
theorem LKP_g (nd : O.Nodup ∧ H.Nodup) (lk : LKP H O v i) : ∃ (s k0 : Nat), v = ((s : Nat) : Int) ∧ (H ++ O)[k0]? = some s ∧ (∀ k e, k0 < k → (H ++ O)[k]? = some e → e ≠ s) ∧ ((0 ≤ i ∧ ((k0 : Nat) : Int) = ((H.length : Nat) : Int) + i) ∨ (i < 0 ∧ ((k0 : Nat) : Int) = -2 - i)) := by
  obtain ⟨s, e, ⟨k, e1, e2⟩ | ⟨k, e1, e2, e3⟩⟩ := lk
  · have kl : k < O.length := (List.getElem?_eq_some_iff.mp e2).1
    refine ⟨s, H.length + k, e, by rw [List.getElem?_append_right (by omega), show H.length + k - H.length = k by omega]; exact e2, fun k2 z hi hz => ?_, Or.inl ⟨by omega, by omega⟩⟩
    rw [List.getElem?_append_right (by omega)] at hz
    exact nd_ne nd.1 hz e2 (by omega)
  · have kl : k < H.length := (List.getElem?_eq_some_iff.mp e3).1
    refine ⟨s, k, e, by rw [List.getElem?_append_left kl]; exact e3, fun k2 z hi hz => ?_, Or.inr ⟨by omega, by omega⟩⟩
    by_cases c : k2 < H.length
    · rw [List.getElem?_append_left c] at hz
      exact nd_ne nd.2 hz e3 (by omega)
    · rw [List.getElem?_append_right (by omega)] at hz
      exact fun q => e2 (by rw [← q]; exact List.mem_of_getElem? hz)
theorem name_two (hpp : p < 24) (h3 : F w 133 = ((p : Nat) : Int)) (h95 : A w 95 p = ((jf + 1 : Nat) : Int)) (hj : jf < 60) (h99 : A w 99 (60 * p + jf) = ((nbj : Nat) : Int)) (h101 : A w 101 (60 * p + jf) = ((H.length : Nat) : Int)) (h24 : F m (pq p 24) = ((nbj + (H ++ O).length : Nat) : Int)) (hB : nbj + (H ++ O).length ≤ 2500) (nms : NMs m p nbj (H ++ O)) (nd : O.Nodup ∧ H.Nodup) (lk : LKP H O v i) (rv : RG v) (ri : RG i) : ∃ k0, k0 < (H ++ O).length ∧ PK (fun m2 r => m2 = m ∧ r = m.2.2.2 (pq p 33) (nbj + k0)) (hm_Fr_termOf N m p (I v)) ∧ PK (fun w2 r => w2 = w ∧ r = w.2.2.2 93 (2500 * p + (nbj + k0))) (fm_M_nameAt N w (I i)) := by
  obtain ⟨s, k0, e1, e2, e3, e4⟩ := LKP_g nd lk
  have k0l : k0 < (H ++ O).length := (List.getElem?_eq_some_iff.mp e2).1
  refine ⟨k0, k0l, ?_, ?_⟩
  · unfold hm_Fr_termOf hb_Fr_termOf_0
    rw [I_F' h24, e1, show I ((nbj + (H ++ O).length : Nat) : Int) - 1 = I ((nbj + (H ++ O).length - 1 : Nat) : Int) by rw [lit1q, I_sub]; congr 1; omega]
    refine termOf_s (N := N) (m := m) (p := p) (k := nbj + k0) (l := s) (B := nbj + (H ++ O).length) (fun k h1 h2 => ?_) (nms k0 s e2) (by have := rv.2; omega) (by omega) (by omega) N (nbj + (H ++ O).length - 1) (by omega) (by omega)
    have il : k - nbj < (H ++ O).length := by omega
    have ge : (H ++ O)[k - nbj]? = some (H ++ O)[k - nbj] := List.getElem?_eq_getElem il
    have e5 := nms (k - nbj) _ ge
    rw [show nbj + (k - nbj) = k by omega] at e5
    rw [e5]
    have := e3 (k - nbj) _ (by omega) ge
    omega
  · unfold fm_M_nameAt fb_M_nameAt_0 fb_M_nameAt_43 fm_M_frame0 fb_M_frame0_0
    have ix : (I ((p : Nat) : Int) * 60 + I ((jf + 1 : Nat) : Int) - 1).toNatClampNeg = 60 * p + jf := by
      rw [show (60 : Int32) = I 60 from rfl, lit1q, I_mul, I_add, I_sub]
      exact tnI (n := 60 * p + jf) (by omega) (by omega)
    rw [I_F' h3, tnI (n := p) rfl (by omega), I_A' h95]
    refine pk_bnd (pk_ck (fun _ => pk_some ?_))
    refine pk_ck (fun _ => ?_)
    rw [ix, I_A' h99, I_A' h101, I_F' h3, lit0q]
    refine p_le ⟨by decide, by decide⟩ ri (fun z => ?_) (fun z => ?_)
    · refine pk_ck (fun _ => pk_ck (fun _ => pk_ck (fun _ => pk_some ⟨rfl, ?_⟩)))
      have : (I ((p : Nat) : Int) * 2500 + I ((nbj : Nat) : Int) + (I ((H.length : Nat) : Int) + I i)).toNatClampNeg = 2500 * p + (nbj + k0) := by
        rw [show (2500 : Int32) = I 2500 from rfl, I_mul, I_add, I_add, I_add]
        exact tnI (n := 2500 * p + (nbj + k0)) (by omega) (by omega)
      rw [this]
    · refine pk_ck (fun _ => pk_ck (fun _ => pk_some ⟨rfl, ?_⟩))
      have : (I ((p : Nat) : Int) * 2500 + I ((nbj : Nat) : Int) + (-2 - I i)).toNatClampNeg = 2500 * p + (nbj + k0) := by
        rw [show (2500 : Int32) = I 2500 from rfl, show (-2 : Int32) = I (-2) from rfl, I_mul, I_add, I_sub, I_add]
        exact tnI (n := 2500 * p + (nbj + k0)) (by omega) (by omega)
      rw [this]
end
end
section
set_option maxRecDepth 100000
def FWx (p B0 : Nat) (w0 w : MS) : Prop := FR [] [] [94, 160, 162] [93, 141, 161, 163] w0 w ∧ (∀ k, k ≠ p → A w 94 k = A w0 94 k) ∧ ∀ i, ¬ (2500 * p + B0 ≤ i ∧ i < 2500 * p + 2500) → w.2.2.2 93 i = w0.2.2.2 93 i
def FTx (b : Int → Nat → Nat → Prop) (Fv : Int64 → Int64 → Prop) (P : Int64 → Prop) (Fv' : Int64 → Int64 → Prop) (P' : Int64 → Prop) (ow kd ow' kd' : Nat → Nat) (p jf nbj U na : Nat) (fa' : Nat → Nat) (H : List Nat) (m0 w0 : MS) : Prop := (p < 24 ∧ F w0 133 = ((p : Nat) : Int)) ∧ (A w0 95 p = ((jf + 1 : Nat) : Int) ∧ jf < 60 ∧ A w0 99 (60 * p + jf) = ((nbj : Nat) : Int) ∧ A w0 101 (60 * p + jf) = ((H.length : Nat) : Int)) ∧ (ISb b (m0.2.2.2 (pq p 2)) U (hp w0 p) U ∧ HPc (m0.2.2.2 (pq p 2)) U ow kd Fv P ∧ HP (hp w0 p) U ow' kd' Fv' P' ∧ U ≤ 500) ∧ CTX Fv P m0 ∧ FVH Fv' ∧ ATf m0 w0 fa' na ∧ H.Nodup
def FSt (b : Int → Nat → Nat → Prop) (P : Int64 → Prop) (P' : Int64 → Prop) (ow kd ow' kd' : Nat → Nat) (p B0 nbj U W Y : Nat) (H O : List Nat) (m0 w0 m w : MS) : Prop := NFx p B0 m0 m ∧ FWx p B0 w0 w ∧ PLs b p m w U (nbj + (H ++ O).length) W Y ∧ NMs m p nbj (H ++ O) ∧ (B0 ≤ nbj + (H ++ O).length ∧ O.Nodup) ∧ ∀ k, k < nbj + (H ++ O).length → TPb b U ow kd P U ow' kd' P' (m.2.2.2 (pq p 33) k) (w.2.2.2 93 (2500 * p + k))
section
variable {b : Int → Nat → Nat → Prop} {Fv Fv' : Int64 → Int64 → Prop} {P P' : Int64 → Prop} {ow kd ow' kd' fa' : Nat → Nat} {N p B0 jf nbj U W Y na B : Nat} {H O : List Nat} {m0 w0 m w m2 w2 : MS} {t x : Int64}
theorem FWx.fr (h : FWx p B0 w0 w) (f : FR [] [] [160, 162] [141, 161, 163] w w2) : FWx p B0 w0 w2 := ⟨FR.tr h.1 (FR.mo f (by simp) (by simp) (by simp) (by simp)), fun k hk => by rw [FR.A f (by simp)]; exact h.2.1 k hk, fun i hi => by rw [f.2.2.2 93 (by simp)]; exact h.2.2 i hi⟩
theorem FSt_w (h : FSt b P P' ow kd ow' kd' p B0 nbj U W Y H O m0 w0 m w) (f : FR [] [] [160, 162] [141, 161, 163] w w2) : FSt b P P' ow kd ow' kd' p B0 nbj U W Y H O m0 w0 m w2 := by
  obtain ⟨h1, h2, h3, h4, h5, h6⟩ := h
  refine ⟨h1, h2.fr f, PLs_cg h3 (fun _ _ => rfl) (fun _ _ => rfl) (fun _ _ => rfl) (fun _ _ => rfl) (fun _ _ => rfl) (fun k hk => by rw [f.2.2.1 k (by simp at hk ⊢; omega)]) (fun i _ => by rw [f.2.2.2 88 (by simp)]) (fun i _ => by rw [f.2.2.2 93 (by simp)]) (fun i _ => by rw [f.2.2.2 91 (by simp)]) (fun i _ => by rw [f.2.2.2 107 (by simp)]), h4, h5, fun k hk => by rw [f.2.2.2 93 (by simp)]; exact h6 k hk⟩
theorem NFx.fr (h : NFx p B0 m0 m) (f : FR [] [] [] [44, 45, 46] m m2) : NFx p B0 m0 m2 := by
  obtain ⟨h1, ⟨B1, b1, b2, b3, b4⟩, h3⟩ := h
  have i1 : ∀ k, m2.1 k = m.1 k := fun k => f.1 k (by simp)
  have fF : ∀ k, F m2 k = F m k := fun k => congrArg Int32.toInt (i1 k)
  have j1 : ∀ k, 100 ≤ k → m2.2.2.2 k = m.2.2.2 k := fun k hk => f.2.2.2 k (by simp; omega)
  refine ⟨FIx.tr h1 (FC.mo (FC.of f (by simp) (by simp) (by simp) (by simp)) (by simp) (by simp) (by simp) (by simp) (by simp) (by simp) (by simp)), ⟨B1, b1, by rw [fF]; exact b2, by rw [fF]; exact b3, by rw [fF]; exact b4⟩, fun i hi => ⟨?_, ?_⟩⟩
  · rw [f.2.2.1 _ (by simp)]; exact (h3 i hi).1
  · rw [j1 _ (by unfold pq; omega)]; exact (h3 i hi).2
theorem FSt_m (h : FSt b P P' ow kd ow' kd' p B0 nbj U W Y H O m0 w0 m w) (f : FR [] [] [] [44, 45, 46] m m2) : FSt b P P' ow kd ow' kd' p B0 nbj U W Y H O m0 w0 m2 w := by
  obtain ⟨h1, h2, h3, h4, h5, h6⟩ := h
  have j1 : ∀ k, 100 ≤ k → m2.2.2.2 k = m.2.2.2 k := fun k hk => f.2.2.2 k (by simp; omega)
  have q : ∀ k, m2.2.2.2 (pq p k) = m.2.2.2 (pq p k) := fun k => j1 _ (by unfold pq; omega)
  refine ⟨h1.fr f, h2, PLs_cg h3 (fun k _ => f.1 _ (by simp)) (fun i _ => by rw [q]) (fun i _ => by rw [q]) (fun i _ => by rw [q]) (fun i _ => by rw [q]) (fun _ _ => rfl) (fun _ _ => rfl) (fun _ _ => rfl) (fun _ _ => rfl) (fun _ _ => rfl), fun i y hy => ?_, h5, fun k hk => by rw [q]; exact h6 k hk⟩
  show (m2.2.2.1 (pq p 32) _).toInt = _
  rw [f.2.2.1 _ (by simp)]
  exact h4 i y hy
theorem FSt_bind {s : Nat} (h : FSt b P P' ow kd ow' kd' p B0 nbj U W Y H O m0 w0 m w) (hpp : p < 24) (q : TPb b U ow kd P U ow' kd' P' t x) (hs : s ∉ O) (hs2 : s < 2147483648) (hB : nbj + (H ++ O).length < 2500) (z1 : FIx p m m2) (z3 : F m2 (pq p 24) = ((nbj + (H ++ O).length + 1 : Nat) : Int)) (z4 : ((nbj + (H ++ O).length + 1 : Nat) : Int) ≤ F m2 (pq p 43) ∧ ((nbj + (H ++ O).length + 1 : Nat) : Int) ≤ F m2 (pq p 42)) (z5 : ∀ i, i ≤ nbj + (H ++ O).length → m2.2.2.1 (pq p 32) i = if i = nbj + (H ++ O).length then I ((s : Nat) : Int) else m.2.2.1 (pq p 32) i) (z6 : ∀ i, i ≤ nbj + (H ++ O).length → m2.2.2.2 (pq p 33) i = if i = nbj + (H ++ O).length then t else m.2.2.2 (pq p 33) i) : FSt b P P' ow kd ow' kd' p B0 nbj U W Y H (O ++ [s]) m0 w0 m2 (wa (wj w 93 (2500 * p + (nbj + (H ++ O).length)) x) 94 p ((nbj + (H ++ O).length + 1 : Nat) : Int)) := by
  obtain ⟨⟨h1, ⟨B1, b1, b2, b3, b4⟩, b5⟩, h2, h3, h4, ⟨h5, h5b⟩, h6⟩ := h
  have el : nbj + (H ++ (O ++ [s])).length = nbj + (H ++ O).length + 1 := by simp; omega
  have eL : H ++ (O ++ [s]) = (H ++ O) ++ [s] := by simp
  have fq : ∀ k, k < 100 → k ∉ [24, 42, 43] → m2.1 (pq p k) = m.1 (pq p k) := fun k h hk => z1.2.2.2.2.1 p k h (fun _ => hk)
  have jq : ∀ k, k < 100 → k ∉ [33] → m2.2.2.2 (pq p k) = m.2.2.2 (pq p k) := fun k h hk => z1.jq h hk
  have w93 : ∀ i, (wa (wj w 93 (2500 * p + (nbj + (H ++ O).length)) x) 94 p ((nbj + (H ++ O).length + 1 : Nat) : Int)).2.2.2 93 i = if i = 2500 * p + (nbj + (H ++ O).length) then x else w.2.2.2 93 i := fun i => by rw [J_wa]; exact wj_row
  have tp : ∀ k, k < nbj + (H ++ O).length + 1 → TPb b U ow kd P U ow' kd' P' (m2.2.2.2 (pq p 33) k) ((wa (wj w 93 (2500 * p + (nbj + (H ++ O).length)) x) 94 p ((nbj + (H ++ O).length + 1 : Nat) : Int)).2.2.2 93 (2500 * p + k)) := fun k hk => by
    rw [z6 k (by omega), w93]
    by_cases c : k = nbj + (H ++ O).length
    · rw [if_pos c, if_pos (by omega)]; exact q
    · rw [if_neg c, if_neg (by omega)]; exact h6 k (by omega)
  refine ⟨⟨FIx.tr h1 z1, ⟨_, by omega, z3, z4.1, z4.2⟩, fun i hi => ⟨?_, ?_⟩⟩, ⟨FR.wa (FR.wj h2.1 (by simp)) (by simp), fun k hk => ?_, fun i hi => ?_⟩, ?_, ?_, ⟨by omega, ?_⟩, ?_⟩
  · rw [z5 i (by omega), if_neg (by omega)]; exact (b5 i hi).1
  · rw [z6 i (by omega), if_neg (by omega)]; exact (b5 i hi).2
  · rw [wa_ne hk, A_wj]; exact h2.2.1 k hk
  · rw [w93, if_neg (by omega)]; exact h2.2.2 i hi
  · rw [el]
    obtain ⟨⟨⟨p1, p2, p3⟩, p4, p5⟩, ⟨p6, p7, p8⟩, ⟨p9, p10, p11⟩, p12, p13, p14⟩ := h3
    have aw : ∀ K, K ≠ 94 → A (wa (wj w 93 (2500 * p + (nbj + (H ++ O).length)) x) 94 p ((nbj + (H ++ O).length + 1 : Nat) : Int)) K p = A w K p := fun K hK => by rw [wa_rne hK, A_wj]
    have jw : ∀ K, K ≠ 93 → (wa (wj w 93 (2500 * p + (nbj + (H ++ O).length)) x) 94 p ((nbj + (H ++ O).length + 1 : Nat) : Int)).2.2.2 K = w.2.2.2 K := fun K hK => wj_22 hK
    have fQ : ∀ k, k < 100 → k ∉ [24, 42, 43] → F m2 (pq p k) = F m (pq p k) := fun k h hk => congrArg Int32.toInt (fq k h hk)
    refine ⟨⟨⟨by rw [fQ 4 (by omega) (by simp)]; exact p1, by rw [aw 89 (by omega)]; exact p2, p3⟩, ?_, ?_⟩, ⟨z3, wa_sm (by omega) (by omega), fun i hi => (tp i hi).1⟩, ⟨by rw [fQ 26 (by omega) (by simp)]; exact p9, by rw [aw 92 (by omega)]; exact p10, fun i hi => by rw [jq 35 (by omega) (by simp), jw 91 (by omega)]; exact p11 i hi⟩, by rw [fQ 7 (by omega) (by simp)]; exact p12, by rw [aw 108 (by omega)]; exact p13, fun i hi => by rw [jq 6 (by omega) (by simp), jw 107 (by omega)]; exact p14 i hi⟩
    · rw [jq 2 (by omega) (by simp)]
      have : hp (wa (wj w 93 (2500 * p + (nbj + (H ++ O).length)) x) 94 p ((nbj + (H ++ O).length + 1 : Nat) : Int)) p = hp w p := by unfold hp; rw [jw 88 (by omega)]
      rw [this]
      exact p4
    · rw [fq 5 (by omega) (by simp), wa_21 (by omega)]
      exact p5
  · intro i y hy
    rw [eL] at hy
    show (m2.2.2.1 (pq p 32) (nbj + i)).toInt = _
    by_cases c : i < (H ++ O).length
    · rw [List.getElem?_append_left c] at hy
      rw [z5 _ (by omega), if_neg (by omega)]
      exact h4 i y hy
    · rw [List.getElem?_append_right (by omega)] at hy
      have ei : i = (H ++ O).length := by
        apply Classical.byContradiction
        intro cc
        rw [List.getElem?_eq_none (by show 1 ≤ _; omega)] at hy
        cases hy
      subst ei
      rw [Nat.sub_self] at hy
      have hy2 : s = y := by simpa using hy
      subst hy2
      rw [z5 _ (by omega), if_pos rfl]
      exact I_ti (by omega) (by omega)
  · rw [List.nodup_append]
    exact ⟨h5b, by simp, fun a ha c hc e => hs (by rw [List.mem_singleton.mp hc] at e; rw [← e]; exact ha)⟩
  · rw [el]
    exact tp
end
section
variable {β : Type} {b : Int → Nat → Nat → Prop} {Fv Fv' : Int64 → Int64 → Prop} {P P' : Int64 → Prop} {ow kd ow' kd' fa' : Nat → Nat} {N p B0 jf nbj U W Y na : Nat} {H : List Nat} {m0 w0 : MS} {Q : MS → Int32 → MS → β → Prop} {K : MS → Int32 → Option (MS × β)}
def RSk (w : MS) (P0 : Nat → Int) (X0 : Nat → Int64) (many : Nat) : Prop := ∀ k, k < many → A w 160 k = P0 k ∧ w.2.2.2 161 k = X0 k
theorem pr_row {K1 i : Nat} (h : K1 = 8 ∨ K1 = 18 ∨ K1 = 19 ∨ (23 ≤ K1 ∧ K1 ≤ 31) ∨ (33 ≤ K1 ∧ K1 ≤ 45) ∨ (47 ≤ K1 ∧ K1 ≤ 57)) : ROs w0 K1 i = A w0 K1 i := if_pos h
theorem tl_iso {t x : Int64} {h h' : Nat → Int64} (is : ISb b h U h' U) (g : HPc h U ow kd Fv P) (g' : HP h' U ow' kd' Fv' P') (q : TPb b U ow kd P U ow' kd' P' t x) : ∀ k, (∀ i, i < k → so (tlc h t i) = 7) → TPb b U ow kd P U ow' kd' P' (tlc h t k) (tlc h' x k)
  | 0, _ => q
  | k + 1, hk => (TP_pair is g g' (tl_iso is g g' q k (fun i hi => hk i (by omega))) (hk k (by omega))).2.2
theorem sp_iso {t x : Int64} {h h' : Nat → Int64} {n : Nat} {tl : Bool} (is : ISb b h U h' U) (g : HPc h U ow kd Fv P) (g' : HP h' U ow' kd' Fv' P') (q : TPb b U ow kd P U ow' kd' P' t x) : SPn h t n tl ↔ SPn h' x n tl := by
  have fw : ∀ k, (∀ i, i < k → so (tlc h' x i) = 7) → (∀ i, i < k → so (tlc h t i) = 7) := by
    intro k
    induction k with
    | zero => intro _ i hi; omega
    | succ k ih =>
      intro h1 i hi
      have h2 := ih (fun i hi => h1 i (by omega))
      by_cases c : i = k
      · subst c
        have := (tl_iso is g g' q i h2).1
        rw [← RTb_so this]
        exact h1 i (by omega)
      · exact h2 i (by omega)
  constructor
  · intro s
    refine ⟨fun k hk => ?_, fun e => ?_⟩
    · rw [RTb_so (tl_iso is g g' q k (fun i hi => s.1 i (by omega))).1]; exact s.1 k hk
    · rw [RTb_so (tl_iso is g g' q n s.1).1]; exact s.2 e
  · intro s
    have h2 := fw n s.1
    exact ⟨h2, fun e => by rw [← RTb_so (tl_iso is g g' q n h2).1]; exact s.2 e⟩
end
end
section
set_option maxRecDepth 100000
section
variable {C : Nat → Int} {R : Nat → Nat → Int} {J : Nat → Int64} {H : List Nat}
theorem PTs_pre : ∀ {f i p j : Nat} {O O2 : List Nat}, PTs C R J H f i p O j O2 → ∃ X, O2 = O ++ X
  | 0, _, _, _, _, _, z => z.elim
  | f + 1, i, p, j, O, O2, z => by
    have lp : ∀ {n : Nat} {co : Nat → List Nat}, (∀ k, k < n → ∃ X, co (k + 1) = co k ++ X) → ∃ X, co n = co 0 ++ X := by
      intro n co h
      induction n with
      | zero => exact ⟨[], by simp⟩
      | succ n ih =>
        obtain ⟨X, hX⟩ := ih (fun k hk => h k (by omega))
        obtain ⟨Y, hY⟩ := h n (by omega)
        exact ⟨X ++ Y, by rw [hY, hX, List.append_assoc]⟩
    rcases z with ⟨-, -, -, z⟩ | ⟨-, -, -, x, -, -, z⟩ | ⟨-, -, -, z, -⟩ | ⟨-, -, -, z, -⟩ | ⟨-, -, z, -⟩ | ⟨-, -, -, n, -, ci, cp, co, -, -, c0, cn, -, -, z⟩ | ⟨-, n, -, ci, cp, co, -, c0, -, z, e⟩
    · exact ⟨[], by rw [z]; simp⟩
    · exact ⟨[x], z⟩
    · exact ⟨[], by rw [z]; simp⟩
    · exact ⟨[], by rw [z]; simp⟩
    · exact ⟨[], by rw [z]; simp⟩
    · obtain ⟨X, hX⟩ := lp (n := n) (co := co) (fun k hk => PTs_pre (z k hk).1)
      exact ⟨X, by rw [← cn, hX, c0]⟩
    · obtain ⟨X, hX⟩ := lp (n := n) (co := co) (fun k hk => PTs_pre (z k hk).2.1)
      rcases e with ⟨-, -, -, -, -, e⟩ | ⟨-, -, -, e⟩
      · exact ⟨X, by rw [e, hX, c0]⟩
      · obtain ⟨Y, hY⟩ := PTs_pre e
        exact ⟨X ++ Y, by rw [hY, hX, c0, List.append_assoc]⟩
theorem pre_le {O O2 : List Nat} (h : ∃ X, O2 = O ++ X) : (H ++ O).length ≤ (H ++ O2).length := by
  obtain ⟨X, rfl⟩ := h
  simp
end
section
variable {β : Type} {N p : Nat} {Q : MS → Int32 → MS → β → Prop} {Z : Option (MS × β)}
theorem tupl_pp {v4 : Int32} {cnt : Nat} {z : Int64} {nn : Nat} {h : Nat → Int64} (hv : va z = ((vn z : Nat) : Int)) (hv2 : vn z + nn < 100000) : ∀ (d M top : Nat) (m : MS), d ≤ nn → top + d < 200000 → m.2.2.2 (pq p 2) = h → (∀ (M2 : Nat) (m2 : MS), FR [] [] [] [44] m m2 → (∀ k, k < top → m2.2.2.2 44 k = m.2.2.2 44 k) → (∀ k, k < d → m2.2.2.2 44 (top + k) = h (vn z + (d - k))) → PP Q ((hg_Ma_fit N M2).1 m2 p (v4 + 2) (I ((top + d : Nat) : Int)) (I ((cnt + 1 : Nat) : Int))) Z) → PP Q ((hg_Ma_fit N M).2 m p v4 (I ((top : Nat) : Int)) (I ((cnt : Nat) : Int)) z (I ((d : Nat) : Int))) Z := by
  intro d
  induction d with
  | zero =>
    intro M top m _ ht _ k
    cases M with
    | zero => exact pp_nl
    | succ M =>
      show PP Q (hb_Ma_fit_268 N (hg_Ma_fit N M) m p v4 (I ((top : Nat) : Int)) (I ((cnt : Nat) : Int)) z (I ((0 : Nat) : Int))) Z
      unfold hb_Ma_fit_268 hb_Ma_fit_364
      rw [show decide (I ((0 : Nat) : Int) ≤ 0) = true from rfl, br_tq, show I ((cnt : Nat) : Int) + 1 = I ((cnt + 1 : Nat) : Int) from addN]
      exact k M m FR.rf (fun _ _ => rfl) (fun i hi => by omega)
  | succ d ih =>
    intro M top m hd ht hh k
    cases M with
    | zero => exact pp_nl
    | succ M =>
      show PP Q (hb_Ma_fit_268 N (hg_Ma_fit N M) m p v4 (I ((top : Nat) : Int)) (I ((cnt : Nat) : Int)) z (I ((d + 1 : Nat) : Int))) Z
      unfold hb_Ma_fit_268
      rw [lit0q, decI (by omega) (by omega) (by omega) (by omega), decide_eq_false (by omega), br_fq]
      refine l_ck (fun _ => l_ck (fun _ => l_lt ?_))
      rw [valI, hv, addN, tnI (n := vn z + (d + 1)) rfl (by omega), tnI (n := top) rfl (by omega), show I ((top : Nat) : Int) + 1 = I ((top + 1 : Nat) : Int) from addN, show I ((d + 1 : Nat) : Int) + (-1) = I ((d : Nat) : Int) by rw [m1I, I_add]; congr 1; omega, hh, wj_e]
      have e2 : (wj m 44 top (h (vn z + (d + 1)))).2.2.2 (pq p 2) = h := (wj_22 (fun c => pq_n (by omega) c.symm)).trans hh
      refine ih M (top + 1) _ (by omega) (by omega) e2 (fun M2 m2 f r1 r2 => ?_)
      rw [show top + 1 + d = top + (d + 1) by omega]
      refine k M2 m2 (FR.tr (FR.wj FR.rf (by simp)) f) (fun i hi => ?_) (fun i hi => ?_)
      · rw [r1 i (by omega), wj_row, if_neg (by omega)]
      · by_cases c : i = 0
        · subst c
          rw [Nat.add_zero, r1 top (by omega), wj_row, if_pos rfl, Nat.sub_zero]
        · have := r2 (i - 1) (by omega)
          rw [show top + 1 + (i - 1) = top + i by omega] at this
          rw [this]
          congr 2
          omega
theorem pp_pk {A' : Type} {Q1 : MS → A' → MS → β → Prop} {q : MS → A' → Prop} {a : Option (MS × A')} (h : PK q a) (k : ∀ m3 z, q m3 z → PP Q1 (some (m3, z)) Z) : PP Q1 a Z := fun m z w r e1 e2 => k m z (h m z e1) m z w r rfl e2
end
section
variable {b : Int → Nat → Nat → Prop} {Fv Fv' : Int64 → Int64 → Prop} {P P' : Int64 → Prop} {ow kd ow' kd' : Nat → Nat} {N p B0 U : Nat} {m0 : MS} {t x : Int64}
theorem doom_l {n : Nat} {ci : Nat → Nat} {f : Nat} {tl : Bool} (g : HPc (m0.2.2.2 (pq p 2)) U ow kd Fv P) (hU : U ≤ 500) (hc7 : ∀ k, k < n → A m0 23 (ci k) = 7 ∧ ∃ f2, PCq (A m0 23) f2 (ci k + 1) (ci (k + 1))) (hb : ∀ k, k ≤ n → ci k + 3 < 24000) (hend : tl = false → A m0 23 (ci n) = 1 ∧ A m0 23 (ci n + 1) = 6 ∧ A m0 23 (ci n + 2) = 0) (ns : ¬ SPn (m0.2.2.2 (pq p 2)) t n tl) : ∀ (d k M cnt top : Nat) (s : Nat → Int64) (m : MS), k + d = n → (∀ i, i < k → so (tlc (m0.2.2.2 (pq p 2)) t i) = 7) → GT U ow kd P (tlc (m0.2.2.2 (pq p 2)) t k) → KFb p B0 m0 s (top + 1) m → s top = tlc (m0.2.2.2 (pq p 2)) t k → cnt ≤ ci k → top + 8 < 2048 → PK (fun m3 z => z = I (-1) ∧ NFx p B0 m0 m3) ((hg_Ma_fit N M).1 m p (I ((ci k : Nat) : Int)) (I ((top + 1 : Nat) : Int)) (I ((cnt : Nat) : Int))) := by
  intro d
  induction d with
  | zero =>
    intro k M cnt top s m hk sp gt kb st hc ht
    have : k = n := by omega
    subst this
    have hbk := hb k (Nat.le_refl _)
    cases tl with
    | true => exact absurd ⟨sp, fun e => by cases e⟩ ns
    | false =>
      obtain ⟨c1, c2, c3⟩ := hend rfl
      have n6 : so (tlc (m0.2.2.2 (pq p 2)) t k) ≠ 6 := fun z => ns ⟨sp, fun _ => z⟩
      refine pk_pp (m0 := m0) (fitc_1 (t := tlc (m0.2.2.2 (pq p 2)) t k) (by rw [kb.1.c]; exact c1) (by omega) (by omega) (by omega) (by rw [kb.2 top (by omega)]; exact st) (fun e => ?_) (fun _ => pp_end ⟨rfl, kb.1⟩))
      rw [kb.1.c, c2, c3] at e
      exact absurd (by rw [e]; exact so_mk (by omega) (by omega)) n6
  | succ d ih =>
    intro k M cnt top s m hk sp gt kb st hc ht
    have kn : k < n := by omega
    obtain ⟨c7, f2, pc⟩ := hc7 k kn
    have hbk := hb k (by omega)
    have hbk1 := hb (k + 1) (by omega)
    have pcl := PCq_lt pc
    have e44 : m.2.2.2 44 top = tlc (m0.2.2.2 (pq p 2)) t k := by rw [kb.2 top (by omega)]; exact st
    refine pk_pp (m0 := m0) (fitc_7 (t := tlc (m0.2.2.2 (pq p 2)) t k) (by rw [kb.1.c]; exact c7) (by omega) (by omega) (by omega) e44 (fun e7 => ?_) (fun e7 M3 => ?_) (fun _ => pp_end ⟨rfl, kb.1⟩))
    · obtain ⟨a1, a2, -⟩ := pair_at g gt e7
      exact ⟨a1, by omega⟩
    · obtain ⟨a1, a2, a3, a4⟩ := pair_at g gt e7
      refine pp_pk (q := fun m3 z => z = I (-1) ∧ NFx p B0 m0 m3) ?_ (fun m3 z h => pp_end h)
      rw [kb.1.h]
      have k1 := KFb_w (z := m0.2.2.2 (pq p 2) (vn (tlc (m0.2.2.2 (pq p 2)) t k) + 1)) (KFb_l kb (show top ≤ top + 1 by omega))
      have k2 := KFb_w (z := m0.2.2.2 (pq p 2) (vn (tlc (m0.2.2.2 (pq p 2)) t k))) k1
      refine pc_one (fun _ h => ⟨rfl, h⟩) pc M3 (top + 1) (cnt + 1) _ _ k2 (by omega) (by omega) (by omega) (fun M4 cnt4 m4 kb4 hc4 => ?_)
      refine ih (k + 1) M4 cnt4 top _ m4 (by omega) (fun i hi => ?_) a4 kb4 ?_ hc4 ht
      · by_cases c : i = k
        · rw [c]; exact e7
        · exact sp i (by omega)
      · rw [if_neg (show ¬ top = top + 1 by omega)]
        exact if_pos rfl
end
section
variable {β : Type} {b : Int → Nat → Nat → Prop} {Fv Fv' : Int64 → Int64 → Prop} {P P' : Int64 → Prop} {ow kd ow' kd' fa' : Nat → Nat} {N p B0 jf nbj U W Y na : Nat} {H : List Nat} {m0 w0 : MS} {Q : MS → Int32 → MS → β → Prop} {K : MS → Int32 → Option (MS × β)}
theorem TP_tup {h h' : Nat → Int64} {t x : Int64} (is : ISb b h U h' U) (g : HPc h U ow kd Fv P) (g' : HP h' U ow' kd' Fv' P') (q : TPb b U ow kd P U ow' kd' P' t x) (e5 : so t = 5) : (so x = 5 ∧ va t = ((vn t : Nat) : Int) ∧ va (h (vn t)) = ((vn (h (vn t)) : Nat) : Int) ∧ vn t + (1 + vn (h (vn t))) ≤ U ∧ vn (h' (vn x)) = vn (h (vn t))) ∧ ∀ j, 1 ≤ j → j ≤ vn (h (vn t)) → TPb b U ow kd P U ow' kd' P' (h (vn t + j)) (h' (vn x + j)) := by
  obtain ⟨r, gt, gt'⟩ := q
  have ex : so x = 5 := by rw [RTb_so r]; exact e5
  obtain ⟨a1, a2, a3, a4⟩ := tup_at g gt e5
  have hx : isH x := Or.inr (Or.inl ex)
  have hb2 : blk h' x = 1 + vn (h' (vn x)) := by unfold blk; rw [if_neg (by omega), if_pos ex]
  have hb1 : blk h t = 1 + vn (h (vn t)) := by unfold blk; rw [if_neg (by omega), if_pos e5]
  have hpx : prt x = 1 := by unfold prt; rw [if_neg (by omega), if_pos ex]
  have hpt : prt t = 1 := by unfold prt; rw [if_neg (by omega), if_pos e5]
  obtain ⟨bk, b2⟩ := HP_bk g' hx gt'
  obtain ⟨⟨bl1, -, -⟩, bl2, -⟩ := is.1 t x (Or.inr (Or.inl e5)) r
  rw [hb1, hb2] at bl1
  rw [hpt, hb1] at bl2
  rw [hpx, hb2] at b2
  exact ⟨⟨ex, a1, a2, a3, by omega⟩, fun j h1 h2 => ⟨bl2 j h1 (by omega), a4 j h1 h2, b2 j h1 (by omega)⟩⟩
theorem fit_one (ft : FTx b Fv P Fv' P' ow kd ow' kd' p jf nbj U na fa' H m0 w0) (kf : ∀ m3 w3, NFx p B0 m0 m3 → FWx p B0 w0 w3 → PP Q (some (m3, -1)) (K w3 0)) (hN : 200000 ≤ N) : ∀ {f i pp j : Nat} {O O2 : List Nat}, PTs (A m0 23) (ROs w0) (w0.2.2.2 34) H f i pp O j O2 → ∀ (M M2 top cnt many : Nat) (s : Nat → Int64) (P0 : Nat → Int) (X0 : Nat → Int64) (m w : MS) (t x : Int64), FSt b P P' ow kd ow' kd' p B0 nbj U W Y H O m0 w0 m w → (∀ k, k < top → m.2.2.2 44 k = s k) → m.2.2.2 44 top = t → RSk w P0 X0 many → A w 160 many = ((pp : Nat) : Int) → w.2.2.2 161 many = x → TPb b U ow kd P U ow' kd' P' t x → j + 3 < 24000 → cnt ≤ i → top + 8 * f + 8 < 2040 → many + 20 * f < 50000 → nbj + (H ++ O2).length ≤ 2500 → (∀ (M3 M4 cnt3 : Nat) (m3 w3 : MS), FSt b P P' ow kd ow' kd' p B0 nbj U W Y H O2 m0 w0 m3 w3 → (∀ k, k < top → m3.2.2.2 44 k = s k) → RSk w3 P0 X0 many → cnt3 ≤ j → PP Q ((hg_Ma_fit N M3).1 m3 p (I ((j : Nat) : Int)) (I ((top : Nat) : Int)) (I ((cnt3 : Nat) : Int))) (bnd (gg_M_fits N M4 w3 (I ((many : Nat) : Int))) K)) → PP Q ((hg_Ma_fit N M).1 m p (I ((i : Nat) : Int)) (I ((top + 1 : Nat) : Int)) (I ((cnt : Nat) : Int))) (bnd (gg_M_fits N M2 w (I ((many + 1 : Nat) : Int))) K)
  | 0, _, _, _, _, _, z => z.elim
  | f + 1, i, pp, j, O, O2, z => by
    intro M M2 top cnt many s P0 X0 m w t x fs hst ht rs h160 h161 q hj hc htop hmany hlen ks
    have ij := PTs_lt z
    have pre := pre_le (H := H) (PTs_pre z)
    obtain ⟨⟨hpp, h133⟩, ⟨h95, hjf, h99, h101⟩, ⟨is, g, g', hU⟩, cx, hF', hA, hH⟩ := id ft
    obtain ⟨nf, fw, pl, nms, ⟨hB0, hO⟩, tp⟩ := id fs
    have hm : many < 100000 := by omega
    have ec : ∀ k, A m 23 k = A m0 23 k := fun k => congrFun nf.c k
    have er : ∀ K1 k, (K1 = 8 ∨ K1 = 18 ∨ K1 = 19 ∨ (23 ≤ K1 ∧ K1 ≤ 31) ∨ (33 ≤ K1 ∧ K1 ≤ 45) ∨ (47 ≤ K1 ∧ K1 ≤ 57)) → A w K1 k = ROs w0 K1 k := fun K1 k h => by rw [pr_row h]; exact FR.A fw.1 (by simp; omega)
    have wF : F w 133 = ((p : Nat) : Int) := by rw [FR.F fw.1 (by simp)]; exact h133
    have hpw : hp w p = hp w0 p := by unfold hp; rw [fw.1.2.2.2 88 (by simp)]
    have hh := nf.h
    have rpp : pp < 2147483648 := by
      have := A_r w 160 many
      rw [h160] at this
      omega
    rcases z with ⟨z1, z2, z3, z4⟩ | ⟨z1, z2, z3, y, z4, z5, z6⟩ | ⟨z1, z2, z3, z4, z5⟩ | ⟨z1, z2, z3, z4, z5, z6⟩ | ⟨z1, z2, z4, l, ⟨s0, bb, z5, z6, z7, z8, z9⟩, z3⟩ | ⟨z1, z2, z3, n, ⟨z4, z5⟩, ci, cp, co, c0, cn, o0, on, z6, z7, z8⟩ | ⟨z1, n, ⟨z2, n8⟩, ci, cp, co, c0, o0, z6, z7, z8⟩
    · 
      subst z4
      refine fitc_5 (by rw [ec]; exact z2) (by omega) (by omega) (by omega) (fun M3 => fits_0 h160 h161 (by rw [er 33 _ (by omega)]; exact z1) hm (fun M4 => ?_))
      rw [← z3]
      exact ks M3 M4 (cnt + 1) m w fs hst rs (by omega)
    · 
      subst z6
      have el : (H ++ (O ++ [y])).length = (H ++ O).length + 1 := by simp; omega
      obtain ⟨B1, b1, b2, b3, b4⟩ := nf.2.1
      have eB : B1 = nbj + (H ++ O).length := by have := pl.2.1.1; omega
      subst eB
      have e94 : A w 94 p = ((nbj + (H ++ O).length : Nat) : Int) := pl.2.1.2.1
      have ey : A m 23 (i + 1) = ((y : Nat) : Int) := by rw [ec]; exact z4
      have ry := A_r m 23 (i + 1)
      rw [ey] at ry
      refine fitc_4 (by rw [ec]; exact z2) (by omega) (by omega) (by omega) (fun M3 => ?_)
      refine l_bnd (pk_mo (bindc_m (a := I (A m 23 (i + 1))) (t := m.2.2.2 44 top) b2 b3 b4) (fun m3 _ zz => ?_))
      obtain ⟨q1, q2, q3, q4, q5, q6⟩ := zz
      refine fits_1 (B := nbj + (H ++ O).length) h160 h161 (by rw [er 33 _ (by omega)]; exact z1) hm hpp wF e94 (by omega) (fun M4 => ?_)
      rw [← z3]
      rw [ey] at q5
      rw [ht] at q6
      refine ks M3 M4 (cnt + 1) m3 _ (FSt_bind fs hpp q z5 (by omega) (by omega) q1 q3 q4 q5 q6) (fun k hk => by rw [q2]; exact hst k hk) (fun k hk => ⟨?_, ?_⟩) (by omega)
      · rw [wa_rne (by omega), A_wj]; exact (rs k hk).1
      · rw [J_wa, wj_22 (by omega)]; exact (rs k hk).2
    · 
      subst z4
      have e24 : F m (pq p 24) = ((nbj + (H ++ O2).length : Nat) : Int) := pl.2.1.1
      refine fitc_3 (by rw [ec]; exact z2) (by omega) (by omega) (by omega) (fun M3 => fits_2 h160 h161 (by rw [er 33 _ (by omega)]; exact z1) hm (fun M4 => ?_))
      have fwA : ∀ K1 k, K1 ≠ 94 → K1 ≠ 160 → K1 ≠ 162 → A w K1 k = A w0 K1 k := fun K1 k a1 a2 a3 => FR.A fw.1 (by simp; omega)
      obtain ⟨k0, k0l, n1, n2⟩ := name_two (N := N) (v := A m 23 (i + 1)) (i := A w 35 pp) hpp wF ((fwA 95 p (by omega) (by omega) (by omega)).trans h95) hjf ((fwA 99 _ (by omega) (by omega) (by omega)).trans h99) ((fwA 101 _ (by omega) (by omega) (by omega)).trans h101) e24 hlen nms ⟨hO, hH⟩ (by rw [ec, er 35 _ (by omega)]; exact z5) (A_r _ _ _) (A_r _ _ _)
      refine l_bnd (pk_mo n1 (fun m3 r h => ?_))
      obtain ⟨rfl, rfl⟩ := h
      refine rb_bnd (pk_mo n2 (fun w3 r h => ?_))
      obtain ⟨rfl, rfl⟩ := h
      refine r_bb ?_
      have hAt : ATf m3 w3 fa' na := ATf_k hA (nf.1.1 22 (by omega) (by simp)) (nf.1.2.2.1 2 (by omega) (by simp)) (nf.1.2.2.1 3 (by omega) (by simp)) (fw.1.1 14 (by simp)) (fw.1.2.2.1 12 (by simp)) (fw.1.2.2.1 13 (by simp))
      have cx3 : CTX Fv P m3 := CTX_fr cx (nf.1.1 22 (by omega) (by simp)) (nf.1.2.2.1 3 (by omega) (by simp))
      have op := order_pp (N := N) (v := pq p 2) (m := m3) (w := w3) (p := p) (h := m0.2.2.2 (pq p 2)) (h' := hp w0 p) (n0 := U) (n0' := U) ⟨fun c => pq_n (by omega) c.symm, fun c => pq_n (by omega) c.symm⟩ hh hpw g hU cx3.1 cx3.2.1 cx3.2.2.1 g' hU (by omega) wF hF' is hAt hN (tp (nbj + k0) (by omega)) q
      rw [ht]
      refine pp_bb (pp_mo op (fun m4 r4 w4 r5 h => ?_))
      obtain ⟨⟨f4, g4⟩, sg⟩ := h
      have sd := (sgn_d sg).1
      have fs4 := FSt_w (FSt_m fs (FR.mo f4 (by simp) (by simp) (by simp) (by simp))) (FR.mo g4 (by simp) (by simp) (by simp) (by simp))
      rw [sd]
      cases hd : decide (r5 = 0) with
      | true =>
        rw [br_tq, br_tq, ← z3]
        exact ks M3 M4 (cnt + 1) m4 w4 fs4 (fun k hk => by rw [f4.2.2.2 44 (by simp)]; exact hst k hk) (fun k hk => ⟨by rw [FR.A g4 (by simp)]; exact (rs k hk).1, by rw [g4.2.2.2 161 (by simp)]; exact (rs k hk).2⟩) (by omega)
      | false =>
        rw [br_fq, br_fq]
        exact kf m4 w4 fs4.1 fs4.2.1
    · 
      subst z4
      have ez : mk (A m0 23 (i + 1)) (A m0 23 (i + 2)) = w0.2.2.2 34 pp := z5.symm
      have nh : ¬ isH (mk (A m0 23 (i + 1)) (A m0 23 (i + 2))) := nh_mk (by omega)
      have w34 : w.2.2.2 34 pp = mk (A m0 23 (i + 1)) (A m0 23 (i + 2)) := by rw [fw.1.2.2.2 34 (by simp), ez]
      refine fitc_1 (t := t) (by rw [ec]; exact z2) (by omega) (by omega) (by omega) ht (fun e M3 => ?_) (fun ne => ?_)
      · rw [ec, ec] at e
        refine fits_3 h160 h161 (by rw [er 33 _ (by omega)]; exact z1) hm (fun _ M4 => ?_) (fun c => absurd (by rw [w34]; exact (RTb_nh nh q.1).mp e) c)
        rw [← z3]
        exact ks M3 M4 (cnt + 1) m w fs hst rs (by omega)
      · rw [ec, ec] at ne
        refine fits_3 h160 h161 (by rw [er 33 _ (by omega)]; exact z1) hm (fun e => ?_) (fun _ => kf m w nf fw)
        rw [w34] at e
        exact absurd ((RTb_nh nh q.1).mpr e) ne
    · 
      subst z4
      have e19 : A w 19 s0 = ((bb : Nat) : Int) := by rw [er 19 _ (by omega)]; exact z6
      have e19' : A w 19 (s0 + 1) = ((bb + l : Nat) : Int) := by rw [er 19 _ (by omega)]; exact z7
      have el : A m 23 (i + 1) = ((l : Nat) : Int) := by rw [ec]; exact z8
      have rs0 := A_r w 35 pp
      rw [er 35 _ (by omega), z5] at rs0
      refine fitc_2 (l := l) (by rw [ec]; exact z2) (by omega) (by omega) (by omega) el (fun M3 => fits_4 h160 h161 (by rw [er 33 _ (by omega)]; exact z1) hm (fun M4 => ?_))
      rw [er 35 _ (by omega), z5, ht]
      refine r_bb ?_
      have is' : ISb b (m.2.2.2 (pq p 2)) U (hp w p) U := by rw [hh, hpw]; exact is
      have g1 : HPc (m.2.2.2 (pq p 2)) U ow kd Fv P := by rw [hh]; exact g
      have g2 : HP (hp w p) U ow' kd' Fv' P' := by rw [hpw]; exact g'
      refine pp_bb (pp_mo (str_pp (N := N) (l := l) (s0 := s0) (bb := bb) hpp wF is' g1 (by omega) g2 hU e19 e19' el (fun k hk => ?_) (by omega) (by omega) q) (fun m4 r4 w4 r5 h => ?_))
      · have := z9 k hk
        rw [show i + 1 + 1 + k = i + 2 + k by omega] at this
        rw [ec, er 18 _ (by omega)]
        exact this
      · obtain ⟨⟨rfl, rfl⟩, ⟨rfl, rfl⟩ | ⟨rfl, rfl⟩⟩ := h
        · rw [show decide ((0 : Int32) = 0) = true from rfl, br_tq, br_tq]
          exact kf m4 w4 nf fw
        · rw [show decide ((1 : Int32) = 0) = false from rfl, br_fq, br_fq, ← z3]
          exact ks M3 M4 (cnt + 1) m4 w4 fs hst rs (by omega)
    · 
      have e35 : A w 35 pp = ((n : Nat) : Int) := by rw [er 35 _ (by omega)]; exact z4
      have e35m : A m 23 (i + 1) = ((n : Nat) : Int) := by rw [ec, z3]; exact z4
      have e36 : A w 36 pp = if 0 < n then ((cp 0 : Nat) : Int) else -1 := by
        rw [er 36 _ (by omega)]
        by_cases c : 0 < n
        · rw [if_pos c]; exact z6 c
        · rw [if_neg c]; exact z7 (by omega)
      have nx : ∀ k, k < n → A w 37 (cp k) = if k + 1 < n then ((cp (k + 1) : Nat) : Int) else -1 := fun k hk => by
        rw [er 37 _ (by omega)]
        by_cases c : k + 1 < n
        · rw [if_pos c]; exact (z8 k hk).2.1 c
        · rw [if_neg c]; exact (z8 k hk).2.2 (by omega)
      have cpb : ∀ k, k < n → cp k < 2147483648 := fun k hk => by
        cases k with
        | zero =>
          have := A_r w 36 pp
          rw [e36, if_pos hk] at this
          omega
        | succ k =>
          have := A_r w 37 (cp k)
          rw [nx k (by omega), if_pos hk] at this
          omega
      have cil : ∀ k, k ≤ n → ci k ≤ j := fun k hk => by
        have := up_le (c := ci) (n := n) (fun k hk => Nat.le_of_lt (PTs_lt (z8 k hk).1)) (n - k) k (by omega)
        rw [show k + (n - k) = n by omega, cn] at this
        exact this
      have col : ∀ k, k ≤ n → (H ++ co k).length ≤ (H ++ O2).length := fun k hk => by
        have := up_le (c := fun k => (H ++ co k).length) (n := n) (fun k hk => pre_le (PTs_pre (z8 k hk).1)) (n - k) k (by omega)
        rw [show k + (n - k) = n by omega, on] at this
        exact this
      have hhh : so t = 5 → va t = ((vn t : Nat) : Int) ∧ vn t < 512 ∧ va (m.2.2.2 (pq p 2) (vn t)) = ((vn (m.2.2.2 (pq p 2) (vn t)) : Nat) : Int) := fun e => by
        obtain ⟨⟨-, a1, a2, a3, -⟩, -⟩ := TP_tup is g g' q e
        rw [hh]
        exact ⟨a1, by omega, a2⟩
      have g2 : HP (hp w p) U ow' kd' Fv' P' := by rw [hpw]; exact g'
      have pr5 := parts5_r (N := N) (many := many) (n := n) (cp := cp) (x := x) (pp := pp) hpp wF g2 hU q.2.2 (by rw [er 33 _ (by omega)]; exact z1) e35 e36 rpp z5 (by omega) cpb nx
      by_cases cT : so t = 5 ∧ vn (m.2.2.2 (pq p 2) (vn t)) = n
      · obtain ⟨⟨a0, a1, a2, a3, a4⟩, tpp⟩ := TP_tup is g g' q cT.1
        rw [← hh] at a3 a4 tpp
        rw [← hpw] at a4 tpp
        rw [cT.2] at a3 a4 tpp
        refine fitc_6 (t := t) (n := n) (by rw [ec]; exact z2) (by omega) (by omega) (by omega) e35m z5 ht hhh (fun _ _ M3 => ?_) (fun c => absurd cT c)
        refine fits_5 h160 h161 (by rw [er 33 _ (by omega)]; exact z1) hm (fun M4 => ?_)
        refine rb_bnd (pk_mo pr5 (fun w3 r3 hw3 => ?_))
        obtain ⟨f3, ⟨-, c⟩ | ⟨rfl, -, -, pk1, pk2⟩⟩ := hw3
        · exact absurd ⟨a0, a4⟩ c
        rw [m1I, decE (by omega) (by omega) (by omega) (by omega), decide_eq_false (by omega), br_fq]
        refine tupl_pp (h := m.2.2.2 (pq p 2)) (nn := n) a1 (by omega) n M3 top m (Nat.le_refl _) (by omega) rfl (fun M5 m5 f5 r1 r2 => ?_)
        have fs5 := FSt_w (FSt_m fs (FR.mo f5 (by simp) (by simp) (by simp) (by simp))) (FR.mo f3 (by simp) (by simp) (by simp) (by simp))
        have inn : ∀ (d M6 M7 cnt6 : Nat) (m6 w6 : MS), d ≤ n → FSt b P P' ow kd ow' kd' p B0 nbj U W Y H (co (n - d)) m0 w0 m6 w6 → (∀ k, k < top + d → m6.2.2.2 44 k = if k < top then s k else m.2.2.2 (pq p 2) (vn t + (n - (k - top)))) → RSk w6 (fun k => if k < many then P0 k else ((cp (n - 1 - (k - many)) : Nat) : Int)) (fun k => if k < many then X0 k else hp w p (vn x + 1 + (n - 1 - (k - many)))) (many + d) → cnt6 ≤ ci (n - d) → PP Q ((hg_Ma_fit N M6).1 m6 p (I ((ci (n - d) : Nat) : Int)) (I ((top + d : Nat) : Int)) (I ((cnt6 : Nat) : Int))) (bnd (gg_M_fits N M7 w6 (I ((many + d : Nat) : Int))) K) := by
          intro d
          induction d with
          | zero =>
            intro M6 M7 cnt6 m6 w6 _ fs6 st6 rs6 hc6
            rw [Nat.sub_zero, cn] at hc6 ⊢
            rw [Nat.sub_zero, on] at fs6
            refine ks M6 M7 cnt6 m6 w6 fs6 (fun k hk => ?_) (fun k hk => ?_) hc6
            · rw [st6 k (by omega), if_pos hk]
            · obtain ⟨x1, x2⟩ := rs6 k (by omega)
              dsimp only at x1 x2
              rw [if_pos hk] at x1 x2
              exact ⟨x1, x2⟩
          | succ d ih =>
            intro M6 M7 cnt6 m6 w6 hd fs6 st6 rs6 hc6
            obtain ⟨p8, -, -⟩ := z8 (n - (d + 1)) (by omega)
            rw [show n - (d + 1) + 1 = n - d by omega] at p8
            have rsd := rs6 (many + d) (by omega)
            dsimp only at rsd
            rw [if_neg (show ¬ many + d < many by omega), if_neg (show ¬ many + d < many by omega), show n - 1 - (many + d - many) = n - (d + 1) by omega] at rsd
            have std := st6 (top + d) (by omega)
            rw [if_neg (by omega), show n - (top + d - top) = n - (d + 1) + 1 by omega] at std
            have cd := cil (n - d) (by omega)
            have ld := col (n - d) (by omega)
            refine fit_one ft kf hN p8 M6 M7 (top + d) cnt6 (many + d) _ _ _ m6 w6 _ _ fs6 (fun k hk => st6 k (by omega)) std (fun k hk => rs6 k (by omega)) rsd.1 rsd.2 ?_ (by omega) hc6 (by omega) (by omega) (by omega) (fun M8 M9 cnt8 m8 w8 fs8 st8 rs8 hc8 => ih M8 M9 cnt8 m8 w8 (by omega) fs8 st8 rs8 hc8)
            have := tpp (n - (d + 1) + 1) (by omega) (by omega)
            rw [show vn x + 1 + (n - (d + 1)) = vn x + (n - (d + 1) + 1) by omega]
            exact this
        have fin := inn n M5 M4 (cnt + 1) m5 w3 (Nat.le_refl _) (by rw [Nat.sub_self, o0]; exact fs5) (fun k hk => ?_) (fun k hk => ?_) (by rw [Nat.sub_self, c0]; omega)
        · rw [Nat.sub_self, c0] at fin
          rw [show I ((i : Nat) : Int) + 2 = I ((i + 2 : Nat) : Int) from addN]
          exact fin
        · by_cases c : k < top
          · rw [if_pos c, r1 k c]; exact hst k c
          · rw [if_neg c]
            have := r2 (k - top) (by omega)
            rw [show top + (k - top) = k by omega] at this
            exact this
        · dsimp only
          by_cases c : k < many
          · rw [if_pos c, if_pos c]
            exact ⟨(pk2 k c).1.trans (rs k c).1, (pk2 k c).2.trans (rs k c).2⟩
          · rw [if_neg c, if_neg c]
            have := pk1 (n - 1 - (k - many)) (by omega)
            rw [show many + (n - 1 - (n - 1 - (k - many))) = k by omega] at this
            exact this
      · refine fitc_6 (t := t) (n := n) (by rw [ec]; exact z2) (by omega) (by omega) (by omega) e35m z5 ht hhh (fun a1 a2 => absurd ⟨a1, a2⟩ cT) (fun _ => ?_)
        refine fits_5 h160 h161 (by rw [er 33 _ (by omega)]; exact z1) hm (fun M4 => ?_)
        refine rb_bnd (pk_mo pr5 (fun w3 r3 hw3 => ?_))
        obtain ⟨f3, ⟨rfl, -⟩ | ⟨-, ⟨c1, c2⟩, -⟩⟩ := hw3
        · rw [show decide ((-1 : Int32) = -1) = true from rfl, br_tq]
          exact kf m w3 nf (fw.fr (FR.mo f3 (by simp) (by simp) (by simp) (by simp)))
        · have e5 : so t = 5 := by rw [← RTb_so q.1]; exact c1
          obtain ⟨⟨-, -, -, -, a4⟩, -⟩ := TP_tup is g g' q e5
          rw [← hh, ← hpw] at a4
          exact absurd ⟨e5, by omega⟩ cT
    · 
      obtain ⟨tl, tl1⟩ : ∃ tl : Bool, (tl = false ∧ ROs w0 38 pp = 0 ∧ A m0 23 (ci n) = 1 ∧ A m0 23 (ci n + 1) = 6 ∧ A m0 23 (ci n + 2) = 0 ∧ j = ci n + 3 ∧ O2 = co n) ∨ (tl = true ∧ ROs w0 38 pp = 1 ∧ 0 < n ∧ ROs w0 37 (cp (n - 1)) = ((cp n : Nat) : Int) ∧ PTs (A m0 23) (ROs w0) (w0.2.2.2 34) H f (ci n) (cp n) (co n) j O2) := by
        rcases z8 with ⟨a1, a2, a3, a4, a5, a6⟩ | ⟨a1, a2, a3, a4⟩
        · exact ⟨false, Or.inl ⟨rfl, a1, a2, a3, a4, a5, a6⟩⟩
        · exact ⟨true, Or.inr ⟨rfl, a1, a2, a3, a4⟩⟩
      have e35 : A w 35 pp = ((n : Nat) : Int) := by rw [er 35 _ (by omega)]; exact z2
      have e38 : A w 38 pp = if tl = true then 1 else 0 := by
        rw [er 38 _ (by omega)]
        rcases tl1 with ⟨rfl, a1, -⟩ | ⟨rfl, a1, -⟩
        · exact a1
        · exact a1
      have cij : ci n < j := by
        rcases tl1 with ⟨-, -, -, -, -, a1, -⟩ | ⟨-, -, -, -, a1⟩
        · omega
        · exact PTs_lt a1
      have cir : ∀ k, k < n → ci k + 1 < ci (k + 1) := fun k hk => PTs_lt (z7 k hk).2.1
      have cil : ∀ k, k ≤ n → ci k ≤ ci n := fun k hk => by
        have := up_le (c := ci) (n := n) (fun k hk => by have := cir k hk; omega) (n - k) k (by omega)
        rw [show k + (n - k) = n by omega] at this
        exact this
      have n1 : n < 12000 := by omega
      have coO : (H ++ co n).length ≤ (H ++ O2).length := by
        rcases tl1 with ⟨-, -, -, -, -, -, a1⟩ | ⟨-, -, -, -, a1⟩
        · rw [a1]; exact Nat.le_refl _
        · exact pre_le (PTs_pre a1)
      have col : ∀ k, k ≤ n → (H ++ co k).length ≤ (H ++ O2).length := fun k hk => by
        have := up_le (c := fun k => (H ++ co k).length) (n := n) (fun k hk => pre_le (PTs_pre (z7 k hk).2.1)) (n - k) k (by omega)
        rw [show k + (n - k) = n by omega] at this
        exact Nat.le_trans this coO
      have nx : ∀ k, k + 1 < n → A w 37 (cp k) = ((cp (k + 1) : Nat) : Int) := fun k hk => by rw [er 37 _ (by omega)]; exact (z7 k (by omega)).2.2 hk
      have nxl : tl = true → 0 < n ∧ A w 37 (cp (n - 1)) = ((cp n : Nat) : Int) := fun h => by
        rcases tl1 with ⟨a0, -⟩ | ⟨-, -, a2, a3, -⟩
        · rw [a0] at h; cases h
        · exact ⟨a2, by rw [er 37 _ (by omega)]; exact a3⟩
      have e36 : 0 < n → A w 36 pp = ((cp 0 : Nat) : Int) := fun h => by rw [er 36 _ (by omega)]; exact z6 h
      have cpb : ∀ k, k < n → cp k < 2147483648 := fun k hk => by
        cases k with
        | zero =>
          have := A_r w 36 pp
          rw [e36 hk] at this
          omega
        | succ k =>
          have := A_r w 37 (cp k)
          rw [nx k (by omega)] at this
          omega
      have cpn : tl = true → cp n < 2147483648 := fun h => by
        have := A_r w 37 (cp (n - 1))
        rw [(nxl h).2] at this
        omega
      have g2 : HP (hp w p) U ow' kd' Fv' P' := by rw [hpw]; exact g'
      have is' : ISb b (m.2.2.2 (pq p 2)) U (hp w p) U := by rw [hh, hpw]; exact is
      have g1 : HPc (m.2.2.2 (pq p 2)) U ow kd Fv P := by rw [hh]; exact g
      have si := sp_iso (n := n) (tl := tl) is' g1 g2 q
      refine fits_6 h160 h161 (by rw [er 33 _ (by omega)]; exact z1) hm (fun M4 => ?_)
      refine rb_bnd (pk_mo (parts6_r (N := N) (many := many) (n := n) (cp := cp) (x := x) (pp := pp) (tl := tl) hpp wF g2 hU q.2.2 (by rw [er 33 _ (by omega)]; exact z1) e35 e36 e38 rpp n1 (by omega) cpb cpn nx nxl) (fun w3 r3 hw3 => ?_))
      obtain ⟨f3, ⟨rfl, bad⟩ | ⟨rfl, good, -, pk1, pk2⟩⟩ := hw3
      · 
        rw [show decide ((-1 : Int32) = -1) = true from rfl, br_tq]
        refine pp_pk (q := fun m3 z => z = I (-1) ∧ NFx p B0 m0 m3) ?_ (fun m3 z h => by rw [h.1]; exact kf m3 w3 h.2 (fw.fr (FR.mo f3 (by simp) (by simp) (by simp) (by simp))))
        have bad2 : ¬ SPn (m0.2.2.2 (pq p 2)) t n tl := fun c => bad (si.mp (by rw [hh]; exact c))
        have := doom_l (N := N) (B0 := B0) (t := t) (ci := ci) (f := f) (n := n) (tl := tl) g hU (fun k hk => ⟨(z7 k hk).1, PTs_PC (z7 k hk).2.1⟩) (fun k hk => by have := cil k hk; omega) (fun h => by
          rcases tl1 with ⟨-, -, a2, a3, a4, -⟩ | ⟨a0, -⟩
          · exact ⟨a2, a3, a4⟩
          · rw [a0] at h; cases h) bad2 n 0 M cnt top (fun k => m.2.2.2 44 k) m (by omega) (fun i hi => by omega) q.2.1 ⟨nf, fun k _ => rfl⟩ ht (by rw [c0]; exact hc) (by omega)
        rw [c0] at this
        exact this
      · 
        have goodt := si.mpr good
        have ren : many + (if tl = true then n + 1 else n) = many + ((if tl = true then 1 else 0) + n) := by
          cases tl
          · simp
          · simp; omega
        rw [ren, m1I, decE (by omega) (by cases tl <;> simp <;> omega) (by omega) (by omega), decide_eq_false (by omega), br_fq]
        have tpk := tl_iso is' g1 g2 q
        have fs3 := FSt_w fs (FR.mo f3 (by simp) (by simp) (by simp) (by simp))
        obtain ⟨e, he⟩ : ∃ e : Nat, e = (if tl = true then 1 else 0) := ⟨_, rfl⟩
        rw [← he]
        have inn : ∀ (d M6 M7 cnt6 : Nat) (m6 w6 : MS), d ≤ n → FSt b P P' ow kd ow' kd' p B0 nbj U W Y H (co (n - d)) m0 w0 m6 w6 → (∀ k, k < top → m6.2.2.2 44 k = s k) → m6.2.2.2 44 top = tlc (m.2.2.2 (pq p 2)) t (n - d) → RSk w6 (fun k => if k < many then P0 k else ((cp (e + n - 1 - (k - many)) : Nat) : Int)) (fun k => if k < many then X0 k else if e + n - 1 - (k - many) < n then hp w p (vn (tlc (hp w p) x (e + n - 1 - (k - many)))) else tlc (hp w p) x n) (many + (e + d)) → cnt6 ≤ ci (n - d) → PP Q ((hg_Ma_fit N M6).1 m6 p (I ((ci (n - d) : Nat) : Int)) (I ((top + 1 : Nat) : Int)) (I ((cnt6 : Nat) : Int))) (bnd (gg_M_fits N M7 w6 (I ((many + (e + d) : Nat) : Int))) K) := by
          intro d
          induction d with
          | zero =>
            intro M6 M7 cnt6 m6 w6 _ fs6 st6 tt6 rs6 hc6
            rw [Nat.sub_zero] at fs6 tt6 hc6 ⊢
            have tpn := tpk n goodt.1
            have e6c : ∀ k, A m6 23 k = A m0 23 k := fun k => congrFun fs6.1.c k
            rcases tl1 with ⟨rfl, a1, a2, a3, a4, a5, a6⟩ | ⟨rfl, a1, a2, a3, a4⟩
            · obtain rfl : e = 0 := he.trans rfl
              have nil : tlc (m.2.2.2 (pq p 2)) t n = mk 6 0 := by
                have s6 := goodt.2 rfl
                exact t_ext (by rw [so_mk (by omega) (by omega)]; exact s6) (by rw [va_mk (by omega) (by omega)]; exact RTb_nil tpn.1 s6)
              refine fitc_1 (t := tlc (m.2.2.2 (pq p 2)) t n) (by rw [e6c]; exact a2) (by omega) (by omega) (by omega) tt6 (fun _ M8 => ?_) (fun c => absurd (by rw [e6c, e6c, a3, a4]; exact nil) c)
              rw [← a5]
              have rs7 : RSk w6 P0 X0 many := fun k hk => by
                obtain ⟨x1, x2⟩ := rs6 k (by omega)
                dsimp only at x1 x2
                rw [if_pos hk] at x1 x2
                exact ⟨x1, x2⟩
              exact ks M8 M7 (cnt6 + 1) m6 w6 (by rw [a6]; exact fs6) st6 rs7 (by omega)
            · obtain rfl : e = 1 := he.trans rfl
              have rsd := rs6 many (by omega)
              dsimp only at rsd
              rw [if_neg (Nat.lt_irrefl many), if_neg (Nat.lt_irrefl many), Nat.sub_self, Nat.sub_zero, show 1 + n - 1 = n by omega, if_neg (Nat.lt_irrefl n)] at rsd
              refine fit_one ft kf hN a4 M6 M7 top cnt6 many s P0 X0 m6 w6 _ _ fs6 st6 tt6 (fun k hk => ?_) rsd.1 rsd.2 tpn hj hc6 (by omega) (by omega) hlen (fun M8 M9 cnt8 m8 w8 fs8 st8 rs8 hc8 => ks M8 M9 cnt8 m8 w8 fs8 st8 rs8 hc8)
              obtain ⟨x1, x2⟩ := rs6 k (by omega)
              dsimp only at x1 x2
              rw [if_pos hk] at x1 x2
              exact ⟨x1, x2⟩
          | succ d ih =>
            intro M6 M7 cnt6 m6 w6 hd fs6 st6 tt6 rs6 hc6
            have kd : n - (d + 1) < n := by omega
            obtain ⟨c7, p8, -⟩ := z7 (n - (d + 1)) kd
            rw [show n - (d + 1) + 1 = n - d by omega] at p8
            have e7 := goodt.1 (n - (d + 1)) kd
            have tpd := tpk (n - (d + 1)) (fun i hi => goodt.1 i (by omega))
            obtain ⟨⟨x7, v1, v2, v3, v4⟩, q0, q1⟩ := TP_pair is' g1 g2 tpd e7
            have h6 : m6.2.2.2 (pq p 2) = m.2.2.2 (pq p 2) := fs6.1.h.trans hh.symm
            have cl1 := cil (n - d) (by omega)
            have cl2 := cir (n - (d + 1)) kd
            rw [show n - (d + 1) + 1 = n - d by omega] at cl2
            refine fitc_7 (t := tlc (m.2.2.2 (pq p 2)) t (n - (d + 1))) (by rw [congrFun fs6.1.c]; exact c7) (by omega) (by omega) (by omega) tt6 (fun _ => ⟨v1, by omega⟩) (fun _ M8 => ?_) (fun c => absurd e7 c)
            rw [h6]
            have fr2 : FR [] [] [] [44, 45, 46] m6 (wj (wj m6 44 top (m.2.2.2 (pq p 2) (vn (tlc (m.2.2.2 (pq p 2)) t (n - (d + 1))) + 1))) 44 (top + 1) (m.2.2.2 (pq p 2) (vn (tlc (m.2.2.2 (pq p 2)) t (n - (d + 1)))))) := FR.wj (FR.wj FR.rf (by simp)) (by simp)
            have r44 : ∀ k, (wj (wj m6 44 top (m.2.2.2 (pq p 2) (vn (tlc (m.2.2.2 (pq p 2)) t (n - (d + 1))) + 1))) 44 (top + 1) (m.2.2.2 (pq p 2) (vn (tlc (m.2.2.2 (pq p 2)) t (n - (d + 1)))))).2.2.2 44 k = if k = top + 1 then m.2.2.2 (pq p 2) (vn (tlc (m.2.2.2 (pq p 2)) t (n - (d + 1)))) else if k = top then tlc (m.2.2.2 (pq p 2)) t (n - d) else m6.2.2.2 44 k := fun k => by
              rw [wj_row]
              by_cases c : k = top + 1
              · rw [if_pos c, if_pos c]
              · rw [if_neg c, if_neg c, wj_row]
                by_cases c2 : k = top
                · rw [if_pos c2, if_pos c2, show n - d = n - (d + 1) + 1 by omega]
                  rfl
                · rw [if_neg c2, if_neg c2]
            have ed : e + (d + 1) = e + d + 1 := by omega
            have rsd := rs6 (many + (e + d)) (by omega)
            dsimp only at rsd
            rw [if_neg (show ¬ many + (e + d) < many by omega), if_neg (show ¬ many + (e + d) < many by omega), show e + n - 1 - (many + (e + d) - many) = n - (d + 1) by omega, if_pos kd] at rsd
            have ld := col (n - d) (by omega)
            rw [show many + (e + (d + 1)) = many + (e + d) + 1 by omega]
            have tlb : e ≤ 1 := by rw [he]; cases tl <;> simp
            refine fit_one ft kf hN p8 M8 M7 (top + 1) (cnt6 + 1) (many + (e + d)) (fun k => if k = top then tlc (m.2.2.2 (pq p 2)) t (n - d) else s k) _ _ _ w6 _ _ (FSt_m fs6 fr2) (fun k hk => ?_) (by rw [r44, if_pos rfl]) (fun k hk => rs6 k (by omega)) rsd.1 rsd.2 q0 (by omega) (by omega) (by omega) (by omega) (by omega) (fun M9 M10 cnt9 m9 w9 fs9 st9 rs9 hc9 => ?_)
            · rw [r44, if_neg (by omega)]
              by_cases c : k = top
              · rw [if_pos c, if_pos c]
              · rw [if_neg c, if_neg c]; exact st6 k (by omega)
            · refine ih M9 M10 cnt9 m9 w9 (by omega) fs9 (fun k hk => ?_) ?_ rs9 hc9
              · rw [st9 k (by omega), if_neg (by omega)]
              · rw [st9 top (by omega), if_pos rfl]
        have fin := inn n M M4 cnt m w3 (Nat.le_refl _) (by rw [Nat.sub_self, o0]; exact fs3) hst (by rw [Nat.sub_self]; exact ht) (fun k hk => ?_) (by rw [Nat.sub_self, c0]; exact hc)
        · rw [Nat.sub_self, c0] at fin
          exact fin
        · have tlb : (if tl = true then n + 1 else n) = e + n := by rw [he]; cases tl <;> simp <;> omega
          dsimp only
          by_cases c : k < many
          · rw [if_pos c, if_pos c]
            exact ⟨(pk2 k c).1.trans (rs k c).1, (pk2 k c).2.trans (rs k c).2⟩
          · rw [if_neg c, if_neg c]
            have := pk1 (e + n - 1 - (k - many)) (by rw [tlb]; omega)
            rw [tlb, show many + (e + n - 1 - (e + n - 1 - (k - many))) = k by omega] at this
            exact this
end
end
section
set_option maxRecDepth 100000
section
variable {α β : Type} {N M p i top cnt : Nat} {m w : MS} {Q : MS → Int32 → MS → β → Prop} {Z : Option (MS × β)} {K : MS → Int32 → Option (MS × β)}
theorem fitc_8 (hv : A m 23 i = 8) (hi : i < 24000) (hc : cnt < 1000000000) (h : PP Q (some (m, I ((i + 1 : Nat) : Int))) Z) : PP Q ((hg_Ma_fit N M).1 m p (I ((i : Nat) : Int)) (I ((top : Nat) : Int)) (I ((cnt : Nat) : Int))) Z := by
  cases M with
  | zero => exact pp_nl
  | succ M =>
  show PP Q (hb_Ma_fit_17 N (hg_Ma_fit N M) m p (I ((i : Nat) : Int)) (I ((top : Nat) : Int)) (I ((cnt : Nat) : Int))) Z
  unfold hb_Ma_fit_17 hb_Ma_fit_370
  rw [show (1000000000 : Int32) = I 1000000000 from rfl, decI (by omega) (by omega) (by omega) (by omega), decide_eq_false (by omega), br_fq, Co_e (k := i) rfl (by omega), bnd_so, hv, show decide (I 8 = 8) = true from rfl, br_tq, show I ((i : Nat) : Int) + 1 = I ((i + 1 : Nat) : Int) from addN]
  exact h
theorem fits_end {Q2 : MS → α → MS → β → Prop} {Z2 : Option (MS × α)} (h : PP Q2 Z2 (K w 1)) : PP Q2 Z2 (bnd (gg_M_fits N M w (I ((0 : Nat) : Int))) K) := by
  cases M with
  | zero => exact pp_nr
  | succ M =>
  show PP Q2 Z2 (bnd (fb_M_fits_17 N (gg_M_fits N M) w (I ((0 : Nat) : Int))) K)
  unfold fb_M_fits_17
  rw [show decide (I ((0 : Nat) : Int) ≤ 0) = true from rfl, br_tq]
  exact h
end
section
variable {β : Type} {b : Int → Nat → Nat → Prop} {Fv Fv' : Int64 → Int64 → Prop} {P P' : Int64 → Prop} {ow kd ow' kd' fa' : Nat → Nat} {N p B0 jf nbj U W Y na f i pp j : Nat} {H O O2 : List Nat} {m0 w0 m w : MS} {t x : Int64} {Q : MS → Int32 → MS → β → Prop} {K : MS → Int32 → Option (MS × β)}
theorem fits_0w {α2 : Type} {Q2 : MS → α2 → MS → β → Prop} {Z2 : Option (MS × α2)} (rp : pp < 2147483648) (h : PP Q2 Z2 (bnd (gg_M_fits N N (wj (wa w 160 0 ((pp : Nat) : Int)) 161 0 x) (I ((0 + 1 : Nat) : Int))) K)) : PP Q2 Z2 (bnd (fm_M_fits N w (I ((pp : Nat) : Int)) x) K) := by
  unfold fm_M_fits fb_M_fits_0
  refine rb_ck (fun _ => rb_lt (rb_ck (fun _ => rb_lt ?_)))
  rw [show (0 : Int32).toNatClampNeg = 0 from rfl, wa_e, wj_e]
  exact h
theorem w0_160 (rp : pp < 2147483648) : A (wj (wa w 160 0 ((pp : Nat) : Int)) 161 0 x) 160 0 = ((pp : Nat) : Int) := by rw [A_wj, wa_sm (by omega) (by omega)]
theorem w0_161 : (wj (wa w 160 0 ((pp : Nat) : Int)) 161 0 x).2.2.2 161 0 = x := by rw [wj_row, if_pos rfl]
theorem w0_fr : FR [] [] [160, 162] [141, 161, 163] w (wj (wa w 160 0 ((pp : Nat) : Int)) 161 0 x) := FR.wj (FR.wa FR.rf (by simp)) (by simp)
theorem fit_1p (ft : FTx b Fv P Fv' P' ow kd ow' kd' p jf nbj U na fa' H m0 w0) (pt : PTs (A m0 23) (ROs w0) (w0.2.2.2 34) H f i pp O j O2) (h8 : A m0 23 j = 8) (fs : FSt b P P' ow kd ow' kd' p B0 nbj U W Y H O m0 w0 m w) (ht : m.2.2.2 44 0 = t) (q : TPb b U ow kd P U ow' kd' P' t x) (rp : pp < 2147483648) (hj : j + 3 < 24000) (hf : f ≤ 230) (hlen : nbj + (H ++ O2).length ≤ 2500) (hN : 200000 ≤ N) (kf : ∀ m3 w3, NFx p B0 m0 m3 → FWx p B0 w0 w3 → PP Q (some (m3, -1)) (K w3 0)) (ks : ∀ m3 w3, FSt b P P' ow kd ow' kd' p B0 nbj U W Y H O2 m0 w0 m3 w3 → PP Q (some (m3, I ((j + 1 : Nat) : Int))) (K w3 1)) : PP Q (hm_Ma_fit N m p (I ((i : Nat) : Int)) (I ((0 + 1 : Nat) : Int))) (bnd (fm_M_fits N w (I ((pp : Nat) : Int)) x) K) := by
  unfold hm_Ma_fit hb_Ma_fit_0
  refine fits_0w rp ?_
  refine fit_one ft kf hN pt N N 0 0 0 (fun _ => 0) (fun _ => 0) (fun _ => 0) m _ t x (FSt_w fs w0_fr) (fun k hk => by omega) ht (fun k hk => by omega) (w0_160 rp) w0_161 q hj (by omega) (by omega) (by omega) hlen (fun M3 M4 cnt3 m3 w3 fs3 _ _ hc3 => ?_)
  exact fits_end (fitc_8 (by rw [congrFun fs3.1.c]; exact h8) (by omega) (by omega) (ks m3 w3 fs3))
theorem fit_row {n : Nat} {p0 : Int} (ft : FTx b Fv P Fv' P' ow kd ow' kd' p jf nbj U na fa' H m0 w0) (pt : PTr (A m0 23) (ROs w0) (w0.2.2.2 34) H f n i p0 O j O2) (h8 : A m0 23 j = 8) (fs : FSt b P P' ow kd ow' kd' p B0 nbj U W Y H O m0 w0 m w) (s : Nat → Int64) (hst : ∀ k, k < n → m.2.2.2 44 k = s k) (hWn : n ≤ W) (hW : W ≤ 46000) (tp : ∀ k, k < n → TPb b U ow kd P U ow' kd' P' (s k) (w0.2.2.2 91 (46000 * p + (W - 1 - k)))) (rp : RG p0) (hj : j + 3 < 24000) (hn : n ≤ 100) (hf : f ≤ 230) (hlen : nbj + (H ++ O2).length ≤ 2500) (hN : 200000 ≤ N) (kf : ∀ m3 w3, NFx p B0 m0 m3 → FWx p B0 w0 w3 → PP Q (some (m3, -1)) (K w3 0)) (ks : ∀ m3 w3, FSt b P P' ow kd ow' kd' p B0 nbj U W Y H O2 m0 w0 m3 w3 → PP Q (some (m3, I ((j + 1 : Nat) : Int))) (K w3 1)) : PP Q (hm_Ma_fit N m p (I ((i : Nat) : Int)) (I ((n : Nat) : Int))) (bnd (gg_M_fitsPart N N w (I p0) (I (((n : Nat) : Int) - 1))) K) := by
  obtain ⟨ci, cp, co, c0, cn, o0, on, e0, z8⟩ := pt
  obtain ⟨⟨hp1, h133⟩, -⟩ := id ft
  have cpb : ∀ k, k < n → cp k < 2147483648 := fun k hk => by
    cases k with
    | zero => have := rp.2; omega
    | succ k =>
      have e := (z8 k (by omega)).2 hk
      rw [pr_row (by omega)] at e
      have := A_r w0 37 (cp k)
      rw [e] at this
      omega
  have cil : ∀ k, k ≤ n → ci k ≤ j := fun k hk => by
    have := up_le (c := ci) (n := n) (fun k hk => Nat.le_of_lt (PTs_lt (z8 k hk).1)) (n - k) k (by omega)
    rw [show k + (n - k) = n by omega, cn] at this
    exact this
  have col : ∀ k, k ≤ n → (H ++ co k).length ≤ (H ++ O2).length := fun k hk => by
    have := up_le (c := fun k => (H ++ co k).length) (n := n) (fun k hk => pre_le (PTs_pre (z8 k hk).1)) (n - k) k (by omega)
    rw [show k + (n - k) = n by omega, on] at this
    exact this
  have inn : ∀ (d M6 M7 cnt6 : Nat) (m6 w6 : MS) (v : Int), d ≤ n → (0 < d → v = ((cp (n - d) : Nat) : Int)) → FSt b P P' ow kd ow' kd' p B0 nbj U W Y H (co (n - d)) m0 w0 m6 w6 → (∀ k, k < d → m6.2.2.2 44 k = s k) → cnt6 ≤ ci (n - d) → PP Q ((hg_Ma_fit N M6).1 m6 p (I ((ci (n - d) : Nat) : Int)) (I ((d : Nat) : Int)) (I ((cnt6 : Nat) : Int))) (bnd (gg_M_fitsPart N M7 w6 (I v) (I (((d : Nat) : Int) - 1))) K) := by
    intro d
    induction d with
    | zero =>
      intro M6 M7 cnt6 m6 w6 v _ _ fs6 _ hc6
      cases M7 with
      | zero => exact pp_nr
      | succ M7 =>
      show PP Q _ (bnd (fb_M_fitsPart_85 N (gg_M_fitsPart N M7) w6 (I v) (I (((0 : Nat) : Int) - 1))) K)
      unfold fb_M_fitsPart_85
      rw [show decide (I (((0 : Nat) : Int) - 1) < 0) = true from rfl, br_tq]
      rw [Nat.sub_zero, cn] at hc6 ⊢
      rw [Nat.sub_zero, on] at fs6
      exact fitc_8 (by rw [congrFun fs6.1.c]; exact h8) (by omega) (by omega) (ks m6 w6 fs6)
    | succ d ih =>
      intro M6 M7 cnt6 m6 w6 v hd hv fs6 st6 hc6
      have ev := hv (by omega)
      subst ev
      cases M7 with
      | zero => exact pp_nr
      | succ M7 =>
      show PP Q _ (bnd (fb_M_fitsPart_85 N (gg_M_fitsPart N M7) w6 (I ((cp (n - (d + 1)) : Nat) : Int)) (I (((d + 1 : Nat) : Int) - 1))) K)
      unfold fb_M_fitsPart_85
      have cb := cpb (n - (d + 1)) (by omega)
      rw [show ((d + 1 : Nat) : Int) - 1 = ((d : Nat) : Int) by omega, d_lt0 (by omega), br_fq]
      have w6F : F w6 133 = ((p : Nat) : Int) := by rw [FR.F fs6.2.1.1 (by simp)]; exact h133
      refine rb_bnd (pk_mo (top_r (N := N) (k := d) hp1 w6F fs6.2.2.1.2.2.1.2.1 hW (by omega)) (fun w7 r7 h => ?_))
      obtain ⟨rfl, rfl⟩ := h
      refine r_bb ?_
      refine fits_0w (x := w7.2.2.2 91 (46000 * p + (W - 1 - d))) cb ?_
      obtain ⟨p8, nx⟩ := z8 (n - (d + 1)) (by omega)
      rw [show n - (d + 1) + 1 = n - d by omega] at p8 nx
      have cd := cil (n - d) (by omega)
      have ld := col (n - d) (by omega)
      have e91 : w7.2.2.2 91 = w0.2.2.2 91 := fs6.2.1.1.2.2.2 91 (by simp)
      refine fit_one ft (fun m3 w3 a1 a2 => ?_) hN p8 M6 N d cnt6 0 s (fun _ => 0) (fun _ => 0) m6 _ (s d) _ (FSt_w fs6 w0_fr) (fun k hk => st6 k (by omega)) (st6 d (by omega)) (fun k hk => by omega) (w0_160 cb) w0_161 ?_ (by omega) hc6 (by omega) (by omega) (by omega) (fun M8 M9 cnt8 m8 w8 fs8 st8 _ hc8 => ?_)
      · rw [show decide ((0 : Int32) = 0) = true from rfl, br_tq]
        exact kf m3 w3 a1 a2
      · rw [e91]
        exact tp d (by omega)
      · refine fits_end ?_
        rw [show decide ((1 : Int32) = 0) = false from rfl, br_fq]
        refine rb_ck (fun _ => ?_)
        have e37 : A w8 37 (cp (n - (d + 1))) = A w0 37 (cp (n - (d + 1))) := FR.A fs8.2.1.1 (by simp)
        rw [tnI (n := cp (n - (d + 1))) rfl cb, I_A' e37, show I ((d : Nat) : Int) + (-1) = I (((d : Nat) : Int) - 1) by rw [m1I, I_add]; congr 1]
        refine ih M8 M7 cnt8 m8 w8 _ (by omega) (fun h0 => ?_) fs8 st8 hc8
        have := nx (by omega)
        rw [pr_row (by omega)] at this
        exact this
  unfold hm_Ma_fit hb_Ma_fit_0
  have fin := inn n N N 0 m w p0 (Nat.le_refl _) (fun h => by rw [Nat.sub_self]; exact e0) (by rw [Nat.sub_self, o0]; exact fs) hst (by omega)
  rw [Nat.sub_self, c0] at fin
  exact fin
end
end
section
set_option maxRecDepth 100000
def exO (Os : Nat → List Nat) (j : Nat) (O2 : List Nat) : Nat → List Nat := fun i => if i = j then O2 else Os i
section
variable {b : Int → Nat → Nat → Prop} {P P' : Int64 → Prop} {ow kd ow' kd' : Nat → Nat} {p B0 U W Y nbj j a : Nat} {m w m3 w3 : MS} {nb : Nat → Nat} {Hs Os : Nat → List Nat} {H O O2 : List Nat}
theorem exO_j : exO Os j O2 j = O2 := if_pos rfl
theorem GGm_nf (nf : NFx p B0 m m3) : GGm p m m3 := GGm_fc nf.1 (by simp) (by simp) (by simp)
theorem GGw_fw (fw : FWx p B0 w w3) : GGw p w w3 := by
  obtain ⟨f, f94, f93⟩ := fw
  have ai : ∀ {x y : Int32}, x.toInt = y.toInt → x = y := fun h => Int32.toInt_inj.mp h
  refine ⟨fun d hd => ⟨fun K i h => ?_, fun K h => by rw [f.2.2.1 K (by simp; omega)], fun i _ _ => by rw [f.2.2.1 131 (by simp)], by rw [f.2.2.2 111 (by simp)], fun i _ _ => by rw [f.2.2.2 88 (by simp)], fun i _ _ => by rw [f.2.2.2 91 (by simp)], fun i a c => f93 i (by omega), fun i _ _ => by rw [f.2.2.2 107 (by simp)]⟩, ⟨fun K h => f.2.2.1 K (by unfold PRr at h; simp; omega), f.2.2.2 34 (by simp), f.2.2.1 12 (by simp), f.2.2.1 13 (by simp), f.1 14 (by simp)⟩, f.1 150 (by simp), fun K h => f.2.2.1 K (by simp; omega), f.2.2.2 148 (by simp), fun K h => f.2.2.1 K (by simp; omega), fun k h => f.1 k (by simp)⟩
  by_cases c : K = 94
  · subst c
    have ki : i = d := by
      rcases h with h | h | h | h
      · exact h.2
      · omega
      · omega
      · omega
    subst ki
    exact ai (f94 i hd)
  · rw [f.2.2.1 K (by
      simp only [List.mem_cons, List.not_mem_nil, or_false]
      rcases h with ⟨h, -⟩ | ⟨h, -⟩ | ⟨h, -⟩ | ⟨h, -⟩ <;> omega)]
theorem PLs_fail (pl : PLs b p m w U B0 W Y) (nf : NFx p B0 m m3) (fw : FWx p B0 w w3) (hB : B0 ≤ 2500) : PLs b p (wi m3 (pq p 24) ((B0 : Nat) : Int)) (wa w3 94 p ((B0 : Nat) : Int)) U B0 W Y := by
  obtain ⟨f, f94, f93⟩ := fw
  have fq : ∀ k, k < 100 → k ∉ [24, 42, 43] → m3.1 (pq p k) = m.1 (pq p k) := fun k h hk => nf.1.2.2.2.2.1 p k h (fun _ => hk)
  have jq : ∀ k, k < 100 → k ∉ [33] → m3.2.2.2 (pq p k) = m.2.2.2 (pq p k) := fun k h hk => nf.1.jq h hk
  have p24 := pl.2.1.1
  have p94 := pl.2.1.2.1
  refine PLs_cg pl (fun k hk => ?_) (fun i _ => by show m3.2.2.2 (pq p 2) i = _; rw [jq 2 (by omega) (by simp)]) (fun i hi => (nf.2.2 i hi).2) (fun i _ => by show m3.2.2.2 (pq p 35) i = _; rw [jq 35 (by omega) (by simp)]) (fun i _ => by show m3.2.2.2 (pq p 6) i = _; rw [jq 6 (by omega) (by simp)]) (fun K hK => ?_) (fun i _ => by show w3.2.2.2 88 _ = _; rw [f.2.2.2 88 (by simp)]) (fun i hi => f93 _ (by omega)) (fun i _ => by show w3.2.2.2 91 _ = _; rw [f.2.2.2 91 (by simp)]) (fun i _ => by show w3.2.2.2 107 _ = _; rw [f.2.2.2 107 (by simp)])
  · simp only [List.mem_cons, List.not_mem_nil, or_false] at hk
    by_cases c : k = 24
    · subst c
      apply Int32.toInt_inj.mp
      show F (wi m3 (pq p 24) ((B0 : Nat) : Int)) (pq p 24) = F m (pq p 24)
      rw [wi_sm (by omega) (by omega), p24]
    · rw [wi_1 (pq_inj c)]
      exact fq k (by omega) (by simp; omega)
  · simp only [List.mem_cons, List.not_mem_nil, or_false] at hK
    by_cases c : K = 94
    · subst c
      apply Int32.toInt_inj.mp
      show A (wa w3 94 p ((B0 : Nat) : Int)) 94 p = A w 94 p
      rw [wa_sm (by omega) (by omega), p94]
    · rw [wa_21 c, f.2.2.1 K (by simp; omega)]
theorem FA_ex (fa : FAs m w p j nb Hs Os) (hX : ∃ X, O2 = Os j ++ X) (nf : NFx p B0 m m3) (fw : FWx p B0 w w3) (nms : NMs m3 p (nb j) (Hs j ++ O2)) (h24 : F m3 (pq p 24) = ((nb j + (Hs j ++ O2).length : Nat) : Int)) (hB : B0 = nb j + (Hs j ++ Os j).length) : FAs m3 w3 p j nb Hs (exO Os j O2) := by
  obtain ⟨⟨f1, f2, f3⟩, f4, f5, f6⟩ := fa
  obtain ⟨f, -, -⟩ := fw
  have aF : ∀ k, k < 100 → k ∉ [24, 42, 43] → F m3 (pq p k) = F m (pq p k) := fun k h hk => nf.1.Fq h hk
  have a30 : A m3 (pq p 30) = A m (pq p 30) := by funext i; exact nf.1.aq (by omega) (by simp)
  have pr : ∀ K, PRr K → w3.2.2.1 K = w.2.2.1 K := fun K h => f.2.2.1 K (by unfold PRr at h; simp; omega)
  have hP : ∀ K, PRr K → A w3 K = A w K := fun K a => by funext i; show (w3.2.2.1 K i).toInt = _; rw [pr K a]; rfl
  have wA : ∀ K i, (95 ≤ K ∧ K ≤ 101) → A w3 K i = A w K i := fun K i h => FR.A f (by simp; omega)
  refine ⟨⟨by rw [aF 21 (by omega) (by simp)]; exact f1, by rw [wA 95 _ (by omega)]; exact f2, f3⟩, fun r hr => ?_, fun r hr => ?_, by rw [exO_j]; exact h24⟩
  · obtain ⟨g1, g2, ⟨g3, g4⟩, g5, g6, g7⟩ := f4 r hr
    refine ⟨by rw [a30, wA 96 _ (by omega)]; exact g1, ?_, ⟨by rw [a30]; exact g3, by rw [wA 99 _ (by omega)]; exact g4⟩, by rw [a30, wA 100 _ (by omega)]; exact g5, by rw [wA 101 _ (by omega)]; exact g6, ?_⟩
    · rw [a30, wA 97 _ (by omega)]
      rcases g2 with g2 | ⟨k, t, k1, k2, k3⟩
      · exact Or.inl g2
      · exact Or.inr ⟨k, t, k1, by rw [hP 44 (by unfold PRr; omega)]; exact k2, by rw [hP 8 (by unfold PRr; omega)]; exact k3⟩
    · by_cases c : r = j
      · subst c
        rw [exO_j]
        exact nms
      · have er : exO Os j O2 r = Os r := if_neg c
        rw [er]
        intro i x hx
        have il : i < (Hs r ++ Os r).length := (List.getElem?_eq_some_iff.mp hx).1
        have hle : nb r + (Hs r).length + (Os r).length ≤ nb j := by
          have h5 := (f5 r (by omega)).1
          have h6 : ∀ d q, q + d = j → nb q ≤ nb j := by
            intro d
            induction d with
            | zero => intro q hq; rw [show q = j by omega]; exact Nat.le_refl _
            | succ d ih =>
              intro q hq
              have := (f5 q (by omega)).1
              have := ih (q + 1) (by omega)
              omega
          have := h6 (j - (r + 1)) (r + 1) (by omega)
          rw [List.length_append] at h5
          omega
        rw [List.length_append] at il
        show (m3.2.2.1 (pq p 32) (nb r + i)).toInt = _
        rw [(nf.2.2 (nb r + i) (by rw [hB]; omega)).1]
        exact g7 i x hx
  · obtain ⟨g1, a, n, g2, g3, g4⟩ := f5 r hr
    have er : exO Os j O2 r = Os r := if_neg (by omega)
    have h23 : A m3 23 = A m 23 := nf.c
    rw [er]
    exact ⟨g1, a, n, by rw [a30]; exact g2, by rw [wA 98 _ (by omega)]; exact g3, by rw [h23, ROs_eq pr, f.2.2.2 34 (by simp)]; exact g4⟩
theorem CT_ex (ct : CTs m w p j nb Hs Os) (hX : ∃ X, O2 = Os j ++ X) (nf : NFx p B0 m m3) (fw : FWx p B0 w w3) : CTs m3 w3 p j nb Hs (exO Os j O2) := by
  obtain ⟨n, c1, c2, c3, c5, c4⟩ := ct
  obtain ⟨f, -, -⟩ := fw
  obtain ⟨X, hX⟩ := hX
  have pr : ∀ K, PRr K → w3.2.2.1 K = w.2.2.1 K := fun K h => f.2.2.1 K (by unfold PRr at h; simp; omega)
  have hP : ∀ K, PRr K → A w3 K = A w K := fun K a => by funext i; show (w3.2.2.1 K i).toInt = _; rw [pr K a]; rfl
  have a37 : A m3 (pq p 37) = A m (pq p 37) := by funext i; exact nf.1.aq (by omega) (by simp)
  have wA : ∀ K i, (102 ≤ K ∧ K ≤ 106) → A w3 K i = A w K i := fun K i h => FR.A f (by simp; omega)
  refine ⟨n, by rw [nf.1.Fq (by omega) (by simp)]; exact c1, by rw [wA 106 _ (by omega)]; exact c2, c3, fun c hc => by rw [wA 102 _ (by omega), wA 102 _ (by omega), wA 105 _ (by omega), wA 105 _ (by omega)]; exact c5 c hc, fun c hc => ?_⟩
  obtain ⟨r, k, a, nd, nn, k1, k2, k3, k4, k5, k6, k7, k8, k9, k10, k11⟩ := c4 c hc
  have h23 : A m3 23 = A m 23 := nf.c
  have le : (Os r).length ≤ (exO Os j O2 r).length ∧ ∀ k, k ≤ (Os r).length → (exO Os j O2 r).take k = (Os r).take k := by
    by_cases cr : r = j
    · subst cr
      rw [exO_j, hX]
      exact ⟨by simp, fun k hk => by rw [List.take_append_of_le_length hk]⟩
    · rw [show exO Os j O2 r = Os r from if_neg cr]
      exact ⟨Nat.le_refl _, fun _ _ => rfl⟩
  exact ⟨r, k, a, nd, nn, k1, by rw [a37]; exact k2, by rw [wA 102 _ (by omega)]; exact k3, by rw [a37]; exact k4, by rw [wA 105 _ (by omega)]; exact k5, by omega, by rw [a37, wA 104 _ (by omega)]; exact k7, by rw [a37]; exact k8, by rw [wA 103 _ (by omega)]; exact k9, by rw [hP 25 (by unfold PRr; omega)]; exact k10, by rw [h23, ROs_eq pr, f.2.2.2 34 (by simp), le.2 k k6]; exact k11⟩
end
end
section
set_option maxRecDepth 100000
def trE (N p : Nat) (B : Int) (u18 : MS) (r18 : Int32) : Option (MS × Unit) := br (decide (r18 = (-1))) (lt (upI u18 (pq p 24) (I B)) (fun w22 => bnd (hm_Co_at N w22 ((w22.1 1105) + 2)) (fun u25 r25 => lt (upI u25 1105 r25) (fun w27 => some (w27, ()))))) (lt (upI u18 1105 r18) (fun w19 => some (w19, ())))
def CXf (u : MS) (p : Nat) (h : Nat → Int64) (n : Nat) (ow kd : Nat → Nat) (Fv : Int64 → Int64 → Prop) (P : Int64 → Prop) (opM bnM bxM : Nat) : Prop :=
  hp u p = h ∧ HP h n ow kd Fv P ∧ n ≤ 500 ∧ p < 24 ∧ (A u 92 p = opM ∧ opM ≤ 46000) ∧ (A u 94 p = bnM ∧ bnM ≤ 2500) ∧ (A u 108 p = bxM ∧ bxM ≤ 30) ∧ (∀ i, i < opM → GT n ow kd P (u.2.2.2 91 (46000 * p + i))) ∧ (∀ i, i < bnM → GT n ow kd P (u.2.2.2 93 (2500 * p + i))) ∧ (∀ i, i < bxM → GT n ow kd P (u.2.2.2 107 (30 * p + i))) ∧ True
section
variable {α β γ δ : Type}
theorem pp_lk {Q : MS → α → MS → β → Prop} {o : Option (MS × γ)} {f : MS → γ → Option (MS × α)} {t : Option (MS × δ)} {g : MS → δ → Option (MS × β)} (h : PP (fun m z w r => PP Q (f m z) (g w r)) o (bnd t (fun u r => some (u, r)))) : PP Q (bnd o f) (bnd t g) := by
  have e : bnd t (fun u r => some (u, r)) = t := by
    cases t with
    | none => rfl
    | some x => rfl
  rw [e] at h
  exact pp_bb h
end
section
variable {α β : Type} {N p l Wc B n a fl : Nat} {m : MS} {y : Int} {sub : Nat → Int64} {Q : MS → α → MS → β → Prop} {Z : Option (MS × β)} {K : MS → Unit → Option (MS × α)}
theorem fill_pp (hy : (y = ((n : Nat) : Int) ∧ n ≤ 100) ∨ (y = -1 ∧ n = 1) ∨ (y = -2 ∧ n = 1)) (h24 : F m (pq p 24) = ((B : Nat) : Int)) (h26 : F m (pq p 26) = ((Wc : Nat) : Int)) (hl : F m (pq p 45) = ((l : Nat) : Int)) (hl2 : Wc ≤ l ∧ l ≤ 1000000) (hs1 : y ≠ -2 → ∀ k, k < n → k < Wc ∧ sub k = m.2.2.2 (pq p 35) (Wc - 1 - k)) (hs2 : y = -2 → ∃ tr : Nat, F m (pq p 8) = ((tr : Nat) : Int) ∧ tr < 30 ∧ sub 0 = m.2.2.2 (pq p 6) tr) (k : ∀ m2, FR [] [] [] [44] m m2 → (∀ k, k < n → m2.2.2.2 44 k = sub k) → PP Q (bnd (bnd (hm_Ma_fit N m2 p ((m2.1 1105) + 3) (I ((n : Nat) : Int))) (fun u r => trE N p ((B : Nat) : Int) u r)) K) Z) : PP Q (bnd (hm_Ma_tries N m p (I y)) K) Z := by
  have lp : ∀ (d M : Nat) (m1 : MS) (i : Nat), i + d = n → FR [] [] [] [44] m m1 → (∀ k, k < i → m1.2.2.2 44 k = sub k) → PP Q (bnd (hg_Ma_tries N M m1 p (I y) (I ((B : Nat) : Int)) (I ((n : Nat) : Int)) (I ((i : Nat) : Int))) K) Z := by
    intro d
    induction d with
    | zero =>
      intro M m1 i hi f r
      have : i = n := by omega
      subst this
      cases M with
      | zero => exact pp_nl
      | succ M =>
      show PP Q (bnd (hb_Ma_tries_21 N (hg_Ma_tries N M) m1 p (I y) (I ((B : Nat) : Int)) (I ((i : Nat) : Int)) (I ((i : Nat) : Int))) K) Z
      unfold hb_Ma_tries_21
      rw [decI (by omega) (by omega) (by omega) (by omega), decide_eq_true (by omega), br_tq]
      exact k m1 f r
    | succ d ih =>
      intro M m1 i hi f r
      cases M with
      | zero => exact pp_nl
      | succ M =>
      have i1 : ∀ j, m1.1 j = m.1 j := fun j => f.1 j (by simp)
      have fF : ∀ j, F m1 j = F m j := fun j => congrArg Int32.toInt (i1 j)
      have jq : ∀ j, m1.2.2.2 (pq p j) = m.2.2.2 (pq p j) := fun j => f.2.2.2 _ (by simp; exact fun c => pq_n (by omega) c.symm)
      show PP Q (bnd (hb_Ma_tries_21 N (hg_Ma_tries N M) m1 p (I y) (I ((B : Nat) : Int)) (I ((n : Nat) : Int)) (I ((i : Nat) : Int))) K) Z
      unfold hb_Ma_tries_21
      rw [decI (by omega) (by omega) (by omega) (by omega), decide_eq_false (by omega), br_fq]
      have put : ∀ t : Int64, t = sub i → PP Q (bnd (hb_Ma_tries_93 N (hg_Ma_tries N M) m1 p (I y) (I ((B : Nat) : Int)) (I ((n : Nat) : Int)) (I ((i : Nat) : Int)) (I ((i : Nat) : Int)) t) K) Z := fun t et => by
        unfold hb_Ma_tries_93
        refine lb_ck (fun _ => ?_)
        rw [lt_e, tnI (n := i) rfl (by omega), wj_e, show I ((i : Nat) : Int) + 1 = I ((i + 1 : Nat) : Int) from addN]
        refine ih M _ (i + 1) (by omega) (FR.wj f (by simp)) (fun k hk => ?_)
        rw [wj_row]
        by_cases c : k = i
        · rw [if_pos c, et, c]
        · rw [if_neg c]; exact r k (by omega)
      have bel : y ≠ -2 → PP Q (bnd (hb_Ma_tries_50 N (hg_Ma_tries N M) m1 p (I y) (I ((B : Nat) : Int)) (I ((n : Nat) : Int)) (I ((i : Nat) : Int)) 0) K) Z := fun hne => by
        unfold hb_Ma_tries_50
        obtain ⟨s1, s2⟩ := hs1 hne i (by omega)
        rw [show decide ((0 : Int32) = 0) = true from rfl, br_tq, below_e (k := i) (W := Wc) (l := l) (by rw [fF]; exact h26) (by rw [fF]; exact hl) hl2.1 hl2.2 rfl s1, bnd_so]
        exact put _ (by rw [jq]; exact s2.symm)
      by_cases e2 : y = -2
      · obtain ⟨tr, t1, t2, t3⟩ := hs2 e2
        have n1 : n = 1 := by
          clear hs1 hs2 bel put r k ih i1 fF jq t1 t2 t3
          omega
        have i0 : i = 0 := by omega
        subst i0
        rw [e2, show decide (I (-2) = -2) = true from rfl, br_tq, I_F' ((fF (pq p 8)).trans t1), show (30 : Int32) = I 30 from rfl, decI (by omega) (by omega) (by omega) (by omega), decide_eq_false (by omega), br_fq]
        unfold hb_Ma_tries_50
        rw [show decide ((1 : Int32) = 0) = false from rfl, br_fq]
        refine lb_ck (fun _ => ?_)
        rw [I_F' ((fF (pq p 8)).trans t1), tnI (n := tr) rfl (by omega)]
        have := put (m1.2.2.2 (pq p 6) tr) (by rw [jq]; exact t3.symm)
        rw [e2] at this
        exact this
      · rw [show (-2 : Int32) = I (-2) from rfl, decE (by omega) (by omega) (by omega) (by omega), decide_eq_false e2, br_fq]
        exact bel e2
  unfold hm_Ma_tries hb_Ma_tries_0 hb_Ma_tries_17
  rw [I_F' h24]
  rcases hy with ⟨rfl, hn⟩ | ⟨rfl, rfl⟩ | ⟨rfl, rfl⟩
  · rw [d_lt0 (by omega), br_fq]
    exact lp n N m 0 (by omega) FR.rf (fun k hk => by omega)
  · rw [show decide (I (-1) < 0) = true from rfl, br_tq]
    exact lp 1 N m 0 (by omega) FR.rf (fun k hk => by omega)
  · rw [show decide (I (-2) < 0) = true from rfl, br_tq]
    exact lp 1 N m 0 (by omega) FR.rf (fun k hk => by omega)
theorem trE_f {m3 : MS} (h5 : F m3 1105 = ((a : Nat) : Int)) (hfl : A m3 23 (a + 2) = ((fl : Nat) : Int)) (ha : a + 2 < 24000) : trE N p ((B : Nat) : Int) m3 (-1) = some (wi (wi m3 (pq p 24) ((B : Nat) : Int)) 1105 ((fl : Nat) : Int), ()) := by
  unfold trE
  have e5 : F (wi m3 (pq p 24) ((B : Nat) : Int)) 1105 = ((a : Nat) : Int) := by rw [wi_ne (pq_n (by omega))]; exact h5
  have e23 : A (wi m3 (pq p 24) ((B : Nat) : Int)) 23 (a + 2) = ((fl : Nat) : Int) := hfl
  rw [show decide ((-1 : Int32) = -1) = true from rfl, br_tq, wi_e, lt_e, I_F' e5, show I ((a : Nat) : Int) + 2 = I ((a + 2 : Nat) : Int) from addN, Co_e (k := a + 2) rfl ha, bnd_so, e23, wi_e, lt_e]
theorem trE_s {m3 : MS} {e : Nat} (he : e < 100000) : trE N p ((B : Nat) : Int) m3 (I ((e : Nat) : Int)) = some (wi m3 1105 ((e : Nat) : Int), ()) := by
  unfold trE
  rw [m1I, decE (by omega) (by omega) (by omega) (by omega), decide_eq_false (by omega), br_fq, wi_e, lt_e]
end
section
variable {α β : Type} {b : Int → Nat → Nat → Prop} {Fv Fv' : Int64 → Int64 → Prop} {P P' : Int64 → Prop} {ow kd ow' kd' fa' : Nat → Nat} {N p jf nbj U W Y na n a e fl k0 kn : Nat} {H O O2 : List Nat} {m w : MS} {Q : MS → α → MS → β → Prop} {K1 : MS → Option (MS × α)} {K : MS → Int32 → Option (MS × β)}
theorem fit_op (ft : FTx b Fv P Fv' P' ow kd ow' kd' p jf nbj U na fa' H m w) (pl : PLs b p m w U (nbj + (H ++ O).length) W Y) (nms : NMs m p nbj (H ++ O)) (nd : O.Nodup) (pt : PTQ m p U ow kd Fv P (nbj + (H ++ O).length) W Y) (xc : CXf w p (hp w p) U ow' kd' Fv' P' W (nbj + (H ++ O).length) Y) (h42 : ((nbj + (H ++ O).length : Nat) : Int) ≤ F m (pq p 42)) (h5 : F m 1105 = ((a : Nat) : Int)) (hfl : A m 23 (a + 2) = ((fl : Nat) : Int))
    (hkn : F w 153 = ((kn : Nat) : Int)) (h154 : F w 154 = ((k0 : Nat) : Int)) (hk0 : k0 < 100000) (hy : (kn = 0 ∧ 0 < n ∧ n ≤ 100 ∧ n ≤ W ∧ A w 41 k0 = ((n : Nat) : Int) ∧ A m 23 (a + 1) = ((n : Nat) : Int)) ∨ (kn = 1 ∧ n = 1 ∧ 1 ≤ W ∧ A m 23 (a + 1) = -1) ∨ (kn = 3 ∧ n = 1 ∧ A m 23 (a + 1) = -2 ∧ ∃ tr : Nat, F m (pq p 8) = ((tr : Nat) : Int) ∧ tr < Y ∧ F w 158 = ((tr : Nat) : Int)))
    (pr : PTr (A m 23) (ROs w) (w.2.2.2 34) H 230 n (a + 3) (A w 40 k0) O e O2) (h8 : A m 23 e = 8) (he : e + 3 < 24000) (hlen : nbj + (H ++ O2).length ≤ 2500) (hN : 200000 ≤ N)
    (kf : ∀ m3 w3, NFx p (nbj + (H ++ O).length) m m3 → FWx p (nbj + (H ++ O).length) w w3 → PP Q (K1 (wi (wi m3 (pq p 24) ((nbj + (H ++ O).length : Nat) : Int)) 1105 ((fl : Nat) : Int))) (K w3 0)) (ks : ∀ m3 w3, FSt b P P' ow kd ow' kd' p (nbj + (H ++ O).length) nbj U W Y H O2 m w m3 w3 → PP Q (K1 (wi m3 1105 ((e + 1 : Nat) : Int))) (K w3 1)) : PP Q (bnd (hm_Ma_tries N m p (I (A m 23 (a + 1)))) (fun u _ => K1 u)) (bnd (fm_M_fitsPart N w) K) := by
  obtain ⟨⟨hp1, h133⟩, -, ⟨-, -, -, hU⟩, -⟩ := id ft
  have bW : W ≤ 46000 := xc.2.2.2.2.1.2
  have bY : Y ≤ 30 := xc.2.2.2.2.2.2.1.2
  obtain ⟨⟨l3, c1, c2, c3⟩, ⟨l5, d1, d2, d3⟩, -⟩ := pt.2.2.2.2
  have fs0 : FSt b P P' ow kd ow' kd' p (nbj + (H ++ O).length) nbj U W Y H O m w m w := by
    refine ⟨⟨FIx.rf, ⟨_, Nat.le_refl _, pl.2.1.1, by rw [c1]; omega, h42⟩, fun _ _ => ⟨rfl, rfl⟩⟩, ⟨FR.rf, fun _ _ => rfl, fun _ _ => rfl⟩, pl, nms, ⟨Nat.le_refl _, nd⟩, fun k hk => ⟨pl.2.1.2.2 k hk, pt.2.1.2 k hk, xc.2.2.2.2.2.2.2.2.1 k hk⟩⟩
  have p0r : RG (A w 40 k0) := A_r _ _ _
  have kF : ∀ m3 w3, NFx p (nbj + (H ++ O).length) m m3 → FWx p (nbj + (H ++ O).length) w w3 → F m3 1105 = ((a : Nat) : Int) ∧ A m3 23 (a + 2) = ((fl : Nat) : Int) := fun m3 w3 a1 _ => ⟨by rw [a1.1.Fg (by omega) (by simp)]; exact h5, by rw [congrFun a1.c]; exact hfl⟩
  have ae : a + 3 < e := by
    obtain ⟨ci, cp, co, z0, zn, -, -, -, z8⟩ := pr
    have n1 : 0 < n := by omega
    have := up_le (c := ci) (n := n) (fun k hk => Nat.le_of_lt (PTs_lt (z8 k hk).1)) (n - 1) 1 (by omega)
    rw [show 1 + (n - 1) = n by omega, zn] at this
    have h01 : ci 0 < ci 1 := PTs_lt (z8 0 n1).1
    rw [z0] at h01
    omega
  have tpw : ∀ k, k < W → TPb b U ow kd P U ow' kd' P' (m.2.2.2 (pq p 35) (W - 1 - k)) (w.2.2.2 91 (46000 * p + (W - 1 - k))) := fun k hk => ⟨pl.2.2.1.2.2 _ (by omega), pt.2.2.1.2 _ (by omega), xc.2.2.2.2.2.2.2.1 _ (by omega)⟩
  rcases hy with ⟨rfl, n0, n1, n2, y1, y2⟩ | ⟨rfl, rfl, n2, y2⟩ | ⟨rfl, rfl, y2, tr, t1, t2, t3⟩
  · 
    rw [y2]
    refine fill_pp (n := n) (B := nbj + (H ++ O).length) (Wc := W) (l := l5) (sub := fun k => m.2.2.2 (pq p 35) (W - 1 - k)) (Or.inl ⟨rfl, n1⟩) pl.2.1.1 pl.2.2.1.1 d1 ⟨d2, d3⟩ (fun _ k hk => ⟨by omega, rfl⟩) (fun c => by omega) (fun m2 f r => ?_)
    unfold fm_M_fitsPart fb_M_fitsPart_0 fb_M_fitsPart_70
    rw [I_F' hkn, show decide (I ((0 : Nat) : Int) = 2) = false from rfl, br_fq, show decide (I ((0 : Nat) : Int) = 3) = false from rfl, br_fq, show decide (I ((0 : Nat) : Int) = 1) = false from rfl, br_fq]
    refine rb_ck (fun _ => rb_ck (fun _ => ?_))
    rw [lt_e, I_F' h154, tnI (n := k0) rfl (by omega), I_A' y1, I_A (k := 40), show I ((n : Nat) : Int) - 1 = I (((n : Nat) : Int) - 1) by rw [lit1q, I_sub]]
    have e5 : F m2 1105 = ((a : Nat) : Int) := by rw [FR.F f (by simp)]; exact h5
    rw [I_F' e5, show I ((a : Nat) : Int) + 3 = I ((a + 3 : Nat) : Int) from addN]
    refine l_bb ?_
    refine pp_lk (fit_row (Q := fun m3 r3 w3 r4 => PP Q (bnd (trE N p ((nbj + (H ++ O).length : Nat) : Int) m3 r3) (fun u _ => K1 u)) (K w3 r4)) (K := fun u r => some (u, r)) ft pr h8 (FSt_m fs0 (FR.mo f (by simp) (by simp) (by simp) (by simp))) _ r n2 bW (fun k hk => tpw k (by omega)) p0r he n1 (Nat.le_refl _) hlen hN (fun m3 w3 a1 a2 => pp_end ?_) (fun m3 w3 a1 => pp_end ?_))
    · obtain ⟨b1, b2⟩ := kF m3 w3 a1 a2
      rw [trE_f b1 b2 (by omega), bnd_so]
      exact kf m3 w3 a1 a2
    · rw [trE_s (by omega), bnd_so]
      exact ks m3 w3 a1
  · 
    rw [y2]
    refine fill_pp (n := 1) (B := nbj + (H ++ O).length) (Wc := W) (l := l5) (sub := fun k => m.2.2.2 (pq p 35) (W - 1 - k)) (Or.inr (Or.inl ⟨rfl, rfl⟩)) pl.2.1.1 pl.2.2.1.1 d1 ⟨d2, d3⟩ (fun _ k hk => ⟨by omega, rfl⟩) (fun c => by omega) (fun m2 f r => ?_)
    unfold fm_M_fitsPart fb_M_fitsPart_0 fb_M_fitsPart_70
    rw [I_F' hkn, show decide (I ((1 : Nat) : Int) = 2) = false from rfl, br_fq, show decide (I ((1 : Nat) : Int) = 3) = false from rfl, br_fq, show decide (I ((1 : Nat) : Int) = 1) = true from rfl, br_tq]
    refine rb_ck (fun _ => ?_)
    rw [lt_e, I_F' h154, tnI (n := k0) rfl (by omega), I_A (k := 40), show (1 : Int32) - 1 = I (((1 : Nat) : Int) - 1) from rfl]
    have e5 : F m2 1105 = ((a : Nat) : Int) := by rw [FR.F f (by simp)]; exact h5
    rw [I_F' e5, show I ((a : Nat) : Int) + 3 = I ((a + 3 : Nat) : Int) from addN]
    refine l_bb ?_
    refine pp_lk (fit_row (Q := fun m3 r3 w3 r4 => PP Q (bnd (trE N p ((nbj + (H ++ O).length : Nat) : Int) m3 r3) (fun u _ => K1 u)) (K w3 r4)) (K := fun u r => some (u, r)) ft pr h8 (FSt_m fs0 (FR.mo f (by simp) (by simp) (by simp) (by simp))) _ r n2 bW (fun k hk => tpw k (by omega)) p0r he (by omega) (Nat.le_refl _) hlen hN (fun m3 w3 a1 a2 => pp_end ?_) (fun m3 w3 a1 => pp_end ?_))
    · obtain ⟨b1, b2⟩ := kF m3 w3 a1 a2
      rw [trE_f b1 b2 (by omega), bnd_so]
      exact kf m3 w3 a1 a2
    · rw [trE_s (by omega), bnd_so]
      exact ks m3 w3 a1
  · 
    rw [y2]
    refine fill_pp (n := 1) (B := nbj + (H ++ O).length) (Wc := W) (l := l5) (sub := fun k => m.2.2.2 (pq p 6) tr) (Or.inr (Or.inr ⟨rfl, rfl⟩)) pl.2.1.1 pl.2.2.1.1 d1 ⟨d2, d3⟩ (fun c => absurd rfl c) (fun _ => ⟨tr, t1, by omega, rfl⟩) (fun m2 f r => ?_)
    unfold fm_M_fitsPart fb_M_fitsPart_0
    rw [I_F' hkn, show decide (I ((3 : Nat) : Int) = 2) = false from rfl, br_fq, show decide (I ((3 : Nat) : Int) = 3) = true from rfl, br_tq]
    refine rb_ck (fun _ => rb_ck (fun _ => ?_))
    have ix : (I ((p : Nat) : Int) * 30 + I ((tr : Nat) : Int)).toNatClampNeg = 30 * p + tr := by
      rw [show (30 : Int32) = I 30 from rfl, I_mul, I_add]
      exact tnI (n := 30 * p + tr) (by omega) (by omega)
    rw [I_F' h154, tnI (n := k0) rfl (by omega), I_A (k := 40), I_F' h133, I_F' t3, ix]
    obtain ⟨ci, cp, co, z0, zn, o0, on, ep, z8⟩ := pr
    obtain ⟨z8, -⟩ := z8 0 (by omega)
    rw [z0, o0, show 0 + 1 = 1 from rfl, zn, on] at z8
    have e5 : F m2 1105 = ((a : Nat) : Int) := by rw [FR.F f (by simp)]; exact h5
    rw [ep] at p0r
    rw [I_F' e5, show I ((a : Nat) : Int) + 3 = I ((a + 3 : Nat) : Int) from addN, ep]
    refine l_bb (r_bb ?_)
    refine pp_lk (fit_1p (Q := fun m3 r3 w3 r4 => PP Q (bnd (trE N p ((nbj + (H ++ O).length : Nat) : Int) m3 r3) (fun u _ => K1 u)) (bnd (ck (isb r4) (some (w3, r4))) K)) (K := fun u r => some (u, r)) (t := m.2.2.2 (pq p 6) tr) ft z8 h8 (FSt_m fs0 (FR.mo f (by simp) (by simp) (by simp) (by simp))) (r 0 (by omega)) ⟨pl.2.2.2.2.2 tr t2, pt.2.2.2.1.2 tr t2, xc.2.2.2.2.2.2.2.2.2.1 tr t2⟩ (by have := p0r.2; omega) he (Nat.le_refl _) hlen hN (fun m3 w3 a1 a2 => pp_end ?_) (fun m3 w3 a1 => pp_end ?_))
    · obtain ⟨b1, b2⟩ := kF m3 w3 a1 a2
      rw [trE_f b1 b2 (by omega), bnd_so]
      exact kf m3 w3 a1 a2
    · rw [trE_s (by omega), bnd_so]
      exact ks m3 w3 a1
end
end
section
set_option maxRecDepth 100000
def tkMs (m : MS) (p tr Y : Nat) : MS := wl (wi (wi (upJ m (pq p 6) (va_cpy (m.2.2.2 (pq p 6)) (m.2.2.2 (pq p 6)) (tr + 1) tr (Y - tr))) (pq p 7) ((Y : Nat) : Int)) (pq p 8) 0) (pq p 10) (-1)
section
variable {b : Int → Nat → Nat → Prop} {N p j k t U B W Y : Nat} {m w m2 w2 : MS} {nb : Nat → Nat} {Hs Os : Nat → List Nat} {l v : Int} {z : Int32}
theorem GGw_reg {k : Nat} (h1 : 132 < k) (h2 : k ≠ 150 ∧ k ≠ 164 ∧ k ≠ 165) : GGw p w (wi w k v) := ⟨fun _ _ => ⟨fun _ _ _ => rfl, fun _ _ => rfl, fun _ _ _ => rfl, rfl, fun _ _ _ => rfl, fun _ _ _ => rfl, fun _ _ _ => rfl, fun _ _ _ => rfl⟩, ⟨fun _ _ => rfl, rfl, rfl, rfl, if_neg (by omega)⟩, if_neg (Ne.symm h2.1), fun _ _ => rfl, rfl, fun _ _ => rfl, fun l hl => if_neg (by omega)⟩
theorem s30_21 {K : Nat} (h : K ≠ pq p 30) : (s30 m p k z).2.2.1 K = m.2.2.1 K := if_neg h
theorem GGm_s30 : GGm p m (s30 m p k z) := ⟨fun d hd l hl => ⟨rfl, rfl, s30_21 (fun c => hd (pq_e hl (by omega) c).1), rfl⟩, ⟨s30_21 (by unfold pq; omega), rfl, s30_21 (by unfold pq; omega), s30_21 (by unfold pq; omega)⟩, rfl, s30_21 (by unfold pq; omega), rfl, fun K hK => s30_21 (by unfold pq; omega), fun _ _ => rfl⟩
theorem FA_line (fa : FAs m w p j nb Hs Os) (h21 : F m2 (pq p 21) = F m (pq p 21)) (h24 : F m2 (pq p 24) = F m (pq p 24)) (r30 : ∀ i, i ≠ 5 * j + 1 → A m2 (pq p 30) i = A m (pq p 30) i) (e30 : A m2 (pq p 30) (5 * j + 1) = l) (r32 : m2.2.2.1 (pq p 32) = m.2.2.1 (pq p 32)) (e23 : m2.2.2.1 23 = m.2.2.1 23) (wR : ∀ K i, 95 ≤ K → K ≤ 101 → ¬ (K = 97 ∧ i = 60 * p + j) → ¬ (K = 98 ∧ i = 60 * p + j) → A w2 K i = A w K i) (e97 : A w2 97 (60 * p + j) = ((k : Nat) : Int)) (h44 : A w 44 k = ((t : Nat) : Int)) (h8 : l = A w 8 t) (pr : ∀ K, PRr K → w2.2.2.1 K = w.2.2.1 K) (h34 : w2.2.2.2 34 = w.2.2.2 34) : FAs m2 w2 p j nb Hs Os := by
  obtain ⟨⟨f1, f2, f3⟩, f4, f5, f6⟩ := fa
  have hP : ∀ K, PRr K → A w2 K = A w K := fun K a => by funext i; show (w2.2.2.1 K i).toInt = _; rw [pr K a]; rfl
  have h23 : A m2 23 = A m 23 := by funext i; show (m2.2.2.1 23 i).toInt = _; rw [e23]; rfl
  refine ⟨⟨by rw [h21]; exact f1, by rw [wR 95 p (by omega) (by omega) (by omega) (by omega)]; exact f2, f3⟩, fun r hr => ?_, fun r hr => ?_, by rw [h24]; exact f6⟩
  · obtain ⟨g1, g2, ⟨g3, g4⟩, g5, g6, g7⟩ := f4 r hr
    refine ⟨by rw [r30 _ (by omega), wR 96 _ (by omega) (by omega) (by omega) (by omega)]; exact g1, ?_, ⟨by rw [r30 _ (by omega)]; exact g3, by rw [wR 99 _ (by omega) (by omega) (by omega) (by omega)]; exact g4⟩, by rw [r30 _ (by omega), wR 100 _ (by omega) (by omega) (by omega) (by omega)]; exact g5, by rw [wR 101 _ (by omega) (by omega) (by omega) (by omega)]; exact g6, ?_⟩
    · by_cases c : r = j
      · subst c
        exact Or.inr ⟨k, t, e97, by rw [hP 44 (by unfold PRr; omega)]; exact h44, by rw [e30, hP 8 (by unfold PRr; omega)]; exact h8⟩
      · rw [wR 97 _ (by omega) (by omega) (by omega) (by omega), r30 _ (by omega)]
        rcases g2 with g2 | ⟨k2, t2, k1, k3, k4⟩
        · exact Or.inl g2
        · exact Or.inr ⟨k2, t2, k1, by rw [hP 44 (by unfold PRr; omega)]; exact k3, by rw [hP 8 (by unfold PRr; omega)]; exact k4⟩
    · intro i x hx
      show (m2.2.2.1 (pq p 32) _).toInt = _
      rw [r32]
      exact g7 i x hx
  · obtain ⟨g1, a, n, g2, g3, f, g4⟩ := f5 r hr
    exact ⟨g1, a, n, by rw [r30 _ (by omega)]; exact g2, by rw [wR 98 _ (by omega) (by omega) (by omega) (by omega)]; exact g3, f, by rw [h23, ROs_eq pr, h34]; exact g4⟩
theorem CT_same (ct : CTs m w p j nb Hs Os) (h28 : m2.1 (pq p 28) = m.1 (pq p 28)) (h37 : m2.2.2.1 (pq p 37) = m.2.2.1 (pq p 37)) (e23 : m2.2.2.1 23 = m.2.2.1 23) (wR : ∀ K, 102 ≤ K → K ≤ 106 → w2.2.2.1 K = w.2.2.1 K) (pr : ∀ K, PRr K → w2.2.2.1 K = w.2.2.1 K) (h34 : w2.2.2.2 34 = w.2.2.2 34) : CTs m2 w2 p j nb Hs Os := by
  obtain ⟨n, c1, c2, c3, c5, c4⟩ := ct
  have hP : ∀ K, PRr K → A w2 K = A w K := fun K a => by funext i; show (w2.2.2.1 K i).toInt = _; rw [pr K a]; rfl
  have h23 : A m2 23 = A m 23 := by funext i; show (m2.2.2.1 23 i).toInt = _; rw [e23]; rfl
  have a37 : A m2 (pq p 37) = A m (pq p 37) := by funext i; show (m2.2.2.1 (pq p 37) i).toInt = _; rw [h37]; rfl
  have wA : ∀ K i, (102 ≤ K ∧ K ≤ 106) → A w2 K i = A w K i := fun K i h => by show (w2.2.2.1 K i).toInt = _; rw [wR K h.1 h.2]; rfl
  refine ⟨n, (congrArg Int32.toInt h28).trans c1, by rw [wA 106 _ (by omega)]; exact c2, c3, fun c hc => by rw [wA 102 _ (by omega), wA 102 _ (by omega), wA 105 _ (by omega), wA 105 _ (by omega)]; exact c5 c hc, fun c hc => ?_⟩
  obtain ⟨r, k, a, nd, nn, k1, k2, k3, k4, k5, k6, k7, k8, k9, k10, f, k11⟩ := c4 c hc
  exact ⟨r, k, a, nd, nn, k1, by rw [a37]; exact k2, by rw [wA 102 _ (by omega)]; exact k3, by rw [a37]; exact k4, by rw [wA 105 _ (by omega)]; exact k5, k6, by rw [a37, wA 104 _ (by omega)]; exact k7, by rw [a37]; exact k8, by rw [wA 103 _ (by omega)]; exact k9, by rw [hP 25 (by unfold PRr; omega)]; exact k10, f, by rw [h23, ROs_eq pr, h34]; exact k11⟩
theorem PLs_ri {i : Nat} (pl : PLs b p m w U B W Y) : PLs b p m (wi w i v) U B W Y := PLs_cg pl (fun _ _ => rfl) (fun _ _ => rfl) (fun _ _ => rfl) (fun _ _ => rfl) (fun _ _ => rfl) (fun _ _ => rfl) (fun _ _ => rfl) (fun _ _ => rfl) (fun _ _ => rfl) (fun _ _ => rfl)
theorem takeM_e {tr : Nat} (h7 : F m (pq p 7) = ((Y + 1 : Nat) : Int)) (h8 : F m (pq p 8) = ((tr : Nat) : Int)) (ht : tr ≤ Y) (hY : Y < 30) : hm_Pr_takeMessage N m p = some (tkMs m p tr Y, ()) := by
  unfold hm_Pr_takeMessage hb_Pr_takeMessage_0 hb_Pr_takeMessage_53
  rw [I_F' h7, I_F' h8, decI (by omega) (by omega) (by omega) (by omega), decide_eq_false (by omega), br_fq]
  have e1 : I ((tr : Nat) : Int) + 1 = I ((tr + 1 : Nat) : Int) := addN
  have e2 : I ((Y + 1 : Nat) : Int) - I ((tr : Nat) : Int) - 1 = I ((Y - tr : Nat) : Int) := by rw [lit1q, I_sub, I_sub]; congr 1; omega
  have ok : cpOk (I ((tr + 1 : Nat) : Int)) (I ((tr : Nat) : Int)) (I ((Y - tr : Nat) : Int)) 30 30 = true := by
    unfold cpOk
    rw [tnI (n := tr + 1) rfl (by omega), tnI (n := tr) rfl (by omega), tnI (n := Y - tr) rfl (by omega)]
    refine decide_eq_true ⟨?_, ?_, ?_, by omega, by omega⟩
    · rw [lit0q, I_lt (by omega) (by omega) (by omega) (by omega)]; omega
    · rw [lit0q, I_lt (by omega) (by omega) (by omega) (by omega)]; omega
    · rw [lit0q, I_lt (by omega) (by omega) (by omega) (by omega)]; omega
  rw [e1, e2, ok, ck_t, tnI (n := tr + 1) rfl (by omega), tnI (n := tr) rfl (by omega), tnI (n := Y - tr) rfl (by omega)]
  have e3 : m.1 (pq p 7) - 1 = I ((Y : Nat) : Int) := by rw [I_F' h7, lit1q, I_sub]; congr 1; omega
  show some (upL (upI (upI (upJ m (pq p 6) (va_cpy (m.2.2.2 (pq p 6)) (m.2.2.2 (pq p 6)) (tr + 1) tr (Y - tr))) (pq p 7) (m.1 (pq p 7) - 1)) (pq p 8) 0) (pq p 10) (-1), ()) = _
  rw [e3]
  rfl
end
section
variable {α β : Type} {b : Int → Nat → Nat → Prop} {N p U B W Y j a k n tr : Nat} {m w m2 w2 : MS} {nb : Nat → Nat} {Hs Os : Nat → List Nat} {Q : MS → α → MS → β → Prop} {D : Option (MS × α)} {K : MS → Unit → Option (MS × β)} {K1 : MS → Option (MS × α)} {K2 : MS → Option (MS × β)} {G : MS → Int32 → Option (MS × Unit)}
theorem cho148 (hpp : p < 24) (h3 : F w 133 = ((p : Nat) : Int)) (h95 : A w 95 p = ((j + 1 : Nat) : Int)) (hj : j < 60) (h154 : F w 154 = ((k : Nat) : Int)) (hk : k < 100000) (h43 : A w 43 k = ((n : Nat) : Int)) (h : PP Q D (K (wa w 98 (60 * p + j) ((n : Nat) : Int)) ())) : PP Q D (bnd (fb_M_chosen_148 N G w) K) := by
  unfold fb_M_chosen_148
  refine rb_ck (fun _ => ?_)
  rw [I_F' h154, tnI (n := k) rfl (by omega), I_A' h43]
  refine rb_bnd (pk_mo (goto_r (N := N) (n := ((n : Nat) : Int)) hpp h3 h95 hj) (fun w2 _ e => ?_))
  subst e
  exact h
theorem chosen_1 (hpp : p < 24) (pl : PLs b p m w U B (W + 1) Y) (ru : RUb m (wi w 152 0) p j nb Hs Os none) (hW : W + 1 ≤ 46000) (hpc : F m 1105 = ((a : Nat) : Int)) (ha : a + 1 < 24000) (h153 : F w 153 = 1) (h154 : F w 154 = ((k : Nat) : Int)) (hk : k < 100000) (h43 : A w 43 k = ((n : Nat) : Int)) (cr : ∃ f, CRs (A m 23) (ROs w) (w.2.2.2 34) f none (a + 1) n (Hs j) (Os j))
    (c : ∀ m3 w3, PLs b p m3 w3 U B W Y → RUs m3 w3 p j nb Hs Os none (a + 1) n → GGm p m m3 → GGw p w w3 → (SCs p m w → SCs p m3 w3) → PP Q (K1 m3) (K2 w3)) : PP Q (bnd (hm_Ma_value N m p (I 15)) (fun u _ => K1 u)) (bnd (fm_M_chosen N w) (fun u _ => K2 u)) := by
  obtain ⟨⟨fa, ct⟩, ⟨r5, r6⟩, r7, ⟨r8, r9, r10⟩, r11, r12, r13⟩ := id ru
  have hj : j < 60 := fa.1.2.2
  have nr := A_r w 43 k
  rw [h43] at nr
  rw [val15, I_F' hpc, show I ((a : Nat) : Int) + 1 = I ((a + 1 : Nat) : Int) from addN, Co_e (k := a + 1) rfl ha, bnd_so, show (1 : Int32) = I 1 from rfl, drop_e (W := W + 1) (k := 1) (x := 1) pl.2.2.1.1 rfl (by omega), bnd_so, Nat.add_sub_cancel]
  have e5 : F (wi m (pq p 26) ((W : Nat) : Int)) 1105 = ((a : Nat) : Int) := by rw [wi_ne (pq_n (by omega))]; exact hpc
  rw [lt_e, I_F' e5, show I ((a : Nat) : Int) + I 1 = I ((a + 1 : Nat) : Int) from addN, wi_e, bnd_so]
  have e153 : F (wi w 152 0) 153 = 1 := by rw [wi_ne (by omega)]; exact h153
  have e154 : F (wi w 152 0) 154 = ((k : Nat) : Int) := by rw [wi_ne (by omega)]; exact h154
  have e92 : A (wi w 152 0) 92 p = ((W + 1 : Nat) : Int) := pl.2.2.1.2.1
  unfold fm_M_chosen fb_M_chosen_0
  rw [show upI w 152 0 = wi w 152 0 from rfl, lt_e, I_F' e153, show decide (I 1 = 0) = false from rfl, br_fq, show decide (I 1 = 1) = true from rfl, br_tq]
  refine rb_ck (fun _ => rb_ck (fun _ => ?_))
  rw [I_F' r11, tnI (n := p) rfl (by omega), I_A' e92, show I ((W + 1 : Nat) : Int) - 1 = I ((W : Nat) : Int) by rw [lit1q, I_sub]; congr 1; omega, wa_e, lt_e]
  have f3 : FGm p m (wi (wi m (pq p 26) ((W : Nat) : Int)) 1105 ((a + 1 : Nat) : Int)) := FGm.tr FGm.drop FGm.pc
  have g3 : FGw p j (wi w 152 0) (wa (wa (wi w 152 0) 92 p ((W : Nat) : Int)) 98 (60 * p + j) ((n : Nat) : Int)) := FGw.tr FGw.w92 FGw.goto
  refine cho148 (j := j) (k := k) (n := n) hpp r11 (by rw [wa_rne (by omega)]; exact fa.1.2.1) hj e154 hk (by rw [wa_rne (by omega)]; exact h43) ?_
  exact c _ _ (PLs_pc (PLs_98 (PLs_drop (k := 1) (PLs_ri pl) (by omega)))) (RUs_mk ⟨fa, ct⟩ r5 r6 r7 r8 r9 r10 r11 r12 r13 f3 g3 (by rw [wi_sm (by omega) (by omega)]) (by rw [wa_sm nr.1 nr.2]) cr) (GGm_fg f3) (GGw.tr (GGw_reg (by omega) (by omega)) (GGw_fg g3 hj)) (fun s => SC_fg (w := wi w 152 0) s f3 g3)
theorem chosen_2 (hpp : p < 24) (pl : PLs b p m w U B W Y) (ru : RUb m (wi w 152 0) p j nb Hs Os none) (hpc : F m 1105 = ((a : Nat) : Int)) (h153 : F w 153 = 2) (h154 : F w 154 = ((k : Nat) : Int)) (hk : k < 100000) (h43 : A w 43 k = ((n : Nat) : Int)) (cr : ∃ f, CRs (A m 23) (ROs w) (w.2.2.2 34) f none a n (Hs j) (Os j))
    (c : ∀ w3, PLs b p m w3 U B W Y → RUs m w3 p j nb Hs Os none a n → GGw p w w3 → (SCs p m w → SCs p m w3) → PP Q D (K2 w3)) : PP Q D (bnd (fm_M_chosen N w) (fun u _ => K2 u)) := by
  obtain ⟨⟨fa, ct⟩, ⟨r5, r6⟩, r7, ⟨r8, r9, r10⟩, r11, r12, r13⟩ := id ru
  have hj : j < 60 := fa.1.2.2
  have nr := A_r w 43 k
  rw [h43] at nr
  have e153 : F (wi w 152 0) 153 = 2 := by rw [wi_ne (by omega)]; exact h153
  have e154 : F (wi w 152 0) 154 = ((k : Nat) : Int) := by rw [wi_ne (by omega)]; exact h154
  unfold fm_M_chosen fb_M_chosen_0
  rw [show upI w 152 0 = wi w 152 0 from rfl, lt_e, I_F' e153, show decide (I 2 = 0) = false from rfl, br_fq, show decide (I 2 = 1) = false from rfl, br_fq, show decide (I 2 = 3) = false from rfl, br_fq]
  have g3 : FGw p j (wi w 152 0) (wa (wi w 152 0) 98 (60 * p + j) ((n : Nat) : Int)) := FGw.goto
  refine cho148 (j := j) (k := k) (n := n) hpp r11 fa.1.2.1 hj e154 hk h43 ?_
  exact c _ (PLs_98 (PLs_ri pl)) (RUs_mk ⟨fa, ct⟩ r5 r6 r7 r8 r9 r10 r11 r12 r13 FGm.rf g3 hpc (by rw [wa_sm nr.1 nr.2]) cr) (GGw.tr (GGw_reg (by omega) (by omega)) (GGw_fg g3 hj)) (fun s => SC_fg (w := wi w 152 0) s FGm.rf g3)
theorem chosen_0 {n0 t : Nat} (hpp : p < 24) (pl : PLs b p m w U B (W + n0) Y) (ru : RUb m (wi w 152 0) p j nb Hs Os none) (hW : W + n0 ≤ 46000) (hpc : F m 1105 = ((a : Nat) : Int)) (ha : a + 3 < 24000) (h153 : F w 153 = 0) (h154 : F w 154 = ((k : Nat) : Int)) (hk : k < 100000) (h41 : A w 41 k = ((n0 : Nat) : Int)) (c1 : A m 23 (a + 1) = A w 41 k) (h44 : A w 44 k = ((t : Nat) : Int)) (c2 : A m 23 (a + 2) = A w 8 t) (h43 : A w 43 k = ((n : Nat) : Int)) (cr : ∃ f, CRs (A m 23) (ROs w) (w.2.2.2 34) f none (a + 3) n (Hs j) (Os j))
    (c : ∀ m3 w3, PLs b p m3 w3 U B W Y → RUs m3 w3 p j nb Hs Os none (a + 3) n → GGm p m m3 → GGw p w w3 → (SCs p m w → SCs p m3 w3) → PP Q (K1 m3) (K2 w3)) : PP Q (bnd (hm_Ma_flow N m p (I 24)) (fun u _ => K1 u)) (bnd (fm_M_chosen N w) (fun u _ => K2 u)) := by
  obtain ⟨⟨fa, ct⟩, ⟨r5, r6⟩, r7, ⟨r8, r9, r10⟩, r11, r12, r13⟩ := id ru
  have hj : j < 60 := fa.1.2.2
  have nr := A_r w 43 k
  rw [h43] at nr
  rw [h41] at c1
  have r7' : F m 1112 = 0 := by
    rcases r7 with ⟨_, c3, _⟩ | ⟨_, _, _, c, _⟩
    · exact c3
    · cases c
  rw [flo24, I_F' hpc, show I ((a : Nat) : Int) + 1 = I ((a + 1 : Nat) : Int) from addN, Co_e (k := a + 1) rfl (by omega), bnd_so, c1, drop_e (W := W + n0) (k := n0) (x := ((n0 : Nat) : Int)) pl.2.2.1.1 rfl (by omega), bnd_so, Nat.add_sub_cancel]
  generalize hm1 : wi m (pq p 26) ((W : Nat) : Int) = m1
  have e5 : F m1 1105 = ((a : Nat) : Int) := by rw [← hm1, wi_ne (pq_n (by omega))]; exact hpc
  have e21 : F m1 (pq p 21) = ((j + 1 : Nat) : Int) := by rw [← hm1, wi_ne (pq_inj (by omega))]; exact fa.1.1
  have e23 : A m1 23 (a + 2) = A w 8 t := by rw [← hm1]; exact c2
  unfold hm_Fr_setLine hb_Fr_setLine_0
  rw [I_F' e5, show I ((a : Nat) : Int) + 2 = I ((a + 2 : Nat) : Int) from addN, Co_e (k := a + 2) rfl (by omega), bnd_so, e23, show (1 : Int32) = I 1 from rfl, set_s (y := 1) (k := 1) (j := j) e21 hj rfl (by omega), bnd_so, bnd_so]
  have e5' : F (s30 m1 p (5 * j + 1) (I (A w 8 t))) 1105 = ((a : Nat) : Int) := e5
  rw [lt_e, I_F' e5', show I ((a : Nat) : Int) + 3 = I ((a + 3 : Nat) : Int) from addN, wi_e, bnd_so]
  have e153 : F (wi w 152 0) 153 = 0 := by rw [wi_ne (by omega)]; exact h153
  have e154 : F (wi w 152 0) 154 = ((k : Nat) : Int) := by rw [wi_ne (by omega)]; exact h154
  have e92 : A (wi w 152 0) 92 p = ((W + n0 : Nat) : Int) := pl.2.2.1.2.1
  have e41 : A (wi w 152 0) 41 k = ((n0 : Nat) : Int) := h41
  unfold fm_M_chosen fb_M_chosen_0
  rw [show upI w 152 0 = wi w 152 0 from rfl, lt_e, I_F' e153, show decide (I 0 = 0) = true from rfl, br_tq]
  refine rb_ck (fun _ => rb_ck (fun _ => rb_ck (fun _ => ?_)))
  rw [I_F' r11, tnI (n := p) rfl (by omega), I_A' e92, I_F' e154, tnI (n := k) rfl (by omega), I_A' e41, show I ((W + n0 : Nat) : Int) - I ((n0 : Nat) : Int) = I ((W : Nat) : Int) by rw [I_sub]; congr 1; omega, wa_e, lt_e]
  generalize hw1 : wa (wi w 152 0) 92 p ((W : Nat) : Int) = w1
  have w1F : ∀ l, F w1 l = F (wi w 152 0) l := fun l => by rw [← hw1]; rfl
  have w1A : ∀ K i, K ≠ 92 → A w1 K i = A w K i := fun K i h => by rw [← hw1, wa_rne h]; rfl
  unfold fm_M_frame0 fb_M_frame0_0
  have x33 : F w1 133 = ((p : Nat) : Int) := (w1F 133).trans r11
  have x95 : A w1 95 p = ((j + 1 : Nat) : Int) := (w1A 95 p (by omega)).trans fa.1.2.1
  have x154 : F w1 154 = ((k : Nat) : Int) := (w1F 154).trans e154
  have ix : (I ((p : Nat) : Int) * 60 + I ((j + 1 : Nat) : Int) - 1).toNatClampNeg = 60 * p + j := by
    rw [show (60 : Int32) = I 60 from rfl, lit1q, I_mul, I_add, I_sub]
    exact tnI (n := 60 * p + j) (by omega) (by omega)
  rw [I_F' x33, tnI (n := p) rfl (by omega), I_A' x95]
  refine rb_bnd (pk_ck (fun _ => pk_some ?_))
  refine rb_ck (fun _ => ?_)
  rw [ix, I_F' x154, wa_e, lt_e]
  refine cho148 (j := j) (k := k) (n := n) hpp x33 (by rw [wa_rne (by omega)]; exact x95) hj x154 hk (by rw [wa_rne (by omega), w1A 43 k (by omega)]; exact h43) ?_
  generalize hw3 : wa (wa w1 97 (60 * p + j) ((k : Nat) : Int)) 98 (60 * p + j) ((n : Nat) : Int) = w3
  generalize hm3 : wi (s30 m1 p (5 * j + 1) (I (A w 8 t))) 1105 ((a + 3 : Nat) : Int) = m3
  have a8 := A_r w 8 t
  have w3R : ∀ K, K ≠ 92 → K ≠ 97 → K ≠ 98 → w3.2.2.1 K = w.2.2.1 K := fun K h1 h2 h3 => by rw [← hw3, wa_21 h3, wa_21 h2, ← hw1, wa_21 h1]; rfl
  have pr : ∀ K, PRr K → w3.2.2.1 K = w.2.2.1 K := fun K h => w3R K (by unfold PRr at h; omega) (by unfold PRr at h; omega) (by unfold PRr at h; omega)
  have w3F : ∀ l, l ≠ 152 → w3.1 l = w.1 l := fun l h => by rw [← hw3, ← hw1]; exact wi_1 h
  have w3J : w3.2.2.2 = w.2.2.2 := by rw [← hw3, ← hw1]; rfl
  have mq : ∀ l, l ≠ 26 → m3.1 (pq p l) = m.1 (pq p l) := fun l h => by
    rw [← hm3, wi_1 (fun c => pq_n (by omega) c.symm)]
    show m1.1 (pq p l) = _
    rw [← hm1, wi_1 (pq_inj h)]
  have mg : ∀ l, l < 2000 → l ≠ 1105 → m3.1 l = m.1 l := fun l h0 h => by
    rw [← hm3, wi_1 h]
    show m1.1 l = _
    rw [← hm1, wi_1 (pq_n h0)]
  have m3A : ∀ K, K ≠ pq p 30 → m3.2.2.1 K = m.2.2.1 K := fun K h => by
    rw [← hm3, ← hm1]
    exact if_neg h
  have m3J : m3.2.2.2 = m.2.2.2 := by rw [← hm3, ← hm1]; rfl
  have m30 : ∀ i, A m3 (pq p 30) i = if i = 5 * j + 1 then (I (A w 8 t)).toInt else A m (pq p 30) i := fun i => by
    rw [← hm3]
    show A (s30 m1 p (5 * j + 1) (I (A w 8 t))) (pq p 30) i = _
    rw [s30_a, ← hm1]
    rfl
  have h23 : A m3 23 = A m 23 := by funext i; show (m3.2.2.1 23 i).toInt = _; rw [m3A 23 (pq_n (by omega))]; rfl
  have wR : ∀ K i, 95 ≤ K → K ≤ 101 → ¬ (K = 97 ∧ i = 60 * p + j) → ¬ (K = 98 ∧ i = 60 * p + j) → A w3 K i = A w K i := fun K i h1 h2 h3 h4 => by
    show (w3.2.2.1 K i).toInt = _
    rw [← hw3, wa_at h4, wa_at h3]
    exact w1A K i (by omega)
  have fa3 : FAs m3 w3 p j nb Hs Os := FA_line (w := w) (k := k) (t := t) (l := A w 8 t) fa (congrArg Int32.toInt (mq 21 (by omega))) (congrArg Int32.toInt (mq 24 (by omega))) (fun i h => by rw [m30, if_neg h]) (by rw [m30, if_pos rfl]; exact I_ti a8.1 a8.2) (m3A _ (pq_inj (by omega))) (m3A 23 (pq_n (by omega))) wR (by rw [← hw3, wa_rne (by omega), wa_sm (by omega) (by omega)]) h44 rfl pr (by rw [w3J])
  have ct3 : CTs m3 w3 p j nb Hs Os := CT_same (w := w) ct (mq 28 (by omega)) (m3A _ (pq_inj (by omega))) (m3A 23 (pq_n (by omega))) (fun K h1 h2 => w3R K (by omega) (by omega) (by omega)) pr (by rw [w3J])
  have pl3 : PLs b p m3 w3 U B W Y := by
    have q := PLs_drop (k := n0) (PLs_ri (v := 0) (i := 152) pl) (by omega)
    rw [hm1, hw1] at q
    refine PLs_cg q (fun l _ => ?_) (fun i _ => ?_) (fun i _ => ?_) (fun i _ => ?_) (fun i _ => ?_) (fun K hK => ?_) (fun i _ => ?_) (fun i _ => ?_) (fun i _ => ?_) (fun i _ => ?_)
    · rw [← hm3, wi_1 (fun c => pq_n (by omega) c.symm)]; rfl
    · rw [← hm3]; rfl
    · rw [← hm3]; rfl
    · rw [← hm3]; rfl
    · rw [← hm3]; rfl
    · simp only [List.mem_cons, List.not_mem_nil, or_false] at hK
      rw [← hw3, wa_21 (by omega), wa_21 (by omega)]
    · rw [← hw3]; rfl
    · rw [← hw3]; rfl
    · rw [← hw3]; rfl
    · rw [← hw3]; rfl
  have gm : GGm p m m3 := by
    rw [← hm3, ← hm1]
    exact GGm.tr (GGm.tr (GGm_own (by omega)) GGm_s30) (GGm_reg (by omega))
  have gw : GGw p w w3 := by
    rw [← hw3, ← hw1]
    exact GGw.tr (GGw.tr (GGw.tr (GGw_reg (by omega) (by omega)) (GGw_own (Or.inl ⟨by omega, rfl⟩))) (GGw_own (Or.inr (Or.inl ⟨⟨by omega, by omega⟩, by omega, by omega⟩)))) (GGw_own (Or.inr (Or.inl ⟨⟨by omega, by omega⟩, by omega, by omega⟩)))
  refine c m3 w3 pl3 ⟨⟨fa3, ct3⟩, ⟨?_, ?_⟩, ?_, ⟨(congrArg Int32.toInt (mq 9 (by omega))).trans r5, ?_⟩, Or.inl ⟨rfl, (congrArg Int32.toInt (mg 1112 (by omega) (by omega))).trans r7', ?_⟩, ⟨(congrArg Int32.toInt (mg 1108 (by omega) (by omega))).trans r8, (congrArg Int32.toInt (mg 1109 (by omega) (by omega))).trans r9, ?_⟩, ?_, ?_, ?_⟩ gm gw (fun s => SC_ow s (fun l hl => mq l (by omega)) (m3A _ (pq_inj (by omega))) (fun K h1 h2 => w3R K (by omega) (by omega) (by omega)))
  · rw [← hm3, wi_sm (by omega) (by omega)]
  · rw [← hw3, wa_sm nr.1 nr.2]
  · rw [h23, ROs_eq pr, w3J]; exact cr
  · show (w3.2.2.1 109 p).toInt = _
    rw [w3R 109 (by omega) (by omega) (by omega)]; exact r6
  · rw [← hw3, ← hw1]
    show F (wi w 152 0) 152 = 0
    exact wi_sm (by omega) (by omega)
  · exact (congrArg Int32.toInt (w3F 151 (by omega))).trans ((wi_ne (x := 0) (by omega)).symm.trans r10)
  · exact (congrArg Int32.toInt (w3F 133 (by omega))).trans ((wi_ne (x := 0) (by omega)).symm.trans r11)
  · rw [mg 1106 (by omega) (by omega), w3F 165 (by omega)]; exact r12.trans (wi_1 (by omega))
  · rw [mg 1107 (by omega) (by omega), w3F 164 (by omega)]; exact r13.trans (wi_1 (by omega))
end
end
section
set_option maxRecDepth 100000
section
variable {p k : Nat} {m : MS} {r : Nat → Int64} {t : Int64}
theorem GGm_j (hk : k < 100) : GGm p m (upJ m (pq p k) r) := ⟨fun d hd l hl => ⟨rfl, rfl, rfl, if_neg (fun c => hd (pq_e hl hk c).1)⟩, ⟨rfl, rfl, rfl, rfl⟩, rfl, rfl, rfl, fun _ _ => rfl, fun _ _ => rfl⟩
theorem GGm_l (hk : k < 100) : GGm p m (wl m (pq p k) t) := ⟨fun d hd l hl => ⟨rfl, if_neg (fun c => hd (pq_e hl hk c).1), rfl, rfl⟩, ⟨rfl, rfl, rfl, rfl⟩, rfl, rfl, rfl, fun _ _ => rfl, fun _ _ => rfl⟩
end
section
variable {α β : Type} {b : Int → Nat → Nat → Prop} {N p U B W Y j a k n tr : Nat} {m w m2 w2 w0 : MS} {nb : Nat → Nat} {Hs Os : Nat → List Nat} {Q : MS → α → MS → β → Prop} {D : Option (MS × α)} {K : MS → Unit → Option (MS × β)} {K1 : MS → Option (MS × α)} {K2 : MS → Option (MS × β)}
theorem cho_lp (hpp : p < 24) (h133 : F w0 133 = ((p : Nat) : Int)) (h108 : A w0 108 p = ((Y : Nat) : Int)) (hY : Y < 30) (kk : ∀ u G, FR [] [] [] [107] w0 u → (∀ q, u.2.2.2 107 q = if 30 * p + tr ≤ q ∧ q < 30 * p + Y then w0.2.2.2 107 (q + 1) else w0.2.2.2 107 q) → PP Q D (bnd (fb_M_chosen_148 N G u) K)) : ∀ (d M : Nat) (u : MS) (i : Nat), i + d = Y → tr ≤ i → FR [] [] [] [107] w0 u → (∀ q, u.2.2.2 107 q = if 30 * p + tr ≤ q ∧ q < 30 * p + i then w0.2.2.2 107 (q + 1) else w0.2.2.2 107 q) → PP Q D (bnd (gg_M_chosen N M u (I ((i : Nat) : Int))) K) := by
  intro d
  induction d with
  | zero =>
    intro M u i hi ht f r
    have : i = Y := by omega
    subst this
    cases M with
    | zero => exact pp_nr
    | succ M =>
    show PP Q D (bnd (fb_M_chosen_99 N (gg_M_chosen N M) u (I ((i : Nat) : Int))) K)
    unfold fb_M_chosen_99
    have x3 : F u 133 = ((p : Nat) : Int) := by rw [FR.F f (by simp)]; exact h133
    have x8 : A u 108 p = ((i : Nat) : Int) := by rw [FR.A f (by simp)]; exact h108
    refine rb_ck (fun _ => ?_)
    rw [I_F' x3, tnI (n := p) rfl (by omega), I_A' x8, decI (by omega) (by omega) (by omega) (by omega), decide_eq_true (by omega), br_tq]
    exact kk u _ f r
  | succ d ih =>
    intro M u i hi ht f r
    cases M with
    | zero => exact pp_nr
    | succ M =>
    show PP Q D (bnd (fb_M_chosen_99 N (gg_M_chosen N M) u (I ((i : Nat) : Int))) K)
    unfold fb_M_chosen_99
    have x3 : F u 133 = ((p : Nat) : Int) := by rw [FR.F f (by simp)]; exact h133
    have x8 : A u 108 p = ((Y : Nat) : Int) := by rw [FR.A f (by simp)]; exact h108
    refine rb_ck (fun _ => ?_)
    rw [I_F' x3, tnI (n := p) rfl (by omega), I_A' x8, decI (by omega) (by omega) (by omega) (by omega), decide_eq_false (by omega), br_fq]
    have i0 : (I ((p : Nat) : Int) * 30 + I ((i : Nat) : Int)).toNatClampNeg = 30 * p + i := by
      rw [show (30 : Int32) = I 30 from rfl, I_mul, I_add]
      exact tnI (n := 30 * p + i) (by omega) (by omega)
    have i1 : (I ((p : Nat) : Int) * 30 + I ((i : Nat) : Int) + 1).toNatClampNeg = 30 * p + i + 1 := by
      rw [show (30 : Int32) = I 30 from rfl, lit1q, I_mul, I_add, I_add]
      exact tnI (n := 30 * p + i + 1) (by omega) (by omega)
    refine rb_ck (fun _ => rb_ck (fun _ => ?_))
    rw [i1, i0, wj_e, lt_e, show I ((i : Nat) : Int) + 1 = I ((i + 1 : Nat) : Int) from addN]
    refine ih M _ (i + 1) (by omega) (by omega) (FR.wj f (by simp)) (fun q => ?_)
    rw [wj_row]
    by_cases c : q = 30 * p + i
    · subst c
      rw [if_pos rfl, r _, if_neg (by omega), if_pos (by omega)]
    · rw [if_neg c, r q]
      by_cases c2 : 30 * p + tr ≤ q ∧ q < 30 * p + i
      · rw [if_pos c2, if_pos (by omega)]
      · rw [if_neg c2, if_neg (by omega)]
theorem chosen_3 (hpp : p < 24) (pl : PLs b p m w U B W (Y + 1)) (ru : RUb m (wi w 152 0) p j nb Hs Os none) (hY : Y < 30) (h8 : F m (pq p 8) = ((tr : Nat) : Int)) (h158 : F w 158 = ((tr : Nat) : Int)) (ht : tr ≤ Y) (hpc : F m 1105 = ((a : Nat) : Int)) (ha : a + 1 < 24000) (h153 : F w 153 = 3) (h154 : F w 154 = ((k : Nat) : Int)) (hk : k < 100000) (h43 : A w 43 k = ((n : Nat) : Int)) (cr : ∃ f, CRs (A m 23) (ROs w) (w.2.2.2 34) f none (a + 1) n (Hs j) (Os j))
    (c : ∀ m3 w3, PLs b p m3 w3 U B W Y → RUs m3 w3 p j nb Hs Os none (a + 1) n → GGm p m m3 → GGw p w w3 → (SCs p m w → SCs p m3 w3) → PP Q (K1 m3) (K2 w3)) : PP Q (bnd (hm_Ma_flow N m p (I 33)) (fun u _ => K1 u)) (bnd (fm_M_chosen N w) (fun u _ => K2 u)) := by
  obtain ⟨⟨fa, ct⟩, ⟨r5, r6⟩, r7, ⟨r8, r9, r10⟩, r11, r12, r13⟩ := id ru
  have hj : j < 60 := fa.1.2.2
  have nr := A_r w 43 k
  rw [h43] at nr
  have r7' : F m 1112 = 0 := by
    rcases r7 with ⟨_, c3, _⟩ | ⟨_, _, _, c, _⟩
    · exact c3
    · cases c
  rw [flo33, I_F' hpc, show I ((a : Nat) : Int) + 1 = I ((a + 1 : Nat) : Int) from addN, Co_e (k := a + 1) rfl ha, bnd_so, takeM_e (tr := tr) (Y := Y) pl.2.2.2.1 h8 ht hY, bnd_so]
  have e5 : F (tkMs m p tr Y) 1105 = ((a : Nat) : Int) := by
    unfold tkMs
    show F (wi (wi (upJ m (pq p 6) _) (pq p 7) ((Y : Nat) : Int)) (pq p 8) 0) 1105 = _
    rw [wi_ne (pq_n (by omega)), wi_ne (pq_n (by omega))]
    exact hpc
  rw [lt_e, I_F' e5, show I ((a : Nat) : Int) + 1 = I ((a + 1 : Nat) : Int) from addN, wi_e, bnd_so, bnd_so]
  have e153 : F (wi w 152 0) 153 = 3 := by rw [wi_ne (by omega)]; exact h153
  have e154 : F (wi w 152 0) 154 = ((k : Nat) : Int) := by rw [wi_ne (by omega)]; exact h154
  have e158 : F (wi w 152 0) 158 = ((tr : Nat) : Int) := by rw [wi_ne (by omega)]; exact h158
  have e108 : A (wi w 152 0) 108 p = ((Y + 1 : Nat) : Int) := pl.2.2.2.2.1
  unfold fm_M_chosen fb_M_chosen_0
  rw [show upI w 152 0 = wi w 152 0 from rfl, lt_e, I_F' e153, show decide (I 3 = 0) = false from rfl, br_fq, show decide (I 3 = 1) = false from rfl, br_fq, show decide (I 3 = 3) = true from rfl, br_tq]
  refine rb_ck (fun _ => rb_ck (fun _ => ?_))
  rw [I_F' r11, tnI (n := p) rfl (by omega), I_A' e108, show I ((Y + 1 : Nat) : Int) - 1 = I ((Y : Nat) : Int) by rw [lit1q, I_sub]; congr 1; omega, wa_e, lt_e]
  generalize hw1 : wa (wi w 152 0) 108 p ((Y : Nat) : Int) = w1
  have w1F : ∀ l, F w1 l = F (wi w 152 0) l := fun l => by rw [← hw1]; rfl
  have w1i : ∀ l, w1.1 l = (wi w 152 0).1 l := fun l => by rw [← hw1]; rfl
  have w1R : ∀ K, K ≠ 108 → w1.2.2.1 K = w.2.2.1 K := fun K h => by rw [← hw1, wa_21 h]; rfl
  have w1J : w1.2.2.2 = w.2.2.2 := by rw [← hw1]; rfl
  have w18 : ∀ i, i ≠ p → w1.2.2.1 108 i = w.2.2.1 108 i := fun i h => by rw [← hw1]; exact wa_at (fun c => h c.2)
  have x33 : F w1 133 = ((p : Nat) : Int) := (w1F 133).trans r11
  have x154 : F w1 154 = ((k : Nat) : Int) := (w1F 154).trans e154
  have x158 : F w1 158 = ((tr : Nat) : Int) := (w1F 158).trans e158
  have x108 : A w1 108 p = ((Y : Nat) : Int) := by rw [← hw1, wa_sm (by omega) (by omega)]
  rw [I_F' x158]
  refine cho_lp (w0 := w1) (tr := tr) hpp x33 x108 hY (fun u G f r => ?_) (Y - tr) N w1 tr (by omega) (by omega) FR.rf (fun q => by rw [if_neg (by omega)])
  have uR : ∀ K, u.2.2.1 K = w1.2.2.1 K := fun K => f.2.2.1 K (by simp)
  have uJ : ∀ K, K ≠ 107 → u.2.2.2 K = w1.2.2.2 K := fun K h => f.2.2.2 K (by simpa using h)
  have u1 : ∀ l, u.1 l = w1.1 l := fun l => f.1 l (by simp)
  refine cho148 (j := j) (k := k) (n := n) hpp (by rw [FR.F f (by simp)]; exact x33) (by show (u.2.2.1 95 p).toInt = _; rw [uR, w1R 95 (by omega)]; exact fa.1.2.1) hj (by rw [FR.F f (by simp)]; exact x154) hk (by show (u.2.2.1 43 k).toInt = _; rw [uR, w1R 43 (by omega)]; exact h43) ?_
  generalize hw3 : wa u 98 (60 * p + j) ((n : Nat) : Int) = w3
  generalize hm3 : wi (tkMs m p tr Y) 1105 ((a + 1 : Nat) : Int) = m3
  have w3A : ∀ K i, K ≠ 108 → ¬ (K = 98 ∧ i = 60 * p + j) → w3.2.2.1 K i = w.2.2.1 K i := fun K i h1 h2 => by rw [← hw3, wa_at h2, uR, w1R K h1]
  have w3R : ∀ K, K ≠ 108 → K ≠ 98 → w3.2.2.1 K = w.2.2.1 K := fun K h1 h2 => by rw [← hw3, wa_21 h2, uR, w1R K h1]
  have w38 : w3.2.2.1 108 = w1.2.2.1 108 := by rw [← hw3, wa_21 (by omega), uR]
  have pr : ∀ K, PRr K → w3.2.2.1 K = w.2.2.1 K := fun K h => w3R K (by unfold PRr at h; omega) (by unfold PRr at h; omega)
  have w3J : ∀ K, K ≠ 107 → w3.2.2.2 K = w.2.2.2 K := fun K h => by
    rw [← hw3]
    show u.2.2.2 K = _
    rw [uJ K h, w1J]
  have w37 : ∀ q, w3.2.2.2 107 q = if 30 * p + tr ≤ q ∧ q < 30 * p + Y then w.2.2.2 107 (q + 1) else w.2.2.2 107 q := fun q => by
    rw [← hw3]
    show u.2.2.2 107 q = _
    rw [r q, w1J]
  have w3F : ∀ l, l ≠ 152 → w3.1 l = w.1 l := fun l h => by
    rw [← hw3]
    show u.1 l = _
    rw [u1, w1i]
    exact wi_1 h
  have mq : ∀ l, l ≠ 7 → l ≠ 8 → m3.1 (pq p l) = m.1 (pq p l) := fun l h1 h2 => by
    rw [← hm3, wi_1 (fun c => pq_n (by omega) c.symm)]
    unfold tkMs
    show (wi (wi (upJ m (pq p 6) _) (pq p 7) ((Y : Nat) : Int)) (pq p 8) 0).1 (pq p l) = _
    rw [wi_1 (pq_inj h2), wi_1 (pq_inj h1)]
    rfl
  have mg : ∀ l, l < 2000 → l ≠ 1105 → m3.1 l = m.1 l := fun l h0 h => by
    rw [← hm3, wi_1 h]
    unfold tkMs
    show (wi (wi (upJ m (pq p 6) _) (pq p 7) ((Y : Nat) : Int)) (pq p 8) 0).1 l = _
    rw [wi_1 (pq_n h0), wi_1 (pq_n h0)]
    rfl
  have m3A : m3.2.2.1 = m.2.2.1 := by rw [← hm3]; rfl
  have m3J : ∀ K, K ≠ pq p 6 → m3.2.2.2 K = m.2.2.2 K := fun K h => by rw [← hm3]; exact if_neg h
  have m36 : ∀ i, m3.2.2.2 (pq p 6) i = if tr ≤ i ∧ i < tr + (Y - tr) then m.2.2.2 (pq p 6) (tr + 1 + (i - tr)) else m.2.2.2 (pq p 6) i := fun i => by
    rw [← hm3]
    show (if pq p 6 = pq p 6 then va_cpy (m.2.2.2 (pq p 6)) (m.2.2.2 (pq p 6)) (tr + 1) tr (Y - tr) else m.2.2.2 (pq p 6)) i = _
    rw [if_pos rfl]
    rfl
  have m37 : F m3 (pq p 7) = ((Y : Nat) : Int) := by
    rw [← hm3, wi_ne (fun c => pq_n (by omega) c.symm)]
    unfold tkMs
    show F (wi (wi (upJ m (pq p 6) _) (pq p 7) ((Y : Nat) : Int)) (pq p 8) 0) (pq p 7) = _
    rw [wi_ne (pq_inj (by omega)), wi_sm (by omega) (by omega)]
  have h23 : A m3 23 = A m 23 := by funext i; show (m3.2.2.1 23 i).toInt = _; rw [m3A]; rfl
  have fc3 : FAs m3 w3 p j nb Hs Os ∧ CTs m3 w3 p j nb Hs Os := FC_w (w := w) ⟨fa, ct⟩ (fun l h => mq l (by omega) (by omega)) (fun l _ => by rw [m3A]) (by rw [m3A]) (fun K h => by rw [w3R K (by omega) (by omega)]) (fun K r h1 h2 h3 h4 => w3A K _ (by omega) (by omega)) (fun K c h1 h2 _ => by rw [w3R K (by omega) (by omega)]) pr (w3J 34 (by omega))
  have pl3 : PLs b p m3 w3 U B W Y := by
    obtain ⟨⟨⟨q1, q2, q3⟩, q4, q5⟩, ⟨q6, q7, q8⟩, ⟨q9, q10, q11⟩, q12, q13, q14⟩ := pl
    have hh : hp w3 p = hp w p := by funext i; show w3.2.2.2 88 _ = _; rw [w3J 88 (by omega)]; rfl
    have nA : ∀ K i, K ≠ 108 → K ≠ 98 → A w3 K i = A w K i := fun K i h1 h2 => by show (w3.2.2.1 K i).toInt = _; rw [w3R K h1 h2]; rfl
    have mF : ∀ l, l ≠ 7 → l ≠ 8 → F m3 (pq p l) = F m (pq p l) := fun l h1 h2 => congrArg Int32.toInt (mq l h1 h2)
    refine ⟨⟨⟨by rw [mF 4 (by omega) (by omega)]; exact q1, by rw [nA 89 _ (by omega) (by omega)]; exact q2, q3⟩, by rw [m3J _ (pq_inj (by omega)), hh]; exact q4, by rw [mq 5 (by omega) (by omega), w3R 90 (by omega) (by omega)]; exact q5⟩, ⟨by rw [mF 24 (by omega) (by omega)]; exact q6, by rw [nA 94 _ (by omega) (by omega)]; exact q7, fun i hi => by rw [m3J _ (pq_inj (by omega)), w3J 93 (by omega)]; exact q8 i hi⟩, ⟨by rw [mF 26 (by omega) (by omega)]; exact q9, by rw [nA 92 _ (by omega) (by omega)]; exact q10, fun i hi => by rw [m3J _ (pq_inj (by omega)), w3J 91 (by omega)]; exact q11 i hi⟩, m37, ?_, fun i hi => ?_⟩
    · show (w3.2.2.1 108 p).toInt = _
      rw [w38]
      exact x108
    · rw [m36, w37]
      by_cases c1 : tr ≤ i
      · rw [if_pos (by omega), if_pos (by omega), show tr + 1 + (i - tr) = i + 1 by omega]
        exact q14 (i + 1) (by omega)
      · rw [if_neg (by omega), if_neg (by omega)]
        exact q14 i (by omega)
  have gm : GGm p m m3 := by
    rw [← hm3]
    exact GGm.tr (GGm.tr (GGm.tr (GGm.tr (GGm_j (by omega)) (GGm_own (by omega))) (GGm_own (by omega))) (GGm_l (by omega))) (GGm_reg (by omega))
  have gw : GGw p w w3 := by
    refine ⟨fun d hd => ⟨fun K i h => w3A K i (OWi_k h).2.1 (fun c => ?_), fun K h => ?_, fun i _ _ => by rw [w3R 131 (by omega) (by omega)], by rw [w3J 111 (by omega)], fun i _ _ => by rw [w3J 88 (by omega)], fun i _ _ => by rw [w3J 91 (by omega)], fun i _ _ => by rw [w3J 93 (by omega)], fun i h1 h2 => ?_⟩, ⟨pr, w3J 34 (by omega), w3R 12 (by omega) (by omega), w3R 13 (by omega) (by omega), w3F 14 (by omega)⟩, w3F 150 (by omega), fun K h => w3R K (by omega) (by omega), w3J 148 (by omega), fun K h => w3R K (by omega) (by omega), fun k h => w3F k (by omega)⟩
    · obtain ⟨rfl, rfl⟩ := c
      exact hd (OWi_d (Or.inr (Or.inl ⟨⟨by omega, by omega⟩, by omega, by omega⟩)) h)
    · by_cases c : K = 108
      · subst c
        rw [w38]
        exact w18 d hd
      · rw [w3R K c (by omega)]
    · rw [w37, if_neg (fun c => hd (by omega))]
  refine c m3 w3 pl3 ⟨fc3, ⟨?_, ?_⟩, ?_, ⟨(congrArg Int32.toInt (mq 9 (by omega) (by omega))).trans r5, ?_⟩, Or.inl ⟨rfl, (congrArg Int32.toInt (mg 1112 (by omega) (by omega))).trans r7', ?_⟩, ⟨(congrArg Int32.toInt (mg 1108 (by omega) (by omega))).trans r8, (congrArg Int32.toInt (mg 1109 (by omega) (by omega))).trans r9, ?_⟩, ?_, ?_, ?_⟩ gm gw (fun s => SC_ow s (fun l hl => mq l (by omega) (by omega)) (by rw [m3A]) (fun K h1 h2 => w3R K (by omega) (by omega)))
  · rw [← hm3, wi_sm (by omega) (by omega)]
  · rw [← hw3, wa_sm nr.1 nr.2]
  · rw [h23, ROs_eq pr, w3J 34 (by omega)]; exact cr
  · show (w3.2.2.1 109 p).toInt = _
    rw [w3R 109 (by omega) (by omega)]; exact r6
  · rw [← hw3]
    show F u 152 = 0
    rw [FR.F f (by simp), w1F]
    exact wi_sm (by omega) (by omega)
  · exact (congrArg Int32.toInt (w3F 151 (by omega))).trans ((wi_ne (x := 0) (by omega)).symm.trans r10)
  · exact (congrArg Int32.toInt (w3F 133 (by omega))).trans ((wi_ne (x := 0) (by omega)).symm.trans r11)
  · rw [mg 1106 (by omega) (by omega), w3F 165 (by omega)]; exact r12.trans (wi_1 (by omega))
  · rw [mg 1107 (by omega) (by omega), w3F 164 (by omega)]; exact r13.trans (wi_1 (by omega))
end
end
section
set_option maxRecDepth 100000
def gdR {γ : Type} (N : Nat) (w : MS) (G : MS → Option (MS × γ)) : Option (MS × γ) := lt (upI w 152 1) (fun w4 => ck (inb (w4.1 133) (ln 92)) (lt (upI w4 157 (w4.2.2.1 92 (w4.1 133).toNatClampNeg)) (fun w5 => ck (inb (w5.1 154) (ln 42)) (bnd (fm_M_goTo N w5 (w5.2.2.1 42 (w5.1 154).toNatClampNeg)) (fun u6 _ => G u6)))))
section
variable {α β : Type} {b : Int → Nat → Nat → Prop} {N p U B W Y j a k n kd sc fl M : Nat} {m w m2 w2 : MS} {nb : Nat → Nat} {Hs Os : Nat → List Nat} {O0 X : List Nat} {Q : MS → α → MS → β → Prop} {D : Option (MS × α)} {K : MS → Unit → Option (MS × β)} {K1 : MS → Option (MS × α)} {K2 : MS → Option (MS × β)} {S : SG_M_error}
theorem cho_0 (h : PP Q D (K w ())) : PP Q D (bnd (gg_M_choose N S M w 0) K) := by
  cases M with
  | zero => exact pp_nr
  | succ M =>
    show PP Q D (bnd (fb_M_choose_2 N S (gg_M_choose N S M) w 0) K)
    unfold fb_M_choose_2
    rw [show decide ((0 : Int32) = 0) = true from rfl, br_tq]
    exact h
theorem op_guard (hpp : p < 24) (pl : PLs b p m w U B W Y) (ru : RUb m w p j nb Hs Os none) (hW : W < 46000) (eO : Os j = O0 ++ X) (hpc : F m 1105 = ((a : Nat) : Int)) (ha : a + 3 < 24000) (c1 : A m 23 (a + 1) = ((X.length : Nat) : Int)) (c2 : A m 23 (a + 2) = ((fl : Nat) : Int)) (hf : 0 < fl) (h153 : F w 153 = ((kd : Nat) : Int)) (h154 : F w 154 = ((k : Nat) : Int)) (hk : k < 100000) (h156 : F w 156 = ((nb j + (Hs j).length + O0.length : Nat) : Int)) (tr : TRr kd sc m w p (Hs j) O0) (zr : ∃ f g, ZRs (A m 23) (ROs w) (w.2.2.2 34) (CRs (A m 23) (ROs w) (w.2.2.2 34) f) kd sc (Hs j) O0 g fl (A w 45 k)) (h42 : A w 42 k = ((n : Nat) : Int)) (cr : ∃ f, CRs (A m 23) (ROs w) (w.2.2.2 34) f (some (kd, k, sc)) (a + 3) n (Hs j) (Os j))
    (c : ∀ m3 w3, PLs b p m3 w3 U B W Y → RUs m3 w3 p j nb Hs Os (some (kd, k, sc)) (a + 3) n → GGm p m m3 → GGw p w w3 → (SCs p m w → SCs p m3 w3) → PP Q (K1 m3) (K2 w3)) : PP Q (bnd (hm_Ma_flow N m p (I 21)) (fun u _ => K1 u)) (gdR N w K2) := by
  obtain ⟨⟨fa, ct⟩, ⟨r5, r6⟩, r7, ⟨r8, r9, r10⟩, r11, r12, r13⟩ := id ru
  have hj : j < 60 := fa.1.2.2
  have nr := A_r w 42 k
  rw [h42] at nr
  have fr := A_r m 23 (a + 2)
  rw [c2] at fr
  have xr := A_r m 23 (a + 1)
  rw [c1] at xr
  rw [flo21, I_F' hpc, show I ((a : Nat) : Int) + 1 = I ((a + 1 : Nat) : Int) from addN, Co_e (k := a + 1) rfl (by omega), bnd_so, c1, lt_e, wi_e]
  have e5 : F (wi m 1113 ((X.length : Nat) : Int)) 1105 = ((a : Nat) : Int) := by rw [wi_ne (by omega)]; exact hpc
  have e23 : A (wi m 1113 ((X.length : Nat) : Int)) 23 (a + 2) = ((fl : Nat) : Int) := c2
  rw [I_F' e5, show I ((a : Nat) : Int) + 2 = I ((a + 2 : Nat) : Int) from addN, Co_e (k := a + 2) rfl (by omega), bnd_so, e23, lt_e, wi_e]
  have e26 : F (wi (wi m 1113 ((X.length : Nat) : Int)) 1112 ((fl : Nat) : Int)) (pq p 26) = ((W : Nat) : Int) := by rw [wi_ne (fun c => pq_n (by omega) c.symm), wi_ne (fun c => pq_n (by omega) c.symm)]; exact pl.2.2.1.1
  rw [lt_e, I_F' e26, wi_e, lt_e]
  have e5' : F (wi (wi (wi m 1113 ((X.length : Nat) : Int)) 1112 ((fl : Nat) : Int)) 1114 ((W : Nat) : Int)) 1105 = ((a : Nat) : Int) := by rw [wi_ne (by omega), wi_ne (by omega), wi_ne (by omega)]; exact hpc
  rw [I_F' e5', show I ((a : Nat) : Int) + 3 = I ((a + 3 : Nat) : Int) from addN, wi_e, bnd_so]
  unfold gdR
  rw [show upI w 152 1 = wi w 152 1 from rfl, lt_e]
  have w1 : F (wi w 152 1) 133 = ((p : Nat) : Int) := by rw [wi_ne (by omega)]; exact r11
  have w92 : A (wi w 152 1) 92 p = ((W : Nat) : Int) := pl.2.2.1.2.1
  refine r_ck (fun _ => ?_)
  rw [I_F' w1, tnI (n := p) rfl (by omega), I_A' w92, wi_e, lt_e]
  have w2 : F (wi (wi w 152 1) 157 ((W : Nat) : Int)) 133 = ((p : Nat) : Int) := by rw [wi_ne (by omega)]; exact w1
  have w3 : F (wi (wi w 152 1) 157 ((W : Nat) : Int)) 154 = ((k : Nat) : Int) := by rw [wi_ne (by omega), wi_ne (by omega)]; exact h154
  have w42 : A (wi (wi w 152 1) 157 ((W : Nat) : Int)) 42 k = ((n : Nat) : Int) := h42
  refine r_ck (fun _ => ?_)
  rw [I_F' w3, tnI (n := k) rfl (by omega), I_A' w42]
  refine r_bnd (pk_mo (goto_r (N := N) (n := ((n : Nat) : Int)) hpp w2 fa.1.2.1 hj) (fun u _ h => ?_))
  subst h
  generalize hw3 : wa (wi (wi w 152 1) 157 ((W : Nat) : Int)) 98 (60 * p + j) ((n : Nat) : Int) = w4
  generalize hm3 : wi (wi (wi (wi m 1113 ((X.length : Nat) : Int)) 1112 ((fl : Nat) : Int)) 1114 ((W : Nat) : Int)) 1105 ((a + 3 : Nat) : Int) = m4
  have mg : ∀ l, l ≠ 1113 → l ≠ 1112 → l ≠ 1114 → l ≠ 1105 → m4.1 l = m.1 l := fun l h1 h2 h3 h4 => by rw [← hm3, wi_1 h4, wi_1 h3, wi_1 h2, wi_1 h1]
  have mq : ∀ l, m4.1 (pq p l) = m.1 (pq p l) := fun l => mg _ (fun c => pq_n (by omega) c.symm) (fun c => pq_n (by omega) c.symm) (fun c => pq_n (by omega) c.symm) (fun c => pq_n (by omega) c.symm)
  have m2 : m4.2 = m.2 := by rw [← hm3]; rfl
  have w4A : ∀ K i, ¬ (K = 98 ∧ i = 60 * p + j) → w4.2.2.1 K i = w.2.2.1 K i := fun K i h => by rw [← hw3, wa_at h]; rfl
  have w4R : ∀ K, K ≠ 98 → w4.2.2.1 K = w.2.2.1 K := fun K h => by rw [← hw3, wa_21 h]; rfl
  have w4J : w4.2.2.2 = w.2.2.2 := by rw [← hw3]; rfl
  have w4F : ∀ l, l ≠ 152 → l ≠ 157 → w4.1 l = w.1 l := fun l h1 h2 => by
    rw [← hw3]
    show (wi (wi w 152 1) 157 ((W : Nat) : Int)).1 l = _
    rw [wi_1 h2, wi_1 h1]
  have w4f : ∀ l, l ≠ 152 → l ≠ 157 → F w4 l = F w l := fun l h1 h2 => congrArg Int32.toInt (w4F l h1 h2)
  have pr : ∀ K, PRr K → w4.2.2.1 K = w.2.2.1 K := fun K h => w4R K (by unfold PRr at h; omega)
  have h23 : A m4 23 = A m 23 := by funext i; show (m4.2.2.1 23 i).toInt = _; rw [m2]; rfl
  have fc3 : FAs m4 w4 p j nb Hs Os ∧ CTs m4 w4 p j nb Hs Os := FC_w ⟨fa, ct⟩ (fun l _ => mq l) (fun l _ => by rw [m2]) (by rw [m2]) (fun K h => by rw [w4R K (by omega)]) (fun K r h1 h2 h3 h4 => w4A K _ (by omega)) (fun K c h1 h2 _ => by rw [w4R K (by omega)]) pr (by rw [w4J])
  have pl4 : PLs b p m4 w4 U B W Y := PLs_cg pl (fun l _ => mq l) (fun i _ => by rw [m2]) (fun i _ => by rw [m2]) (fun i _ => by rw [m2]) (fun i _ => by rw [m2]) (fun K hK => by
    simp only [List.mem_cons, List.not_mem_nil, or_false] at hK
    rw [w4R K (by omega)]) (fun i _ => by rw [w4J]) (fun i _ => by rw [w4J]) (fun i _ => by rw [w4J]) (fun i _ => by rw [w4J])
  have gm : GGm p m m4 := by
    rw [← hm3]
    exact GGm.tr (GGm.tr (GGm.tr (GGm_reg (by omega)) (GGm_reg (by omega))) (GGm_reg (by omega))) (GGm_reg (by omega))
  have gw : GGw p w w4 := by
    rw [← hw3]
    exact GGw.tr (GGw.tr (GGw_reg (by omega) (by omega)) (GGw_reg (by omega) (by omega))) (GGw_own (Or.inr (Or.inl ⟨⟨by omega, by omega⟩, by omega, by omega⟩)))
  have hP : ∀ K, PRr K → A w4 K = A w K := fun K c => by funext i; show (w4.2.2.1 K i).toInt = _; rw [pr K c]; rfl
  have gd : GDr (some (kd, k, sc)) m4 w4 p (nb j) (Hs j) (Os j) := by
    refine Or.inr ⟨kd, k, sc, rfl, fl, W, O0, X, eO, ⟨?_, hf, ?_, ?_⟩, ⟨?_, ?_, ?_, ?_, ?_⟩, TRr_w tr (mq 8) (by rw [m2]) (by rw [w4J]) (fun l hl => w4F l (by omega) (by omega)) (by rw [m2]) pr (by rw [w4J]), ?_⟩
    · rw [← hm3, wi_ne (by omega), wi_ne (by omega), wi_sm fr.1 fr.2]
    · rw [← hm3, wi_ne (by omega), wi_ne (by omega), wi_ne (by omega), wi_sm xr.1 xr.2]
    · rw [← hm3, wi_ne (by omega), wi_sm (by omega) (by omega)]
    · rw [← hw3]
      show F (wi (wi w 152 1) 157 ((W : Nat) : Int)) 152 = 1
      rw [wi_ne (by omega), wi_sm (by omega) (by omega)]
    · rw [w4f 153 (by omega) (by omega)]; exact h153
    · rw [w4f 154 (by omega) (by omega)]; exact h154
    · rw [w4f 156 (by omega) (by omega)]; exact h156
    · rw [← hw3]
      show F (wi (wi w 152 1) 157 ((W : Nat) : Int)) 157 = _
      rw [wi_sm (by omega) (by omega)]
    · rw [h23, ROs_eq pr, w4J, hP 45 (by unfold PRr; omega)]; exact zr
  refine c m4 w4 pl4 ⟨fc3, ⟨?_, ?_⟩, by rw [h23, ROs_eq pr, w4J]; exact cr, ⟨(congrArg Int32.toInt (mq 9)).trans r5, ?_⟩, gd, ⟨?_, ?_, (w4f 151 (by omega) (by omega)).trans r10⟩, (w4f 133 (by omega) (by omega)).trans r11, ?_, ?_⟩ gm gw (fun s => SC_ow s (fun l _ => mq l) (by rw [m2]) (fun K h1 h2 => w4R K (by omega)))
  · rw [← hm3, wi_sm (by omega) (by omega)]
  · rw [← hw3, wa_sm nr.1 nr.2]
  · show (w4.2.2.1 109 p).toInt = _
    rw [w4R 109 (by omega)]; exact r6
  · exact (congrArg Int32.toInt (mg 1108 (by omega) (by omega) (by omega) (by omega))).trans r8
  · exact (congrArg Int32.toInt (mg 1109 (by omega) (by omega) (by omega) (by omega))).trans r9
  · rw [mg 1106 (by omega) (by omega) (by omega) (by omega), w4F 165 (by omega) (by omega)]; exact r12
  · rw [mg 1107 (by omega) (by omega) (by omega) (by omega), w4F 164 (by omega) (by omega)]; exact r13
theorem fits_no {KK : MS → Int32 → Option (MS × β)} (hkd : F w 153 = 2 ∨ (F w 153 = 0 ∧ ∃ k : Nat, F w 154 = ((k : Nat) : Int) ∧ k < 100000 ∧ A w 41 k = 0)) (h : PP Q D (KK w 1)) : PP Q D (bnd (fm_M_fitsPart N w) KK) := by
  unfold fm_M_fitsPart fb_M_fitsPart_0
  rcases hkd with h2 | ⟨h0, k, h154, hk, h41⟩
  · rw [I_F' h2, show decide (I 2 = 2) = true from rfl, br_tq]
    exact rb_ck (fun _ => h)
  · rw [I_F' h0, show decide (I 0 = 2) = false from rfl, br_fq, show decide (I 0 = 3) = false from rfl, br_fq, show decide (I 0 = 1) = false from rfl, br_fq]
    refine rb_ck (fun _ => ?_)
    rw [I_F' h154, tnI (n := k) rfl (by omega), I_A' h41]
    unfold fb_M_fitsPart_70
    refine rb_ck (fun _ => ?_)
    rw [lt_e]
    cases N with
    | zero => exact pp_nr
    | succ N =>
      show PP Q D (bnd (fb_M_fitsPart_85 (N + 1) (gg_M_fitsPart (N + 1) N) w _ (I 0 - 1)) KK)
      unfold fb_M_fitsPart_85
      rw [show decide (I 0 - 1 < 0) = true from rfl, br_tq]
      exact rb_ck (fun _ => h)
end
end
section
set_option maxRecDepth 100000
section
variable {Sf : MS → Int32 → Prop} {α β : Type} {b : Int → Nat → Nat → Prop} {N p PR U B W Wc Y j ee ee' d kd k sc : Nat} {m w m2 w2 : MS} {t x : Int64} {nb : Nat → Nat} {Hs Os : Nat → List Nat} {y : Option (Nat × Nat × Nat)} {Q : MS → α → MS → β → Prop} {Z : Option (MS × α)} {K2 : MS → Option (MS × β)} {S : SG_M_error} {ow kw ow' kd' : Nat → Nat} {Fv Fv' : Int64 → Int64 → Prop} {P P' : Int64 → Prop} {how kn ar c : Int} {v3 : Int32} {v1 : Int32}
theorem err195 {γ : Type} {G : MS → Nat → Int32 → Option (MS × Int32)} {R : MS → Int32 → MS → γ → Prop} {z : Option (MS × γ)} (hh : how = 1 ∨ how = 2 ∨ how = 3) (k : PP R (bnd (hm_Ma_raise N (tld m how ar t) p) (fun u _ => q206 Sf N G u p v3)) z) : PP R (q195 Sf N G (tld m how ar t) p v3) z := by
  unfold q195
  refine pp_cll (fun _ => ?_)
  rw [I_F' (tld_9 (m := m) (ar := ar) (t := t) ⟨by omega, by omega⟩), lit0q, decE (by omega) (by omega) (by omega) (by omega), decide_eq_false (by omega), br_fq]
  exact k
theorem CTa_trs (ca : CTa m w p W) : CTa (trs m how ar t) w p W := fun c h => ca c ((congrArg Int32.toInt trs_q).symm.trans h)
theorem er_pp (h : ∀ d, PP Q Z (bnd (fm_M_goesUp N (rc_M_error N d) w (I 0) (mk 1 c)) (fun u _ => K2 u))) : PP Q Z (bnd ((rc_M_error N d).1 w (I c)) (fun u _ => K2 u)) := by
  cases d with
  | zero => exact pp_nr
  | succ d =>
    show PP Q Z (bnd (fm_M_error N (rc_M_error N d) w (I c)) (fun u _ => K2 u))
    unfold fm_M_error fb_M_error_0
    rw [lit1q, term_e, bnd_so]
    refine r_bb ?_
    cases d with
    | zero => exact pp_nr
    | succ d => exact h d
theorem gu_g (h152 : F w 152 = 1) (h : ∀ d, PP Q Z (bnd (fm_M_guardFails N (rc_M_error N d) w) (fun u _ => K2 u))) : PP Q Z (bnd (fm_M_goesUp N (rc_M_error N d) w v1 x) (fun u _ => K2 u)) := by
  unfold fm_M_goesUp fb_M_goesUp_0
  rw [I_F' h152, show decide (I 1 = 0) = false from rfl, br_fq]
  refine r_bb ?_
  cases d with
  | zero => exact pp_nr
  | succ d => exact h d
end
section
variable {Sf : MS → Int32 → Prop} {β : Type} {b : Int → Nat → Nat → Prop} {N p PR U B W Wc Y j ee ee' d kd k sc : Nat} {m w m2 w2 : MS} {t x : Int64} {nb : Nat → Nat} {Hs Os : Nat → List Nat} {y : Option (Nat × Nat × Nat)} {Q : MS → Int32 → MS → β → Prop} {K2 : MS → Option (MS × β)} {ow kw ow' kd' : Nat → Nat} {Fv Fv' : Int64 → Int64 → Prop} {P P' : Int64 → Prop} {how kn ar : Int} {v3 v1 : Int32} {G : MS → Nat → Int32 → Option (MS × Int32)}
theorem wrong_up {S : SG_M_error} (hv : (how = 1 ∧ kn = 0) ∨ (how = 2 ∧ kn = 1) ∨ (how = 3 ∧ kn = 2)) (hpp : p < 24) (hpr : p < PR) (pl : PLs b p (wi m (pq p 26) ((W : Nat) : Int)) w U B W Y) (ru : RUb m w p j nb Hs Os none) (hW : W ≤ Wc) (bd : B ≤ 2500 ∧ W < 46000) (lb : LNB m p) (pt : PTQ m p U ow kw Fv P B Wc Y) (cx : CTX Fv P m) (xc : CX w p (hp w p) U ow' kd' Fv' P' W B Y) (pb : PB P' PR) (g : GT U ow kw P t) (g' : GT U ow' kd' P' x) (rt : RTb b t x) (ca : CTa m w p W) (hee : F m 955 = ((ee : Nat) : Int) ∧ ee < 24) (hee' : F w 150 = ((ee' : Nat) : Int) ∧ ee' < 4000) (hN : 2200000 ≤ N)
    (kk : ∀ b3 U3 W3 r k a0 nn m3 w3, PLs b3 p m3 w3 U3 (nb r + (Hs r).length + k) (W3 + 1) Y → RUs m3 w3 p r nb Hs (tkO Os r k) none a0 nn → GGm p m m3 → GGw p w w3 → (SCs p m w → SCs p m3 w3) → PP Q (q206 Sf N G m3 p v3) (K2 w3))
    (ke : ∀ m3 w3 wr t3 x3, GGm p m m3 → GGw p w w3 → (SCs p m w → SCs p m3 w3) → m3.1 (pq p 5) = w3.2.2.1 90 p → (wr = 0 ∨ wr = 1 ∨ wr = 2) → RQs Fv P Fv' P' PR (enS m3 p t3 p ee) (enR w3 p wr ((p : Nat) : Int) x3 ee') p wr p x3 → PP Q (q206 Sf N G (enS m3 p t3 p ee) p v3) (K2 (wi (enR w3 p wr ((p : Nat) : Int) x3 ee') 151 1))) : PP Q (q195 Sf N G (tld m how (-1) t) p v3) (bnd (fm_M_goesUp N S w (I kn) x) (fun u _ => K2 u)) := by
  have h12 : F m 1112 = 0 := by
    rcases ru.2.2.1 with ⟨_, c3, _⟩ | ⟨_, _, _, c, _⟩
    · exact c3
    · cases c
  have sc' : SCs p m w → SCs p (trs m how (-1) t) w := fun s => SC_ow s (fun _ _ => trs_q) rfl (fun _ _ _ => rfl)
  refine err195 (by omega) ?_
  rw [raise_n h12 ⟨by omega, by omega⟩]
  exact up_pp hv hpp hpr (PLs_trW pl) (RUb_trs ru) hW bd (LNB_trs lb) (PTQ_trs pt) (CTX_trs cx) xc pb (by rw [trs_10]; exact g) g' (by rw [trs_10]; exact rt) (CTa_trs ca) ⟨(congrArg Int32.toInt (trs_1 (by omega) (by omega))).trans hee.1, hee.2⟩ hee' hN (fun b3 U3 W3 r k a0 nn m3 w3 a1 a2 a3 a4 a5 => kk b3 U3 W3 r k a0 nn m3 w3 a1 a2 (GGm.tr GGm_trs a3) a4 (fun s => a5 (sc' s))) (fun m3 w3 wr t3 x3 a1 a2 a3 a4 a5 a6 => ke m3 w3 wr t3 x3 (GGm.tr GGm_trs a1) a2 (fun s => a3 (sc' s)) a4 a5 a6)
theorem wrong_gd (hh : how = 1 ∨ how = 2 ∨ how = 3) (hpp : p < 24) (pl : PLs b p (wi m (pq p 26) ((W : Nat) : Int)) w U B W Y) (ru : RUb m w p j nb Hs Os (some (kd, k, sc))) (bd : B ≤ 2500 ∧ W < 46000) (hk : k < 100000) (hw : F m 1114 ≤ ((W : Nat) : Int)) (nd : (Os j).Nodup ∧ (Hs j).Nodup) (hct : ∀ nC c : Nat, F m (pq p 28) = ((nC : Nat) : Int) → c < nC → A w 105 (1600 * p + c) + F m 1113 ≤ ((B : Nat) : Int))
    (kt : ∀ d m3 w3 B3 W3 a, PLs b p m3 (wa w3 94 p ((B3 : Nat) : Int)) U B3 W3 Y → A w3 92 p = ((W3 : Nat) : Int) → TRs m3 w3 p j nb Hs (fun i => if i = j then (Os j).take (B3 - (nb j + (Hs j).length)) else Os i) kd sc a (A w 45 k) → B3 ≤ B → W3 ≤ W → GGm p m m3 → GGw p w w3 → (SCs p m w → SCs p m3 w3) → (w3.2.2.2 88 = w.2.2.2 88 ∧ w3.1 140 = w.1 140) → PP Q (q206 Sf N G m3 p v3) (bnd ((rc_M_error N d).2.2.2.1 w3) (fun u _ => K2 u))) : PP Q (q195 Sf N G (tld m how ar t) p v3) (bnd (fm_M_goesUp N (rc_M_error N d) w v1 x) (fun u _ => K2 u)) := by
  obtain ⟨fl, h12, hf, h152⟩ : ∃ fl : Nat, F m 1112 = ((fl : Nat) : Int) ∧ 0 < fl ∧ F w 152 = 1 := by
    rcases ru.2.2.1 with ⟨c, _⟩ | ⟨_, _, _, _, fl, W0, O0, X, _, ⟨c3, c4, _⟩, ⟨c7, _⟩, _⟩
    · cases c
    · exact ⟨fl, c3, c4, c7⟩
  have sc' : SCs p m w → SCs p (trs m how ar t) w := fun s => SC_ow s (fun _ _ => trs_q) rfl (fun _ _ _ => rfl)
  refine err195 hh ?_
  rw [raise_g h12 hf, bb_e]
  refine gu_g h152 (fun d => ?_)
  have e28 : F (trs m how ar t) (pq p 28) = F m (pq p 28) := congrArg Int32.toInt trs_q
  have e13 : F (trs m how ar t) 1113 = F m 1113 := congrArg Int32.toInt (trs_1 (by omega) (by omega))
  have e14 : F (trs m how ar t) 1114 = F m 1114 := congrArg Int32.toInt (trs_1 (by omega) (by omega))
  exact gf_pp (K1 := fun u => q206 Sf N G u p v3) hpp (PLs_trW pl) (RUb_trs ru) bd hk (by rw [e14]; exact hw) nd (fun nC c h1 h2 => by rw [e13]; exact hct nC c (by rw [← e28]; exact h1) h2) (fun m3 w3 B3 W3 a a1 a2 a3 a4 a5 a6 a7 a8 a9 => kt d m3 w3 B3 W3 a a1 a2 a3 a4 a5 (GGm.tr GGm_trs a6) a7 (fun s => a8 (sc' s)) a9)
end
end
section
set_option maxRecDepth 100000
def chC (N : Nat) (S : SG_M_error) (M : Nat) (u2 : MS) (r2 : Int32) : Option (MS × Unit) := br (decide (r2 = 0)) (ck (inb (u2.1 154) (ln 45)) (lt (upI u2 154 (u2.2.2.1 45 (u2.1 154).toNatClampNeg)) (fun w3 => gg_M_choose N S M w3 1))) (ck (inb (u2.1 154) (ln 42)) (br (decide ((u2.2.2.1 42 (u2.1 154).toNatClampNeg) = (-1))) (bnd (fm_M_chosen N u2) (fun u7 _ => gg_M_choose N S M u7 0)) (gdR N u2 (fun u6 => gg_M_choose N S M u6 0))))
section
variable {Sf : MS → Int32 → Prop} {α β : Type} {N p B M k : Nat} {m w w2 : MS} {Q : MS → α → MS → β → Prop} {D : Option (MS × α)} {K : MS → Unit → Option (MS × β)} {S : SG_M_error}
theorem ro_e {i k : Nat} (h : PRr k) : ROs w k i = A w k i := if_pos h
theorem cho_1 (hpp : p < 24) (h133 : F w 133 = ((p : Nat) : Int)) (h156 : F w 156 = ((B : Nat) : Int)) (h : PP Q D (bnd (br (decide ((wa w 94 p ((B : Nat) : Int)).1 154 = (-1))) (bnd (S.2.2.1 (wa w 94 p ((B : Nat) : Int))) (fun u8 r8 => gg_M_choose N S M u8 r8)) (bnd (fm_M_fitsPart N (wa w 94 p ((B : Nat) : Int))) (fun u2 r2 => chC N S M u2 r2))) K)) : PP Q D (bnd (gg_M_choose N S (M + 1) w 1) K) := by
  show PP Q D (bnd (fb_M_choose_2 N S (gg_M_choose N S M) w 1) K)
  unfold fb_M_choose_2
  rw [show decide ((1 : Int32) = 0) = false from rfl, br_fq]
  refine rb_ck (fun _ => ?_)
  rw [I_F' h133, tnI (n := p) rfl (by omega), I_F' h156, wa_e, lt_e]
  exact h
theorem cho_p (hpp : p < 24) (h133 : F w 133 = ((p : Nat) : Int)) (h156 : F w 156 = ((B : Nat) : Int)) (h154 : F w 154 = ((k : Nat) : Int)) (h : PP Q D (bnd (fm_M_fitsPart N (wa w 94 p ((B : Nat) : Int))) (fun u2 r2 => bnd (chC N S M u2 r2) K))) : PP Q D (bnd (gg_M_choose N S (M + 1) w 1) K) := by
  refine cho_1 hpp h133 h156 ?_
  have r := F_r w 154
  rw [h154] at r
  have e : F (wa w 94 p ((B : Nat) : Int)) 154 = ((k : Nat) : Int) := h154
  rw [I_F' e, m1I, decE (by omega) (by omega) (by omega) (by omega), decide_eq_false (by omega), br_fq]
  exact r_bb h
theorem cho_n (hpp : p < 24) (h133 : F w 133 = ((p : Nat) : Int)) (h156 : F w 156 = ((B : Nat) : Int)) (h154 : F w 154 = -1) (h : PP Q D (bnd (S.2.2.1 (wa w 94 p ((B : Nat) : Int))) (fun u8 r8 => bnd (gg_M_choose N S M u8 r8) K))) : PP Q D (bnd (gg_M_choose N S (M + 1) w 1) K) := by
  refine cho_1 hpp h133 h156 ?_
  have e : F (wa w 94 p ((B : Nat) : Int)) 154 = -1 := h154
  rw [I_F' e, show decide (I (-1) = -1) = true from rfl, br_tq]
  exact r_bb h
theorem cho_f (h154 : F w 154 = ((k : Nat) : Int)) (hk : k < 100000) (h : PP Q D (bnd (gg_M_choose N S M (wi w 154 (A w 45 k)) 1) K)) : PP Q D (bnd (chC N S M w 0) K) := by
  unfold chC
  rw [show decide ((0 : Int32) = 0) = true from rfl, br_tq]
  refine rb_ck (fun _ => ?_)
  rw [I_F' h154, tnI (n := k) rfl (by omega), I_A (k := 45), wi_e, lt_e]
  exact h
end
section
variable {Sf : MS → Int32 → Prop} {b : Int → Nat → Nat → Prop} {p j : Nat} {m w : MS} {nb : Nat → Nat} {Hs Os : Nat → List Nat}
theorem RUb_152 (ru : RUb m w p j nb Hs Os none) : RUb m (wi w 152 0) p j nb Hs Os none := by
  obtain ⟨⟨fa, ct⟩, ⟨r5, r6⟩, r7, ⟨r8, r9, r10⟩, r11, r12, r13⟩ := ru
  have h12 : F m 1112 = 0 := by
    rcases r7 with ⟨_, c3, _⟩ | ⟨_, _, _, c, _⟩
    · exact c3
    · cases c
  exact ⟨⟨fa, ct⟩, ⟨r5, r6⟩, Or.inl ⟨rfl, h12, wi_sm (by omega) (by omega)⟩, ⟨r8, r9, (wi_ne (by omega)).trans r10⟩, (wi_ne (by omega)).trans r11, r12.trans (wi_1 (by omega)).symm, r13.trans (wi_1 (by omega)).symm⟩
end
section
variable {Sf : MS → Int32 → Prop} {β : Type} {b : Int → Nat → Nat → Prop} {N p U B W Y j e k0 kd sc M vk : Nat} {m w m2 w2 : MS} {nb : Nat → Nat} {Hs Os : Nat → List Nat} {O0 X : List Nat} {Q : MS → Int32 → MS → β → Prop} {K : MS → Unit → Option (MS × β)} {S : SG_M_error} {G : MS → Nat → Int32 → Option (MS × Int32)}
theorem chosen_pp {K2 : MS → Option (MS × β)} (hpp : p < 24) (pl : PLs b p m w U B W Y) (ru : RUb m (wi w 152 0) p j nb Hs Os none) (hW : W < 46000) (hvk : vk < 1000000000) (hpc : F m 1105 = ((e : Nat) : Int)) (h153 : F w 153 = ((kd : Nat) : Int)) (h154 : F w 154 = ((k0 : Nat) : Int)) (hk : k0 < 100000) (t3 : kd = 3 → F w 158 = F m (pq p 8))
    (b0 : kd = 0 → ∃ n0 : Nat, A w 41 k0 = ((n0 : Nat) : Int) ∧ n0 ≤ W) (b1 : kd = 1 → 1 ≤ W) (b3 : kd = 3 → Y ≤ 30 ∧ ∃ t : Nat, F m (pq p 8) = ((t : Nat) : Int) ∧ t < Y)
    (cs : ∃ f, CHs (A m 23) (ROs w) (CRs (A m 23) (ROs w) (w.2.2.2 34) f) kd e k0 (Hs j) (Os j))
    (kC : ∀ m3 w3 W3 Y3 y a n, PLs b p m3 w3 U B W3 Y3 → RUs m3 w3 p j nb Hs Os y a n → GGm p m m3 → GGw p w w3 → (SCs p m w → SCs p m3 w3) → PP Q (q195 Sf N G m3 p (I ((vk : Nat) : Int))) (K2 w3))
    (kD : ∀ w3 a n, PLs b p m w3 U B W Y → RUs m w3 p j nb Hs Os none a n → GGw p w w3 → (SCs p m w → SCs p m w3) → PP Q (q67 Sf N G m p (I ((vk : Nat) : Int))) (K2 w3)) : PP Q (q67 Sf N G m p (I ((vk : Nat) : Int))) (bnd (fm_M_chosen N w) (fun u _ => K2 u)) := by
  obtain ⟨-, ⟨r5, -⟩, -, ⟨r8, -, -⟩, -⟩ := id ru
  obtain ⟨f, n, c43, cs⟩ := cs
  rw [ro_e (k := 43) (by unfold PRr; omega)] at c43
  rcases cs with ⟨rfl, y1, y2, ⟨t, y3, y4⟩, y5⟩ | ⟨rfl, y1, y2⟩ | ⟨rfl, y1⟩ | ⟨rfl, y1, y2⟩
  · obtain ⟨n0, z1, z2⟩ := b0 rfl
    rw [ro_e (k := 41) (by unfold PRr; omega)] at y2
    rw [ro_e (k := 44) (by unfold PRr; omega)] at y3
    rw [ro_e (k := 8) (by unfold PRr; omega)] at y4
    have bb := CR_b y5
    rw [go_fl r5 r8 hvk hpc (by omega) y1 ⟨by omega, by omega⟩]
    obtain ⟨W1, rfl⟩ : ∃ W1, W = W1 + n0 := ⟨W - n0, by omega⟩
    exact chosen_0 (K1 := fun u => q195 Sf N G u p (I ((vk : Nat) : Int))) (K2 := K2) (n0 := n0) hpp pl ru (by omega) hpc (by omega) h153 h154 hk z1 y2 y3 y4 c43 ⟨f, y5⟩ (fun m3 w3 a1 a2 a3 a4 a5 => kC m3 w3 _ _ _ _ _ a1 a2 a3 a4 a5)
  · have bb := CR_b y2
    rw [go_vl r5 r8 hvk hpc (by omega) y1 ⟨by omega, by omega⟩]
    have := b1 rfl
    obtain ⟨W1, rfl⟩ : ∃ W1, W = W1 + 1 := ⟨W - 1, by omega⟩
    exact chosen_1 (K1 := fun u => q195 Sf N G u p (I ((vk : Nat) : Int))) (K2 := K2) hpp pl ru (by omega) hpc (by omega) h153 h154 hk c43 ⟨f, y2⟩ (fun m3 w3 a1 a2 a3 a4 a5 => kC m3 w3 _ _ _ _ _ a1 a2 a3 a4 a5)
  · exact chosen_2 (K2 := K2) hpp pl ru hpc h153 h154 hk c43 ⟨f, y1⟩ (fun w3 a1 a2 a3 a4 => kD w3 _ _ a1 a2 a3 a4)
  · obtain ⟨bY, t, t1, t2⟩ := b3 rfl
    have d1 := t3 rfl
    have bb := CR_b y2
    rw [go_fl r5 r8 hvk hpc (by omega) y1 ⟨by omega, by omega⟩]
    obtain ⟨Y1, rfl⟩ : ∃ Y1, Y = Y1 + 1 := ⟨Y - 1, by omega⟩
    exact chosen_3 (K1 := fun u => q195 Sf N G u p (I ((vk : Nat) : Int))) (K2 := K2) hpp pl ru (by omega) t1 (d1.trans t1) (by omega) hpc (by omega) h153 h154 hk c43 ⟨f, y2⟩ (fun m3 w3 a1 a2 a3 a4 a5 => kC m3 w3 _ _ _ _ _ a1 a2 a3 a4 a5)
theorem chos_pp (hpp : p < 24) (pl : PLs b p m w U B W Y) (ru : RUb m w p j nb Hs Os none) (hW : W < 46000) (hvk : vk < 1000000000) (eO : Os j = O0 ++ X) (hpc : F m 1105 = ((e : Nat) : Int))  (h153 : F w 153 = ((kd : Nat) : Int)) (h154 : F w 154 = ((k0 : Nat) : Int)) (hk : k0 < 100000) (h156 : F w 156 = ((nb j + (Hs j).length + O0.length : Nat) : Int)) (tr : TRr kd sc m w p (Hs j) O0)
    (b0 : kd = 0 → ∃ n0 : Nat, A w 41 k0 = ((n0 : Nat) : Int) ∧ n0 ≤ W) (b1 : kd = 1 → 1 ≤ W) (b3 : kd = 3 → Y ≤ 30 ∧ ∃ t : Nat, F m (pq p 8) = ((t : Nat) : Int) ∧ t < Y)
    (cs : ∃ f g, (ROs w 42 k0 = -1 ∧ CHs (A m 23) (ROs w) (CRs (A m 23) (ROs w) (w.2.2.2 34) f) kd e k0 (Hs j) (Os j)) ∨ ∃ n fl : Nat, ROs w 42 k0 = ((n : Nat) : Int) ∧ A m 23 e = 21 ∧ A m 23 (e + 1) = (((Os j).length - O0.length : Nat) : Int) ∧ A m 23 (e + 2) = ((fl : Nat) : Int) ∧ 0 < fl ∧ ZRs (A m 23) (ROs w) (w.2.2.2 34) (CRs (A m 23) (ROs w) (w.2.2.2 34) f) kd sc (Hs j) O0 g fl (ROs w 45 k0) ∧ CRs (A m 23) (ROs w) (w.2.2.2 34) f (some (kd, k0, sc)) (e + 3) n (Hs j) (Os j))
    (kC : ∀ m3 w3 W3 Y3 y a n, PLs b p m3 w3 U B W3 Y3 → RUs m3 w3 p j nb Hs Os y a n → GGm p m m3 → GGw p w w3 → (SCs p m w → SCs p m3 w3) → PP Q (q195 Sf N G m3 p (I ((vk : Nat) : Int))) (K w3 ()))
    (kD : ∀ w3 a n, PLs b p m w3 U B W Y → RUs m w3 p j nb Hs Os none a n → GGw p w w3 → (SCs p m w → SCs p m w3) → PP Q (q67 Sf N G m p (I ((vk : Nat) : Int))) (K w3 ())) : PP Q (q67 Sf N G m p (I ((vk : Nat) : Int))) (bnd (chC N S M w 1) K) := by
  obtain ⟨-, ⟨r5, -⟩, -, ⟨r8, -, -⟩, -⟩ := id ru
  unfold chC
  rw [show decide ((1 : Int32) = 0) = false from rfl, br_fq]
  refine rb_ck (fun _ => ?_)
  rw [I_F' h154, tnI (n := k0) rfl (by omega)]
  obtain ⟨f, g, cs⟩ := cs
  rw [ro_e (k := 42) (by unfold PRr; omega)] at cs
  rcases cs with ⟨c42, cs⟩ | ⟨n, fl, c42, x1, x2, x3, x4, x5, x6⟩
  · rw [I_A' c42, show decide (I (-1) = -1) = true from rfl, br_tq]
    refine r_bb ?_
    exact chosen_pp (K2 := fun u => bnd (gg_M_choose N S M u 0) K) hpp pl (RUb_152 ru) hW hvk hpc h153 h154 hk (fun c => (tr c).1.1) b0 b1 b3 ⟨f, cs⟩ (fun m3 w3 W3 Y3 y a n a1 a2 a3 a4 a5 => cho_0 (kC m3 w3 W3 Y3 y a n a1 a2 a3 a4 a5)) (fun w3 a n a1 a2 a3 a4 => cho_0 (kD w3 a n a1 a2 a3 a4))
  · have r := A_r w 42 k0
    rw [c42] at r
    rw [I_A' c42, m1I, decE (by omega) (by omega) (by omega) (by omega), decide_eq_false (by omega), br_fq]
    have xl : (Os j).length - O0.length = X.length := by rw [eO, List.length_append]; omega
    rw [xl] at x2
    rw [ro_e (k := 45) (by unfold PRr; omega)] at x5
    have bb := CR_b x6
    rw [go_fl r5 r8 hvk hpc (by omega) x1 ⟨by omega, by omega⟩]
    have e1 : bnd (gdR N w (fun u6 => gg_M_choose N S M u6 0)) K = gdR N w (fun u6 => bnd (gg_M_choose N S M u6 0) K) := by
      unfold gdR
      rw [lt_e, lt_e]
      have ckb : ∀ (c : Bool) (o : Option (MS × Unit)), bnd (ck c o) K = ck c (bnd o K) := fun c o => by cases c <;> rfl
      rw [ckb, lt_e, lt_e, ckb, bb_e]
    rw [e1]
    exact op_guard (K1 := fun u => q195 Sf N G u p (I ((vk : Nat) : Int))) (K2 := fun u => bnd (gg_M_choose N S M u 0) K) hpp pl ru hW eO hpc (by omega) x2 x3 x4 h153 h154 hk h156 tr ⟨f, g, x5⟩ c42 ⟨f, x6⟩ (fun m3 w3 a1 a2 a3 a4 a5 => cho_0 (kC m3 w3 _ _ _ _ _ a1 a2 a3 a4 a5))
end
end
section
set_option maxRecDepth 100000
section
variable {b : Int → Nat → Nat → Prop} {P P' : Int64 → Prop} {ow kw ow' kd' : Nat → Nat} {p j B0 U W Y kd sc fl k0 a : Nat} {m w m2 w2 m3 w3 : MS} {nb : Nat → Nat} {Hs Os : Nat → List Nat} {O2 : List Nat} {y : Option (Nat × Nat × Nat)} {v : Int}
theorem RUb_94 (ru : RUb m w p j nb Hs Os y) : RUb m (wa w 94 p v) p j nb Hs Os y := by
  obtain ⟨⟨fa, ct⟩, ⟨r5, r6⟩, r7, ⟨r8, r9, r10⟩, r11, r12, r13⟩ := ru
  have wR : ∀ K, K ≠ 94 → (wa w 94 p v).2.2.1 K = w.2.2.1 K := fun K h => wa_21 h
  have pr : ∀ K, PRr K → (wa w 94 p v).2.2.1 K = w.2.2.1 K := fun K h => wR K (by unfold PRr at h; omega)
  exact ⟨FC_w ⟨fa, ct⟩ (fun _ _ => rfl) (fun _ _ => rfl) rfl (fun K h => by rw [wR K (by omega)]) (fun K r h1 h2 _ _ => by rw [wR K (by omega)]) (fun K c h1 h2 _ => by rw [wR K (by omega)]) pr rfl, ⟨r5, by rw [wa_rne (by omega)]; exact r6⟩, GD_w r7 rfl rfl rfl (fun _ _ _ => rfl) (fun _ _ => rfl) rfl pr rfl, ⟨r8, r9, r10⟩, r11, r12, r13⟩
theorem TRr_94 {H O : List Nat} (h : TRr kd sc m w p H O) : TRr kd sc m (wa w 94 p v) p H O := TRr_w h rfl rfl rfl (fun _ _ => rfl) rfl (fun K h => wa_21 (by unfold PRr at h; omega)) rfl
theorem exO_id : exO Os j (Os j) = Os := by
  funext i
  unfold exO
  by_cases c : i = j
  · rw [if_pos c, c]
  · rw [if_neg c]
theorem NFx_24 (nf : NFx p B0 m m3) (hB : B0 ≤ 100000) : NFx p B0 m (wi m3 (pq p 24) ((B0 : Nat) : Int)) := by
  obtain ⟨h1, ⟨B1, h2, h3, h4, h5⟩, h6⟩ := nf
  exact ⟨FC.wi_q h1 (by omega) (by simp), ⟨B0, Nat.le_refl _, wi_sm (by omega) (by omega), by rw [wi_ne (pq_inj (by omega))]; omega, by rw [wi_ne (pq_inj (by omega))]; omega⟩, h6⟩
theorem NF_1 (nf : NFx p B0 m m3) {l : Nat} (h : l < 2000) : m3.1 l = m.1 l := nf.1.1 l h (by simp)
theorem NF_q (nf : NFx p B0 m m3) {l : Nat} (h : l < 100) (h1 : l ≠ 24) (h2 : l ≠ 42) (h3 : l ≠ 43) : m3.1 (pq p l) = m.1 (pq p l) := nf.1.2.2.2.2.1 p l h (fun _ => by simp; omega)
theorem RUb_nf (ru : RUb m w p j nb Hs Os none) (hX : ∃ X, O2 = Os j ++ X) (nf : NFx p B0 m m3) (fw : FWx p B0 w w3) (nms : NMs m3 p (nb j) (Hs j ++ O2)) (h24 : F m3 (pq p 24) = ((nb j + (Hs j ++ O2).length : Nat) : Int)) (hB : B0 = nb j + (Hs j ++ Os j).length) : RUb m3 w3 p j nb Hs (exO Os j O2) none := by
  obtain ⟨⟨fa, ct⟩, ⟨r5, r6⟩, r7, ⟨r8, r9, r10⟩, r11, r12, r13⟩ := ru
  obtain ⟨h12, h152⟩ : F m 1112 = 0 ∧ F w 152 = 0 := by
    rcases r7 with ⟨_, c3, c4⟩ | ⟨_, _, _, c, _⟩
    · exact ⟨c3, c4⟩
    · cases c
  have f := fw.1
  have g : ∀ l, l < 2000 → F m3 l = F m l := fun l h => congrArg Int32.toInt (NF_1 nf h)
  exact ⟨⟨FA_ex fa hX nf fw nms h24 hB, CT_ex ct hX nf fw⟩, ⟨(congrArg Int32.toInt (NF_q nf (by omega) (by omega) (by omega) (by omega))).trans r5, by rw [FR.A f (by simp)]; exact r6⟩, Or.inl ⟨rfl, (g 1112 (by omega)).trans h12, by rw [FR.F f (by simp)]; exact h152⟩, ⟨(g 1108 (by omega)).trans r8, (g 1109 (by omega)).trans r9, by rw [FR.F f (by simp)]; exact r10⟩, by rw [FR.F f (by simp)]; exact r11, by rw [NF_1 nf (by omega), f.1 165 (by simp)]; exact r12, by rw [NF_1 nf (by omega), f.1 164 (by simp)]; exact r13⟩
theorem RUb_pc (ru : RUb m w p j nb Hs Os none) {v1 v2 : Int} {l : Nat} (hl : l = 153 ∨ l = 154) : RUb (wi m 1105 v1) (wi w l v2) p j nb Hs Os none := by
  obtain ⟨⟨fa, ct⟩, ⟨r5, r6⟩, r7, ⟨r8, r9, r10⟩, r11, r12, r13⟩ := ru
  obtain ⟨h12, h152⟩ : F m 1112 = 0 ∧ F w 152 = 0 := by
    rcases r7 with ⟨_, c3, c4⟩ | ⟨_, _, _, c, _⟩
    · exact ⟨c3, c4⟩
    · cases c
  exact ⟨FC_w ⟨fa, ct⟩ (fun k _ => if_neg (fun c => pq_n (by omega) c.symm)) (fun _ _ => rfl) rfl (fun _ _ => rfl) (fun _ _ _ _ _ _ => rfl) (fun _ _ _ _ _ => rfl) (fun _ _ => rfl) rfl, ⟨(wi_ne (fun c => pq_n (by omega) c.symm)).trans r5, r6⟩, Or.inl ⟨rfl, (wi_ne (by omega)).trans h12, (wi_ne (by omega)).trans h152⟩, ⟨(wi_ne (by omega)).trans r8, (wi_ne (by omega)).trans r9, (wi_ne (by omega)).trans r10⟩, (wi_ne (by omega)).trans r11, by rw [wi_1 (by omega), wi_1 (by omega)]; exact r12, by rw [wi_1 (by omega), wi_1 (by omega)]; exact r13⟩
theorem RUb_pm (ru : RUb m w p j nb Hs Os none) {v1 : Int} : RUb (wi m 1105 v1) w p j nb Hs Os none := by
  obtain ⟨⟨fa, ct⟩, ⟨r5, r6⟩, r7, ⟨r8, r9, r10⟩, r11, r12, r13⟩ := ru
  obtain ⟨h12, h152⟩ : F m 1112 = 0 ∧ F w 152 = 0 := by
    rcases r7 with ⟨_, c3, c4⟩ | ⟨_, _, _, c, _⟩
    · exact ⟨c3, c4⟩
    · cases c
  exact ⟨FC_w ⟨fa, ct⟩ (fun k _ => if_neg (fun c => pq_n (by omega) c.symm)) (fun _ _ => rfl) rfl (fun _ _ => rfl) (fun _ _ _ _ _ _ => rfl) (fun _ _ _ _ _ => rfl) (fun _ _ => rfl) rfl, ⟨(wi_ne (fun c => pq_n (by omega) c.symm)).trans r5, r6⟩, Or.inl ⟨rfl, (wi_ne (by omega)).trans h12, h152⟩, ⟨(wi_ne (by omega)).trans r8, (wi_ne (by omega)).trans r9, r10⟩, r11, by rw [wi_1 (by omega)]; exact r12, by rw [wi_1 (by omega)]; exact r13⟩
theorem TR_next (ru : RUb m w p j nb Hs Os none) (kdw : F w 153 = ((kd : Nat) : Int)) (h156 : F w 156 = ((nb j + (Hs j).length + (Os j).length : Nat) : Int)) (tr : TRr kd sc m w p (Hs j) (Os j)) (nd : (Os j).Nodup ∧ (Hs j).Nodup) (zr : ∃ f g, ZRs (A m 23) (ROs w) (w.2.2.2 34) (CRs (A m 23) (ROs w) (w.2.2.2 34) f) kd sc (Hs j) (Os j) g fl (A w 45 k0)) (nf : NFx p B0 m m3) (fw : FWx p B0 (wa w 94 p v) w3) (hB : B0 = nb j + (Hs j ++ Os j).length) (hB2 : B0 ≤ 100000) (hfl : fl < 100000) : TRs (wi (wi m3 (pq p 24) ((B0 : Nat) : Int)) 1105 ((fl : Nat) : Int)) (wi w3 154 (A w3 45 k0)) p j nb Hs Os kd sc fl (A w 45 k0) := by
  have nf2 := NFx_24 nf hB2
  have f := fw.1
  have fa := ru.1.1
  have hB3 : B0 = nb j + (Hs j).length + (Os j).length := by rw [hB, List.length_append]; omega
  have pr : ∀ K, PRr K → w3.2.2.1 K = w.2.2.1 K := fun K h => (f.2.2.1 K (by unfold PRr at h; simp; omega)).trans (wa_21 (by unfold PRr at h; omega))
  have h34 : w3.2.2.2 34 = w.2.2.2 34 := f.2.2.2 34 (by simp)
  have hP : ∀ K, PRr K → A w3 K = A w K := fun K a => by funext i; show (w3.2.2.1 K i).toInt = _; rw [pr K a]; rfl
  have h23 : A (wi (wi m3 (pq p 24) ((B0 : Nat) : Int)) 1105 ((fl : Nat) : Int)) 23 = A m 23 := nf2.c
  have wF : ∀ l, F w3 l = F w l := fun l => FR.F f (by simp)
  have w1 : ∀ l, w3.1 l = w.1 l := fun l => f.1 l (by simp)
  have nms : NMs (wi m3 (pq p 24) ((B0 : Nat) : Int)) p (nb j) (Hs j ++ Os j) := fun i x hx => by
    have il : i < (Hs j ++ Os j).length := (List.getElem?_eq_some_iff.mp hx).1
    show (m3.2.2.1 (pq p 32) (nb j + i)).toInt = _
    rw [(nf.2.2 (nb j + i) (by omega)).1]
    exact (fa.2.1 j (Nat.le_refl _)).2.2.2.2.2 i x hx
  have ru3 : RUb (wi m3 (pq p 24) ((B0 : Nat) : Int)) w3 p j nb Hs Os none := by
    have := RUb_nf (RUb_94 (v := v) ru) (O2 := Os j) ⟨[], by simp⟩ nf2 fw nms (by rw [wi_sm (by omega) (by omega), hB]) hB
    rw [exO_id] at this
    exact this
  have ar := A_r w3 45 k0
  refine ⟨RUb_pc ru3 (by omega), wi_sm (by omega) (by omega), ⟨?_, ?_, ?_⟩, ?_, nd, ?_⟩
  · rw [wi_ne (by omega), wF]; exact kdw
  · rw [wi_sm ar.1 ar.2, hP 45 (by unfold PRr; omega)]
  · rw [wi_ne (by omega), wF]; exact h156
  · refine TRr_w tr ?_ (nf2.1.2.2.2.2.2.1 p 10 (by omega) (fun _ => by simp)) (by show w3.2.2.2 111 p = _; rw [f.2.2.2 111 (by simp)]; rfl) (fun l hl => ?_) ?_ pr h34
    · exact (wi_1 (fun c => pq_n (by omega) c.symm)).trans (NF_q nf2 (by omega) (by omega) (by omega) (by omega))
    · exact (wi_1 (by omega)).trans (w1 l)
    · exact nf2.1.2.2.1 23 (by omega) (by simp)
  · obtain ⟨f2, g2, zr⟩ := zr
    exact ⟨f2, g2, by rw [h23, show ROs (wi w3 154 (A w3 45 k0)) = ROs w3 from rfl, ROs_eq pr, show (wi w3 154 (A w3 45 k0)).2.2.2 34 = w3.2.2.2 34 from rfl, h34]; exact zr⟩
end
end
section
set_option maxRecDepth 100000
section
variable {Sf : MS → Int32 → Prop} {C : Nat → Int} {R : Nat → Nat → Int} {J : Nat → Int64} {H : List Nat}
theorem PTr_pre {f n i j : Nat} {q : Int} {O O2 : List Nat} (h : PTr C R J H f n i q O j O2) : ∃ X, O2 = O ++ X := by
  obtain ⟨ci, cp, co, -, -, o0, on, -, z8⟩ := h
  have lp : ∀ k, k ≤ n → ∃ X, co k = co 0 ++ X := by
    intro k
    induction k with
    | zero => exact fun _ => ⟨[], by simp⟩
    | succ k ih =>
      intro hk
      obtain ⟨X, hX⟩ := ih (by omega)
      obtain ⟨X2, hX2⟩ := PTs_pre (z8 k (by omega)).1
      exact ⟨X ++ X2, by rw [hX2, hX, List.append_assoc]⟩
  obtain ⟨X, hX⟩ := lp n (Nat.le_refl _)
  exact ⟨X, by rw [← on, hX, o0]⟩
end
section
variable {Sf : MS → Int32 → Prop} {β : Type} {b : Int → Nat → Nat → Prop} {Fv Fv' : Int64 → Int64 → Prop} {P P' : Int64 → Prop} {ow kw ow' kd' fa' : Nat → Nat} {N p U W Y j a na k0 kd sc M M1 vk : Nat} {m w : MS} {nb : Nat → Nat} {Hs Os : Nat → List Nat} {Q : MS → Int32 → MS → β → Prop} {K : MS → Unit → Option (MS × β)} {S : SG_M_error}
theorem SC_94 {v : Int} (s : SCs p m w) : SCs p m (wa w 94 p v) := SC_ow s (fun _ _ => rfl) rfl (fun K h1 h2 => wa_21 (by omega))
theorem GGw_94 {v : Int} : GGw p w (wa w 94 p v) := GGw_own (Or.inl ⟨by omega, rfl⟩)
theorem ROs_94 {v : Int} : ROs (wa w 94 p v) = ROs w := ROs_eq (fun K h => wa_21 (by unfold PRr at h; omega))
theorem try_pp (hpp : p < 24) (t : TRs m w p j nb Hs Os kd sc a ((k0 : Nat) : Int)) (pl : PLs b p m (wa w 94 p ((nb j + (Hs j ++ Os j).length : Nat) : Int)) U (nb j + (Hs j ++ Os j).length) W Y) (bB : nb j + (Hs j ++ Os j).length ≤ 2440) (hW : W < 46000) (hvk : vk + 1 < 1000000000) (h956 : F m 955 ≤ F m 956)
    (ft : FTx b Fv P Fv' P' ow kw ow' kd' p j (nb j) U na fa' (Hs j) m (wa w 94 p ((nb j + (Hs j ++ Os j).length : Nat) : Int))) (pt : PTQ m p U ow kw Fv P (nb j + (Hs j ++ Os j).length) W Y) (xc : CXf (wa w 94 p ((nb j + (Hs j ++ Os j).length : Nat) : Int)) p (hp (wa w 94 p ((nb j + (Hs j ++ Os j).length : Nat) : Int)) p) U ow' kd' Fv' P' W (nb j + (Hs j ++ Os j).length) Y) (h42 : ((nb j + (Hs j ++ Os j).length : Nat) : Int) ≤ F m (pq p 42)) (hN : 200000 ≤ N)
    (b0 : kd = 0 → ∃ n0 : Nat, A w 41 k0 = ((n0 : Nat) : Int) ∧ n0 ≤ W ∧ n0 ≤ 100) (b1 : kd = 1 → 1 ≤ W) (b3 : kd = 3 → Y ≤ 30 ∧ ∃ t : Nat, F m (pq p 8) = ((t : Nat) : Int) ∧ t < Y)
    (kT : ∀ m4 w4 fl, TRs m4 w4 p j nb Hs Os kd sc fl (A w 45 k0) → PLs b p m4 (wa w4 94 p ((nb j + (Hs j ++ Os j).length : Nat) : Int)) U (nb j + (Hs j ++ Os j).length) W Y → GGm p m m4 → GGw p w w4 → (SCs p m w → SCs p m4 w4) → (w4.2.2.2 88 = w.2.2.2 88 ∧ w4.1 140 = w.1 140) → PP Q (q195 Sf N (qgo Sf N M1) m4 p (I ((vk : Nat) : Int))) (bnd (gg_M_choose N S M w4 1) K))
    (kC : ∀ M' vk' m3 w3 B3 W3 Y3 O2 y a n, M' ≤ M1 → vk' ≤ vk + 1 → PLs b p m3 w3 U B3 W3 Y3 → RUs m3 w3 p j nb Hs (exO Os j O2) y a n → GGm p m m3 → GGw p w w3 → (SCs p m w → SCs p m3 w3) → PP Q (q195 Sf N (qgo Sf N M') m3 p (I ((vk' : Nat) : Int))) (K w3 ()))
    (kD : ∀ M' vk' m3 w3 B3 W3 Y3 O2 a n, M' ≤ M1 → vk' ≤ vk + 1 → PLs b p m3 w3 U B3 W3 Y3 → RUs m3 w3 p j nb Hs (exO Os j O2) none a n → GGm p m m3 → GGw p w w3 → (SCs p m w → SCs p m3 w3) → ((m3 = m ∧ vk' = vk) ∨ ∃ k : Nat, vk' = k + 1 ∧ Sf m3 (I ((k : Nat) : Int))) → PP Q (q67 Sf N (qgo Sf N M') m3 p (I ((vk' : Nat) : Int))) (K w3 ())) : PP Q (q67 Sf N (qgo Sf N M1) m p (I ((vk : Nat) : Int))) (bnd (gg_M_choose N S (M + 1) w 1) K) := by
  obtain ⟨ru, hpc, ⟨h153, h154, h156⟩, tr, nd, f, g, zr⟩ := t
  obtain ⟨⟨fa, -⟩, ⟨r5, -⟩, -, ⟨r8, r9, -⟩, r11, -⟩ := id ru
  have hB3 : nb j + (Hs j).length + (Os j).length = nb j + (Hs j ++ Os j).length := by rw [List.length_append]; omega
  have h156' : F w 156 = ((nb j + (Hs j ++ Os j).length : Nat) : Int) := by rw [h156, hB3]
  cases g with
  | zero => exact zr.elim
  | succ g =>
  obtain ⟨za, zr⟩ := zr
  rcases zr with ⟨c, -⟩ | ⟨k1, ⟨c, hk⟩, e, O2, z1, z2⟩
  · omega
  have ek : k1 = k0 := by omega
  subst ek
  refine cho_p hpp r11 h156' h154 ?_
  generalize hw' : wa w 94 p ((nb j + (Hs j ++ Os j).length : Nat) : Int) = w' at *
  have ro' : ROs w' = ROs w := by rw [← hw']; exact ROs_94
  have j' : w'.2.2.2 34 = w.2.2.2 34 := by rw [← hw']; rfl
  have F' : ∀ l, F w' l = F w l := fun l => by rw [← hw']; rfl
  have A' : ∀ K i, K ≠ 94 → A w' K i = A w K i := fun K i h => by rw [← hw', wa_rne h]
  have ru' : RUb m w' p j nb Hs Os none := by rw [← hw']; exact RUb_94 ru
  have tr' : TRr kd sc m w' p (Hs j) (Os j) := by rw [← hw']; exact TRr_94 tr
  have gw' : GGw p w w' := by rw [← hw']; exact GGw_94
  have sc' : SCs p m w → SCs p m w' := fun s => by rw [← hw']; exact SC_94 s
  rcases z1 with ⟨z1, rfl, rfl⟩ | ⟨x19, ⟨fl, x2, zf⟩, n, e2, hn, ptr, x8, rfl⟩
  · 
    refine fits_no ?_ ?_
    · rcases z1 with rfl | ⟨rfl, z1⟩
      · exact Or.inl (by rw [F']; exact h153)
      · exact Or.inr ⟨by rw [F']; exact h153, k1, by rw [F']; exact h154, hk, by rw [A' 41 _ (by omega)]; rw [ro_e (by unfold PRr; omega)] at z1; exact z1⟩
    · refine chos_pp (O0 := Os j) (X := []) (sc := sc) hpp pl ru' hW (by omega) (by simp) hpc (by rw [F']; exact h153) (by rw [F']; exact h154) hk (by rw [F']; exact h156) tr' (fun c => ?_) b1 b3 ⟨f, g, by rw [ro', j']; exact z2⟩ (fun m3 w3 W3 Y3 y a n a1 a2 a3 a4 a5 => ?_) (fun w3 a n a1 a2 a3 a4 => ?_)
      · obtain ⟨n0, q1, q2, -⟩ := b0 c
        exact ⟨n0, by rw [A' 41 _ (by omega)]; exact q1, q2⟩
      · exact kC M1 vk m3 w3 _ W3 Y3 (Os j) y a n (Nat.le_refl _) (by omega) a1 (by rw [exO_id]; exact a2) a3 (GGw.tr gw' a4) (fun s => a5 (sc' s))
      · exact kD M1 vk m w3 _ W Y (Os j) a n (Nat.le_refl _) (by omega) a1 (by rw [exO_id]; exact a2) GGm.rf (GGw.tr gw' a3) (fun s => a4 (sc' s)) (Or.inl ⟨rfl, rfl⟩)
  · 
    have hX := PTr_pre ptr
    have b2 : e2 + 3 < 24000 ∧ (Hs j).length + O2.length ≤ 40 := by
      rcases z2 with ⟨-, n', -, z2⟩ | ⟨_, _, -, -, -, -, -, -, z2⟩
      · rcases z2 with ⟨_, _, _, _, z2⟩ | ⟨_, _, z2⟩ | ⟨c2, _⟩ | ⟨_, _, z2⟩
        · have := CR_b z2; omega
        · have := CR_b z2; omega
        · omega
        · have := CR_b z2; omega
      · have := CR_b z2; omega
    have ae : a + 3 < e2 := by
      obtain ⟨ci, cp, co, y0, yn, -, -, -, y8⟩ := id ptr
      have n1 : 0 < n := by omega
      have := up_le (c := ci) (n := n) (fun k hk => Nat.le_of_lt (PTs_lt (y8 k hk).1)) (n - 1) 1 (by omega)
      rw [show 1 + (n - 1) = n by omega, yn] at this
      have h01 : ci 0 < ci 1 := PTs_lt (y8 0 n1).1
      rw [y0] at h01
      omega
    have hfl := A_r m 23 (a + 2)
    rw [x2] at hfl
    rw [go_fl r5 r8 (by omega) hpc (by omega) x19 ⟨by omega, by omega⟩, flo19, I_F' hpc, show I ((a : Nat) : Int) + 1 = I ((a + 1 : Nat) : Int) from addN, Co_e (k := a + 1) rfl (by omega), bnd_so]
    refine l_bb ?_
    have nms : NMs m p (nb j) (Hs j ++ Os j) := (fa.2.1 j (Nat.le_refl _)).2.2.2.2.2
    refine fit_op (K1 := fun u => q195 Sf N (qgo Sf N M1) u p (I ((vk : Nat) : Int))) (K := fun u2 r2 => bnd (chC N S M u2 r2) K) (n := n) (e := e2) (fl := fl) (k0 := k1) (kn := kd) (O2 := O2) ft pl nms nd.1 pt xc h42 hpc x2 (by rw [F']; exact h153) (by rw [F']; exact h154) hk ?_ ?_ x8 (by omega) ?_ hN (fun m3 w3 nf fw => ?_) (fun m3 w3 fs => ?_)
    · rcases hn with ⟨rfl, n1, n2, n3⟩ | ⟨rfl, rfl, n3⟩ | ⟨rfl, rfl, n3⟩
      · rw [ro_e (by unfold PRr; omega)] at n2
        obtain ⟨n0, q1, q2, q3⟩ := b0 rfl
        exact Or.inl ⟨rfl, n1.1, by omega, by omega, by rw [A' 41 _ (by omega)]; exact n2, n3⟩
      · exact Or.inr (Or.inl ⟨rfl, rfl, b1 rfl, n3⟩)
      · obtain ⟨-, t, t1, t2⟩ := b3 rfl
        obtain ⟨d1, -⟩ := tr' rfl
        exact Or.inr (Or.inr ⟨rfl, rfl, n3, t, t1, t2, d1.1.trans t1⟩)
    · rw [ro', j', A' 40 _ (by omega)]
      rw [ro_e (k := 40) (by unfold PRr; omega)] at ptr
      exact ptr
    · rw [List.length_append] at bB ⊢
      omega
    · have w3F : ∀ l, F w3 l = F w' l := fun l => FR.F fw.1 (by simp)
      refine cho_f (k := k1) (by rw [w3F, F']; exact h154) hk ?_
      have zf' : ∃ f g, ZRs (A m 23) (ROs w) (w.2.2.2 34) (CRs (A m 23) (ROs w) (w.2.2.2 34) f) kd sc (Hs j) (Os j) g fl (A w 45 k1) := ⟨f, g, by rw [ro_e (k := 45) (by unfold PRr; omega)] at zf; exact zf⟩
      have fl1 : fl < 100000 := by
        obtain ⟨f9, g9, z9⟩ := zf'
        cases g9 with
        | zero => exact z9.elim
        | succ g9 => have := z9.1; omega
      have fw2 := fw
      rw [← hw'] at fw2
      refine kT _ _ fl (TR_next ru h153 h156 tr nd zf' nf fw2 rfl (by omega) fl1) ?_ (GGm.tr (GGm.tr (GGm_nf nf) (GGm_own (by omega))) (GGm_reg (by omega))) (GGw.tr (GGw.tr gw' (GGw_fw fw)) (GGw_reg (by omega) (by omega))) (fun s => SC_ow (sc' s) (fun l hl => ?_) ?_ (fun K h1 h2 => fw.1.2.2.1 K (by simp; omega))) ⟨(fw.1.2.2.2 88 (by simp)).trans (by rw [← hw']; rfl), (wi_1 (by omega)).trans ((fw.1.1 140 (by simp)).trans (by rw [← hw']; rfl))⟩
      · exact PLs_cg (PLs_fail pl nf fw (by omega)) (fun l _ => if_neg (fun c => pq_n (by omega) c.symm)) (fun _ _ => rfl) (fun _ _ => rfl) (fun _ _ => rfl) (fun _ _ => rfl) (fun _ _ => rfl) (fun _ _ => rfl) (fun _ _ => rfl) (fun _ _ => rfl) (fun _ _ => rfl)
      · rw [wi_1 (fun c => pq_n (by omega) c.symm), wi_1 (pq_inj (by omega))]
        exact NF_q nf (by omega) (by omega) (by omega) (by omega)
      · show m3.2.2.1 (pq p 14) = _
        exact nf.1.2.2.2.2.2.2.1 p 14 (by omega) (fun _ => by simp)
    · obtain ⟨nf, fw, pl3, nms3, ⟨hle, nd3⟩, -⟩ := fs
      have w3F : ∀ l, F w3 l = F w' l := fun l => FR.F fw.1 (by simp)
      have m3F : ∀ l, l < 2000 → F m3 l = F m l := fun l h => congrArg Int32.toInt (NF_1 nf h)
      have q9 : F (wi m3 1105 ((e2 + 1 : Nat) : Int)) 1109 = 0 := by rw [wi_ne (by omega), m3F 1109 (by omega)]; exact r9
      have q5 : F (wi m3 1105 ((e2 + 1 : Nat) : Int)) 955 ≤ F (wi m3 1105 ((e2 + 1 : Nat) : Int)) 956 := by rw [wi_ne (by omega), wi_ne (by omega), m3F 955 (by omega), m3F 956 (by omega)]; exact h956
      have e3 : A m3 23 = A m 23 := nf.c
      have pr : ∀ K, PRr K → w3.2.2.1 K = w'.2.2.1 K := fun K h => fw.1.2.2.1 K (by unfold PRr at h; simp; omega)
      have ro3 : ROs w3 = ROs w := (ROs_eq pr).trans ro'
      have j3 : w3.2.2.2 34 = w.2.2.2 34 := (fw.1.2.2.2 34 (by simp)).trans j'
      have hP : ∀ K i, PRr K → A w3 K i = A w' K i := fun K i a => by show (w3.2.2.1 K i).toInt = _; rw [pr K a]; rfl
      have gm3 : GGm p m (wi m3 1105 ((e2 + 1 : Nat) : Int)) := GGm.tr (GGm_nf nf) (GGm_reg (by omega))
      have gw3 : GGw p w w3 := GGw.tr gw' (GGw_fw fw)
      have sc3 : SCs p m w → SCs p (wi m3 1105 ((e2 + 1 : Nat) : Int)) w3 := fun s => SC_ow (sc' s) (fun l hl => by
        rw [wi_1 (fun c => pq_n (by omega) c.symm)]
        exact NF_q nf (by omega) (by omega) (by omega) (by omega)) (by
        show m3.2.2.1 (pq p 14) = _
        exact nf.1.2.2.2.2.2.2.1 p 14 (by omega) (fun _ => by simp)) (fun K h1 h2 => fw.1.2.2.1 K (by simp; omega))
      show PP Q (q195 Sf N (qgo Sf N M1) (wi m3 1105 ((e2 + 1 : Nat) : Int)) p (I ((vk : Nat) : Int))) (bnd (chC N S M w3 1) K)
      refine go195 q9 q5 (fun hsf => ?_)
      cases M1 with
      | zero => exact pp_nl
      | succ M1 =>
      show PP Q (q67 Sf N (qgo Sf N M1) (wi m3 1105 ((e2 + 1 : Nat) : Int)) p (I ((vk + 1 : Nat) : Int))) _
      obtain ⟨X, hX⟩ := hX
      have ru3 : RUb (wi m3 1105 ((e2 + 1 : Nat) : Int)) w3 p j nb Hs (exO Os j O2) none := RUb_pm (RUb_nf ru' ⟨X, hX⟩ nf fw nms3 pl3.2.1.1 rfl)
      refine chos_pp (Os := exO Os j O2) (O0 := Os j) (X := X) (e := e2 + 1) (sc := sc) (kd := kd) (k0 := k1) hpp (PLs_pc pl3) ru3 hW (by omega) (by rw [exO_j]; exact hX) (wi_sm (by omega) (by omega)) (by rw [w3F, F']; exact h153) (by rw [w3F, F']; exact h154) hk (by rw [w3F, F']; exact h156) ?_ (fun c => ?_) b1 (fun c => ?_) ⟨f, g, ?_⟩ (fun m4 w4 W3 Y3 y a n a1 a2 a3 a4 a5 => ?_) (fun w4 a n a1 a2 a3 a4 => ?_)
      · refine TRr_w tr' ?_ (nf.1.2.2.2.2.2.1 p 10 (by omega) (fun _ => by simp)) (by rw [fw.1.2.2.2 111 (by simp)]) (fun l hl => fw.1.1 l (by simp)) ?_ pr (fw.1.2.2.2 34 (by simp))
        · rw [wi_1 (fun c => pq_n (by omega) c.symm)]
          exact NF_q nf (by omega) (by omega) (by omega) (by omega)
        · exact nf.1.2.2.1 23 (by omega) (by simp)
      · obtain ⟨n0, q1, q2, -⟩ := b0 c
        exact ⟨n0, by rw [hP 41 _ (by unfold PRr; omega), A' 41 _ (by omega)]; exact q1, q2⟩
      · obtain ⟨y1, t, t1, t2⟩ := b3 c
        exact ⟨y1, t, by rw [wi_ne (fun c => pq_n (by omega) c.symm)]; exact (congrArg Int32.toInt (NF_q nf (by omega) (by omega) (by omega) (by omega))).trans t1, t2⟩
      · rw [show A (wi m3 1105 ((e2 + 1 : Nat) : Int)) 23 = A m3 23 from rfl, e3, ro3, j3, exO_j]
        exact z2
      · exact kC M1 (vk + 1) m4 w4 _ W3 Y3 O2 y a n (by omega) (by omega) a1 a2 (GGm.tr gm3 a3) (GGw.tr gw3 a4) (fun s => a5 (sc3 s))
      · exact kD M1 (vk + 1) _ w4 _ W Y O2 a n (by omega) (by omega) a1 a2 gm3 (GGw.tr gw3 a3) (fun s => a4 (sc3 s)) (Or.inr ⟨vk, rfl, hsf⟩)
end
end
section
set_option maxRecDepth 100000
section
variable {Sf : MS → Int32 → Prop} {b : Int → Nat → Nat → Prop} {N p U B W Y : Nat} {m w : MS} {v : Int}
theorem PLs_94 (pl : PLs b p m w U B W Y) (hB : B < 100000) : PLs b p m (wa w 94 p ((B : Nat) : Int)) U B W Y := PLs_cg pl (fun _ _ => rfl) (fun _ _ => rfl) (fun _ _ => rfl) (fun _ _ => rfl) (fun _ _ => rfl) (fun K _ => by
  by_cases c : K = 94
  · subst c
    apply Int32.toInt_inj.mp
    show A (wa w 94 p ((B : Nat) : Int)) 94 p = A w 94 p
    rw [wa_sm (by omega) (by omega), pl.2.1.2.1]
  · rw [wa_21 c]) (fun _ _ => rfl) (fun _ _ => rfl) (fun _ _ => rfl) (fun _ _ => rfl)
theorem one_21 : fm_M_one N w (I v) (I 21) = bnd (fm_M_frame0 N w) (fun u4 r4 => ck (inb (I v) (ln 25)) (ck (inb r4 (ln 99)) (ck (inb r4 (ln 101)) (ck (inb (I v) (ln 27)) (bnd (fm_M_tryFrom N u4 (I 1) (u4.2.2.1 25 (I v).toNatClampNeg) (((u4.2.2.1 99 r4.toNatClampNeg) + (u4.2.2.1 101 r4.toNatClampNeg)) + (u4.2.2.1 27 (I v).toNatClampNeg))) (fun u3 _ => some (u3, ()))))))) := rfl
theorem one_31 : fm_M_one N w (I v) (I 31) = bnd (fm_M_frame0 N w) (fun u4 r4 => ck (inb (I v) (ln 25)) (ck (inb r4 (ln 99)) (ck (inb r4 (ln 101)) (ck (inb (I v) (ln 27)) (bnd (fm_M_tryFrom N u4 (I 2) (u4.2.2.1 25 (I v).toNatClampNeg) (((u4.2.2.1 99 r4.toNatClampNeg) + (u4.2.2.1 101 r4.toNatClampNeg)) + (u4.2.2.1 27 (I v).toNatClampNeg))) (fun u3 _ => some (u3, ()))))))) := rfl
theorem one_23 : fm_M_one N w (I v) (I 23) = bnd (fm_M_goTo N w (I v + 1)) (fun u7 _ => bnd (fm_M_chosen N u7) (fun u9 _ => some (u9, ()))) := rfl
end
section
variable {Sf : MS → Int32 → Prop} {α β : Type} {b : Int → Nat → Nat → Prop} {N p U B W Y j a n kd : Nat} {m w : MS} {nb : Nat → Nat} {Hs Os : Nat → List Nat} {Q : MS → α → MS → β → Prop} {D : Option (MS × α)} {K2 : MS → Option (MS × β)} {nk : Int}
theorem op_tries (hpp : p < 24) (hv : (nk = 21 ∧ kd = 1) ∨ (nk = 31 ∧ kd = 2)) (pl : PLs b p m w U B W Y) (ru : RUs m w p j nb Hs Os none a n) (hB : B < 100000) (h27 : A w 27 n = (((Os j).length : Nat) : Int)) (zr : ∃ f g, ZRs (A m 23) (ROs w) (w.2.2.2 34) (CRs (A m 23) (ROs w) (w.2.2.2 34) f) kd 0 (Hs j) (Os j) g a (A w 25 n))
    (c : ∀ w3, TRs m w3 p j nb Hs Os kd 0 a (A w 25 n) → PLs b p m (wa w3 94 p ((B : Nat) : Int)) U B W Y → GGw p w w3 → (SCs p m w → SCs p m w3) → (w3.2.2.2 88 = w.2.2.2 88 ∧ w3.1 140 = w.1 140) → PP Q D (bnd (gg_M_choose N (rc_M_error N 19) N w3 1) (fun u _ => K2 u))) : PP Q D (bnd (fm_M_one N w (I ((n : Nat) : Int)) (I nk)) (fun u _ => K2 u)) := by
  obtain ⟨⟨fa, ct⟩, ⟨r2, r3⟩, ⟨f0, cr⟩, ⟨r5, r6⟩, r7, ⟨r8, r9, r10⟩, r11, r12, r13⟩ := id ru
  obtain ⟨h12, h152⟩ : F m 1112 = 0 ∧ F w 152 = 0 := by
    rcases r7 with ⟨_, c3, c4⟩ | ⟨_, _, _, c, _⟩
    · exact ⟨c3, c4⟩
    · cases c
  have hj : j < 60 := fa.1.2.2
  have cb := CR_b cr
  have e1 : fm_M_one N w (I ((n : Nat) : Int)) (I nk) = bnd (fm_M_frame0 N w) (fun u4 r4 => ck (inb (I ((n : Nat) : Int)) (ln 25)) (ck (inb r4 (ln 99)) (ck (inb r4 (ln 101)) (ck (inb (I ((n : Nat) : Int)) (ln 27)) (bnd (fm_M_tryFrom N u4 (I ((kd : Nat) : Int)) (u4.2.2.1 25 (I ((n : Nat) : Int)).toNatClampNeg) (((u4.2.2.1 99 r4.toNatClampNeg) + (u4.2.2.1 101 r4.toNatClampNeg)) + (u4.2.2.1 27 (I ((n : Nat) : Int)).toNatClampNeg))) (fun u3 _ => some (u3, ()))))))) := by
    rcases hv with ⟨rfl, rfl⟩ | ⟨rfl, rfl⟩
    · exact one_21
    · exact one_31
  obtain ⟨-, -, ⟨-, g4⟩, -, g6, -⟩ := fa.2.1 j (Nat.le_refl _)
  have ix : (I ((p : Nat) : Int) * 60 + I ((j + 1 : Nat) : Int) - 1).toNatClampNeg = 60 * p + j := by
    rw [show (60 : Int32) = I 60 from rfl, lit1q, I_mul, I_add, I_sub]
    exact tnI (n := 60 * p + j) (by omega) (by omega)
  rw [e1]
  unfold fm_M_frame0 fb_M_frame0_0
  rw [I_F' r11, tnI (n := p) rfl (by omega), I_A' fa.1.2.1]
  refine rb_bnd (pk_ck (fun _ => pk_some ?_))
  refine rb_ck (fun _ => rb_ck (fun _ => rb_ck (fun _ => rb_ck (fun _ => ?_))))
  rw [ix, tnI (n := n) rfl (by omega), I_A' g4, I_A' g6, I_A' h27, I_A (k := 25), addN, addN]
  refine r_bb ?_
  unfold fm_M_tryFrom fb_M_tryFrom_0
  rw [wi_e, lt_e, wi_e, lt_e, wi_e, lt_e, wi_e, lt_e]
  refine r_bb ?_
  show PP Q D (bnd (gg_M_choose N (rc_M_error N 19) N (wi (wi (wi (wi w 153 ((kd : Nat) : Int)) 155 (A w 25 n)) 154 (A w 25 n)) 156 ((nb j + (Hs j).length + (Os j).length : Nat) : Int)) 1) (fun u _ => K2 u))
  have cr25 := A_r w 25 n
  have hB3 : B = nb j + (Hs j).length + (Os j).length := by
    have h1 := pl.2.1.1
    rw [fa.2.2.2, List.length_append] at h1
    omega
  have lo : ∀ l, l ≠ 153 → l ≠ 154 → l ≠ 155 → l ≠ 156 → (wi (wi (wi (wi w 153 ((kd : Nat) : Int)) 155 (A w 25 n)) 154 (A w 25 n)) 156 ((nb j + (Hs j).length + (Os j).length : Nat) : Int)).1 l = w.1 l := fun l h1 h2 h3 h4 => by rw [wi_1 h4, wi_1 h2, wi_1 h3, wi_1 h1]
  have lF : ∀ l, l ≠ 153 → l ≠ 154 → l ≠ 155 → l ≠ 156 → F (wi (wi (wi (wi w 153 ((kd : Nat) : Int)) 155 (A w 25 n)) 154 (A w 25 n)) 156 ((nb j + (Hs j).length + (Os j).length : Nat) : Int)) l = F w l := fun l h1 h2 h3 h4 => congrArg Int32.toInt (lo l h1 h2 h3 h4)
  refine c _ ⟨⟨⟨fa, ct⟩, ⟨r5, r6⟩, Or.inl ⟨rfl, h12, ?_⟩, ⟨r8, r9, ?_⟩, ?_, ?_, ?_⟩, r2, ⟨?_, ?_, ?_⟩, fun c => ?_, CR_n cr, zr⟩ ?_ (GGw.tr (GGw.tr (GGw.tr (GGw_reg (by omega) (by omega)) (GGw_reg (by omega) (by omega))) (GGw_reg (by omega) (by omega))) (GGw_reg (by omega) (by omega))) id ⟨rfl, lo 140 (by omega) (by omega) (by omega) (by omega)⟩
  · rw [lF 152 (by omega) (by omega) (by omega) (by omega)]; exact h152
  · rw [lF 151 (by omega) (by omega) (by omega) (by omega)]; exact r10
  · rw [lF 133 (by omega) (by omega) (by omega) (by omega)]; exact r11
  · rw [lo 165 (by omega) (by omega) (by omega) (by omega)]; exact r12
  · rw [lo 164 (by omega) (by omega) (by omega) (by omega)]; exact r13
  · rw [wi_ne (by omega), wi_ne (by omega), wi_ne (by omega), wi_sm (by omega) (by omega)]
  · rw [wi_ne (by omega), wi_sm cr25.1 cr25.2]
  · rw [wi_sm (by omega) (by omega)]
  · omega
  · exact PLs_cg (PLs_94 pl hB) (fun _ _ => rfl) (fun _ _ => rfl) (fun _ _ => rfl) (fun _ _ => rfl) (fun _ _ => rfl) (fun _ _ => rfl) (fun _ _ => rfl) (fun _ _ => rfl) (fun _ _ => rfl) (fun _ _ => rfl)
end
section
variable {Sf : MS → Int32 → Prop} {β : Type} {b : Int → Nat → Nat → Prop} {N p U B W Y j a n kd k0 sc M1 vk : Nat} {m w : MS} {nb : Nat → Nat} {Hs Os : Nat → List Nat} {Q : MS → Int32 → MS → β → Prop} {K2 : MS → Option (MS × β)}
theorem op_gdend (hpp : p < 24) (pl : PLs b p m w U B W Y) (ru : RUs m w p j nb Hs Os (some (kd, k0, sc)) a n) (hW : W < 46000) (hvk : vk + 1 < 1000000000) (hk : k0 < 100000) (h956 : F m 955 ≤ F m 956) (c23 : A m 23 a = 23)
    (b0 : kd = 0 → ∃ n0 : Nat, A w 41 k0 = ((n0 : Nat) : Int) ∧ n0 ≤ W) (b1 : kd = 1 → 1 ≤ W) (b3 : kd = 3 → Y ≤ 30 ∧ ∃ t : Nat, F m (pq p 8) = ((t : Nat) : Int) ∧ t < Y)
    (cs : ∃ f, CHs (A m 23) (ROs w) (CRs (A m 23) (ROs w) (w.2.2.2 34) f) kd (a + 1) k0 (Hs j) (Os j))
    (kC : ∀ M' vk' m3 w3 W3 Y3 y a n, M' ≤ M1 → vk' ≤ vk + 1 → PLs b p m3 w3 U B W3 Y3 → RUs m3 w3 p j nb Hs Os y a n → GGm p m m3 → GGw p w w3 → (SCs p m w → SCs p m3 w3) → PP Q (q195 Sf N (qgo Sf N M') m3 p (I ((vk' : Nat) : Int))) (K2 w3))
    (kD : ∀ M' vk' m3 w3 a n, M' ≤ M1 → vk' ≤ vk + 1 → PLs b p m3 w3 U B W Y → RUs m3 w3 p j nb Hs Os none a n → GGm p m m3 → GGw p w w3 → (SCs p m w → SCs p m3 w3) → (∃ k : Nat, vk' = k + 1 ∧ Sf m3 (I ((k : Nat) : Int))) → PP Q (q67 Sf N (qgo Sf N M') m3 p (I ((vk' : Nat) : Int))) (K2 w3)) : PP Q (bnd (hm_Ma_flow N m p (I 23)) (fun u _ => q195 Sf N (qgo Sf N M1) u p (I ((vk : Nat) : Int)))) (bnd (fm_M_one N w (I ((n : Nat) : Int)) (I 23)) (fun u _ => K2 u)) := by
  obtain ⟨⟨fa, ct⟩, ⟨r2, r3⟩, ⟨f0, cr⟩, ⟨r5, r6⟩, r7, ⟨r8, r9, r10⟩, r11, r12, r13⟩ := id ru
  have hj : j < 60 := fa.1.2.2
  have cb := CR_b cr
  obtain ⟨h153, h154, tr⟩ : F w 153 = ((kd : Nat) : Int) ∧ F w 154 = ((k0 : Nat) : Int) ∧ (kd = 3 → F w 158 = F m (pq p 8)) := by
    rcases r7 with ⟨c, _⟩ | ⟨kd2, k2, sc2, c, fl, W0, O0, X, _, _, ⟨_, c8, c9, _, _⟩, c12, _⟩
    · cases c
    · injection c with c
      injection c with e1 c
      injection c with e2 e3
      subst e1 e2 e3
      exact ⟨c8, c9, fun c => (c12 c).1.1⟩
  rw [flo23, one_23, show I ((n : Nat) : Int) + 1 = I ((n + 1 : Nat) : Int) from addN, I_F' r2, show I ((a : Nat) : Int) + 1 = I ((a + 1 : Nat) : Int) from addN, Co_e (k := a + 1) rfl (by omega), bnd_so, lit0q, wi_e, lt_e]
  have e5 : F (wi m 1112 0) 1105 = ((a : Nat) : Int) := by rw [wi_ne (by omega)]; exact r2
  rw [I_F' e5, show I ((a : Nat) : Int) + 1 = I ((a + 1 : Nat) : Int) from addN, wi_e, lt_e, bnd_so]
  have q9 : F (wi (wi m 1112 0) 1105 ((a + 1 : Nat) : Int)) 1109 = 0 := by rw [wi_ne (by omega), wi_ne (by omega)]; exact r9
  have q5 : F (wi (wi m 1112 0) 1105 ((a + 1 : Nat) : Int)) 955 ≤ F (wi (wi m 1112 0) 1105 ((a + 1 : Nat) : Int)) 956 := by rw [wi_ne (by omega), wi_ne (by omega), wi_ne (by omega), wi_ne (by omega)]; exact h956
  refine go195 q9 q5 (fun hsf => ?_)
  cases M1 with
  | zero => exact pp_nl
  | succ M1 =>
  show PP Q (q67 Sf N (qgo Sf N M1) (wi (wi m 1112 0) 1105 ((a + 1 : Nat) : Int)) p (I ((vk + 1 : Nat) : Int))) _
  refine rb_bnd (pk_mo (goto_r (N := N) (n := ((n + 1 : Nat) : Int)) hpp r11 fa.1.2.1 hj) (fun w2 _ h => ?_))
  subst h
  refine r_bb ?_
  have wR : ∀ K, K ≠ 98 → (wa w 98 (60 * p + j) ((n + 1 : Nat) : Int)).2.2.1 K = w.2.2.1 K := fun K h => wa_21 h
  have pr : ∀ K, PRr K → (wa w 98 (60 * p + j) ((n + 1 : Nat) : Int)).2.2.1 K = w.2.2.1 K := fun K h => wR K (by unfold PRr at h; omega)
  have gw : GGw p w (wa w 98 (60 * p + j) ((n + 1 : Nat) : Int)) := GGw_own (Or.inr (Or.inl ⟨⟨by omega, by omega⟩, by omega, by omega⟩))
  have gm : GGm p m (wi (wi m 1112 0) 1105 ((a + 1 : Nat) : Int)) := GGm.tr (GGm_reg (by omega)) (GGm_reg (by omega))
  have mq : ∀ l, (wi (wi m 1112 0) 1105 ((a + 1 : Nat) : Int)).1 (pq p l) = m.1 (pq p l) := fun l => by rw [wi_1 (fun c => pq_n (by omega) c.symm), wi_1 (fun c => pq_n (by omega) c.symm)]
  have fc : FAs (wi (wi m 1112 0) 1105 ((a + 1 : Nat) : Int)) (wa w 98 (60 * p + j) ((n + 1 : Nat) : Int)) p j nb Hs Os ∧ CTs (wi (wi m 1112 0) 1105 ((a + 1 : Nat) : Int)) (wa w 98 (60 * p + j) ((n + 1 : Nat) : Int)) p j nb Hs Os := FC_w ⟨fa, ct⟩ (fun l _ => mq l) (fun _ _ => rfl) rfl (fun K h => by rw [wR K (by omega)]) (fun K r h1 h2 h3 h4 => wa_at (by omega)) (fun K c h1 h2 _ => by rw [wR K (by omega)]) pr rfl
  have ru1 : RUb (wi (wi m 1112 0) 1105 ((a + 1 : Nat) : Int)) (wi (wa w 98 (60 * p + j) ((n + 1 : Nat) : Int)) 152 0) p j nb Hs Os none := by
    refine ⟨fc, ⟨(congrArg Int32.toInt (mq 9)).trans r5, ?_⟩, Or.inl ⟨rfl, ?_, wi_sm (by omega) (by omega)⟩, ⟨?_, q9, ?_⟩, ?_, ?_, ?_⟩
    · show A (wa w 98 (60 * p + j) ((n + 1 : Nat) : Int)) 109 p = 0
      rw [wa_rne (by omega)]; exact r6
    · rw [wi_ne (by omega), wi_sm (by omega) (by omega)]
    · rw [wi_ne (by omega), wi_ne (by omega)]; exact r8
    · rw [wi_ne (by omega)]; exact r10
    · rw [wi_ne (by omega)]; exact r11
    · rw [wi_1 (by omega), wi_1 (by omega), wi_1 (by omega)]; exact r12
    · rw [wi_1 (by omega), wi_1 (by omega), wi_1 (by omega)]; exact r13
  have pl1 : PLs b p (wi (wi m 1112 0) 1105 ((a + 1 : Nat) : Int)) (wa w 98 (60 * p + j) ((n + 1 : Nat) : Int)) U B W Y := PLs_98 (PLs_cg pl (fun l _ => mq l) (fun _ _ => rfl) (fun _ _ => rfl) (fun _ _ => rfl) (fun _ _ => rfl) (fun _ _ => rfl) (fun _ _ => rfl) (fun _ _ => rfl) (fun _ _ => rfl) (fun _ _ => rfl))
  have e8 : F (wi (wi m 1112 0) 1105 ((a + 1 : Nat) : Int)) (pq p 8) = F m (pq p 8) := congrArg Int32.toInt (mq 8)
  have sc1 : SCs p m w → SCs p (wi (wi m 1112 0) 1105 ((a + 1 : Nat) : Int)) (wa w 98 (60 * p + j) ((n + 1 : Nat) : Int)) := fun s => SC_ow s (fun l _ => mq l) rfl (fun K h1 h2 => wR K (by omega))
  refine chosen_pp (K2 := K2) (e := a + 1) (kd := kd) (k0 := k0) hpp pl1 ru1 hW (by omega) (wi_sm (by omega) (by omega)) h153 h154 hk (fun c => by rw [e8]; exact tr c) (fun c => ?_) b1 (fun c => ?_) ?_ (fun m3 w3 W3 Y3 y a2 n2 a3 a4 a5 a6 a7 => ?_) (fun w3 a2 n2 a3 a4 a5 a6 => ?_)
  · obtain ⟨n0, q1, q2⟩ := b0 c
    exact ⟨n0, by rw [wa_rne (by omega)]; exact q1, q2⟩
  · rw [e8]; exact b3 c
  · rw [ROs_eq pr]; exact cs
  · exact kC M1 (vk + 1) m3 w3 W3 Y3 y a2 n2 (by omega) (by omega) a3 a4 (GGm.tr gm a5) (GGw.tr gw a6) (fun s => a7 (sc1 s))
  · exact kD M1 (vk + 1) _ w3 a2 n2 (by omega) (by omega) a3 a4 gm (GGw.tr gw a5) (fun s => a6 (sc1 s)) ⟨vk, rfl, hsf⟩
end
end
section
set_option maxRecDepth 100000
theorem lgc_gtz (y z : Int64) : (0 < lg_cmp y z) ↔ z.toInt < y.toInt := by
  unfold lg_cmp
  simp only [gt_iff_lt, Int64.lt_iff_toInt_lt, ← Int64.toInt_inj]
  repeat' split
  all_goals (constructor <;> intro h <;> first | omega | exact absurd h (by decide) | decide)
theorem lgc_ltz (y z : Int64) : (lg_cmp y z < 0) ↔ y.toInt < z.toInt := by
  unfold lg_cmp
  simp only [gt_iff_lt, Int64.lt_iff_toInt_lt, ← Int64.toInt_inj]
  repeat' split
  all_goals (constructor <;> intro h <;> first | omega | exact absurd h (by decide) | decide)
section
variable {N p : Nat} {m : MS}
theorem isR_e (h7 : F m (pq p 7) ≤ F m (pq p 8)) : hm_Wl_isReady N m p = some (m, if m.2.1 (pq p 10) = -1 ∨ ((m.1 944).toInt64).toInt < (m.2.1 (pq p 10)).toInt then 0 else 1) := by
  unfold hm_Wl_isReady hb_Wl_isReady_0 hb_Wl_isReady_39 hb_Wl_isReady_35 hb_Wl_isReady_40
  have r7 := F_r m (pq p 7)
  have r8 := F_r m (pq p 8)
  have c0 : decide (m.1 (pq p 8) < m.1 (pq p 7)) = false := decide_eq_false (by
    rw [I_F (k := pq p 8), I_F (k := pq p 7), I_lt r8.1 r8.2 r7.1 r7.2]
    omega)
  rw [c0, br_fq]
  by_cases c1 : m.2.1 (pq p 10) = -1
  · rw [dec_lg c1, br_tq, if_pos (Or.inl c1)]
    rfl
  · rw [dec_lg0 c1, br_fq]
    by_cases c2 : ((m.1 944).toInt64).toInt < (m.2.1 (pq p 10)).toInt
    · rw [decide_eq_true ((lgc_gtz _ _).mpr c2), br_tq, if_pos (Or.inr c2)]
      rfl
    · rw [decide_eq_false (fun z => c2 ((lgc_gtz _ _).mp z)), br_fq, if_neg (fun z => z.elim c1 c2)]
      rfl
end
section
variable {α β : Type} {b : Int → Nat → Nat → Prop} {N p U B W Y j n sc : Nat} {m w : MS} {nb : Nat → Nat} {Hs Os : Nat → List Nat} {Q : MS → α → MS → β → Prop} {D : Option (MS × α)} {K1 : MS → Option (MS × α)} {K2 : MS → Option (MS × β)}
theorem aft_53 (hpp : p < 24) (h133 : F w 133 = ((p : Nat) : Int)) (h95 : A w 95 p = ((j + 1 : Nat) : Int)) (hj : j < 60) (h159 : F w 159 = ((n : Nat) : Int)) (h : PP Q D (K2 (wa (wa w 109 p 1) 98 (60 * p + j) ((n : Nat) : Int)))) : PP Q D (bnd (fb_M_afterMessages_53 N () w) (fun u _ => K2 u)) := by
  unfold fb_M_afterMessages_53 fb_M_afterMessages_71
  refine rb_ck (fun _ => ?_)
  rw [I_F' h133, tnI (n := p) rfl (by omega), lit1q, wa_e, lt_e]
  have e1 : F (wa w 109 p 1) 159 = ((n : Nat) : Int) := h159
  rw [I_F' e1]
  refine rb_bnd (pk_mo (goto_r (N := N) (w := wa w 109 p 1) (n := ((n : Nat) : Int)) hpp h133 (by rw [wa_rne (by omega)]; exact h95) hj) (fun w2 _ e => ?_))
  subst e
  exact h
theorem next_end (hpp : p < 24) (pl : PLs b p m w U B W Y) (ru : RUb m w p j nb Hs Os none) (hpc : F m 1105 = ((sc : Nat) : Int)) (hsc : sc + 1 < 24000) (h8 : F m (pq p 8) = ((Y : Nat) : Int)) (dl : DLs (m.2.1 (pq p 10)) (w.2.2.2 111 p)) (hcl : m.1 944 = w.1 120) (h159 : F w 159 = ((n : Nat) : Int)) (hn : n < 2147483648) (hun : A m 23 (sc - 1) = 0 → m.2.1 (pq p 10) = -1) (rc : ∃ g, RCs (A m 23) (ROs w) (w.2.2.2 34) (CRs (A m 23) (ROs w) (w.2.2.2 34) g) g sc n (Hs j) (Os j))
    (kW : PP Q (K1 (wi m (pq p 9) 1)) (K2 (wa (wa w 109 p 1) 98 (60 * p + j) ((n : Nat) : Int))))
    (kR : ∀ l q m3 w3, m3 = wi (wl (wi m (pq p 8) 0) (pq p 10) (-1)) 1105 ((l : Nat) : Int) → w3 = wa w 98 (60 * p + j) ((q : Nat) : Int) → PLs b p m3 w3 U B W Y → RUs m3 w3 p j nb Hs Os none l q → GGm p m m3 → GGw p w w3 → (SCs p m w → SCs p m3 w3) → PP Q (K1 m3) (K2 w3)) : PP Q (bnd (hm_Ma_flow N m p (I 32)) (fun u _ => K1 u)) (bnd (fm_M_afterMessages N w) (fun u _ => K2 u)) := by
  obtain ⟨⟨fa, ct⟩, ⟨r5, r6⟩, r7, ⟨r8, r9, r10⟩, r11, r12, r13⟩ := id ru
  obtain ⟨h12, h152⟩ : F m 1112 = 0 ∧ F w 152 = 0 := by
    rcases r7 with ⟨_, c3, c4⟩ | ⟨_, _, _, c, _⟩
    · exact ⟨c3, c4⟩
    · cases c
  have hj : j < 60 := fa.1.2.2
  have h7 : F m (pq p 7) = ((Y : Nat) : Int) := pl.2.2.2.1
  have Yr := F_r m (pq p 7)
  rw [h7] at Yr
  obtain ⟨dl1, dl2⟩ := dl
  obtain ⟨g, -, -, rc1, rc2⟩ := rc
  rw [ro_e (k := 31) (by unfold PRr; omega)] at rc1 rc2
  rw [flo32, I_F' hpc, show I ((sc : Nat) : Int) + 1 = I ((sc + 1 : Nat) : Int) from addN, Co_e (k := sc + 1) rfl hsc, bnd_so]
  refine l_bb (l_bb ?_)
  unfold hm_Ma_nextMessage hb_Ma_nextMessage_0 hb_Ma_nextMessage_78
  rw [I_F' h7, I_F' h8, decI (by omega) (by omega) (by omega) (by omega), decide_eq_true (by omega), br_tq, isR_e (by rw [h7, h8]; exact Int.le_refl _), bnd_so]
  unfold fm_M_afterMessages fb_M_afterMessages_0
  refine rb_ck (fun _ => ?_)
  rw [I_F' r11, tnI (n := p) rfl (by omega), ← dl1, ← hcl]
  rw [← dl1] at dl2
  by_cases cw : m.2.1 (pq p 10) = -1 ∨ ((m.1 944).toInt64).toInt < (m.2.1 (pq p 10)).toInt
  · rw [if_pos cw, show decide ((0 : Int32) = 0) = true from rfl, br_tq, lit1q, wi_e, lt_e]
    have kW' := aft_53 (N := N) hpp r11 fa.1.2.1 hj h159 kW
    by_cases c0 : (m.2.1 (pq p 10)).toInt < 0
    · rw [decide_eq_true ((lgc_lt _).mpr c0), br_tq]
      exact kW'
    · rw [decide_eq_false (fun z => c0 ((lgc_lt _).mp z)), br_fq]
      refine rb_ck (fun _ => ?_)
      have c2 : ((m.1 944).toInt64).toInt < (m.2.1 (pq p 10)).toInt := by
        rcases cw with cw | cw
        · exfalso
          rw [cw] at c0
          exact c0 (by decide)
        · exact cw
      rw [decide_eq_true ((lgc_ltz _ _).mpr c2), br_tq]
      exact kW'
  · have c1 : m.2.1 (pq p 10) ≠ -1 := fun z => cw (Or.inl z)
    have c2 : ¬ ((m.1 944).toInt64).toInt < (m.2.1 (pq p 10)).toInt := fun z => cw (Or.inr z)
    have c0 : ¬ (m.2.1 (pq p 10)).toInt < 0 := by
      rcases dl2 with d | d
      · exact absurd d c1
      · omega
    rw [if_neg cw, show decide ((1 : Int32) = 0) = false from rfl, br_fq, decide_eq_false (fun z => c0 ((lgc_lt _).mp z)), br_fq]
    refine rb_ck (fun _ => ?_)
    rw [decide_eq_false (fun z => c2 ((lgc_ltz _ _).mp z)), br_fq]
    have c31 : A w 31 n ≠ -1 := fun z => c1 (hun (rc2 z))
    obtain ⟨af, l, q, a1, a2, a3, a4⟩ := rc1 c31
    rw [ro_e (k := 26) (by unfold PRr; omega)] at a3
    have cb := CR_b a4
    have af31 := A_r w 31 n
    rw [a1] at af31
    refine rb_ck (fun _ => rb_ck (fun _ => ?_))
    rw [I_F' h159, tnI (n := n) rfl (by omega), I_A' a1, tnI (n := af) rfl (by omega), I_A' a3, a2]
    rw [lit0q, wi_e, lt_e, show upL (wi m (pq p 8) 0) (pq p 10) (-1) = wl (wi m (pq p 8) 0) (pq p 10) (-1) from rfl, lt_e, wi_e, lt_e]
    refine rb_bnd (pk_mo (goto_r (N := N) (n := ((q : Nat) : Int)) hpp r11 fa.1.2.1 hj) (fun w2 _ e => ?_))
    subst e
    generalize hm3 : wi (wl (wi m (pq p 8) 0) (pq p 10) (-1)) 1105 ((l : Nat) : Int) = m3
    generalize hw3 : wa w 98 (60 * p + j) ((q : Nat) : Int) = w3
    have mq : ∀ l, l ≠ 8 → m3.1 (pq p l) = m.1 (pq p l) := fun l h => by
      rw [← hm3, wi_1 (fun c => pq_n (by omega) c.symm)]
      show (wi m (pq p 8) 0).1 (pq p l) = _
      rw [wi_1 (pq_inj h)]
    have mg : ∀ l, l < 2000 → l ≠ 1105 → m3.1 l = m.1 l := fun l h0 h => by
      rw [← hm3, wi_1 h]
      show (wi m (pq p 8) 0).1 l = _
      rw [wi_1 (pq_n h0)]
    have mr : m3.2.2 = m.2.2 := by rw [← hm3]; rfl
    have wR : ∀ K, K ≠ 98 → w3.2.2.1 K = w.2.2.1 K := fun K h => by rw [← hw3]; exact wa_21 h
    have wA : ∀ K i, ¬ (K = 98 ∧ i = 60 * p + j) → w3.2.2.1 K i = w.2.2.1 K i := fun K i h => by rw [← hw3]; exact wa_at h
    have wJ : w3.2.2.2 = w.2.2.2 := by rw [← hw3]; rfl
    have w1 : w3.1 = w.1 := by rw [← hw3]; rfl
    have pr : ∀ K, PRr K → w3.2.2.1 K = w.2.2.1 K := fun K h => wR K (by unfold PRr at h; omega)
    have h23 : A m3 23 = A m 23 := by funext i; show (m3.2.2.1 23 i).toInt = _; rw [mr]; rfl
    have fc : FAs m3 w3 p j nb Hs Os ∧ CTs m3 w3 p j nb Hs Os := FC_w ⟨fa, ct⟩ (fun l h => mq l (by omega)) (fun l _ => by rw [mr]) (by rw [mr]) (fun K h => by rw [wR K (by omega)]) (fun K r h1 h2 h3 h4 => wA K _ (by omega)) (fun K c h1 h2 _ => by rw [wR K (by omega)]) pr (by rw [wJ])
    have pl3 : PLs b p m3 w3 U B W Y := PLs_cg pl (fun l hl => mq l (by simp at hl; omega)) (fun i _ => by rw [mr]) (fun i _ => by rw [mr]) (fun i _ => by rw [mr]) (fun i _ => by rw [mr]) (fun K hK => by rw [wR K (by simp at hK; omega)]) (fun i _ => by rw [wJ]) (fun i _ => by rw [wJ]) (fun i _ => by rw [wJ]) (fun i _ => by rw [wJ])
    refine kR l q m3 w3 hm3.symm hw3.symm pl3 ⟨fc, ⟨?_, ?_⟩, ⟨g, by rw [h23, ROs_eq pr, wJ]; exact a4⟩, ⟨(congrArg Int32.toInt (mq 9 (by omega))).trans r5, ?_⟩, Or.inl ⟨rfl, (congrArg Int32.toInt (mg 1112 (by omega) (by omega))).trans h12, ?_⟩, ⟨(congrArg Int32.toInt (mg 1108 (by omega) (by omega))).trans r8, (congrArg Int32.toInt (mg 1109 (by omega) (by omega))).trans r9, ?_⟩, ?_, ?_, ?_⟩ ?_ ?_ (fun s => SC_ow s (fun l hl => mq l (by omega)) (by rw [mr]) (fun K h1 h2 => wR K (by omega)))
    · rw [← hm3, wi_sm (by omega) (by omega)]
    · rw [← hw3, wa_sm (by omega) (by omega)]
    · show (w3.2.2.1 109 p).toInt = _
      rw [wR 109 (by omega)]; exact r6
    · show (w3.1 152).toInt = _
      rw [w1]; exact h152
    · show (w3.1 151).toInt = _
      rw [w1]; exact r10
    · show (w3.1 133).toInt = _
      rw [w1]; exact r11
    · rw [mg 1106 (by omega) (by omega), w1]; exact r12
    · rw [mg 1107 (by omega) (by omega), w1]; exact r13
    · rw [← hm3]
      exact GGm.tr (GGm.tr (GGm_own (by omega)) (GGm_l (by omega))) (GGm_reg (by omega))
    · rw [← hw3]
      exact GGw_own (Or.inr (Or.inl ⟨⟨by omega, by omega⟩, by omega, by omega⟩))
end
end
