/-! patterns are tried: one step, there, here -/
set_option maxRecDepth 100000
section
variable {β : Type} {N p M top cnt i B : Nat} {m : MS} {t : Int64} {Q : MS → Int32 → MS → β → Prop} {Z : Option (MS × β)}
theorem pk_pp {A' : Type} {Q1 : MS → A' → Prop} {a : Option (MS × A')} {m0 : MS} (h : PP (fun m z (_ : MS) (_ : Unit) => Q1 m z) a (some (m0, ()))) : PK Q1 a := fun w r e => h w r m0 () e rfl
theorem d_lt0 (ht : top < 100000) : decide (I ((top : Nat) : Int) < 0) = false := decide_eq_false (fun c => by
  rw [lit0, I_lt (by omega) (by omega) (by omega) (by omega)] at c
  omega)
theorem d_lt8 (ht : top + 8 < 2048) : decide (I ((top : Nat) : Int) + 8 < 2048) = true := decide_eq_true (by
  rw [show (8 : Int32) = I ((8 : Nat) : Int) from rfl, addN, show (2048 : Int32) = I 2048 from rfl, I_lt (by omega) (by omega) (by omega) (by omega)]
  omega)
theorem e_top : I ((top + 1 : Nat) : Int) + (-1) = I ((top : Nat) : Int) := by rw [m1I, I_add]; congr 1; omega
/-- a term that needs no cells, there -/
theorem fitc_1 (hv : A m 23 i = 1) (hi : i + 3 < 24000) (hc : cnt < 1000000000) (ht : top + 8 < 2048) (et : m.2.2.2 44 top = t) (h1 : t = mk (A m 23 (i + 1)) (A m 23 (i + 2)) → ∀ M3, PP Q ((hg_Ma_fit N M3).1 m p (I ((i + 3 : Nat) : Int)) (I ((top : Nat) : Int)) (I ((cnt + 1 : Nat) : Int))) Z) (h2 : t ≠ mk (A m 23 (i + 1)) (A m 23 (i + 2)) → PP Q (some (m, -1)) Z) : PP Q ((hg_Ma_fit N M).1 m p (I ((i : Nat) : Int)) (I ((top + 1 : Nat) : Int)) (I ((cnt : Nat) : Int))) Z := by
  cases M with
  | zero => exact pp_nl
  | succ M =>
  show PP Q (hb_Ma_fit_17 N (hg_Ma_fit N M) m p (I ((i : Nat) : Int)) (I ((top + 1 : Nat) : Int)) (I ((cnt : Nat) : Int))) Z
  unfold hb_Ma_fit_17 hb_Ma_fit_57 hb_Ma_fit_262 hb_Ma_fit_364
  rw [show (1000000000 : Int32) = I 1000000000 from rfl, decI (by omega) (by omega) (by omega) (by omega), decide_eq_false (by omega), br_f, Co_e (k := i) rfl (by omega), bnd_so, hv, show decide (I 1 = 8) = false from rfl, br_f, e_top, d_lt0 (by omega), br_f, d_lt8 ht, br_t]
  refine l_ck (fun _ => ?_)
  rw [show I ((i : Nat) : Int) + 1 = I ((i + 1 : Nat) : Int) from addN, Co_e (k := i + 1) rfl (by omega), bnd_so, Co_e (k := i) rfl (by omega), bnd_so, hv, show decide (I 1 = 1) = true from rfl, br_t, tnI (n := top) rfl (by omega), show I ((cnt : Nat) : Int) + 1 = I ((cnt + 1 : Nat) : Int) from addN]
  rw [show I ((i : Nat) : Int) + 2 = I ((i + 2 : Nat) : Int) from addN, Co_e (k := i + 2) rfl (by omega), bnd_so, e_make, bnd_so, et, show I ((i : Nat) : Int) + 3 = I ((i + 3 : Nat) : Int) from addN]
  by_cases c : t = mk (A m 23 (i + 1)) (A m 23 (i + 2))
  · rw [dec_lg c, br_t]
    exact h1 c M
  · rw [dec_lg0 c, br_f]
    exact h2 c
/-- a STRING, there -/
theorem fitc_2 (hv : A m 23 i = 2) (hi : i + 3 < 24000) (hc : cnt < 1000000000) (ht : top + 8 < 2048) {l : Nat} (hl : A m 23 (i + 1) = ((l : Nat) : Int)) (h : ∀ M3, PP Q (bnd (hm_Ma_fitsString N m p (I ((i : Nat) : Int)) (m.2.2.2 44 top)) (fun u23 r23 => br (decide (r23 = 0)) (some (u23, -1)) ((hg_Ma_fit N M3).1 u23 p (I ((i + 2 + l : Nat) : Int)) (I ((top : Nat) : Int)) (I ((cnt + 1 : Nat) : Int))))) Z) : PP Q ((hg_Ma_fit N M).1 m p (I ((i : Nat) : Int)) (I ((top + 1 : Nat) : Int)) (I ((cnt : Nat) : Int))) Z := by
  cases M with
  | zero => exact pp_nl
  | succ M =>
  show PP Q (hb_Ma_fit_17 N (hg_Ma_fit N M) m p (I ((i : Nat) : Int)) (I ((top + 1 : Nat) : Int)) (I ((cnt : Nat) : Int))) Z
  unfold hb_Ma_fit_17 hb_Ma_fit_57 hb_Ma_fit_262 hb_Ma_fit_364
  rw [show (1000000000 : Int32) = I 1000000000 from rfl, decI (by omega) (by omega) (by omega) (by omega), decide_eq_false (by omega), br_f, Co_e (k := i) rfl (by omega), bnd_so, hv, show decide (I 2 = 8) = false from rfl, br_f, e_top, d_lt0 (by omega), br_f, d_lt8 ht, br_t]
  refine l_ck (fun _ => ?_)
  rw [show I ((i : Nat) : Int) + 1 = I ((i + 1 : Nat) : Int) from addN, Co_e (k := i + 1) rfl (by omega), bnd_so, Co_e (k := i) rfl (by omega), bnd_so, hv, show decide (I 2 = 1) = false from rfl, br_f, show decide (I 2 = 2) = true from rfl, br_t, tnI (n := top) rfl (by omega), show I ((cnt : Nat) : Int) + 1 = I ((cnt + 1 : Nat) : Int) from addN]
  rw [hl, show (2 : Int32) = I ((2 : Nat) : Int) from rfl, addN, addN, show i + (2 + l) = i + 2 + l by omega]
  exact h M
/-- a NAME that is bound, there -/
theorem fitc_3 (hv : A m 23 i = 3) (hi : i + 3 < 24000) (hc : cnt < 1000000000) (ht : top + 8 < 2048) (h : ∀ M3, PP Q (bnd (hm_Fr_termOf N m p (I (A m 23 (i + 1)))) (fun u29 r29 => bnd (hm_Te_order N u29 (pq p 2) r29 (m.2.2.2 44 top)) (fun u31 r31 => br (decide (r31 = 0)) ((hg_Ma_fit N M3).1 u31 p (I ((i + 2 : Nat) : Int)) (I ((top : Nat) : Int)) (I ((cnt + 1 : Nat) : Int))) (some (u31, -1))))) Z) : PP Q ((hg_Ma_fit N M).1 m p (I ((i : Nat) : Int)) (I ((top + 1 : Nat) : Int)) (I ((cnt : Nat) : Int))) Z := by
  cases M with
  | zero => exact pp_nl
  | succ M =>
  show PP Q (hb_Ma_fit_17 N (hg_Ma_fit N M) m p (I ((i : Nat) : Int)) (I ((top + 1 : Nat) : Int)) (I ((cnt : Nat) : Int))) Z
  unfold hb_Ma_fit_17 hb_Ma_fit_57 hb_Ma_fit_262 hb_Ma_fit_364
  rw [show (1000000000 : Int32) = I 1000000000 from rfl, decI (by omega) (by omega) (by omega) (by omega), decide_eq_false (by omega), br_f, Co_e (k := i) rfl (by omega), bnd_so, hv, show decide (I 3 = 8) = false from rfl, br_f, e_top, d_lt0 (by omega), br_f, d_lt8 ht, br_t]
  refine l_ck (fun _ => ?_)
  rw [show I ((i : Nat) : Int) + 1 = I ((i + 1 : Nat) : Int) from addN, Co_e (k := i + 1) rfl (by omega), bnd_so, Co_e (k := i) rfl (by omega), bnd_so, hv, show decide (I 3 = 1) = false from rfl, br_f, show decide (I 3 = 2) = false from rfl, br_f, show decide (I 3 = 3) = true from rfl, br_t, tnI (n := top) rfl (by omega), show I ((cnt : Nat) : Int) + 1 = I ((cnt + 1 : Nat) : Int) from addN]
  rw [show I ((i : Nat) : Int) + 2 = I ((i + 2 : Nat) : Int) from addN]
  exact h M
/-- a NAME that is not, there -/
theorem fitc_4 (hv : A m 23 i = 4) (hi : i + 3 < 24000) (hc : cnt < 1000000000) (ht : top + 8 < 2048) (h : ∀ M3, PP Q (bnd (hm_Fr_bind N m p (I (A m 23 (i + 1))) (m.2.2.2 44 top)) (fun u34 _ => (hg_Ma_fit N M3).1 u34 p (I ((i + 2 : Nat) : Int)) (I ((top : Nat) : Int)) (I ((cnt + 1 : Nat) : Int)))) Z) : PP Q ((hg_Ma_fit N M).1 m p (I ((i : Nat) : Int)) (I ((top + 1 : Nat) : Int)) (I ((cnt : Nat) : Int))) Z := by
  cases M with
  | zero => exact pp_nl
  | succ M =>
  show PP Q (hb_Ma_fit_17 N (hg_Ma_fit N M) m p (I ((i : Nat) : Int)) (I ((top + 1 : Nat) : Int)) (I ((cnt : Nat) : Int))) Z
  unfold hb_Ma_fit_17 hb_Ma_fit_57 hb_Ma_fit_262 hb_Ma_fit_364
  rw [show (1000000000 : Int32) = I 1000000000 from rfl, decI (by omega) (by omega) (by omega) (by omega), decide_eq_false (by omega), br_f, Co_e (k := i) rfl (by omega), bnd_so, hv, show decide (I 4 = 8) = false from rfl, br_f, e_top, d_lt0 (by omega), br_f, d_lt8 ht, br_t]
  refine l_ck (fun _ => ?_)
  rw [show I ((i : Nat) : Int) + 1 = I ((i + 1 : Nat) : Int) from addN, Co_e (k := i + 1) rfl (by omega), bnd_so, Co_e (k := i) rfl (by omega), bnd_so, hv, show decide (I 4 = 1) = false from rfl, br_f, show decide (I 4 = 2) = false from rfl, br_f, show decide (I 4 = 3) = false from rfl, br_f, show decide (I 4 = 4) = true from rfl, br_t, tnI (n := top) rfl (by omega), show I ((cnt : Nat) : Int) + 1 = I ((cnt + 1 : Nat) : Int) from addN]
  rw [show I ((i : Nat) : Int) + 2 = I ((i + 2 : Nat) : Int) from addN]
  exact h M
/-- anything, there -/
theorem fitc_5 (hv : A m 23 i = 5) (hi : i + 3 < 24000) (hc : cnt < 1000000000) (ht : top + 8 < 2048) (h : ∀ M3, PP Q ((hg_Ma_fit N M3).1 m p (I ((i + 1 : Nat) : Int)) (I ((top : Nat) : Int)) (I ((cnt + 1 : Nat) : Int))) Z) : PP Q ((hg_Ma_fit N M).1 m p (I ((i : Nat) : Int)) (I ((top + 1 : Nat) : Int)) (I ((cnt : Nat) : Int))) Z := by
  cases M with
  | zero => exact pp_nl
  | succ M =>
  show PP Q (hb_Ma_fit_17 N (hg_Ma_fit N M) m p (I ((i : Nat) : Int)) (I ((top + 1 : Nat) : Int)) (I ((cnt : Nat) : Int))) Z
  unfold hb_Ma_fit_17 hb_Ma_fit_57 hb_Ma_fit_262 hb_Ma_fit_364
  rw [show (1000000000 : Int32) = I 1000000000 from rfl, decI (by omega) (by omega) (by omega) (by omega), decide_eq_false (by omega), br_f, Co_e (k := i) rfl (by omega), bnd_so, hv, show decide (I 5 = 8) = false from rfl, br_f, e_top, d_lt0 (by omega), br_f, d_lt8 ht, br_t]
  refine l_ck (fun _ => ?_)
  rw [show I ((i : Nat) : Int) + 1 = I ((i + 1 : Nat) : Int) from addN, Co_e (k := i + 1) rfl (by omega), bnd_so, Co_e (k := i) rfl (by omega), bnd_so, hv, show decide (I 5 = 1) = false from rfl, br_f, show decide (I 5 = 2) = false from rfl, br_f, show decide (I 5 = 3) = false from rfl, br_f, show decide (I 5 = 4) = false from rfl, br_f, show decide (I 5 = 5) = true from rfl, br_t, show I ((cnt : Nat) : Int) + 1 = I ((cnt + 1 : Nat) : Int) from addN]
  exact h M
/-- a TUPLE, there -/
theorem fitc_6 (hv : A m 23 i = 6) (hi : i + 3 < 24000) (hc : cnt < 1000000000) (ht : top + 8 < 2048) {n : Nat} (hn : A m 23 (i + 1) = ((n : Nat) : Int)) (hn8 : n ≤ 8) (et : m.2.2.2 44 top = t) (hh : so t = 5 → va t = ((vn t : Nat) : Int) ∧ vn t < 512 ∧ va (m.2.2.2 (pq p 2) (vn t)) = ((vn (m.2.2.2 (pq p 2) (vn t)) : Nat) : Int)) (h1 : so t = 5 → vn (m.2.2.2 (pq p 2) (vn t)) = n → ∀ M3, PP Q ((hg_Ma_fit N M3).2 m p (I ((i : Nat) : Int)) (I ((top : Nat) : Int)) (I ((cnt : Nat) : Int)) t (I ((n : Nat) : Int))) Z) (h2 : ¬ (so t = 5 ∧ vn (m.2.2.2 (pq p 2) (vn t)) = n) → PP Q (some (m, -1)) Z) : PP Q ((hg_Ma_fit N M).1 m p (I ((i : Nat) : Int)) (I ((top + 1 : Nat) : Int)) (I ((cnt : Nat) : Int))) Z := by
  cases M with
  | zero => exact pp_nl
  | succ M =>
  show PP Q (hb_Ma_fit_17 N (hg_Ma_fit N M) m p (I ((i : Nat) : Int)) (I ((top + 1 : Nat) : Int)) (I ((cnt : Nat) : Int))) Z
  unfold hb_Ma_fit_17 hb_Ma_fit_57 hb_Ma_fit_262 hb_Ma_fit_364
  rw [show (1000000000 : Int32) = I 1000000000 from rfl, decI (by omega) (by omega) (by omega) (by omega), decide_eq_false (by omega), br_f, Co_e (k := i) rfl (by omega), bnd_so, hv, show decide (I 6 = 8) = false from rfl, br_f, e_top, d_lt0 (by omega), br_f, d_lt8 ht, br_t]
  refine l_ck (fun _ => ?_)
  rw [show I ((i : Nat) : Int) + 1 = I ((i + 1 : Nat) : Int) from addN, Co_e (k := i + 1) rfl (by omega), bnd_so, Co_e (k := i) rfl (by omega), bnd_so, hv, show decide (I 6 = 1) = false from rfl, br_f, show decide (I 6 = 2) = false from rfl, br_f, show decide (I 6 = 3) = false from rfl, br_f, show decide (I 6 = 4) = false from rfl, br_f, show decide (I 6 = 5) = false from rfl, br_f, show decide (I 6 = 6) = true from rfl, br_t, tnI (n := top) rfl (by omega)]
  rw [e_tag, bnd_so, et, show (5 : Int32) = I 5 from rfl, decE (so_r _).1 (so_r _).2 (by omega) (by omega), hn]
  by_cases c : so t = 5
  · obtain ⟨v1, v2, v3⟩ := hh c
    rw [decide_eq_true c, br_t, valI, v1, tnI (n := vn t) rfl (by omega), valI, v3, decE (by have := va_r (m.2.2.2 (pq p 2) (vn t)); omega) (by have := va_r (m.2.2.2 (pq p 2) (vn t)); omega) (by omega) (by omega)]
    refine l_ck (fun _ => ?_)
    by_cases c2 : vn (m.2.2.2 (pq p 2) (vn t)) = n
    · rw [decide_eq_true (by omega), br_t]
      exact h1 c c2 M
    · rw [decide_eq_false (by omega), br_f]
      exact h2 (fun z => c2 z.2)
  · rw [decide_eq_false c, br_f]
    exact h2 (fun z => c z.1)
/-- a PAIR, there -/
theorem fitc_7 (hv : A m 23 i = 7) (hi : i + 3 < 24000) (hc : cnt < 1000000000) (ht : top + 8 < 2048) (et : m.2.2.2 44 top = t) (hh : so t = 7 → va t = ((vn t : Nat) : Int) ∧ vn t < 500) (h1 : so t = 7 → ∀ M3, PP Q ((hg_Ma_fit N M3).1 (wj (wj m 44 top (m.2.2.2 (pq p 2) (vn t + 1))) 44 (top + 1) (m.2.2.2 (pq p 2) (vn t))) p (I ((i + 1 : Nat) : Int)) (I ((top + 1 + 1 : Nat) : Int)) (I ((cnt + 1 : Nat) : Int))) Z) (h2 : so t ≠ 7 → PP Q (some (m, -1)) Z) : PP Q ((hg_Ma_fit N M).1 m p (I ((i : Nat) : Int)) (I ((top + 1 : Nat) : Int)) (I ((cnt : Nat) : Int))) Z := by
  cases M with
  | zero => exact pp_nl
  | succ M =>
  show PP Q (hb_Ma_fit_17 N (hg_Ma_fit N M) m p (I ((i : Nat) : Int)) (I ((top + 1 : Nat) : Int)) (I ((cnt : Nat) : Int))) Z
  unfold hb_Ma_fit_17 hb_Ma_fit_57 hb_Ma_fit_262 hb_Ma_fit_364
  rw [show (1000000000 : Int32) = I 1000000000 from rfl, decI (by omega) (by omega) (by omega) (by omega), decide_eq_false (by omega), br_f, Co_e (k := i) rfl (by omega), bnd_so, hv, show decide (I 7 = 8) = false from rfl, br_f, e_top, d_lt0 (by omega), br_f, d_lt8 ht, br_t]
  refine l_ck (fun _ => ?_)
  rw [show I ((i : Nat) : Int) + 1 = I ((i + 1 : Nat) : Int) from addN, Co_e (k := i + 1) rfl (by omega), bnd_so, Co_e (k := i) rfl (by omega), bnd_so, hv, show decide (I 7 = 1) = false from rfl, br_f, show decide (I 7 = 2) = false from rfl, br_f, show decide (I 7 = 3) = false from rfl, br_f, show decide (I 7 = 4) = false from rfl, br_f, show decide (I 7 = 5) = false from rfl, br_f, show decide (I 7 = 6) = false from rfl, br_f, show decide (I 7 = 7) = true from rfl, br_t, tnI (n := top) rfl (by omega), show I ((cnt : Nat) : Int) + 1 = I ((cnt + 1 : Nat) : Int) from addN]
  rw [e_tag, bnd_so, et, show (7 : Int32) = I 7 from rfl, decE (so_r _).1 (so_r _).2 (by omega) (by omega)]
  by_cases c : so t = 7
  · obtain ⟨v1, v2⟩ := hh c
    rw [decide_eq_true c, br_t, valI, v1, show I ((vn t : Nat) : Int) + 1 = I ((vn t + 1 : Nat) : Int) from addN, tnI (n := vn t) rfl (by omega), tnI (n := vn t + 1) rfl (by omega), show I ((top : Nat) : Int) + 1 = I ((top + 1 : Nat) : Int) from addN, tnI (n := top + 1) rfl (by omega), show I ((top : Nat) : Int) + 2 = I ((top + 1 + 1 : Nat) : Int) from addN]
    refine l_ck (fun _ => l_ck (fun _ => l_lt (l_ck (fun _ => l_ck (fun _ => l_lt ?_)))))
    have e2 : (upJ m 44 (vp_updL (m.2.2.2 44) top (m.2.2.2 (pq p 2) (vn t + 1)))).2.2.2 (pq p 2) = m.2.2.2 (pq p 2) := if_neg (fun c => pq_n (by omega) c.symm)
    rw [e2, wj_e, wj_e]
    exact h1 c M
  · rw [decide_eq_false c, br_f]
    exact h2 c
end
section
variable {α : Type} {N p M many pp B : Nat} {w : MS} {x : Int64} {β : Type} {Q : MS → α → MS → β → Prop} {Z : Option (MS × α)} {K : MS → Int32 → Option (MS × β)}
/-- anything, here -/
theorem fits_0 (h160 : A w 160 many = ((pp : Nat) : Int)) (h161 : w.2.2.2 161 many = x) (h33 : A w 33 pp = 0) (hm : many < 100000) (h : ∀ M3, PP Q Z (bnd (gg_M_fits N M3 w (I ((many : Nat) : Int))) K)) : PP Q Z (bnd (gg_M_fits N M w (I ((many + 1 : Nat) : Int))) K) := by
  cases M with
  | zero => exact pp_nr
  | succ M =>
  have rp := A_r w 160 many
  rw [h160] at rp
  show PP Q Z (bnd (fb_M_fits_17 N (gg_M_fits N M) w (I ((many + 1 : Nat) : Int))) K)
  unfold fb_M_fits_17 fb_M_fits_198
  refine rb_le (j := 0) ⟨by omega, by omega⟩ ⟨by omega, by omega⟩ (fun c => absurd c (by omega)) (fun _ => ?_)
  rw [e_top]
  refine rb_ck (fun _ => rb_lt (rb_ck (fun _ => rb_lt (rb_ck (fun _ => ?_)))))
  rw [tnI (n := many) rfl (by omega), I_A' h160, tnI (n := pp) rfl (by omega), I_A' h33, h161, show decide (I 0 = 1) = false from rfl, br_f, show decide (I 0 = 2) = false from rfl, br_f, show decide (I 0 = 3) = false from rfl, br_f, show decide (I 0 = 4) = false from rfl, br_f, show decide (I 0 ≤ 4) = true from rfl, br_t]
  exact h M
/-- a NAME that is not bound, here -/
theorem fits_1 (h160 : A w 160 many = ((pp : Nat) : Int)) (h161 : w.2.2.2 161 many = x) (h33 : A w 33 pp = 1) (hm : many < 100000) (hpp : p < 24) (h3 : F w 133 = ((p : Nat) : Int)) (h94 : A w 94 p = ((B : Nat) : Int)) (hB : B < 2500) (h : ∀ M3, PP Q Z (bnd (gg_M_fits N M3 (wa (wj w 93 (2500 * p + B) x) 94 p ((B + 1 : Nat) : Int)) (I ((many : Nat) : Int))) K)) : PP Q Z (bnd (gg_M_fits N M w (I ((many + 1 : Nat) : Int))) K) := by
  cases M with
  | zero => exact pp_nr
  | succ M =>
  have rp := A_r w 160 many
  rw [h160] at rp
  show PP Q Z (bnd (fb_M_fits_17 N (gg_M_fits N M) w (I ((many + 1 : Nat) : Int))) K)
  unfold fb_M_fits_17 fb_M_fits_198
  refine rb_le (j := 0) ⟨by omega, by omega⟩ ⟨by omega, by omega⟩ (fun c => absurd c (by omega)) (fun _ => ?_)
  rw [e_top]
  refine rb_ck (fun _ => rb_lt (rb_ck (fun _ => rb_lt (rb_ck (fun _ => ?_)))))
  rw [tnI (n := many) rfl (by omega), I_A' h160, tnI (n := pp) rfl (by omega), I_A' h33, h161, show decide (I 1 = 1) = true from rfl, br_t]
  have ix : (I ((p : Nat) : Int) * 2500 + I ((B : Nat) : Int)).toNatClampNeg = 2500 * p + B := by
    rw [show (2500 : Int32) = I 2500 from rfl, I_mul, I_add]
    exact tnI (n := 2500 * p + B) (by omega) (by omega)
  rw [I_F' h3, tnI (n := p) rfl (by omega), I_A' h94, ix]
  refine rb_ck (fun _ => rb_ck (fun _ => rb_lt (rb_ck (fun _ => rb_ck (fun _ => rb_lt ?_)))))
  rw [wj_e]
  have e3 : F (wj w 93 (2500 * p + B) x) 133 = ((p : Nat) : Int) := h3
  have e94 : A (wj w 93 (2500 * p + B) x) 94 p = ((B : Nat) : Int) := h94
  rw [I_F' e3, tnI (n := p) rfl (by omega), I_A' e94, show I ((B : Nat) : Int) + 1 = I ((B + 1 : Nat) : Int) from addN, wa_e]
  exact h M
/-- a NAME that is bound, here -/
theorem fits_2 (h160 : A w 160 many = ((pp : Nat) : Int)) (h161 : w.2.2.2 161 many = x) (h33 : A w 33 pp = 2) (hm : many < 100000) (h : ∀ M3, PP Q Z (bnd (bnd (fm_M_nameAt N w (I (A w 35 pp))) (fun u5 r5 => bnd (fm_M_order N u5 r5 x) (fun u6 r6 => br (decide (r6 = 0)) (gg_M_fits N M3 u6 (I ((many : Nat) : Int))) (ck (isb 0) (some (u6, 0)))))) K)) : PP Q Z (bnd (gg_M_fits N M w (I ((many + 1 : Nat) : Int))) K) := by
  cases M with
  | zero => exact pp_nr
  | succ M =>
  have rp := A_r w 160 many
  rw [h160] at rp
  show PP Q Z (bnd (fb_M_fits_17 N (gg_M_fits N M) w (I ((many + 1 : Nat) : Int))) K)
  unfold fb_M_fits_17 fb_M_fits_198
  refine rb_le (j := 0) ⟨by omega, by omega⟩ ⟨by omega, by omega⟩ (fun c => absurd c (by omega)) (fun _ => ?_)
  rw [e_top]
  refine rb_ck (fun _ => rb_lt (rb_ck (fun _ => rb_lt (rb_ck (fun _ => ?_)))))
  rw [tnI (n := many) rfl (by omega), I_A' h160, tnI (n := pp) rfl (by omega), I_A' h33, h161, show decide (I 2 = 1) = false from rfl, br_f, show decide (I 2 = 2) = true from rfl, br_t]
  refine rb_ck (fun _ => ?_)
  rw [I_A (k := 35)]
  exact h M
/-- a term that needs no cells, here -/
theorem fits_3 (h160 : A w 160 many = ((pp : Nat) : Int)) (h161 : w.2.2.2 161 many = x) (h33 : A w 33 pp = 3) (hm : many < 100000) (h1 : x = w.2.2.2 34 pp → ∀ M3, PP Q Z (bnd (gg_M_fits N M3 w (I ((many : Nat) : Int))) K)) (h2 : x ≠ w.2.2.2 34 pp → PP Q Z (K w 0)) : PP Q Z (bnd (gg_M_fits N M w (I ((many + 1 : Nat) : Int))) K) := by
  cases M with
  | zero => exact pp_nr
  | succ M =>
  have rp := A_r w 160 many
  rw [h160] at rp
  show PP Q Z (bnd (fb_M_fits_17 N (gg_M_fits N M) w (I ((many + 1 : Nat) : Int))) K)
  unfold fb_M_fits_17 fb_M_fits_198
  refine rb_le (j := 0) ⟨by omega, by omega⟩ ⟨by omega, by omega⟩ (fun c => absurd c (by omega)) (fun _ => ?_)
  rw [e_top]
  refine rb_ck (fun _ => rb_lt (rb_ck (fun _ => rb_lt (rb_ck (fun _ => ?_)))))
  rw [tnI (n := many) rfl (by omega), I_A' h160, tnI (n := pp) rfl (by omega), I_A' h33, h161, show decide (I 3 = 1) = false from rfl, br_f, show decide (I 3 = 2) = false from rfl, br_f, show decide (I 3 = 3) = true from rfl, br_t]
  refine rb_ck (fun _ => ?_)
  by_cases c : x = w.2.2.2 34 pp
  · rw [dec_lg c.symm, br_t]
    exact h1 c M
  · rw [dec_lg0 (fun z => c z.symm), br_f]
    exact h2 c
/-- a STRING, here -/
theorem fits_4 (h160 : A w 160 many = ((pp : Nat) : Int)) (h161 : w.2.2.2 161 many = x) (h33 : A w 33 pp = 4) (hm : many < 100000) (h : ∀ M3, PP Q Z (bnd (bnd (fm_M_isString N w (I (A w 35 pp)) x) (fun u4 r4 => br (decide (r4 = 0)) (ck (isb 0) (some (u4, 0))) (gg_M_fits N M3 u4 (I ((many : Nat) : Int))))) K)) : PP Q Z (bnd (gg_M_fits N M w (I ((many + 1 : Nat) : Int))) K) := by
  cases M with
  | zero => exact pp_nr
  | succ M =>
  have rp := A_r w 160 many
  rw [h160] at rp
  show PP Q Z (bnd (fb_M_fits_17 N (gg_M_fits N M) w (I ((many + 1 : Nat) : Int))) K)
  unfold fb_M_fits_17 fb_M_fits_198
  refine rb_le (j := 0) ⟨by omega, by omega⟩ ⟨by omega, by omega⟩ (fun c => absurd c (by omega)) (fun _ => ?_)
  rw [e_top]
  refine rb_ck (fun _ => rb_lt (rb_ck (fun _ => rb_lt (rb_ck (fun _ => ?_)))))
  rw [tnI (n := many) rfl (by omega), I_A' h160, tnI (n := pp) rfl (by omega), I_A' h33, h161, show decide (I 4 = 1) = false from rfl, br_f, show decide (I 4 = 2) = false from rfl, br_f, show decide (I 4 = 3) = false from rfl, br_f, show decide (I 4 = 4) = true from rfl, br_t]
  refine rb_ck (fun _ => ?_)
  rw [I_A (k := 35)]
  exact h M
/-- a TUPLE, here -/
theorem fits_5 (h160 : A w 160 many = ((pp : Nat) : Int)) (h161 : w.2.2.2 161 many = x) (h33 : A w 33 pp = 5) (hm : many < 100000) (h : ∀ M3, PP Q Z (bnd (bnd (fm_M_parts1 N w (I ((pp : Nat) : Int)) x (I ((many : Nat) : Int))) (fun u3 r3 => br (decide (r3 = -1)) (ck (isb 0) (some (u3, 0))) (gg_M_fits N M3 u3 r3))) K)) : PP Q Z (bnd (gg_M_fits N M w (I ((many + 1 : Nat) : Int))) K) := by
  cases M with
  | zero => exact pp_nr
  | succ M =>
  have rp := A_r w 160 many
  rw [h160] at rp
  show PP Q Z (bnd (fb_M_fits_17 N (gg_M_fits N M) w (I ((many + 1 : Nat) : Int))) K)
  unfold fb_M_fits_17 fb_M_fits_198
  refine rb_le (j := 0) ⟨by omega, by omega⟩ ⟨by omega, by omega⟩ (fun c => absurd c (by omega)) (fun _ => ?_)
  rw [e_top]
  refine rb_ck (fun _ => rb_lt (rb_ck (fun _ => rb_lt (rb_ck (fun _ => ?_)))))
  rw [tnI (n := many) rfl (by omega), I_A' h160, tnI (n := pp) rfl (by omega), I_A' h33, h161, show decide (I 5 = 1) = false from rfl, br_f, show decide (I 5 = 2) = false from rfl, br_f, show decide (I 5 = 3) = false from rfl, br_f, show decide (I 5 = 4) = false from rfl, br_f, show decide (I 5 ≤ 4) = false from rfl, br_f]
  exact h M
/-- a list, here -/
theorem fits_6 (h160 : A w 160 many = ((pp : Nat) : Int)) (h161 : w.2.2.2 161 many = x) (h33 : A w 33 pp = 6) (hm : many < 100000) (h : ∀ M3, PP Q Z (bnd (bnd (fm_M_parts1 N w (I ((pp : Nat) : Int)) x (I ((many : Nat) : Int))) (fun u3 r3 => br (decide (r3 = -1)) (ck (isb 0) (some (u3, 0))) (gg_M_fits N M3 u3 r3))) K)) : PP Q Z (bnd (gg_M_fits N M w (I ((many + 1 : Nat) : Int))) K) := by
  cases M with
  | zero => exact pp_nr
  | succ M =>
  have rp := A_r w 160 many
  rw [h160] at rp
  show PP Q Z (bnd (fb_M_fits_17 N (gg_M_fits N M) w (I ((many + 1 : Nat) : Int))) K)
  unfold fb_M_fits_17 fb_M_fits_198
  refine rb_le (j := 0) ⟨by omega, by omega⟩ ⟨by omega, by omega⟩ (fun c => absurd c (by omega)) (fun _ => ?_)
  rw [e_top]
  refine rb_ck (fun _ => rb_lt (rb_ck (fun _ => rb_lt (rb_ck (fun _ => ?_)))))
  rw [tnI (n := many) rfl (by omega), I_A' h160, tnI (n := pp) rfl (by omega), I_A' h33, h161, show decide (I 6 = 1) = false from rfl, br_f, show decide (I 6 = 2) = false from rfl, br_f, show decide (I 6 = 3) = false from rfl, br_f, show decide (I 6 = 4) = false from rfl, br_f, show decide (I 6 ≤ 4) = false from rfl, br_f]
  exact h M
end
