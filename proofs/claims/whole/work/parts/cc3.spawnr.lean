/-! spawn, here -/
set_option maxRecDepth 100000
/-- the answer -/
def an4 (N : Nat) (u : MS) (v6 : Int32) : Option (MS × Unit) := bnd (fm_M_take N u) (fun u1 r1 => bnd (fm_M_term N u1 4 v6) (fun u2 r2 => bnd (fm_M_put N u2 r2) (fun u3 _ => some (u3, ()))))
def spU (w : MS) (q uu : Nat) : MS := wa (wa (npS w q) 170 q (-1)) 170 q ((uu : Nat) : Int)
def spF (w : MS) (q ff : Nat) : MS := wa (wa (npS w q) 170 q (-1)) 96 (60 * q) ((ff : Nat) : Int)
section
variable {α β : Type} {N p q v W uu ff c ar L : Nat} {w w0 : MS} {x t7 : Int64} {v1 v3 : Int64} {Q : MS → α → MS → β → Prop} {D : Option (MS × α)} {K : MS → Unit → Option (MS × β)}
theorem i64u (hd : x.toInt = ((uu : Nat) : Int)) (hu : uu < 100000) : x.toInt32 = I ((uu : Nat) : Int) := by
  apply Int32.toInt_inj.mp
  rw [Int64.toInt_toInt32, hd, I_ti (by omega) (by omega)]
  exact Int.bmod_eq_of_le (by omega) (by omega)
theorem i64f (hd : x.toInt = -1 - ((ff : Nat) : Int)) (hu : ff < 100000) : ((-1 : Int64) - x).toInt32 = I ((ff : Nat) : Int) := by
  apply Int32.toInt_inj.mp
  rw [Int64.toInt_toInt32, I_ti (by omega) (by omega), Int64.toInt_sub, hd, show (-1 : Int64).toInt = -1 from by decide, show (-1 : Int) - (-1 - ((ff : Nat) : Int)) = ((ff : Nat) : Int) by omega, Int.bmod_eq_of_le (n := ((ff : Nat) : Int)) (m := 2 ^ 64) (by omega) (by omega)]
  exact Int.bmod_eq_of_le (by omega) (by omega)
/-- a FUN with CLAUSES of its own -/
theorem sp_u (hpp : p < 24) (h133 : F w 133 = ((p : Nat) : Int)) (h92 : A w 92 p = ((W + 1 : Nat) : Int)) (hW : W + 1 ≤ 46000) (hx : w.2.2.2 91 (46000 * p + W) = x) (sx : so x = 3) (hv : va x = ((v : Nat) : Int)) (hv2 : v < 500) (hd : (hp w p v).toInt = ((uu : Nat) : Int)) (hu : uu < 100000) (h53 : A w 53 uu = ((c : Nat) : Int)) (hc : c < 100000) (h41 : A w 41 c = ((ar : Nat) : Int)) (h : PP Q D (bnd (fb_M_spawnRun_75 N (gg_M_spawnRun N N) w x (hp w p v) (I ((ar : Nat) : Int))) K)) : PP Q D (bnd (fm_M_spawnRun N w) K) := by
  unfold fm_M_spawnRun fb_M_spawnRun_0
  refine rb_bnd (pk_mo (show PK _ (fm_M_top N w 0) from top_r (N := N) (k := 0) (W := W + 1) hpp h133 h92 hW (by omega)) (fun w4 r e => ?_))
  obtain ⟨rfl, rfl⟩ := e
  have d0 : decide (0 ≤ lg_cmp (hp w4 p v) 0) = true := decide_eq_true ((lgc_ge _).mpr (by rw [hd]; omega))
  rw [show 46000 * p + (W + 1 - 1 - 0) = 46000 * p + W by omega, hx, sortOf_e, rb_bnd_so, sx, show decide (I 3 = 3) = true from rfl, br_t, valueOf_e, rb_bnd_so, hv, I_F' h133, cell_e (by omega) hv2, rb_bnd_so]
  unfold fb_M_spawnRun_30
  rw [sortOf_e, rb_bnd_so, sx, show decide (I 3 = 3) = true from rfl, br_t, d0, br_t, i64u hd hu, tnI (n := uu) rfl (by omega), I_A' h53, tnI (n := c) rfl (by omega), I_A' h41]
  refine rb_ck (fun _ => rb_ck (fun _ => h))
/-- a FUN of a FUNCTION -/
theorem sp_f (hpp : p < 24) (h133 : F w 133 = ((p : Nat) : Int)) (h92 : A w 92 p = ((W + 1 : Nat) : Int)) (hW : W + 1 ≤ 46000) (hx : w.2.2.2 91 (46000 * p + W) = x) (sx : so x = 3) (hv : va x = ((v : Nat) : Int)) (hv2 : v < 500) (hd : (hp w p v).toInt = -1 - ((ff : Nat) : Int)) (hu : ff < 100000) (h48 : A w 48 ff = ((ar : Nat) : Int)) (h : PP Q D (bnd (fb_M_spawnRun_75 N (gg_M_spawnRun N N) w x (hp w p v) (I ((ar : Nat) : Int))) K)) : PP Q D (bnd (fm_M_spawnRun N w) K) := by
  unfold fm_M_spawnRun fb_M_spawnRun_0
  refine rb_bnd (pk_mo (show PK _ (fm_M_top N w 0) from top_r (N := N) (k := 0) (W := W + 1) hpp h133 h92 hW (by omega)) (fun w4 r e => ?_))
  obtain ⟨rfl, rfl⟩ := e
  have d0 : decide (0 ≤ lg_cmp (hp w4 p v) 0) = false := decide_eq_false (fun z => by have := (lgc_ge _).mp z; rw [hd] at this; omega)
  rw [show 46000 * p + (W + 1 - 1 - 0) = 46000 * p + W by omega, hx, sortOf_e, rb_bnd_so, sx, show decide (I 3 = 3) = true from rfl, br_t, valueOf_e, rb_bnd_so, hv, I_F' h133, cell_e (by omega) hv2, rb_bnd_so]
  unfold fb_M_spawnRun_30
  rw [sortOf_e, rb_bnd_so, sx, show decide (I 3 = 3) = true from rfl, br_t, d0, br_f, i64f hd hu, tnI (n := ff) rfl (by omega), I_A' h48]
  exact rb_ck (fun _ => h)
/-- no FUN -/
theorem sp_n (hpp : p < 24) (h133 : F w 133 = ((p : Nat) : Int)) (h92 : A w 92 p = ((W + 1 : Nat) : Int)) (hW : W + 1 ≤ 46000) (hx : w.2.2.2 91 (46000 * p + W) = x) (sx : so x ≠ 3) (h : PP Q D (bnd (fr_M_error N w 11) (fun u _ => K u ()))) : PP Q D (bnd (fm_M_spawnRun N w) K) := by
  unfold fm_M_spawnRun fb_M_spawnRun_0
  refine rb_bnd (pk_mo (show PK _ (fm_M_top N w 0) from top_r (N := N) (k := 0) (W := W + 1) hpp h133 h92 hW (by omega)) (fun w4 r e => ?_))
  obtain ⟨rfl, rfl⟩ := e
  have d3 : decide (I (so x) = 3) = false := by
    rw [show (3 : Int32) = I 3 from rfl, decE (so_r _).1 (so_r _).2 (by omega) (by omega)]
    exact decide_eq_false sx
  rw [show 46000 * p + (W + 1 - 1 - 0) = 46000 * p + W by omega, hx, sortOf_e, rb_bnd_so, d3, br_f]
  unfold fb_M_spawnRun_30
  rw [sortOf_e, rb_bnd_so, d3, br_f]
  unfold fb_M_spawnRun_75 fb_M_spawnRun_91
  rw [show decide ((-1 : Int32) = 0) = false from rfl, br_f]
  exact r_bb h
/-- it takes ARGUMENTS, or there are no more PROCESSES -/
theorem sp_x {G : MS → Int32 → Int64 → Int32 → Int32 → Option (MS × Unit)} (ha : ar < 2000) (h118 : F w 118 = ((q : Nat) : Int)) (hq : q < 1000) (hz : ar ≠ 0 ∨ q = 24) (h : PP Q D (bnd (fr_M_error N w 11) (fun u _ => K u ()))) : PP Q D (bnd (fb_M_spawnRun_75 N G w v1 v3 (I ((ar : Nat) : Int))) K) := by
  unfold fb_M_spawnRun_75 fb_M_spawnRun_91
  by_cases e : ar = 0
  · subst e
    have e24 : q = 24 := by omega
    subst e24
    rw [show decide (I ((0 : Nat) : Int) = 0) = true from rfl, br_t, I_F' h118, show decide (I ((24 : Nat) : Int) = 24) = true from rfl, br_t]
    exact r_bb h
  · rw [show decide (I ((ar : Nat) : Int) = 0) = false from by rw [lit0, decE (by omega) (by omega) (by omega) (by omega)]; exact decide_eq_false (by omega), br_f]
    exact r_bb h
theorem i60 (hq : q < 24) : I ((q : Nat) : Int) * 60 = I ((60 * q : Nat) : Int) := by
  rw [show (60 : Int32) = I 60 from rfl, I_mul]
  congr 1
  omega
theorem sp_75u {G : MS → Int32 → Int64 → Int32 → Int32 → Option (MS × Unit)} (h118 : F w 118 = ((q : Nat) : Int)) (hq : q < 24) (hd : v3.toInt = ((uu : Nat) : Int)) (hu : uu < 100000) (h : PP Q D (bnd (fb_M_spawnRun_150 N G (spU w q uu) v1 v3 (I ((q : Nat) : Int)) (I ((60 * q : Nat) : Int))) K)) : PP Q D (bnd (fb_M_spawnRun_75 N G w v1 v3 (I ((0 : Nat) : Int))) K) := by
  unfold fb_M_spawnRun_75
  have d0 : decide (0 ≤ lg_cmp v3 0) = true := decide_eq_true ((lgc_ge _).mpr (by rw [hd]; omega))
  rw [show decide (I ((0 : Nat) : Int) = 0) = true from rfl, br_t, I_F' h118, show decide (I ((q : Nat) : Int) = 24) = false from by rw [show (24 : Int32) = I 24 from rfl, decE (by omega) (by omega) (by omega) (by omega)]; exact decide_eq_false (by omega), br_f, newProcess_e h118 hq, rb_bnd_so]
  refine rb_ck (fun c1 => ?_)
  rw [lt_e, d0, br_t]
  refine rb_ck (fun _ => ?_)
  rw [i60 hq, tnI (n := q) rfl (by omega), litm1, wa_e, i64u hd hu, wa_e, lt_e]
  exact h
theorem sp_75f {G : MS → Int32 → Int64 → Int32 → Int32 → Option (MS × Unit)} (h118 : F w 118 = ((q : Nat) : Int)) (hq : q < 24) (hd : v3.toInt = -1 - ((ff : Nat) : Int)) (hu : ff < 100000) (h : PP Q D (bnd (fb_M_spawnRun_150 N G (spF w q ff) v1 v3 (I ((q : Nat) : Int)) (I ((60 * q : Nat) : Int))) K)) : PP Q D (bnd (fb_M_spawnRun_75 N G w v1 v3 (I ((0 : Nat) : Int))) K) := by
  unfold fb_M_spawnRun_75
  have d0 : decide (0 ≤ lg_cmp v3 0) = false := decide_eq_false (fun z => by have := (lgc_ge _).mp z; rw [hd] at this; omega)
  rw [show decide (I ((0 : Nat) : Int) = 0) = true from rfl, br_t, I_F' h118, show decide (I ((q : Nat) : Int) = 24) = false from by rw [show (24 : Int32) = I 24 from rfl, decE (by omega) (by omega) (by omega) (by omega)]; exact decide_eq_false (by omega), br_f, newProcess_e h118 hq, rb_bnd_so]
  refine rb_ck (fun c1 => ?_)
  rw [lt_e, d0, br_f]
  refine rb_ck (fun _ => ?_)
  rw [i60 hq, tnI (n := q) rfl (by omega), tnI (n := 60 * q) rfl (by omega), i64f hd hu, litm1, wa_e, wa_e, lt_e]
  exact h
/-- names that the FUN holds come to the new one -/
theorem sh_lp (hq : q < 24) (hn : L ≤ 2500) (hv : va t7 = ((v : Nat) : Int)) (hv2 : v + 2 + L ≤ 500) (kk : ∀ u, FR [] [] [] [93] w0 u → (∀ k, u.2.2.2 93 k = if 2500 * q ≤ k ∧ k < 2500 * q + L then hp w0 q (v + 2 + (k - 2500 * q)) else w0.2.2.2 93 k) → PP Q D (bnd (an4 N (wa u 94 q ((L : Nat) : Int)) (I ((q : Nat) : Int))) K)) : ∀ (d M : Nat) (u : MS) (i : Nat), i + d = L → FR [] [] [] [93] w0 u → (∀ k, u.2.2.2 93 k = if 2500 * q ≤ k ∧ k < 2500 * q + i then hp w0 q (v + 2 + (k - 2500 * q)) else w0.2.2.2 93 k) → PP Q D (bnd (gg_M_spawnRun N M u (I ((q : Nat) : Int)) t7 (I ((L : Nat) : Int)) (I ((i : Nat) : Int))) K) := by
  intro d
  induction d with
  | zero =>
    intro M u i hi fr r
    have : i = L := by omega
    subst this
    cases M with
    | zero => exact pp_nr
    | succ M =>
    show PP Q D (bnd (fb_M_spawnRun_234 N (gg_M_spawnRun N M) u (I ((q : Nat) : Int)) t7 (I ((i : Nat) : Int)) (I ((i : Nat) : Int))) K)
    unfold fb_M_spawnRun_234
    rw [show decide (I ((i : Nat) : Int) ≤ I ((i : Nat) : Int)) = true from decide_eq_true (Int32.le_refl _), br_t]
    refine rb_ck (fun _ => ?_)
    rw [tnI (n := q) rfl (by omega), wa_e, lt_e]
    exact kk u fr r
  | succ d ih =>
    intro M u i hi fr r
    cases M with
    | zero => exact pp_nr
    | succ M =>
    show PP Q D (bnd (fb_M_spawnRun_234 N (gg_M_spawnRun N M) u (I ((q : Nat) : Int)) t7 (I ((L : Nat) : Int)) (I ((i : Nat) : Int))) K)
    unfold fb_M_spawnRun_234
    rw [decI (by omega) (by omega) (by omega) (by omega), show decide (((L : Nat) : Int) ≤ ((i : Nat) : Int)) = false from decide_eq_false (by omega), br_f, valueOf_e, bnd_so, hv, show I ((v : Nat) : Int) + 2 + I ((i : Nat) : Int) = I ((v + 2 + i : Nat) : Int) from by rw [show (2 : Int32) = I 2 from rfl, I_add, I_add]; congr 1, cell_e (by omega) (by omega), bnd_so]
    refine rb_ck (fun _ => ?_)
    have ix : (I ((q : Nat) : Int) * 2500 + I ((i : Nat) : Int)).toNatClampNeg = 2500 * q + i := by
      rw [show (2500 : Int32) = I 2500 from rfl, I_mul, I_add]
      exact tnI (n := 2500 * q + i) (by omega) (by omega)
    have hpu : hp u q (v + 2 + i) = hp w0 q (v + 2 + i) := by unfold hp; rw [fr.2.2.2 88 (by simp)]
    rw [ix, hpu, wj_e, lt_e, show I ((i : Nat) : Int) + 1 = I ((i + 1 : Nat) : Int) from addN]
    refine ih M _ (i + 1) (by omega) (FR.wj fr (by simp)) (fun k => ?_)
    rw [wj_row]
    by_cases c : k = 2500 * q + i
    · subst c
      rw [if_pos rfl, if_pos (by omega), show 2500 * q + i - 2500 * q = i by omega]
    · rw [if_neg c, r k]
      by_cases c2 : 2500 * q ≤ k ∧ k < 2500 * q + i
      · rw [if_pos c2, if_pos (by omega)]
      · rw [if_neg c2, if_neg (by omega)]
end
