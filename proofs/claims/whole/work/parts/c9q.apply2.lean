/-! a FUN is applied: what both sides do up to the FRAME -/
set_option maxRecDepth 100000
section
variable {α β : Type} {N p n ar f j a B c P0 ee l v cc uu L : Nat} {m w : MS} {t x : Int64} {ff e : Int} {Q : MS → α → MS → β → Prop} {D : Option (MS × α)} {K : MS → Unit → Option (MS × β)}
theorem apl_27 : hm_Ma_flow N m p (I 27) = bnd (hm_Co_at N m ((m.1 1105) + 1)) (fun u5 r5 => bnd (hm_Ma_apply N u5 p r5 0) (fun u8 _ => some (u8, ()))) := rfl
theorem apl_28 : hm_Ma_flow N m p (I 28) = bnd (hm_Co_at N m ((m.1 1105) + 1)) (fun u5 r5 => bnd (hm_Ma_apply N u5 p r5 1) (fun u8 _ => some (u8, ()))) := rfl
theorem one_13 {z : Int} : fm_M_one N w (I z) (I 13) = bnd (fm_M_callRun N w (I z) (I 13)) (fun u6 _ => some (u6, ())) := rfl
theorem takes_u (h449 : ((uu : Nat) : Int) < F m 449) (hu : uu < 400) : hm_Co_takes N m (I ((uu : Nat) : Int)) = some (m, I (A m 30 uu)) := by
  have r449 := F_r m 449
  unfold hm_Co_takes hb_Co_takes_0 hb_Co_takes_49 hb_Co_takes_50
  rw [show I ((uu : Nat) : Int) - 1000000 = I (((uu : Nat) : Int) - 1000000) from by rw [show (1000000 : Int32) = I 1000000 from rfl, I_sub], show decide (I (((uu : Nat) : Int) - 1000000) < 0) = true from decide_eq_true (by rw [lit0, I_lt (by omega) (by omega) (by omega) (by omega)]; omega), br_t, d_lt0 (by omega), br_f, I_F (w := m) (k := 449), decI r449.1 r449.2 (by omega) (by omega), show decide (F m 449 ≤ ((uu : Nat) : Int)) = false from decide_eq_false (by omega), br_f, (I_inb (by omega) (by omega)).mpr ⟨by omega, by omega⟩, ck_t, tnI (n := uu) rfl (by omega), I_A (w := m) (k := 30) (i := uu)]
theorem takes_f (h442 : ((uu : Nat) : Int) < F m 442) (hu : uu < 666) : hm_Co_takes N m (I ((1000000 + uu : Nat) : Int)) = some (m, I (A m 25 uu)) := by
  have r442 := F_r m 442
  unfold hm_Co_takes hb_Co_takes_0 hb_Co_takes_27
  rw [show I ((1000000 + uu : Nat) : Int) - 1000000 = I ((uu : Nat) : Int) from by rw [show (1000000 : Int32) = I 1000000 from rfl, I_sub]; congr 1; omega, d_lt0 (by omega), br_f, I_F (w := m) (k := 442), decI r442.1 r442.2 (by omega) (by omega), show decide (F m 442 ≤ ((uu : Nat) : Int)) = false from decide_eq_false (by omega), br_f, (I_inb (by omega) (by omega)).mpr ⟨by omega, by omega⟩, ck_t, tnI (n := uu) rfl (by omega), I_A (w := m) (k := 25) (i := uu)]
theorem ent_e {ra : Nat} (g21 : F m (pq p 21) = ((j + 1 : Nat) : Int)) (hj : j + 1 < 60) (g24 : F m (pq p 24) = ((B : Nat) : Int)) (g26 : F m (pq p 26) = ((P0 + ar : Nat) : Int)) : hm_Ma_enter N m p (I ff) (I e) (I ((ar : Nat) : Int)) 0 (I ((ra : Nat) : Int)) = some (wi (opS (s30 m p (5 * j + 4) (I ((ra : Nat) : Int))) p (j + 1) B P0 (I ff) (I e)) 1105 e, ()) := by
  unfold hm_Ma_enter hb_Ma_enter_0 hb_Ma_enter_37
  rw [show decide ((0 : Int32) = 0) = true from rfl, br_t, setPlace_e (j := j) g21 (by omega), bnd_so, open_e (m := s30 m p (5 * j + 4) (I ((ra : Nat) : Int))) (j := j + 1) (B := B) (P0 := P0) (ar := ar) g21 hj g24 g26, bnd_so, wi_e, lt_e]
theorem toS_1 {k : Nat} (h : k ≠ pq p 26) : (toS m p P0 ar).1 k = m.1 k := wi_1 h
theorem toS_26 (h : P0 + ar < 100000000) : F (toS m p P0 ar) (pq p 26) = ((P0 + ar : Nat) : Int) := wi_sm (by omega) (by omega)
/-- a FUN is applied, a FRAME more: there, up to the names that it holds -/
theorem apN_m (hlt : F m 1106 < F m 1107) (hpc : F m 1105 = ((a : Nat) : Int)) (ha : a + 3 < 24000) (h21 : F m (pq p 21) = ((j + 1 : Nat) : Int)) (hj : j + 1 < 60) (h24 : F m (pq p 24) = ((B : Nat) : Int)) (h26 : F m (pq p 26) = ((P0 + 1 + ar : Nat) : Int)) (hl : F m (pq p 45) = ((l : Nat) : Int)) (hl2 : P0 + 1 + ar ≤ l ∧ l ≤ 1000000) (ht : m.2.2.2 (pq p 35) P0 = t) (st : so t = 3) (hv : va t = ((v : Nat) : Int)) (hv2 : v < 512) (hc0 : va (m.2.2.2 (pq p 2) v) = ((cc : Nat) : Int)) (tk : hm_Co_takes N m (I ((cc : Nat) : Int)) = some (m, I ((ar : Nat) : Int)))
    (fo : hm_Ma_functionOf N (toS (cnM m p) p P0 ar) (I ((cc : Nat) : Int)) = some (toS (cnM m p) p P0 ar, I ff)) (en : hm_Ma_entryOf N (toS (cnM m p) p P0 ar) p (I ((cc : Nat) : Int)) = some (toS (cnM m p) p P0 ar, I e)) : hm_Ma_apply N m p (I ((ar : Nat) : Int)) 0 = bnd (hm_Ma_hold N (wi (opS (s30 (toS (cnM m p) p P0 ar) p (5 * j + 4) (I ((a + 3 : Nat) : Int))) p (j + 1) B P0 (I ff) (I e)) 1105 e) p p (pq p 2) t) (fun u29 _ => some (u29, ())) := by
  have be : hm_Fr_below N m p (I ((ar : Nat) : Int)) = some (m, t) := by
    have := below_e (N := N) (x := ((ar : Nat) : Int)) (k := ar) (W := P0 + 1 + ar) (l := l) h26 hl hl2.1 hl2.2 rfl (by omega)
    rw [show P0 + 1 + ar - 1 - ar = P0 by omega, ht] at this
    exact this
  have g26 : F (cnM m p) (pq p 26) = ((P0 + 1 + ar : Nat) : Int) := (congrArg Int32.toInt (cnM_q (by omega))).trans h26
  have g45 : F (cnM m p) (pq p 45) = ((l : Nat) : Int) := (congrArg Int32.toInt (cnM_q (by omega))).trans hl
  have g5 : F (toS (cnM m p) p P0 ar) 1105 = ((a : Nat) : Int) := (congrArg Int32.toInt (toS_1 (m := cnM m p) (P0 := P0) (ar := ar) (k := 1105) (pq_n (by omega)))).trans ((congrArg Int32.toInt (cnM_1 (by omega) (by omega) (by omega))).trans hpc)
  have g21 : F (toS (cnM m p) p P0 ar) (pq p 21) = ((j + 1 : Nat) : Int) := (congrArg Int32.toInt (toS_1 (m := cnM m p) (P0 := P0) (ar := ar) (pq_inj (by omega)))).trans ((congrArg Int32.toInt (cnM_q (by omega))).trans h21)
  have g24 : F (toS (cnM m p) p P0 ar) (pq p 24) = ((B : Nat) : Int) := (congrArg Int32.toInt (toS_1 (m := cnM m p) (P0 := P0) (ar := ar) (pq_inj (by omega)))).trans ((congrArg Int32.toInt (cnM_q (by omega))).trans h24)
  have g26' : F (toS (cnM m p) p P0 ar) (pq p 26) = ((P0 + ar : Nat) : Int) := toS_26 (by omega)
  unfold hm_Ma_apply hb_Ma_apply_0
  rw [be, bnd_so, e_tag, bnd_so, st, show decide (I 3 = 3) = true from rfl, br_t, valI, hv, tnI (n := v) rfl (by omega), (I_inb (by omega) (by omega)).mpr ⟨by omega, by omega⟩, ck_t, valI, hc0, tk, bnd_so, show decide (I ((ar : Nat) : Int) = I ((ar : Nat) : Int)) = true from decide_eq_true rfl, br_t, I_F' hpc, show I ((a : Nat) : Int) + 2 = I ((a + 2 : Nat) : Int) from addN, Co_e (k := a + 2) rfl (by omega), bnd_so, begins_e hlt h21 (Or.inr ⟨rfl, hj⟩), bnd_so, show decide ((1 : Int32) = 0) = false from rfl, br_f, tout_e (P0 := P0) g26 g45 hl2, bnd_so, fo, bnd_so, en, bnd_so, I_F' g5, show I ((a : Nat) : Int) + 3 = I ((a + 3 : Nat) : Int) from addN]
  rw [ent_e (P0 := P0) g21 hj g24 g26', bnd_so]
/-- a FUN, here: which one, what it takes -/
theorem call_13u (hpp : p < 24) (hn : n < 100000) (h26 : A w 26 n = ((ar : Nat) : Int)) (h133 : F w 133 = ((p : Nat) : Int)) (h92 : A w 92 p = ((P0 + 1 + ar : Nat) : Int)) (hW : P0 + 1 + ar ≤ 46000) (hx : w.2.2.2 91 (46000 * p + P0) = x) (sx : so x = 3) (hv : va x = ((v : Nat) : Int)) (hv2 : v < 500) (hd : (hp w p v).toInt = ((uu : Nat) : Int)) (hu : uu < 100000) (h53 : A w 53 uu = ((c : Nat) : Int)) (hc : c < 100000) (h41 : A w 41 c = ((ar : Nat) : Int)) (h : PP Q D (bnd (fb_M_callRun_213 N () (wi w 166 1) (I ((n : Nat) : Int)) (I ((ar : Nat) : Int)) (-1) (I ((uu : Nat) : Int))) K)) : PP Q D (bnd (fm_M_callRun N w (I ((n : Nat) : Int)) (I 13)) K) := by
  unfold fm_M_callRun fb_M_callRun_0
  refine rb_ck (fun _ => ?_)
  rw [show decide (I 13 = 12) = false from rfl, br_f, tnI (n := n) rfl (by omega), I_A' h26]
  unfold fb_M_callRun_47 fb_M_callRun_63 fb_M_callRun_80
  rw [show decide (I 13 = 12) = false from rfl, br_f, show decide (I 13 = 13) = true from rfl, br_t]
  refine rb_ck (fun _ => ?_)
  rw [show upI w 166 1 = wi w 166 1 from rfl, lt_e, br_t]
  have x33 : F (wi w 166 1) 133 = ((p : Nat) : Int) := by rw [wi_ne (by omega)]; exact h133
  refine rb_bnd (pk_mo (top_r (N := N) (k := ar) (W := P0 + 1 + ar) hpp x33 h92 hW (by omega)) (fun w4 r e => ?_))
  obtain ⟨rfl, rfl⟩ := e
  rw [show 46000 * p + (P0 + 1 + ar - 1 - ar) = 46000 * p + P0 by omega, show (wi w 166 1).2.2.2 91 (46000 * p + P0) = x from hx, sortOf_e, rb_bnd_so, sx, show decide (I 3 = 3) = true from rfl, br_t, valueOf_e, rb_bnd_so, hv, I_F' x33, cell_e (by omega) hv2, rb_bnd_so, show hp (wi w 166 1) p v = hp w p v from rfl]
  have d0 : decide (0 ≤ lg_cmp (hp w p v) 0) = true := decide_eq_true ((lgc_ge _).mpr (by rw [hd]; omega))
  have ti : (hp w p v).toInt32 = I ((uu : Nat) : Int) := by
    apply Int32.toInt_inj.mp
    rw [Int64.toInt_toInt32, hd, I_ti (by omega) (by omega)]
    exact Int.bmod_eq_of_le (by omega) (by omega)
  unfold fb_M_callRun_147 fb_M_callRun_163 fb_M_callRun_193
  rw [d0, br_t, br_t, ti, show decide ((-1 : Int32) = -1) = true from rfl, br_t, tnI (n := uu) rfl (by omega)]
  refine rb_ck (fun _ => ?_)
  have e53 : A (wi w 166 1) 53 uu = ((c : Nat) : Int) := h53
  have e41 : A (wi w 166 1) 41 c = ((ar : Nat) : Int) := h41
  rw [I_A' e53, tnI (n := c) rfl (by omega), I_A' e41, show decide (I ((ar : Nat) : Int) = I ((ar : Nat) : Int)) = true from decide_eq_true rfl, br_t]
  exact rb_ck (fun _ => h)
/-- a FRAME more for a FUN, here -/
theorem frNH_r (hpp : p < 24) (hu : uu < 100000) (h133 : F w 133 = ((p : Nat) : Int)) (h166 : F w 166 = 1) (h92 : A w 92 p = ((P0 + 1 + ar : Nat) : Int)) (hW : P0 + 1 + ar ≤ 46000) (h94 : A w 94 p = ((B : Nat) : Int)) (hB : B + L ≤ 2500) (h95 : A w 95 p = ((j + 1 : Nat) : Int)) (hj : j + 1 < 60) (hx : w.2.2.2 91 (46000 * p + P0) = x) (hv : va x = ((v : Nat) : Int)) (hv2 : v + 2 + L ≤ 500) (hc : va (hp w p (v + 1)) = ((L : Nat) : Int))
    (kk : ∀ u u2, FR [] [] [] [91] (wa w 95 p ((j + 1 + 1 : Nat) : Int)) u → (∀ i, u.2.2.2 91 i = if 46000 * p + P0 ≤ i ∧ i < 46000 * p + P0 + ar then w.2.2.2 91 (i + 1) else w.2.2.2 91 i) → FR [] [] [] [93] (wa (frmW u p (j + 1) (-1) P0 B (P0 + ar)) 101 (60 * p + (j + 1)) ((L : Nat) : Int)) u2 → (∀ q, u2.2.2.2 93 q = if 2500 * p + B ≤ q ∧ q < 2500 * p + B + L then hp w p (v + 2 + (q - (2500 * p + B))) else w.2.2.2 93 q) → PP Q D (K (wa u2 94 p ((B + L : Nat) : Int)) ())) : PP Q D (bnd (fm_M_frameOf N w (-1) (I ((uu : Nat) : Int)) (I ((ar : Nat) : Int)) (I 0)) K) := by
  unfold fm_M_frameOf fb_M_frameOf_0 fb_M_frameOf_10 fb_M_frameOf_24 fb_M_frameOf_46 fb_M_frameOf_128
  rw [show decide (I ((uu : Nat) : Int) = (-1 : Int32)) = false from by rw [m1I, decE (by omega) (by omega) (by omega) (by omega)]; exact decide_eq_false (by omega), br_f, I_F' h166, show decide (I 1 = 0) = false from rfl, br_f, show decide ((1 : Int32) = 1) = true from rfl, br_t]
  refine rb_bnd (pk_mo (top_r (N := N) (k := ar) (W := P0 + 1 + ar) hpp h133 h92 hW (by omega)) (fun w4 r e => ?_))
  obtain ⟨rfl, rfl⟩ := e
  rw [show 46000 * p + (P0 + 1 + ar - 1 - ar) = 46000 * p + P0 by omega, hx]
  have s1 : I ((P0 + 1 + ar : Nat) : Int) - I ((ar : Nat) : Int) = I ((P0 + 1 : Nat) : Int) := by rw [I_sub]; congr 1; omega
  have s0 : I ((P0 + 1 : Nat) : Int) - 1 = I ((P0 : Nat) : Int) := by rw [lit1, I_sub]; congr 1; omega
  have sp : I ((p : Nat) : Int) * 46000 = I ((46000 * p : Nat) : Int) := by
    rw [show (46000 : Int32) = I 46000 from rfl, I_mul]
    congr 1
    omega
  refine rb_ck (fun _ => ?_)
  rw [lt_e]
  refine rb_ck (fun _ => ?_)
  rw [lt_e, show decide (I 0 = 0) = true from rfl, br_t]
  refine rb_ck (fun _ => rb_ck (fun _ => ?_))
  rw [I_F' h133, tnI (n := p) rfl (by omega), I_A' h95, I_A' h92, I_A' h94, s1, s0, sp, show I ((j + 1 : Nat) : Int) + 1 = I ((j + 1 + 1 : Nat) : Int) from addN, wa_e, lt_e]
  have x33 : F (wa w4 95 p ((j + 1 + 1 : Nat) : Int)) 133 = ((p : Nat) : Int) := h133
  have x92 : A (wa w4 95 p ((j + 1 + 1 : Nat) : Int)) 92 p = ((P0 + 1 + ar : Nat) : Int) := by rw [wa_rne (by omega)]; exact h92
  refine rb_ck (fun _ => ?_)
  rw [I_F' x33, tnI (n := p) rfl (by omega), I_A' x92, s1, lt_e, m1I]
  refine frH_lp (w0 := wa w4 95 p ((j + 1 + 1 : Nat) : Int)) (jj := j + 1) (src := P0 + 1) (L := L) (v := v) hpp x33 (wa_sm (by omega) (by omega)) hj (by omega) hW hB hv hv2 hc (fun u u2 fr r f2 r2 => kk u u2 fr (fun i => ?_) f2 r2) ar N _ 0 (by omega) FR.rf (fun q => by rw [if_neg (by omega)])
  rw [r i, show P0 + 1 - P0 = 1 by omega]
  rfl
end
