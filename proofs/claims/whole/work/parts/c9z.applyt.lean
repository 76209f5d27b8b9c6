/-! a FUN is applied, tail: what both sides do up to the FRAME -/
set_option maxRecDepth 100000
section
variable {α β : Type} {N p n ar j a B P0 src l v cc uu L nbj : Nat} {m w : MS} {t x : Int64} {ff e : Int} {z : Int32} {Q : MS → α → MS → β → Prop} {D : Option (MS × α)} {K : MS → Unit → Option (MS × β)}
theorem entT_e (g21 : F m (pq p 21) = ((j + 1 : Nat) : Int)) (hj : j < 60) (h3 : A m (pq p 30) (5 * j + 3) = ((P0 : Nat) : Int)) (h2 : A m (pq p 30) (5 * j + 2) = ((B : Nat) : Int)) (hW : F m (pq p 26) = ((src + ar : Nat) : Int)) (hP : P0 ≤ src) (hl : F m (pq p 45) = ((l : Nat) : Int)) (hl2 : src + ar ≤ l ∧ l ≤ 1000000) : hm_Ma_enter N m p (I ff) (I e) (I ((ar : Nat) : Int)) 1 z = some (wi (rpS m p j B P0 src ar (I ff) (I e)) 1105 e, ()) := by
  unfold hm_Ma_enter hb_Ma_enter_0 hb_Ma_enter_37
  rw [show decide ((1 : Int32) = 0) = false from rfl, br_f, repl_e (P0 := P0) (B := B) (src := src) g21 hj h3 h2 hW hP hl hl2, bnd_so, wi_e, lt_e]
/-- there -/
theorem apT_m (hlt : F m 1106 < F m 1107) (hpc : F m 1105 = ((a : Nat) : Int)) (ha : a + 2 < 24000) (h21 : F m (pq p 21) = ((j + 1 : Nat) : Int)) (hj : j < 60) (h3 : A m (pq p 30) (5 * j + 3) = ((P0 : Nat) : Int)) (h2 : A m (pq p 30) (5 * j + 2) = ((B : Nat) : Int)) (h26 : F m (pq p 26) = ((src + 1 + ar : Nat) : Int)) (hP : P0 ≤ src) (hl : F m (pq p 45) = ((l : Nat) : Int)) (hl2 : src + 1 + ar ≤ l ∧ l ≤ 1000000) (ht : m.2.2.2 (pq p 35) src = t) (st : so t = 3) (hv : va t = ((v : Nat) : Int)) (hv2 : v < 512) (hc0 : va (m.2.2.2 (pq p 2) v) = ((cc : Nat) : Int)) (tk : hm_Co_takes N m (I ((cc : Nat) : Int)) = some (m, I ((ar : Nat) : Int)))
    (fo : hm_Ma_functionOf N (toS (cnM m p) p src ar) (I ((cc : Nat) : Int)) = some (toS (cnM m p) p src ar, I ff)) (en : hm_Ma_entryOf N (toS (cnM m p) p src ar) p (I ((cc : Nat) : Int)) = some (toS (cnM m p) p src ar, I e)) : hm_Ma_apply N m p (I ((ar : Nat) : Int)) 1 = bnd (hm_Ma_hold N (wi (rpS (toS (cnM m p) p src ar) p j B P0 src ar (I ff) (I e)) 1105 e) p p (pq p 2) t) (fun u29 _ => some (u29, ())) := by
  have be : hm_Fr_below N m p (I ((ar : Nat) : Int)) = some (m, t) := by
    have := below_e (N := N) (x := ((ar : Nat) : Int)) (k := ar) (W := src + 1 + ar) (l := l) h26 hl hl2.1 hl2.2 rfl (by omega)
    rw [show src + 1 + ar - 1 - ar = src by omega, ht] at this
    exact this
  have g26 : F (cnM m p) (pq p 26) = ((src + 1 + ar : Nat) : Int) := (congrArg Int32.toInt (cnM_q (by omega))).trans h26
  have g45 : F (cnM m p) (pq p 45) = ((l : Nat) : Int) := (congrArg Int32.toInt (cnM_q (by omega))).trans hl
  have g21 : F (toS (cnM m p) p src ar) (pq p 21) = ((j + 1 : Nat) : Int) := (congrArg Int32.toInt (toS_1 (m := cnM m p) (P0 := src) (ar := ar) (pq_inj (by omega)))).trans ((congrArg Int32.toInt (cnM_q (by omega))).trans h21)
  have g45' : F (toS (cnM m p) p src ar) (pq p 45) = ((l : Nat) : Int) := (congrArg Int32.toInt (toS_1 (m := cnM m p) (P0 := src) (ar := ar) (pq_inj (by omega)))).trans g45
  have g26' : F (toS (cnM m p) p src ar) (pq p 26) = ((src + ar : Nat) : Int) := toS_26 (by omega)
  have q3 : A (toS (cnM m p) p src ar) (pq p 30) (5 * j + 3) = ((P0 : Nat) : Int) := h3
  have q2 : A (toS (cnM m p) p src ar) (pq p 30) (5 * j + 2) = ((B : Nat) : Int) := h2
  unfold hm_Ma_apply hb_Ma_apply_0
  rw [be, bnd_so, e_tag, bnd_so, st, show decide (I 3 = 3) = true from rfl, br_t, valI, hv, tnI (n := v) rfl (by omega), (I_inb (by omega) (by omega)).mpr ⟨by omega, by omega⟩, ck_t, valI, hc0, tk, bnd_so, show decide (I ((ar : Nat) : Int) = I ((ar : Nat) : Int)) = true from decide_eq_true rfl, br_t, I_F' hpc, show I ((a : Nat) : Int) + 2 = I ((a + 2 : Nat) : Int) from addN, Co_e (k := a + 2) rfl (by omega), bnd_so, begins_e hlt h21 (Or.inl rfl), bnd_so, show decide ((1 : Int32) = 0) = false from rfl, br_f, tout_e (P0 := src) g26 g45 hl2, bnd_so, fo, bnd_so, en, bnd_so, entT_e (P0 := P0) (B := B) (src := src) g21 hj q3 q2 g26' hP g45' ⟨by omega, hl2.2⟩, bnd_so]
/-- here -/
theorem frTH_r (hpp : p < 24) (hu : uu < 100000) (h133 : F w 133 = ((p : Nat) : Int)) (h166 : F w 166 = 1) (h92 : A w 92 p = ((src + 1 + ar : Nat) : Int)) (hW : src + 1 + ar ≤ 46000) (hP : P0 ≤ src) (h95 : A w 95 p = ((j + 1 : Nat) : Int)) (hj : j < 60) (h100 : A w 100 (60 * p + j) = ((P0 : Nat) : Int)) (h99 : A w 99 (60 * p + j) = ((nbj : Nat) : Int)) (hB : nbj + L ≤ 2500) (hx : w.2.2.2 91 (46000 * p + src) = x) (hv : va x = ((v : Nat) : Int)) (hv2 : v + 2 + L ≤ 500) (hc : va (hp w p (v + 1)) = ((L : Nat) : Int))
    (kk : ∀ u u2, FR [] [] [] [91] w u → (∀ i, u.2.2.2 91 i = if 46000 * p + P0 ≤ i ∧ i < 46000 * p + P0 + ar then w.2.2.2 91 (i + (src + 1 - P0)) else w.2.2.2 91 i) → FR [] [] [] [93] (wa (frmW u p j (-1) P0 nbj (P0 + ar)) 101 (60 * p + j) ((L : Nat) : Int)) u2 → (∀ q, u2.2.2.2 93 q = if 2500 * p + nbj ≤ q ∧ q < 2500 * p + nbj + L then hp w p (v + 2 + (q - (2500 * p + nbj))) else w.2.2.2 93 q) → PP Q D (K (wa u2 94 p ((nbj + L : Nat) : Int)) ())) : PP Q D (bnd (fm_M_frameOf N w (-1) (I ((uu : Nat) : Int)) (I ((ar : Nat) : Int)) (I 1)) K) := by
  unfold fm_M_frameOf fb_M_frameOf_0 fb_M_frameOf_10 fb_M_frameOf_24 fb_M_frameOf_46 fb_M_frameOf_128
  rw [show decide (I ((uu : Nat) : Int) = (-1 : Int32)) = false from by rw [m1I, decE (by omega) (by omega) (by omega) (by omega)]; exact decide_eq_false (by omega), br_f, I_F' h166, show decide (I 1 = 0) = false from rfl, br_f, show decide ((1 : Int32) = 1) = true from rfl, br_t]
  refine rb_bnd (pk_mo (top_r (N := N) (k := ar) (W := src + 1 + ar) hpp h133 h92 hW (by omega)) (fun w4 r e => ?_))
  obtain ⟨rfl, rfl⟩ := e
  rw [show 46000 * p + (src + 1 + ar - 1 - ar) = 46000 * p + src by omega, hx]
  have s1 : I ((src + 1 + ar : Nat) : Int) - I ((ar : Nat) : Int) = I ((src + 1 : Nat) : Int) := by rw [I_sub]; congr 1; omega
  have sp : I ((p : Nat) : Int) * 46000 = I ((46000 * p : Nat) : Int) := by
    rw [show (46000 : Int32) = I 46000 from rfl, I_mul]
    congr 1
    omega
  have ix : (I ((p : Nat) : Int) * 60 + I ((j + 1 : Nat) : Int) - 1).toNatClampNeg = 60 * p + j := by
    rw [show (60 : Int32) = I 60 from rfl, lit1, I_mul, I_add, I_sub]
    exact tnI (n := 60 * p + j) (by omega) (by omega)
  refine rb_ck (fun _ => ?_)
  rw [lt_e]
  refine rb_ck (fun _ => ?_)
  rw [lt_e, br_f]
  unfold fm_M_frame0 fb_M_frame0_0
  rw [I_F' h133, tnI (n := p) rfl (by omega), I_A' h95]
  refine rb_bnd (pk_ck (fun _ => pk_some ?_))
  refine rb_ck (fun _ => ?_)
  rw [lt_e]
  refine rb_bnd (pk_ck (fun _ => pk_some ?_))
  refine rb_ck (fun _ => ?_)
  rw [lt_e]
  refine rb_ck (fun _ => ?_)
  rw [I_F' h133, tnI (n := p) rfl (by omega), I_A' h95, ix, I_A' h92, I_A' h100, I_A' h99, s1, sp, lt_e, m1I]
  exact frH_lp (w0 := w4) (jj := j) (src := src + 1) (L := L) (v := v) hpp h133 h95 hj (by omega) hW hB hv hv2 hc (fun u u2 fr r f2 r2 => kk u u2 fr r f2 r2) ar N _ 0 (by omega) FR.rf (fun q => by rw [if_neg (by omega)])
end
