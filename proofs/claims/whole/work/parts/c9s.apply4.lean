/-! a FUN is applied: what is no FUN, other ARGUMENTS -/
set_option maxRecDepth 100000
section
variable {α β : Type} {N p ar a n P0 l v cc v' c uu : Nat} {m w : MS} {t x : Int64} {tl : Int} {na na' : Int} {Q : MS → α → MS → β → Prop} {K1 : MS → Option (MS × α)} {K2 : MS → Option (MS × β)}
theorem apl_e {tl : Int32} (h26 : F m (pq p 26) = ((P0 + 1 + ar : Nat) : Int)) (hl : F m (pq p 45) = ((l : Nat) : Int)) (hl2 : P0 + 1 + ar ≤ l ∧ l ≤ 1000000) (ht : m.2.2.2 (pq p 35) P0 = t) (st : so t ≠ 3) : hm_Ma_apply N m p (I ((ar : Nat) : Int)) tl = bnd (hm_Ma_tell N m p 1 17 t) (fun u32 _ => some (u32, ())) := by
  have be : hm_Fr_below N m p (I ((ar : Nat) : Int)) = some (m, t) := by
    have := below_e (N := N) (x := ((ar : Nat) : Int)) (k := ar) (W := P0 + 1 + ar) (l := l) h26 hl hl2.1 hl2.2 rfl (by omega)
    rw [show P0 + 1 + ar - 1 - ar = P0 by omega, ht] at this
    exact this
  unfold hm_Ma_apply hb_Ma_apply_0
  rw [be, bnd_so, e_tag, bnd_so, show (3 : Int32) = I 3 from rfl, decE (so_r _).1 (so_r _).2 (by omega) (by omega), decide_eq_false st, br_f]
theorem apl_a {tl : Int32} (h26 : F m (pq p 26) = ((P0 + 1 + ar : Nat) : Int)) (hl : F m (pq p 45) = ((l : Nat) : Int)) (hl2 : P0 + 1 + ar ≤ l ∧ l ≤ 1000000) (ht : m.2.2.2 (pq p 35) P0 = t) (st : so t = 3) (hv : va t = ((v : Nat) : Int)) (hv2 : v < 512) (hc0 : va (m.2.2.2 (pq p 2) v) = ((cc : Nat) : Int)) (tk : hm_Co_takes N m (I ((cc : Nat) : Int)) = some (m, I na)) (hna : RG na) (hne : na ≠ ((ar : Nat) : Int)) : hm_Ma_apply N m p (I ((ar : Nat) : Int)) tl = bnd (hm_Ma_tell N m p 1 18 (mk 0 ((ar : Nat) : Int))) (fun u31 _ => some (u31, ())) := by
  have be : hm_Fr_below N m p (I ((ar : Nat) : Int)) = some (m, t) := by
    have := below_e (N := N) (x := ((ar : Nat) : Int)) (k := ar) (W := P0 + 1 + ar) (l := l) h26 hl hl2.1 hl2.2 rfl (by omega)
    rw [show P0 + 1 + ar - 1 - ar = P0 by omega, ht] at this
    exact this
  unfold hm_Ma_apply hb_Ma_apply_0
  rw [be, bnd_so, e_tag, bnd_so, st, show decide (I 3 = 3) = true from rfl, br_t, valI, hv, tnI (n := v) rfl (by omega), (I_inb (by omega) (by omega)).mpr ⟨by omega, by omega⟩, ck_t, valI, hc0, tk, bnd_so, decE hna.1 hna.2 (by omega) (by omega), decide_eq_false hne, br_f, show hm_Te_make N m 0 (I ((ar : Nat) : Int)) = some (m, mk 0 ((ar : Nat) : Int)) from rfl, bnd_so]
/-- it is no FUN: here -/
theorem call_13x {D : Option (MS × α)} {K : MS → Unit → Option (MS × β)} (hpp : p < 24) (hn : n < 100000) (h26 : A w 26 n = ((ar : Nat) : Int)) (h133 : F w 133 = ((p : Nat) : Int)) (h92 : A w 92 p = ((P0 + 1 + ar : Nat) : Int)) (hW : P0 + 1 + ar ≤ 46000) (hx : w.2.2.2 91 (46000 * p + P0) = x) (sx : so x ≠ 3) (h : PP Q D (bnd (bnd (fr_M_errorOf N (wi w 166 1) 17 x) (fun u18 _ => some (u18, ()))) K)) : PP Q D (bnd (fm_M_callRun N w (I ((n : Nat) : Int)) (I 13)) K) := by
  unfold fm_M_callRun fb_M_callRun_0
  refine rb_ck (fun _ => ?_)
  rw [show decide (I 13 = 12) = false from rfl, br_f, tnI (n := n) rfl (by omega), I_A' h26]
  unfold fb_M_callRun_47 fb_M_callRun_63 fb_M_callRun_80
  rw [show decide (I 13 = 12) = false from rfl, br_f, show decide (I 13 = 13) = true from rfl, br_t]
  refine rb_ck (fun _ => ?_)
  rw [show upI w 166 1 = wi w 166 1 from rfl, lt_e, br_t]
  have x33 : F (wi w 166 1) 133 = ((p : Nat) : Int) := by rw [wi_ne (by omega)]; exact h133
  refine rb_bnd (pk_mo (top_r (N := N) (k := ar) (W := P0 + 1 + ar) hpp x33 h92 hW (by omega)) (fun w4 r e => ?_))
  obtain ⟨rfl, rfl⟩ := e
  rw [show 46000 * p + (P0 + 1 + ar - 1 - ar) = 46000 * p + P0 by omega, show (wi w 166 1).2.2.2 91 (46000 * p + P0) = x from hx, sortOf_e, rb_bnd_so, show (3 : Int32) = I 3 from rfl, decE (so_r _).1 (so_r _).2 (by omega) (by omega), decide_eq_false sx, br_f]
  exact h
/-- a FUN that takes other ARGUMENTS: here -/
theorem call_13a {D : Option (MS × α)} {K : MS → Unit → Option (MS × β)} (hpp : p < 24) (hn : n < 100000) (h26 : A w 26 n = ((ar : Nat) : Int)) (h133 : F w 133 = ((p : Nat) : Int)) (h92 : A w 92 p = ((P0 + 1 + ar : Nat) : Int)) (hW : P0 + 1 + ar ≤ 46000) (hx : w.2.2.2 91 (46000 * p + P0) = x) (sx : so x = 3) (hv : va x = ((v : Nat) : Int)) (hv2 : v < 500) (hd : (hp w p v).toInt = ((uu : Nat) : Int)) (hu : uu < 100000) (h53 : A w 53 uu = ((c : Nat) : Int)) (hc : c < 100000) (h41 : A w 41 c = na) (hne : na ≠ ((ar : Nat) : Int)) (h : PP Q D (bnd (bnd (fr_M_errorOf N (wi w 166 1) 18 (mk 0 ((ar : Nat) : Int))) (fun u18 _ => some (u18, ()))) K)) : PP Q D (bnd (fm_M_callRun N w (I ((n : Nat) : Int)) (I 13)) K) := by
  unfold fm_M_callRun fb_M_callRun_0
  refine rb_ck (fun _ => ?_)
  rw [show decide (I 13 = 12) = false from rfl, br_f, tnI (n := n) rfl (by omega), I_A' h26]
  unfold fb_M_callRun_47 fb_M_callRun_63 fb_M_callRun_80
  rw [show decide (I 13 = 12) = false from rfl, br_f, show decide (I 13 = 13) = true from rfl, br_t]
  refine rb_ck (fun _ => ?_)
  rw [show upI w 166 1 = wi w 166 1 from rfl, lt_e, br_t]
  have x33 : F (wi w 166 1) 133 = ((p : Nat) : Int) := by rw [wi_ne (by omega)]; exact h133
  refine rb_bnd (pk_mo (top_r (N := N) (k := ar) (W := P0 + 1 + ar) hpp x33 h92 hW (by omega)) (fun w4 r e => ?_))
  obtain ⟨rfl, rfl⟩ := e
  rw [show 46000 * p + (P0 + 1 + ar - 1 - ar) = 46000 * p + P0 by omega, show (wi w 166 1).2.2.2 91 (46000 * p + P0) = x from hx, sortOf_e, rb_bnd_so, sx, show decide (I 3 = 3) = true from rfl, br_t, valueOf_e, rb_bnd_so, hv, I_F' x33, cell_e (by omega) hv2, rb_bnd_so, show hp (wi w 166 1) p v = hp w p v from rfl]
  have d0 : decide (0 ≤ lg_cmp (hp w p v) 0) = true := decide_eq_true ((lgc_ge _).mpr (by rw [hd]; omega))
  have ti : (hp w p v).toInt32 = I ((uu : Nat) : Int) := by
    apply Int32.toInt_inj.mp
    rw [Int64.toInt_toInt32, hd, I_ti (by omega) (by omega)]
    exact Int.bmod_eq_of_le (by omega) (by omega)
  have rna := A_r w 41 c
  rw [h41] at rna
  unfold fb_M_callRun_147 fb_M_callRun_163 fb_M_callRun_193
  rw [d0, br_t, br_t, ti, show decide ((-1 : Int32) = -1) = true from rfl, br_t, tnI (n := uu) rfl (by omega)]
  refine rb_ck (fun _ => ?_)
  have e53 : A (wi w 166 1) 53 uu = ((c : Nat) : Int) := h53
  have e41 : A (wi w 166 1) 41 c = na := h41
  rw [I_A' e53, tnI (n := c) rfl (by omega), I_A' e41, decE rna.1 rna.2 (by omega) (by omega), decide_eq_false hne, br_f, show fm_M_term N (wi w 166 1) 0 (I ((ar : Nat) : Int)) = some (wi w 166 1, mk 0 ((ar : Nat) : Int)) from rfl, bnd_so]
  exact rb_ck (fun _ => h)
end
