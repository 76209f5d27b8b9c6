/-! until when is waited, there; a FUN of a FUNCTION with other ARGUMENTS, here -/
set_option maxRecDepth 100000
section
variable {α β : Type} {N p W l a n ar ff P0 v : Nat} {m w : MS} {t x : Int64} {na : Int} {Q : MS → α → MS → β → Prop} {D : Option (MS × α)} {K : MS → Unit → Option (MS × β)}
theorem awt_e : hm_Ma_await N m p 1 = bnd (hm_Fr_below N (wl (wi m (pq p 8) 0) (pq p 10) (-1)) p 0) (fun u21 r21 => bnd (hm_Te_tag N u21 r21) (fun u23 r23 => br (decide (r23 = 0)) (br (decide (r21.toInt32 < 0)) (hb_Ma_await_47 N () u23 p (r21)) (hb_Ma_await_48 N () u23 p (r21) (1))) (hb_Ma_await_47 N () u23 p (r21)))) := rfl
theorem awt_48 : hb_Ma_await_48 N () m p t 1 = lt (upL m (pq p 10) ((m.1 944).toInt64 + (t.toInt32).toInt64)) (fun w11 => bnd (hm_Fr_drop N w11 p 1) (fun u4 _ => lt (upI u4 1105 ((u4.1 1105) + 2)) (fun w2 => some (w2, ())))) := rfl
theorem awt_47 : hb_Ma_await_47 N () m p t = br (decide ((lg_cmp t (mk 1 10)) = 0)) (bnd (hm_Fr_drop N m p 1) (fun u4 _ => lt (upI u4 1105 ((u4.1 1105) + 2)) (fun w2 => some (w2, ())))) (bnd (hm_Ma_wrong N m p 11) (fun u13 _ => some (u13, ()))) := rfl
/-- it is dropped, and on -/
theorem awt_d (h26 : F m (pq p 26) = ((W + 1 : Nat) : Int)) (hW : W < 1000000) (hpc : F m 1105 = ((a : Nat) : Int)) : bnd (hm_Fr_drop N m p 1) (fun u4 _ => lt (upI u4 1105 ((u4.1 1105) + 2)) (fun w2 => some (w2, ()))) = some (wi (wi m (pq p 26) ((W : Nat) : Int)) 1105 ((a + 2 : Nat) : Int), ()) := by
  have e5 : F (wi m (pq p 26) ((W : Nat) : Int)) 1105 = ((a : Nat) : Int) := by rw [wi_ne (pq_n (by omega))]; exact hpc
  rw [show (1 : Int32) = I 1 from rfl, drop_e (W := W + 1) (k := 1) (x := 1) h26 rfl (by omega), bnd_so, Nat.add_sub_cancel, I_F' e5, show I ((a : Nat) : Int) + 2 = I ((a + 2 : Nat) : Int) from addN, wi_e, lt_e]
/-- AWAIT with after, there: an hour, none, wrong -/
theorem await1_m (hpc : F m 1105 = ((a : Nat) : Int)) (ha : a + 1 < 24000) (c1 : A m 23 (a + 1) = 1) (h26 : F m (pq p 26) = ((W + 1 : Nat) : Int)) (hl : F m (pq p 45) = ((l : Nat) : Int)) (hl2 : W + 1 ≤ l ∧ l ≤ 1000000) (ht : m.2.2.2 (pq p 35) W = t) :
    (so t = 0 → 0 ≤ va t → hm_Ma_flow N m p (I 31) = some (wi (wi (wl (wl (wi m (pq p 8) 0) (pq p 10) (-1)) (pq p 10) ((m.1 944).toInt64 + (t.toInt32).toInt64)) (pq p 26) ((W : Nat) : Int)) 1105 ((a + 2 : Nat) : Int), ())) ∧
    (t = mk 1 10 → hm_Ma_flow N m p (I 31) = some (wi (wi (wl (wi m (pq p 8) 0) (pq p 10) (-1)) (pq p 26) ((W : Nat) : Int)) 1105 ((a + 2 : Nat) : Int), ())) ∧
    (¬ (so t = 0 ∧ 0 ≤ va t) → t ≠ mk 1 10 → hm_Ma_flow N m p (I 31) = some (tld (wl (wi m (pq p 8) 0) (pq p 10) (-1)) 1 (-1) (mk 1 11), ())) := by
  have fl : hm_Ma_flow N m p (I 31) = bnd (bnd (hm_Ma_await N m p 1) (fun u1 _ => some (u1, ()))) (fun u8 _ => some (u8, ())) := by
    rw [flo31, I_F' hpc, show I ((a : Nat) : Int) + 1 = I ((a + 1 : Nat) : Int) from addN, Co_e (k := a + 1) rfl ha, bnd_so, c1, show decide (I 1 = 1) = true from rfl, br_t]
  rw [fl, awt_e]
  have e1 : ∀ k, k ≠ pq p 8 → (wl (wi m (pq p 8) 0) (pq p 10) (-1)).1 k = m.1 k := fun k h => wi_1 h
  have g26 : F (wl (wi m (pq p 8) 0) (pq p 10) (-1)) (pq p 26) = ((W + 1 : Nat) : Int) := (congrArg Int32.toInt (e1 _ (pq_inj (by omega)))).trans h26
  have g45 : F (wl (wi m (pq p 8) 0) (pq p 10) (-1)) (pq p 45) = ((l : Nat) : Int) := (congrArg Int32.toInt (e1 _ (pq_inj (by omega)))).trans hl
  have g05 : F (wl (wi m (pq p 8) 0) (pq p 10) (-1)) 1105 = ((a : Nat) : Int) := (congrArg Int32.toInt (e1 _ (pq_n (by omega)))).trans hpc
  have g44 : (wl (wi m (pq p 8) 0) (pq p 10) (-1)).1 944 = m.1 944 := e1 _ (pq_n (by omega))
  have gt : (wl (wi m (pq p 8) 0) (pq p 10) (-1)).2.2.2 (pq p 35) W = t := ht
  generalize wl (wi m (pq p 8) 0) (pq p 10) (-1) = mA at g26 g45 g05 g44 gt
  have be : hm_Fr_below N mA p 0 = some (mA, t) := by
    have := below_e (N := N) (x := 0) (k := 0) (W := W + 1) (l := l) g26 g45 hl2.1 hl2.2 rfl (by omega)
    rw [show W + 1 - 1 - 0 = W by omega, gt] at this
    exact this
  have vr := va_r t
  rw [be, bnd_so, e_tag, bnd_so, show decide (I (so t) = 0) = decide (so t = 0) from by rw [lit0, decE (so_r _).1 (so_r _).2 (by omega) (by omega)], show decide (t.toInt32 < 0) = decide (va t < 0) from by rw [valI, lit0]; exact decide_eq_decide.mpr (I_lt vr.1 vr.2 (by omega) (by omega)), awt_48, awt_47]
  refine ⟨fun s0 v0 => ?_, fun e => ?_, fun n1 n2 => ?_⟩
  · rw [show decide (so t = 0) = true from decide_eq_true s0, br_t, show decide (va t < 0) = false from decide_eq_false (by omega), br_f, g44, show upL mA (pq p 10) ((m.1 944).toInt64 + (t.toInt32).toInt64) = wl mA (pq p 10) ((m.1 944).toInt64 + (t.toInt32).toInt64) from rfl, lt_e, awt_d (W := W) (a := a) (m := wl mA (pq p 10) ((m.1 944).toInt64 + (t.toInt32).toInt64)) g26 (by omega) g05, bnd_so, bnd_so]
  · have s1 : so t = 1 := by rw [e]; exact so_mk (by omega) (by omega)
    rw [show decide (so t = 0) = false from decide_eq_false (by omega), br_f, dec_lg e, br_t, awt_d (W := W) (a := a) g26 (by omega) g05, bnd_so, bnd_so]
  · rw [dec_lg0 n2, br_f, wrong_e9, bnd_so]
    by_cases s0 : so t = 0
    · rw [show decide (so t = 0) = true from decide_eq_true s0, br_t, show decide (va t < 0) = true from decide_eq_true (by omega), br_t, bnd_so, bnd_so]
    · rw [show decide (so t = 0) = false from decide_eq_false s0, br_f, bnd_so, bnd_so]
theorem call_13b (hpp : p < 24) (hn : n < 100000) (h26 : A w 26 n = ((ar : Nat) : Int)) (h133 : F w 133 = ((p : Nat) : Int)) (h92 : A w 92 p = ((P0 + 1 + ar : Nat) : Int)) (hW : P0 + 1 + ar ≤ 46000) (hx : w.2.2.2 91 (46000 * p + P0) = x) (sx : so x = 3) (hv : va x = ((v : Nat) : Int)) (hv2 : v < 500) (hd : (hp w p v).toInt = -1 - ((ff : Nat) : Int)) (hu : ff < 100000) (h48 : A w 48 ff = na) (hne : na ≠ ((ar : Nat) : Int)) (h : PP Q D (bnd (bnd (fr_M_errorOf N (wi w 166 1) 18 (mk 0 ((ar : Nat) : Int))) (fun u18 _ => some (u18, ()))) K)) : PP Q D (bnd (fm_M_callRun N w (I ((n : Nat) : Int)) (I 13)) K) := by
  unfold fm_M_callRun fb_M_callRun_0
  refine rb_ck (fun _ => ?_)
  rw [show decide (I 13 = 12) = false from rfl, br_f, tnI (n := n) rfl (by omega), I_A' h26]
  unfold fb_M_callRun_47 fb_M_callRun_63 fb_M_callRun_80
  rw [show decide (I 13 = 12) = false from rfl, br_f, show decide (I 13 = 13) = true from rfl, br_t]
  refine rb_ck (fun _ => ?_)
  rw [show upI w 166 1 = wi w 166 1 from rfl, lt_e, br_t]
  have x33 : F (wi w 166 1) 133 = ((p : Nat) : Int) := by rw [wi_ne (by omega)]; exact h133
  refine rb_bnd (pk_mo (top_r (N := N) (k := ar) (W := P0 + 1 + ar) hpp x33 h92 hW (by omega)) (fun w4 r e => ?_))
  obtain ⟨rfl, rfl⟩ := e
  rw [show 46000 * p + (P0 + 1 + ar - 1 - ar) = 46000 * p + P0 by omega, show (wi w 166 1).2.2.2 91 (46000 * p + P0) = x from hx, sortOf_e, rb_bnd_so, sx, show decide (I 3 = 3) = true from rfl, br_t, valueOf_e, rb_bnd_so, hv, I_F' x33, cell_e (by omega) hv2, rb_bnd_so, show hp (wi w 166 1) p v = hp w p v from rfl]
  have d0 : decide (0 ≤ lg_cmp (hp w p v) 0) = false := decide_eq_false (fun z => by have := (lgc_ge _).mp z; rw [hd] at this; omega)
  have ti : ((-1 : Int64) - hp w p v).toInt32 = I ((ff : Nat) : Int) := by
    apply Int32.toInt_inj.mp
    rw [Int64.toInt_toInt32, I_ti (by omega) (by omega), Int64.toInt_sub, hd, show (-1 : Int64).toInt = -1 from by decide, show (-1 : Int) - (-1 - ((ff : Nat) : Int)) = ((ff : Nat) : Int) by omega, Int.bmod_eq_of_le (n := ((ff : Nat) : Int)) (m := 2 ^ 64) (by omega) (by omega)]
    exact Int.bmod_eq_of_le (by omega) (by omega)
  have rna := A_r w 48 ff
  rw [h48] at rna
  unfold fb_M_callRun_147 fb_M_callRun_163 fb_M_callRun_193
  rw [d0, br_f, br_f, ti, show decide (I ((ff : Nat) : Int) = (-1 : Int32)) = false from by rw [m1I, decE (by omega) (by omega) (by omega) (by omega)]; exact decide_eq_false (by omega), br_f, tnI (n := ff) rfl (by omega)]
  refine rb_ck (fun _ => ?_)
  have e48 : A (wi w 166 1) 48 ff = na := h48
  rw [I_A' e48, decE rna.1 rna.2 (by omega) (by omega), decide_eq_false hne, br_f, show fm_M_term N (wi w 166 1) 0 (I ((ar : Nat) : Int)) = some (wi w 166 1, mk 0 ((ar : Nat) : Int)) from rfl, bnd_so]
  exact h
end
