section
set_option maxRecDepth 100000
section
variable {α β : Type} {N p W l a n ar ff P0 v : Nat} {m w : MS} {t x : Int64} {na : Int} {Q : MS → α → MS → β → Prop} {D : Option (MS × α)} {K : MS → Unit → Option (MS × β)}
theorem awt_e : hm_Ma_await N m p 1 = bnd (hm_Fr_below N (wl (wi m (pq p 8) 0) (pq p 10) (-1)) p 0) (fun u21 r21 => bnd (hm_Te_tag N u21 r21) (fun u23 r23 => br (decide (r23 = 0)) (br (decide (r21.toInt32 < 0)) (hb_Ma_await_47 N () u23 p (r21)) (hb_Ma_await_48 N () u23 p (r21) (1))) (hb_Ma_await_47 N () u23 p (r21)))) := rfl
theorem awt_48 : hb_Ma_await_48 N () m p t 1 = lt (upL m (pq p 10) ((m.1 944).toInt64 + (t.toInt32).toInt64)) (fun w11 => bnd (hm_Fr_drop N w11 p 1) (fun u4 _ => lt (upI u4 1105 ((u4.1 1105) + 2)) (fun w2 => some (w2, ())))) := rfl
theorem awt_47 : hb_Ma_await_47 N () m p t = br (decide ((lg_cmp t (mk 1 10)) = 0)) (bnd (hm_Fr_drop N m p 1) (fun u4 _ => lt (upI u4 1105 ((u4.1 1105) + 2)) (fun w2 => some (w2, ())))) (bnd (hm_Ma_wrong N m p 11) (fun u13 _ => some (u13, ()))) := rfl
theorem awt_d (h26 : F m (pq p 26) = ((W + 1 : Nat) : Int)) (hW : W < 1000000) (hpc : F m 1105 = ((a : Nat) : Int)) : bnd (hm_Fr_drop N m p 1) (fun u4 _ => lt (upI u4 1105 ((u4.1 1105) + 2)) (fun w2 => some (w2, ()))) = some (wi (wi m (pq p 26) ((W : Nat) : Int)) 1105 ((a + 2 : Nat) : Int), ()) := by
  have e5 : F (wi m (pq p 26) ((W : Nat) : Int)) 1105 = ((a : Nat) : Int) := by rw [wi_ne (pq_n (by omega))]; exact hpc
  rw [show (1 : Int32) = I 1 from rfl, drop_e (W := W + 1) (k := 1) (x := 1) h26 rfl (by omega), bnd_so, Nat.add_sub_cancel, I_F' e5, show I ((a : Nat) : Int) + 2 = I ((a + 2 : Nat) : Int) from addN, wi_e, lt_e]
theorem await1_m (hpc : F m 1105 = ((a : Nat) : Int)) (ha : a + 1 < 24000) (c1 : A m 23 (a + 1) = 1) (h26 : F m (pq p 26) = ((W + 1 : Nat) : Int)) (hl : F m (pq p 45) = ((l : Nat) : Int)) (hl2 : W + 1 ≤ l ∧ l ≤ 1000000) (ht : m.2.2.2 (pq p 35) W = t) :
    (so t = 0 → 0 ≤ va t → hm_Ma_flow N m p (I 31) = some (wi (wi (wl (wl (wi m (pq p 8) 0) (pq p 10) (-1)) (pq p 10) ((m.1 944).toInt64 + (t.toInt32).toInt64)) (pq p 26) ((W : Nat) : Int)) 1105 ((a + 2 : Nat) : Int), ())) ∧
    (t = mk 1 10 → hm_Ma_flow N m p (I 31) = some (wi (wi (wl (wi m (pq p 8) 0) (pq p 10) (-1)) (pq p 26) ((W : Nat) : Int)) 1105 ((a + 2 : Nat) : Int), ())) ∧
    (¬ (so t = 0 ∧ 0 ≤ va t) → t ≠ mk 1 10 → hm_Ma_flow N m p (I 31) = some (tld (wl (wi m (pq p 8) 0) (pq p 10) (-1)) 1 (-1) (mk 1 11), ())) := by
  have fl : hm_Ma_flow N m p (I 31) = bnd (bnd (hm_Ma_await N m p 1) (fun u1 _ => some (u1, ()))) (fun u8 _ => some (u8, ())) := by
    rw [flo31, I_F' hpc, show I ((a : Nat) : Int) + 1 = I ((a + 1 : Nat) : Int) from addN, Co_e (k := a + 1) rfl ha, bnd_so, c1, show decide (I 1 = 1) = true from rfl, br_tq]
  rw [fl, awt_e]
  have e1 : ∀ k, k ≠ pq p 8 → (wl (wi m (pq p 8) 0) (pq p 10) (-1)).1 k = m.1 k := fun k h => wi_1 h
  have g26 : F (wl (wi m (pq p 8) 0) (pq p 10) (-1)) (pq p 26) = ((W + 1 : Nat) : Int) := (congrArg Int32.toInt (e1 _ (pq_inj (by omega)))).trans h26
  have g45 : F (wl (wi m (pq p 8) 0) (pq p 10) (-1)) (pq p 45) = ((l : Nat) : Int) := (congrArg Int32.toInt (e1 _ (pq_inj (by omega)))).trans hl
  have g05 : F (wl (wi m (pq p 8) 0) (pq p 10) (-1)) 1105 = ((a : Nat) : Int) := (congrArg Int32.toInt (e1 _ (pq_n (by omega)))).trans hpc
  have g44 : (wl (wi m (pq p 8) 0) (pq p 10) (-1)).1 944 = m.1 944 := e1 _ (pq_n (by omega))
  have gt : (wl (wi m (pq p 8) 0) (pq p 10) (-1)).2.2.2 (pq p 35) W = t := ht
  generalize wl (wi m (pq p 8) 0) (pq p 10) (-1) = mA at g26 g45 g05 g44 gt
  have be : hm_Fr_below N mA p 0 = some (mA, t) := by
    have := below_e (N := N) (x := 0) (k := 0) (W := W + 1) (l := l) g26 g45 hl2.1 hl2.2 rfl (by omega)
    rw [show W + 1 - 1 - 0 = W by omega, gt] at this
    exact this
  have vr := va_r t
  rw [be, bnd_so, e_tag, bnd_so, show decide (I (so t) = 0) = decide (so t = 0) from by rw [lit0q, decE (so_r _).1 (so_r _).2 (by omega) (by omega)], show decide (t.toInt32 < 0) = decide (va t < 0) from by rw [valI, lit0q]; exact decide_eq_decide.mpr (I_lt vr.1 vr.2 (by omega) (by omega)), awt_48, awt_47]
  refine ⟨fun s0 v0 => ?_, fun e => ?_, fun n1 n2 => ?_⟩
  · rw [show decide (so t = 0) = true from decide_eq_true s0, br_tq, show decide (va t < 0) = false from decide_eq_false (by omega), br_fq, g44, show upL mA (pq p 10) ((m.1 944).toInt64 + (t.toInt32).toInt64) = wl mA (pq p 10) ((m.1 944).toInt64 + (t.toInt32).toInt64) from rfl, lt_e, awt_d (W := W) (a := a) (m := wl mA (pq p 10) ((m.1 944).toInt64 + (t.toInt32).toInt64)) g26 (by omega) g05, bnd_so, bnd_so]
  · have s1 : so t = 1 := by rw [e]; exact so_mk (by omega) (by omega)
    rw [show decide (so t = 0) = false from decide_eq_false (by omega), br_fq, dec_lg e, br_tq, awt_d (W := W) (a := a) g26 (by omega) g05, bnd_so, bnd_so]
  · rw [dec_lg0 n2, br_fq, wrong_e9, bnd_so]
    by_cases s0 : so t = 0
    · rw [show decide (so t = 0) = true from decide_eq_true s0, br_tq, show decide (va t < 0) = true from decide_eq_true (by omega), br_tq, bnd_so, bnd_so]
    · rw [show decide (so t = 0) = false from decide_eq_false s0, br_fq, bnd_so, bnd_so]
theorem call_13b (hpp : p < 24) (hn : n < 100000) (h26 : A w 26 n = ((ar : Nat) : Int)) (h133 : F w 133 = ((p : Nat) : Int)) (h92 : A w 92 p = ((P0 + 1 + ar : Nat) : Int)) (hW : P0 + 1 + ar ≤ 46000) (hx : w.2.2.2 91 (46000 * p + P0) = x) (sx : so x = 3) (hv : va x = ((v : Nat) : Int)) (hv2 : v < 500) (hd : (hp w p v).toInt = -1 - ((ff : Nat) : Int)) (hu : ff < 100000) (h48 : A w 48 ff = na) (hne : na ≠ ((ar : Nat) : Int)) (h : PP Q D (bnd (bnd (fr_M_errorOf N (wi w 166 1) 18 (mk 0 ((ar : Nat) : Int))) (fun u18 _ => some (u18, ()))) K)) : PP Q D (bnd (fm_M_callRun N w (I ((n : Nat) : Int)) (I 13)) K) := by
  unfold fm_M_callRun fb_M_callRun_0
  refine rb_ck (fun _ => ?_)
  rw [show decide (I 13 = 12) = false from rfl, br_fq, tnI (n := n) rfl (by omega), I_A' h26]
  unfold fb_M_callRun_47 fb_M_callRun_63 fb_M_callRun_80
  rw [show decide (I 13 = 12) = false from rfl, br_fq, show decide (I 13 = 13) = true from rfl, br_tq]
  refine rb_ck (fun _ => ?_)
  rw [show upI w 166 1 = wi w 166 1 from rfl, lt_e, br_tq]
  have x33 : F (wi w 166 1) 133 = ((p : Nat) : Int) := by rw [wi_ne (by omega)]; exact h133
  refine rb_bnd (pk_mo (top_r (N := N) (k := ar) (W := P0 + 1 + ar) hpp x33 h92 hW (by omega)) (fun w4 r e => ?_))
  obtain ⟨rfl, rfl⟩ := e
  rw [show 46000 * p + (P0 + 1 + ar - 1 - ar) = 46000 * p + P0 by omega, show (wi w 166 1).2.2.2 91 (46000 * p + P0) = x from hx, sortOf_e, rb_bnd_so, sx, show decide (I 3 = 3) = true from rfl, br_tq, valueOf_e, rb_bnd_so, hv, I_F' x33, cell_e (by omega) hv2, rb_bnd_so, show hp (wi w 166 1) p v = hp w p v from rfl]
  have d0 : decide (0 ≤ lg_cmp (hp w p v) 0) = false := decide_eq_false (fun z => by have := (lgc_ge _).mp z; rw [hd] at this; omega)
  have ti : ((-1 : Int64) - hp w p v).toInt32 = I ((ff : Nat) : Int) := by
    apply Int32.toInt_inj.mp
    rw [Int64.toInt_toInt32, I_ti (by omega) (by omega), Int64.toInt_sub, hd, show (-1 : Int64).toInt = -1 from by decide, show (-1 : Int) - (-1 - ((ff : Nat) : Int)) = ((ff : Nat) : Int) by omega, Int.bmod_eq_of_le (n := ((ff : Nat) : Int)) (m := 2 ^ 64) (by omega) (by omega)]
    exact Int.bmod_eq_of_le (by omega) (by omega)
  have rna := A_r w 48 ff
  rw [h48] at rna
  unfold fb_M_callRun_147 fb_M_callRun_163 fb_M_callRun_193
  rw [d0, br_fq, br_fq, ti, show decide (I ((ff : Nat) : Int) = (-1 : Int32)) = false from by rw [m1I, decE (by omega) (by omega) (by omega) (by omega)]; exact decide_eq_false (by omega), br_fq, tnI (n := ff) rfl (by omega)]
  refine rb_ck (fun _ => ?_)
  have e48 : A (wi w 166 1) 48 ff = na := h48
  rw [I_A' e48, decE rna.1 rna.2 (by omega) (by omega), decide_eq_false hne, br_fq, show fm_M_term N (wi w 166 1) 0 (I ((ar : Nat) : Int)) = some (wi w 166 1, mk 0 ((ar : Nat) : Int)) from rfl, bnd_so]
  exact h
end
end
section
set_option maxRecDepth 100000
section
variable {α β : Type} {N p W n j z h k r : Nat} {w : MS} {x : Int64} {v : Int} {Q : MS → α → MS → β → Prop} {D : Option (MS × α)} {K : MS → Unit → Option (MS × β)}
theorem one_28 : fm_M_one N w (I v) (I 28) = bnd (fm_M_goTo N w (I v + 1)) (fun u7 _ => bnd (fm_M_otherRun N u7 (I v) (I 28)) (fun u8 _ => some (u8, ()))) := rfl
theorem oth_28 {y : Int32} : fm_M_otherRun N w y (I 28) = bnd (fm_M_afterRun N w y) (fun u13 _ => some (u13, ())) := rfl
theorem aft_89 {t2 : Int64} (hpp : p < 24) (hn : n < 100000) (h33 : F w 133 = ((p : Nat) : Int)) (h95 : A w 95 p = ((j + 1 : Nat) : Int)) (hj : j < 60) (h25 : A w 25 n = ((r : Nat) : Int)) (hh : PP Q D (K (wa (wj w 111 p t2) 98 (60 * p + j) ((r : Nat) : Int)) ())) : PP Q D (bnd (fb_M_afterRun_89 N () w (I ((n : Nat) : Int)) 111 (I ((p : Nat) : Int)) t2) K) := by
  unfold fb_M_afterRun_89
  refine rb_ck (fun _ => rb_ck (fun _ => ?_))
  rw [tnI (n := p) rfl (by omega), wj_e, lt_e]
  refine rb_ck (fun _ => ?_)
  have e25 : A (wj w 111 p t2) 25 n = ((r : Nat) : Int) := h25
  rw [tnI (n := n) rfl (by omega), I_A' e25]
  refine rb_bnd (pk_mo (goto_r (N := N) (w := wj w 111 p t2) (n := ((r : Nat) : Int)) hpp h33 h95 hj) (fun w5 _ e => ?_))
  subst e
  exact hh
theorem after_k (hpp : p < 24) (hn : n < 100000) (h33 : F w 133 = ((p : Nat) : Int)) (h92 : A w 92 p = ((W + 1 : Nat) : Int)) (hW : W + 1 ≤ 46000) (h95 : A w 95 p = ((j + 1 : Nat) : Int)) (hj : j < 60) (h99 : A w 99 (60 * p + j) = ((z : Nat) : Int)) (h101 : A w 101 (60 * p + j) = ((h : Nat) : Int)) (h27 : A w 27 n = ((k : Nat) : Int)) (h25 : A w 25 n = ((r : Nat) : Int)) (hx : w.2.2.2 91 (46000 * p + W) = x)
    (c1 : so x = 0 → 0 ≤ va x → PP Q D (K (wa (wj (wa (wa w 92 p ((W : Nat) : Int)) 94 p ((z + h + k : Nat) : Int)) 111 p ((w.1 120).toInt64 + (I (va x)).toInt64)) 98 (60 * p + j) ((r : Nat) : Int)) ()))
    (c2 : x = mk 1 10 → PP Q D (K (wa (wj (wa (wa w 92 p ((W : Nat) : Int)) 94 p ((z + h + k : Nat) : Int)) 111 p (-1)) 98 (60 * p + j) ((r : Nat) : Int)) ()))
    (c3 : ¬ (so x = 0 ∧ 0 ≤ va x) → x ≠ mk 1 10 → PP Q D (bnd (bnd (fr_M_error N (wa w 92 p ((W : Nat) : Int)) 11) (fun u6 _ => some (u6, ()))) K)) : PP Q D (bnd (fm_M_afterRun N w (I ((n : Nat) : Int))) K) := by
  unfold fm_M_afterRun fb_M_afterRun_0
  refine rb_bnd (pk_mo (take_r (N := N) (W := W) hpp h33 h92 (by omega)) (fun w4 r4 e => ?_))
  obtain ⟨rfl, rfl⟩ := e
  rw [hx, sortOf_e, rb_bnd_so]
  have vr := va_r x
  have g33 : F (wa w 92 p ((W : Nat) : Int)) 133 = ((p : Nat) : Int) := h33
  have g95 : A (wa w 92 p ((W : Nat) : Int)) 95 p = ((j + 1 : Nat) : Int) := by rw [wa_rne (by omega)]; exact h95
  have g99 : A (wa w 92 p ((W : Nat) : Int)) 99 (60 * p + j) = ((z : Nat) : Int) := by rw [wa_rne (by omega)]; exact h99
  have g101 : A (wa w 92 p ((W : Nat) : Int)) 101 (60 * p + j) = ((h : Nat) : Int) := by rw [wa_rne (by omega)]; exact h101
  have g27 : A (wa w 92 p ((W : Nat) : Int)) 27 n = ((k : Nat) : Int) := by rw [wa_rne (by omega)]; exact h27
  have g25 : A (wa w 92 p ((W : Nat) : Int)) 25 n = ((r : Nat) : Int) := by rw [wa_rne (by omega)]; exact h25
  have g120 : (wa w 92 p ((W : Nat) : Int)).1 120 = w.1 120 := rfl
  generalize wa w 92 p ((W : Nat) : Int) = w3 at g33 g95 g99 g101 g27 g25 g120 c1 c2 c3
  have e49 : ∀ (y : Int32), (∀ u : MS, u = wa w3 94 p ((z + h + k : Nat) : Int) → PP Q D (bnd (br (decide (y = 0)) (fb_M_afterRun_89 N () u (I ((n : Nat) : Int)) (111) ((u.1 133)) ((-1))) (bnd (fm_M_valueOf N u x) (fun u4 r4 => fb_M_afterRun_89 N () u4 (I ((n : Nat) : Int)) (111) ((u.1 133)) (((u.1 120).toInt64 + r4.toInt64))))) K)) → PP Q D (bnd (fb_M_afterRun_49 N () w3 (I ((n : Nat) : Int)) x y) K) := fun y hy => by
    unfold fb_M_afterRun_49
    refine rb_ck (fun _ => ?_)
    rw [tnI (n := n) rfl (by omega), I_A' g27]
    refine rb_bnd (pk_mo (names_r (N := N) (k := k) hpp g33 g95 hj g99 g101) (fun u _ e => ?_))
    exact hy u e
  have k1 : so x = 0 → 0 ≤ va x → PP Q D (bnd (fb_M_afterRun_24 N () w3 (I ((n : Nat) : Int)) x 1) K) := fun s0 v0 => by
    unfold fb_M_afterRun_24
    rw [show decide ((1 : Int32) = 0) = false from rfl, br_fq]
    refine e49 1 (fun u e => ?_)
    subst e
    have u33 : F (wa w3 94 p ((z + h + k : Nat) : Int)) 133 = ((p : Nat) : Int) := g33
    rw [show decide ((1 : Int32) = 0) = false from rfl, br_fq, valueOf_e, bnd_so, I_F' u33]
    refine aft_89 (r := r) hpp hn u33 (by rw [wa_rne (by omega)]; exact g95) hj (by rw [wa_rne (by omega)]; exact g25) ?_
    rw [show (wa w3 94 p ((z + h + k : Nat) : Int)).1 120 = w.1 120 from g120]
    exact c1 s0 v0
  have k0 : ¬ (so x = 0 ∧ 0 ≤ va x) → PP Q D (bnd (fb_M_afterRun_23 N () w3 (I ((n : Nat) : Int)) x) K) := fun ns => by
    unfold fb_M_afterRun_23 fb_M_afterRun_24
    rw [show decide ((0 : Int32) = 0) = true from rfl, br_tq, show fm_M_term N w3 1 10 = some (w3, mk 1 10) from rfl, rb_bnd_so]
    by_cases e : x = mk 1 10
    · rw [dec_lg e, br_tq]
      refine e49 0 (fun u eu => ?_)
      subst eu
      have u33 : F (wa w3 94 p ((z + h + k : Nat) : Int)) 133 = ((p : Nat) : Int) := g33
      rw [show decide ((0 : Int32) = 0) = true from rfl, br_tq, I_F' u33]
      exact aft_89 (r := r) hpp hn u33 (by rw [wa_rne (by omega)]; exact g95) hj (by rw [wa_rne (by omega)]; exact g25) (c2 e)
    · rw [dec_lg0 e, br_fq]
      exact c3 ns e
  rw [show decide (I (so x) = 0) = decide (so x = 0) from by rw [lit0q, decE (so_r _).1 (so_r _).2 (by omega) (by omega)]]
  by_cases s0 : so x = 0
  · rw [decide_eq_true s0, br_tq, valueOf_e, rb_bnd_so, show decide (I (va x) < 0) = decide (va x < 0) from by rw [lit0q]; exact decide_eq_decide.mpr (I_lt vr.1 vr.2 (by omega) (by omega))]
    by_cases v0 : va x < 0
    · rw [decide_eq_true v0, br_tq]
      exact k0 (by omega)
    · rw [decide_eq_false v0, br_fq]
      exact k1 s0 (by omega)
  · rw [decide_eq_false s0, br_fq]
    exact k0 (by omega)
end
end
section
set_option maxRecDepth 100000
section
variable {Sf : MS → Int32 → Prop} {β : Type} {b : Int → Nat → Nat → Prop} {N p U B W Y j n sc M1 vk : Nat} {m w : MS} {nb : Nat → Nat} {Hs Os : Nat → List Nat} {Q : MS → Int32 → MS → β → Prop} {K2 : MS → Option (MS × β)}
theorem rcv_27 (hpp : p < 24) (pl : PLs b p m w U B W Y) (ru : RUb m w p j nb Hs Os none) (hpc : F m 1105 = ((sc : Nat) : Int)) (m8 : F m (pq p 8) = ((0 : Nat) : Int)) (dl : DLs (m.2.1 (pq p 10)) (w.2.2.2 111 p)) (hB2 : B < 100000) (hY : Y ≤ 30) (hvk : vk + 200 < 1000000000) (h956 : F m 955 ≤ F m 956) (hcl : m.1 944 = w.1 120) (hsc : A m 23 (sc - 1) = 1) (hn : n < 100000) (h31 : A w 31 n ≠ -1) (h23 : A w 23 n = 27) (h27 : A w 27 n = (((Os j).length : Nat) : Int)) (nd : (Os j).Nodup ∧ (Hs j).Nodup) (rc : ∃ g, RCs (A m 23) (ROs w) (w.2.2.2 34) (CRs (A m 23) (ROs w) (w.2.2.2 34) g) g sc n (Hs j) (Os j))
    (kW : ∀ M' vk' m3 w3, M' ≤ M1 → vk' ≤ vk + 61 → WTn m3 w3 p j nb Hs Os sc → PLs b p m3 w3 U B W Y → GGm p m m3 → GGw p w w3 → (SCs p m w → SCs p m3 w3) → PP Q (q195 Sf N (qgo Sf N M') m3 p (I ((vk' : Nat) : Int))) (K2 w3))
    (kR : ∀ M' vk' m3 w3 l q, M' ≤ M1 → vk' ≤ vk + 61 → RUs m3 w3 p j nb Hs Os none l q → PLs b p m3 w3 U B W Y → GGm p m m3 → GGw p w w3 → (SCs p m w → SCs p m3 w3) → PP Q (q195 Sf N (qgo Sf N M') m3 p (I ((vk' : Nat) : Int))) (K2 w3))
    (kT : ∀ M' vk' m3 w3 k, M' ≤ M1 → vk' ≤ vk + 1 → 0 < Y → TRs m3 w3 p j nb Hs Os 3 sc (sc + 2) k → PLs b p m3 (wa w3 94 p ((B : Nat) : Int)) U B W Y → F m3 (pq p 8) = ((0 : Nat) : Int) → GGm p m m3 → GGw p w w3 → (SCs p m w → SCs p m3 w3) → (w3.2.2.2 88 = w.2.2.2 88 ∧ w3.1 140 = w.1 140) → PP Q (q195 Sf N (qgo Sf N M') m3 p (I ((vk' : Nat) : Int))) (bnd (gg_M_choose N (rc_M_error N 19) N w3 1) (fun u _ => K2 u))) : PP Q (q195 Sf N (qgo Sf N M1) m p (I ((vk : Nat) : Int))) (bnd (fm_M_one N w (I ((n : Nat) : Int)) (I 27)) (fun u _ => K2 u)) := by
  obtain ⟨⟨fa, ct⟩, ⟨r5, r6⟩, r7, ⟨r8, r9, r10⟩, r11, r12, r13⟩ := id ru
  obtain ⟨h12, h152⟩ : F m 1112 = 0 ∧ F w 152 = 0 := by
    rcases r7 with ⟨_, c3, c4⟩ | ⟨_, _, _, c, _⟩
    · exact ⟨c3, c4⟩
    · cases c
  have hj : j < 60 := fa.1.2.2
  obtain ⟨-, -, ⟨-, g4⟩, -, g6, -⟩ := fa.2.1 j (Nat.le_refl _)
  have hB : B = nb j + (Hs j).length + (Os j).length := by
    have h1 := pl.2.1.1
    rw [fa.2.2.2, List.length_append] at h1
    omega
  refine go195 r9 h956 (fun hsf => ?_)
  cases M1 with
  | zero => exact pp_nl
  | succ M1 =>
  show PP Q (q67 Sf N (qgo Sf N M1) m p (I ((vk + 1 : Nat) : Int))) _
  rw [one_27]
  refine rb_ck (fun _ => ?_)
  rw [I_F' r11, tnI (n := p) rfl (by omega), lit0q, wa_e, lt_e]
  refine rb_ck (fun _ => ?_)
  have r31 := A_r w 31 n
  have e31 : A (wa w 110 p 0) 31 n = A w 31 n := wa_rne (by omega)
  rw [tnI (n := n) rfl (by omega), I_A (w := wa w 110 p 0) (k := 31) (i := n), e31, show decide (I (A w 31 n) = -1) = false from by rw [m1I, decE r31.1 r31.2 (by omega) (by omega)]; exact decide_eq_false h31, br_fq]
  refine r_bb ?_
  generalize hw1 : wa w 110 p 0 = w1
  have wR : ∀ K, K ≠ 110 → w1.2.2.1 K = w.2.2.1 K := fun K h => by rw [← hw1]; exact wa_21 h
  have wA : ∀ K i, K ≠ 110 → A w1 K i = A w K i := fun K i h => by show (w1.2.2.1 K i).toInt = _; rw [wR K h]; rfl
  have w1i : w1.1 = w.1 := by rw [← hw1]; rfl
  have w1F : ∀ l, F w1 l = F w l := fun l => by show (w1.1 l).toInt = _; rw [w1i]; rfl
  have wJ : w1.2.2.2 = w.2.2.2 := by rw [← hw1]; rfl
  have w110 : A w1 110 p = ((0 : Nat) : Int) := by
    rw [← hw1, wa_sm (by omega) (by omega)]; rfl
  have pr : ∀ K, PRr K → w1.2.2.1 K = w.2.2.1 K := fun K h => wR K (by unfold PRr at h; omega)
  have fc1 : FAs m w1 p j nb Hs Os ∧ CTs m w1 p j nb Hs Os := FC_w ⟨fa, ct⟩ (fun _ _ => rfl) (fun _ _ => rfl) rfl (fun K h => by rw [wR K (by omega)]) (fun K r h1 h2 h3 h4 => by rw [wR K (by omega)]) (fun K c h1 h2 _ => by rw [wR K (by omega)]) pr (by rw [wJ])
  have pl1 : PLs b p m w1 U B W Y := PLs_cg pl (fun _ _ => rfl) (fun _ _ => rfl) (fun _ _ => rfl) (fun _ _ => rfl) (fun _ _ => rfl) (fun K hK => by rw [wR K (by simp at hK; omega)]) (fun i _ => by rw [wJ]) (fun i _ => by rw [wJ]) (fun i _ => by rw [wJ]) (fun i _ => by rw [wJ])
  have gw1 : GGw p w w1 := by rw [← hw1]; exact GGw_own (Or.inl ⟨by omega, rfl⟩)
  have sc1 : SCs p m w → SCs p m w1 := fun s => SC_ow s (fun _ _ => rfl) rfl (fun K h1 h2 => wR K (by omega))
  obtain ⟨g, rc⟩ := rc
  have rc1 : ∃ g, RCs (A m 23) (ROs w1) (w1.2.2.2 34) (CRs (A m 23) (ROs w1) (w1.2.2.2 34) g) g sc n (Hs j) (Os j) := ⟨g, by rw [ROs_eq pr, wJ]; exact rc⟩
  refine goW_r (j := j) (t := 0) (nbj := nb j) (hl := (Hs j).length) (ol := (Os j).length) hpp (by rw [w1F]; exact r11) ((wA 95 p (by omega)).trans fa.1.2.1) hj (by omega) w110 ((wA 99 _ (by omega)).trans g4) ((wA 101 _ (by omega)).trans g6) ((wA 27 _ (by omega)).trans h27) ?_
  have nx := NX_of (t := 0) (sc := sc) fc1 r5 ((wA 109 p (by omega)).trans r6) h12 ((w1F 152).trans h152) r8 r9 ((w1F 151).trans r10) ((w1F 133).trans r11) (by rw [w1i]; exact r12) (by rw [w1i]; exact r13) hpc m8 (by omega) hn (by omega) (by rw [wJ]; exact dl) ((wA 23 _ (by omega)).trans h23) ((wA 27 _ (by omega)).trans h27) nd rc1
  have g5 : GGw p w1 (wi (wi (wi (wi (wi w1 159 ((n : Nat) : Int)) 158 ((0 : Nat) : Int)) 153 3) 155 (A w1 25 n)) 156 ((nb j + (Hs j).length + (Os j).length : Nat) : Int)) := GGw.tr (GGw.tr (GGw.tr (GGw.tr (GGw_reg (by omega) (by omega)) (GGw_reg (by omega) (by omega))) (GGw_reg (by omega) (by omega))) (GGw_reg (by omega) (by omega))) (GGw_reg (by omega) (by omega))
  have pl9 : PLs b p m (wa (wi (wi (wi (wi (wi w1 159 ((n : Nat) : Int)) 158 ((0 : Nat) : Int)) 153 3) 155 (A w1 25 n)) 156 ((nb j + (Hs j).length + (Os j).length : Nat) : Int)) 94 p ((B : Nat) : Int)) U B W Y := PLs_94 (PLs_ri (PLs_ri (PLs_ri (PLs_ri (PLs_ri pl1))))) hB2
  refine recv_pp (t := 0) hpp nx pl9 hB hB2 hY m8 (by omega) (by omega) h956 (by rw [wi_1 (by omega), wi_1 (by omega), wi_1 (by omega), wi_1 (by omega), wi_1 (by omega), w1i]; exact hcl) (fun e => absurd e (by rw [hsc]; omega)) (fun q hq => ?_) (fun M' vk' m3 w3 q1 q2 a1 a2 a3 a4 a5 => kW M' vk' m3 w3 (by omega) (by omega) a1 a2 a3 (GGw.tr gw1 (GGw.tr g5 a4)) (fun s => a5 (sc1 s))) (fun M' vk' m3 w3 l q q1 q2 a1 a2 a3 a4 a5 => kR M' vk' m3 w3 l q (by omega) (by omega) a1 a2 a3 (GGw.tr gw1 (GGw.tr g5 a4)) (fun s => a5 (sc1 s))) (fun m3 w3 k q1 a1 a2 a3 a4 a5 a6 a7 => kT M1 (vk + 1) m3 w3 k (by omega) (by omega) q1 a1 a2 a3 a4 (GGw.tr gw1 (GGw.tr g5 a5)) (fun s => a6 (sc1 s)) ⟨a7.1.trans (by show w1.2.2.2 88 = _; rw [wJ]), a7.2.trans (by rw [wi_1 (by omega), wi_1 (by omega), wi_1 (by omega), wi_1 (by omega), wi_1 (by omega), w1i])⟩)
  rw [wi_ne (by omega), wi_ne (by omega), wi_ne (by omega), wi_ne (by omega), wi_sm (by omega) (by omega)] at hq
  omega
end
end
section
set_option maxRecDepth 100000
section
variable {α β : Type} {N p n ar j a B P0 src l v cc uu L nbj : Nat} {m w : MS} {t x : Int64} {ff e : Int} {z : Int32} {Q : MS → α → MS → β → Prop} {D : Option (MS × α)} {K : MS → Unit → Option (MS × β)}
theorem entT_e (g21 : F m (pq p 21) = ((j + 1 : Nat) : Int)) (hj : j < 60) (h3 : A m (pq p 30) (5 * j + 3) = ((P0 : Nat) : Int)) (h2 : A m (pq p 30) (5 * j + 2) = ((B : Nat) : Int)) (hW : F m (pq p 26) = ((src + ar : Nat) : Int)) (hP : P0 ≤ src) (hl : F m (pq p 45) = ((l : Nat) : Int)) (hl2 : src + ar ≤ l ∧ l ≤ 1000000) : hm_Ma_enter N m p (I ff) (I e) (I ((ar : Nat) : Int)) 1 z = some (wi (rpS m p j B P0 src ar (I ff) (I e)) 1105 e, ()) := by
  unfold hm_Ma_enter hb_Ma_enter_0 hb_Ma_enter_37
  rw [show decide ((1 : Int32) = 0) = false from rfl, br_fq, repl_e (P0 := P0) (B := B) (src := src) g21 hj h3 h2 hW hP hl hl2, bnd_so, wi_e, lt_e]
theorem apT_m (hlt : F m 1106 < F m 1107) (hpc : F m 1105 = ((a : Nat) : Int)) (ha : a + 2 < 24000) (h21 : F m (pq p 21) = ((j + 1 : Nat) : Int)) (hj : j < 60) (h3 : A m (pq p 30) (5 * j + 3) = ((P0 : Nat) : Int)) (h2 : A m (pq p 30) (5 * j + 2) = ((B : Nat) : Int)) (h26 : F m (pq p 26) = ((src + 1 + ar : Nat) : Int)) (hP : P0 ≤ src) (hl : F m (pq p 45) = ((l : Nat) : Int)) (hl2 : src + 1 + ar ≤ l ∧ l ≤ 1000000) (ht : m.2.2.2 (pq p 35) src = t) (st : so t = 3) (hv : va t = ((v : Nat) : Int)) (hv2 : v < 512) (hc0 : va (m.2.2.2 (pq p 2) v) = ((cc : Nat) : Int)) (tk : hm_Co_takes N m (I ((cc : Nat) : Int)) = some (m, I ((ar : Nat) : Int)))
    (fo : hm_Ma_functionOf N (toS (cnM m p) p src ar) (I ((cc : Nat) : Int)) = some (toS (cnM m p) p src ar, I ff)) (en : hm_Ma_entryOf N (toS (cnM m p) p src ar) p (I ((cc : Nat) : Int)) = some (toS (cnM m p) p src ar, I e)) : hm_Ma_apply N m p (I ((ar : Nat) : Int)) 1 = bnd (hm_Ma_hold N (wi (rpS (toS (cnM m p) p src ar) p j B P0 src ar (I ff) (I e)) 1105 e) p p (pq p 2) t) (fun u29 _ => some (u29, ())) := by
  have be : hm_Fr_below N m p (I ((ar : Nat) : Int)) = some (m, t) := by
    have := below_e (N := N) (x := ((ar : Nat) : Int)) (k := ar) (W := src + 1 + ar) (l := l) h26 hl hl2.1 hl2.2 rfl (by omega)
    rw [show src + 1 + ar - 1 - ar = src by omega, ht] at this
    exact this
  have g26 : F (cnM m p) (pq p 26) = ((src + 1 + ar : Nat) : Int) := (congrArg Int32.toInt (cnM_q (by omega))).trans h26
  have g45 : F (cnM m p) (pq p 45) = ((l : Nat) : Int) := (congrArg Int32.toInt (cnM_q (by omega))).trans hl
  have g21 : F (toS (cnM m p) p src ar) (pq p 21) = ((j + 1 : Nat) : Int) := (congrArg Int32.toInt (toS_1 (m := cnM m p) (P0 := src) (ar := ar) (pq_inj (by omega)))).trans ((congrArg Int32.toInt (cnM_q (by omega))).trans h21)
  have g45' : F (toS (cnM m p) p src ar) (pq p 45) = ((l : Nat) : Int) := (congrArg Int32.toInt (toS_1 (m := cnM m p) (P0 := src) (ar := ar) (pq_inj (by omega)))).trans g45
  have g26' : F (toS (cnM m p) p src ar) (pq p 26) = ((src + ar : Nat) : Int) := toS_26 (by omega)
  have q3 : A (toS (cnM m p) p src ar) (pq p 30) (5 * j + 3) = ((P0 : Nat) : Int) := h3
  have q2 : A (toS (cnM m p) p src ar) (pq p 30) (5 * j + 2) = ((B : Nat) : Int) := h2
  unfold hm_Ma_apply hb_Ma_apply_0
  rw [be, bnd_so, e_tag, bnd_so, st, show decide (I 3 = 3) = true from rfl, br_tq, valI, hv, tnI (n := v) rfl (by omega), (I_inb (by omega) (by omega)).mpr ⟨by omega, by omega⟩, ck_t, valI, hc0, tk, bnd_so, show decide (I ((ar : Nat) : Int) = I ((ar : Nat) : Int)) = true from decide_eq_true rfl, br_tq, I_F' hpc, show I ((a : Nat) : Int) + 2 = I ((a + 2 : Nat) : Int) from addN, Co_e (k := a + 2) rfl (by omega), bnd_so, begins_e hlt h21 (Or.inl rfl), bnd_so, show decide ((1 : Int32) = 0) = false from rfl, br_fq, tout_e (P0 := src) g26 g45 hl2, bnd_so, fo, bnd_so, en, bnd_so, entT_e (P0 := P0) (B := B) (src := src) g21 hj q3 q2 g26' hP g45' ⟨by omega, hl2.2⟩, bnd_so]
theorem frTH_r (hpp : p < 24) (hu : uu < 100000) (h133 : F w 133 = ((p : Nat) : Int)) (h166 : F w 166 = 1) (h92 : A w 92 p = ((src + 1 + ar : Nat) : Int)) (hW : src + 1 + ar ≤ 46000) (hP : P0 ≤ src) (h95 : A w 95 p = ((j + 1 : Nat) : Int)) (hj : j < 60) (h100 : A w 100 (60 * p + j) = ((P0 : Nat) : Int)) (h99 : A w 99 (60 * p + j) = ((nbj : Nat) : Int)) (hB : nbj + L ≤ 2500) (hx : w.2.2.2 91 (46000 * p + src) = x) (hv : va x = ((v : Nat) : Int)) (hv2 : v + 2 + L ≤ 500) (hc : va (hp w p (v + 1)) = ((L : Nat) : Int))
    (kk : ∀ u u2, FR [] [] [] [91] w u → (∀ i, u.2.2.2 91 i = if 46000 * p + P0 ≤ i ∧ i < 46000 * p + P0 + ar then w.2.2.2 91 (i + (src + 1 - P0)) else w.2.2.2 91 i) → FR [] [] [] [93] (wa (frmW u p j (-1) P0 nbj (P0 + ar)) 101 (60 * p + j) ((L : Nat) : Int)) u2 → (∀ q, u2.2.2.2 93 q = if 2500 * p + nbj ≤ q ∧ q < 2500 * p + nbj + L then hp w p (v + 2 + (q - (2500 * p + nbj))) else w.2.2.2 93 q) → PP Q D (K (wa u2 94 p ((nbj + L : Nat) : Int)) ())) : PP Q D (bnd (fm_M_frameOf N w (-1) (I ((uu : Nat) : Int)) (I ((ar : Nat) : Int)) (I 1)) K) := by
  unfold fm_M_frameOf fb_M_frameOf_0 fb_M_frameOf_10 fb_M_frameOf_24 fb_M_frameOf_46 fb_M_frameOf_128
  rw [show decide (I ((uu : Nat) : Int) = (-1 : Int32)) = false from by rw [m1I, decE (by omega) (by omega) (by omega) (by omega)]; exact decide_eq_false (by omega), br_fq, I_F' h166, show decide (I 1 = 0) = false from rfl, br_fq, show decide ((1 : Int32) = 1) = true from rfl, br_tq]
  refine rb_bnd (pk_mo (top_r (N := N) (k := ar) (W := src + 1 + ar) hpp h133 h92 hW (by omega)) (fun w4 r e => ?_))
  obtain ⟨rfl, rfl⟩ := e
  rw [show 46000 * p + (src + 1 + ar - 1 - ar) = 46000 * p + src by omega, hx]
  have s1 : I ((src + 1 + ar : Nat) : Int) - I ((ar : Nat) : Int) = I ((src + 1 : Nat) : Int) := by rw [I_sub]; congr 1; omega
  have sp : I ((p : Nat) : Int) * 46000 = I ((46000 * p : Nat) : Int) := by
    rw [show (46000 : Int32) = I 46000 from rfl, I_mul]
    congr 1
    omega
  have ix : (I ((p : Nat) : Int) * 60 + I ((j + 1 : Nat) : Int) - 1).toNatClampNeg = 60 * p + j := by
    rw [show (60 : Int32) = I 60 from rfl, lit1q, I_mul, I_add, I_sub]
    exact tnI (n := 60 * p + j) (by omega) (by omega)
  refine rb_ck (fun _ => ?_)
  rw [lt_e]
  refine rb_ck (fun _ => ?_)
  rw [lt_e, br_fq]
  unfold fm_M_frame0 fb_M_frame0_0
  rw [I_F' h133, tnI (n := p) rfl (by omega), I_A' h95]
  refine rb_bnd (pk_ck (fun _ => pk_some ?_))
  refine rb_ck (fun _ => ?_)
  rw [lt_e]
  refine rb_bnd (pk_ck (fun _ => pk_some ?_))
  refine rb_ck (fun _ => ?_)
  rw [lt_e]
  refine rb_ck (fun _ => ?_)
  rw [I_F' h133, tnI (n := p) rfl (by omega), I_A' h95, ix, I_A' h92, I_A' h100, I_A' h99, s1, sp, lt_e, m1I]
  exact frH_lp (w0 := w4) (jj := j) (src := src + 1) (L := L) (v := v) hpp h133 h95 hj (by omega) hW hB hv hv2 hc (fun u u2 fr r f2 r2 => kk u u2 fr r f2 r2) ar N _ 0 (by omega) FR.rf (fun q => by rw [if_neg (by omega)])
end
end
section
set_option maxRecDepth 100000
section
variable {α β : Type} {N p ar j P0 src nbj : Nat} {w : MS} {f : Int} {fv : Int32} {Q : MS → α → MS → β → Prop} {D : Option (MS × α)} {K : MS → Unit → Option (MS × β)}
theorem frTF_r (hpp : p < 24) (hfv : fv = I f) (h133 : F w 133 = ((p : Nat) : Int)) (h166 : F w 166 = 1) (h92 : A w 92 p = ((src + 1 + ar : Nat) : Int)) (hW : src + 1 + ar ≤ 46000) (hP : P0 ≤ src) (h95 : A w 95 p = ((j + 1 : Nat) : Int)) (hj : j < 60) (h100 : A w 100 (60 * p + j) = ((P0 : Nat) : Int)) (h99 : A w 99 (60 * p + j) = ((nbj : Nat) : Int)) (hB : nbj ≤ 100000)
    (kk : ∀ u, FR [] [] [] [91] w u → (∀ i, u.2.2.2 91 i = if 46000 * p + P0 ≤ i ∧ i < 46000 * p + P0 + ar then w.2.2.2 91 (i + (src + 1 - P0)) else w.2.2.2 91 i) → PP Q D (K (frmW u p j f P0 nbj (P0 + ar)) ())) : PP Q D (bnd (fm_M_frameOf N w fv (-1) (I ((ar : Nat) : Int)) (I 1)) K) := by
  unfold fm_M_frameOf fb_M_frameOf_0 fb_M_frameOf_10 fb_M_frameOf_24 fb_M_frameOf_46 fb_M_frameOf_128
  rw [show decide ((-1 : Int32) = -1) = true from rfl, br_tq, I_F' h166, show decide (I 1 = 0) = false from rfl, br_fq, show decide ((1 : Int32) = 1) = true from rfl, br_tq]
  refine rb_bnd (pk_mo (top_r (N := N) (k := ar) (W := src + 1 + ar) hpp h133 h92 hW (by omega)) (fun w4 r e => ?_))
  obtain ⟨rfl, rfl⟩ := e
  have s1 : I ((src + 1 + ar : Nat) : Int) - I ((ar : Nat) : Int) = I ((src + 1 : Nat) : Int) := by rw [I_sub]; congr 1; omega
  have sp : I ((p : Nat) : Int) * 46000 = I ((46000 * p : Nat) : Int) := by
    rw [show (46000 : Int32) = I 46000 from rfl, I_mul]
    congr 1
    omega
  have ix : (I ((p : Nat) : Int) * 60 + I ((j + 1 : Nat) : Int) - 1).toNatClampNeg = 60 * p + j := by
    rw [show (60 : Int32) = I 60 from rfl, lit1q, I_mul, I_add, I_sub]
    exact tnI (n := 60 * p + j) (by omega) (by omega)
  refine rb_ck (fun _ => ?_)
  rw [lt_e]
  refine rb_ck (fun _ => ?_)
  rw [lt_e, br_fq]
  unfold fm_M_frame0 fb_M_frame0_0
  rw [I_F' h133, tnI (n := p) rfl (by omega), I_A' h95]
  refine rb_bnd (pk_ck (fun _ => pk_some ?_))
  refine rb_ck (fun _ => ?_)
  rw [lt_e]
  refine rb_bnd (pk_ck (fun _ => pk_some ?_))
  refine rb_ck (fun _ => ?_)
  rw [lt_e]
  refine rb_ck (fun _ => ?_)
  rw [I_F' h133, tnI (n := p) rfl (by omega), I_A' h95, ix, I_A' h92, I_A' h100, I_A' h99, s1, sp, lt_e, hfv]
  exact fr_lp (w0 := w4) (jj := j) (src := src + 1) hpp h133 h95 hj (by omega) hW hB kk ar N _ 0 (by omega) FR.rf (fun q => by rw [if_neg (by omega)])
end
end
section
set_option maxRecDepth 100000
def DFm (m m4 : MS) (p j nbj P0 src ar e L : Nat) (f : Int) (H : List Nat) : Prop :=
  ((∀ l, l < 100 → l ≠ 13 → l ≠ 24 → l ≠ 26 → l ≠ 42 → l ≠ 43 → m4.1 (pq p l) = m.1 (pq p l)) ∧ (∀ l, l < 2000 → l ≠ 1105 → l ≠ 1106 → l ≠ 946 → m4.1 l = m.1 l) ∧ m4.1 1106 = I (F m 1106 + 1) ∧ m4.1 (pq p 13) = I (F m (pq p 13) + 1) ∧ F m4 (pq p 26) = ((P0 + ar : Nat) : Int) ∧ F m4 (pq p 24) = ((nbj + L : Nat) : Int) ∧ F m4 1105 = ((e : Nat) : Int)) ∧
  ((∀ K, K < 2000 → m4.2.2.1 K = m.2.2.1 K) ∧ (∀ k, k < 100 → k ≠ 30 → k ≠ 32 → m4.2.2.1 (pq p k) = m.2.2.1 (pq p k)) ∧ (∀ i, i < nbj → A m4 (pq p 32) i = A m (pq p 32) i) ∧ (∀ i x : Nat, H[i]? = some x → A m4 (pq p 32) (nbj + i) = ((x : Nat) : Int)) ∧ ∀ i, A m4 (pq p 30) i = if i = 5 * j + 4 then ((e : Nat) : Int) else if i = 5 * j + 1 then 0 else if i = 5 * j then f else A m (pq p 30) i) ∧
  (∀ k, k < 100 → k ≠ 33 → k ≠ 35 → m4.2.2.2 (pq p k) = m.2.2.2 (pq p k)) ∧ (∀ i, i < nbj → m4.2.2.2 (pq p 33) i = m.2.2.2 (pq p 33) i) ∧ (∀ i, i < P0 + ar → m4.2.2.2 (pq p 35) i = if P0 ≤ i then m.2.2.2 (pq p 35) (src + (i - P0)) else m.2.2.2 (pq p 35) i)
def DFw (w w3 : MS) (p j nbj P0 src ar L : Nat) (f : Int) : Prop :=
  ((∀ l, l ≠ 166 → l ≠ 165 → l ≠ 119 → w3.1 l = w.1 l) ∧ w3.1 165 = I (F w 165 + 1)) ∧
  ((∀ K, K ≠ 93 → K ≠ 91 → w3.2.2.2 K = w.2.2.2 K) ∧ (∀ i, i < nbj → w3.2.2.2 93 (2500 * p + i) = w.2.2.2 93 (2500 * p + i)) ∧ ∀ i, i < P0 + ar → w3.2.2.2 91 (46000 * p + i) = if P0 ≤ i then w.2.2.2 91 (46000 * p + (src + (i - P0))) else w.2.2.2 91 (46000 * p + i)) ∧
  (∀ K, K ≠ 92 → K ≠ 94 → K ≠ 96 → K ≠ 97 → K ≠ 98 → K ≠ 99 → K ≠ 100 → K ≠ 101 → K ≠ 114 → w3.2.2.1 K = w.2.2.1 K) ∧
  (∀ K i, 96 ≤ K → K ≤ 101 → i ≠ 60 * p + j → w3.2.2.1 K i = w.2.2.1 K i) ∧
  (A w3 92 p = ((P0 + ar : Nat) : Int) ∧ A w3 94 p = ((nbj + L : Nat) : Int) ∧ A w3 96 (60 * p + j) = f ∧ A w3 97 (60 * p + j) = -1 ∧ A w3 99 (60 * p + j) = ((nbj : Nat) : Int) ∧ A w3 100 (60 * p + j) = ((P0 : Nat) : Int) ∧ A w3 101 (60 * p + j) = ((L : Nat) : Int)) ∧ w3.2.2.1 114 p = I (A w 114 p + 1)
section
variable {b : Int → Nat → Nat → Prop} {N p U B Y j a n ar P0 src e c L : Nat} {m w m4 w3 : MS} {nb : Nat → Nat} {Hs Os : Nat → List Nat} {f : Int} {H : List Nat}
theorem callTH_core (pl : PLs b p m w U B (src + ar) Y) (ru : RUs m w p j nb Hs Os none a n) (hP : P0 ≤ src) (h100 : A w 100 (60 * p + j) = ((P0 : Nat) : Int)) (hct : ∀ nC c : Nat, F m (pq p 28) = ((nC : Nat) : Int) → c < nC → A w 102 (1600 * p + c) < ((j : Nat) : Int)) (hB2 : nb j + L ≤ 2500) (hc : c < 2000000) (fm : DFm m m4 p j (nb j) P0 src ar e L f H) (fw : DFw w w3 p j (nb j) P0 src ar L f) (hH : H.length = L) (nd : H.Nodup) (held : ∀ i, i < L → RTb b (m4.2.2.2 (pq p 33) (nb j + i)) (w3.2.2.2 93 (2500 * p + (nb j + i)))) (zr : ∃ g g2, ZRs (A m 23) (ROs w) (w.2.2.2 34) (CRs (A m 23) (ROs w) (w.2.2.2 34) g) 0 0 H [] g2 e ((c : Nat) : Int)) :
    TRs m4 (wi (wi (wi (wi w3 153 0) 155 ((c : Nat) : Int)) 154 ((c : Nat) : Int)) 156 ((nb j + L : Nat) : Int)) p j nb (upf Hs j H) (upf Os j []) 0 0 e ((c : Nat) : Int) ∧ PLs b p m4 (wa (wi (wi (wi (wi w3 153 0) 155 ((c : Nat) : Int)) 154 ((c : Nat) : Int)) 156 ((nb j + L : Nat) : Int)) 94 p ((nb j + L : Nat) : Int)) U (nb j + L) (P0 + ar) Y ∧ (SCs p m w → SCs p m4 (wi (wi (wi (wi w3 153 0) 155 ((c : Nat) : Int)) 154 ((c : Nat) : Int)) 156 ((nb j + L : Nat) : Int))) := by
  obtain ⟨⟨fa, ct⟩, ⟨r2, r3⟩, ⟨f0, cr0⟩, ⟨r5, r6⟩, r7, ⟨r8, r9, r10⟩, r11, r12, r13⟩ := id ru
  obtain ⟨h12, h152⟩ : F m 1112 = 0 ∧ F w 152 = 0 := by
    rcases r7 with ⟨_, c3, c4⟩ | ⟨_, _, _, c, _⟩
    · exact ⟨c3, c4⟩
    · cases c
  obtain ⟨⟨f1, f2, f3⟩, f4, f5, f6⟩ := id fa
  obtain ⟨⟨m4q, m4g, m406, m413, m426, m424, m4pc⟩, ⟨m4A, m4Aq, m432, m432', m430⟩, m4J, m433, m435⟩ := fm
  obtain ⟨⟨w3i, i165⟩, ⟨w3J, w393, w391⟩, w3R, w3A, ⟨v92, v94, v96, v97, v99, v100, v101⟩, v114⟩ := fw
  have hB : B = nb j + (Hs j ++ Os j).length := by
    have h1 := pl.2.1.1
    rw [f6] at h1
    omega
  have hBl' : ∀ d r, r + 1 + d = j → nb r + (Hs r ++ Os r).length ≤ nb j := by
    intro d
    induction d with
    | zero =>
      intro r h
      have h1 := (f5 r (by omega)).1
      have h2 : r + 1 = j := by omega
      rw [h2] at h1
      omega
    | succ d ih =>
      intro r h
      have h1 := (f5 r (by omega)).1
      have h2 := ih (r + 1) (by omega)
      omega
  have hBl : ∀ r, r < j → nb r + (Hs r ++ Os r).length ≤ nb j := fun r hr => hBl' (j - (r + 1)) r (by omega)
  obtain ⟨-, -, ⟨g3, g4⟩, g5, -, -⟩ := f4 j (Nat.le_refl _)
  rw [h100] at g5
  have w3a : ∀ K i, 96 ≤ K → K ≤ 101 → i ≠ 60 * p + j → A w3 K i = A w K i := fun K i h1 h2 h3 => congrArg Int32.toInt (w3A K i h1 h2 h3)
  have v95 : A w3 95 p = ((j + 1 : Nat) : Int) := by
    show (w3.2.2.1 95 p).toInt = _
    rw [w3R 95 (by omega) (by omega) (by omega) (by omega) (by omega) (by omega) (by omega) (by omega) (by omega)]
    exact f2
  have pr : ∀ K, PRr K → w3.2.2.1 K = w.2.2.1 K := fun K h => by
    unfold PRr at h
    exact w3R K (by omega) (by omega) (by omega) (by omega) (by omega) (by omega) (by omega) (by omega) (by omega)
  generalize hw4 : wi (wi (wi (wi w3 153 0) 155 ((c : Nat) : Int)) 154 ((c : Nat) : Int)) 156 ((nb j + L : Nat) : Int) = w4
  have w42 : w4.2 = w3.2 := by rw [← hw4]; rfl
  have w41 : ∀ l, l ≠ 153 → l ≠ 154 → l ≠ 155 → l ≠ 156 → w4.1 l = w3.1 l := fun l h1 h2 h3 h4 => by rw [← hw4, wi_1 h4, wi_1 h2, wi_1 h3, wi_1 h1]
  have w4a : ∀ K i, A w4 K i = A w3 K i := fun K i => by show (w4.2.2.1 K i).toInt = _; rw [w42]; rfl
  have w4i : ∀ l, l ≠ 153 → l ≠ 154 → l ≠ 155 → l ≠ 156 → l ≠ 166 → l ≠ 165 → l ≠ 119 → w4.1 l = w.1 l := fun l h1 h2 h3 h4 h5 h6 h7 => by rw [w41 l h1 h2 h3 h4]; exact w3i l h5 h6 h7
  have w4f : ∀ l, l ≠ 153 → l ≠ 154 → l ≠ 155 → l ≠ 156 → l ≠ 166 → l ≠ 165 → l ≠ 119 → F w4 l = F w l := fun l h1 h2 h3 h4 h5 h6 h7 => congrArg Int32.toInt (w4i l h1 h2 h3 h4 h5 h6 h7)
  have w4J : ∀ K, K ≠ 93 → K ≠ 91 → w4.2.2.2 K = w.2.2.2 K := fun K h h' => by rw [w42]; exact w3J K h h'
  have pr4 : ∀ K, PRr K → w4.2.2.1 K = w.2.2.1 K := fun K h => by rw [w42]; exact pr K h
  have hPr : ∀ K, PRr K → A w4 K = A w K := fun K a => by funext i; show (w4.2.2.1 K i).toInt = _; rw [pr4 K a]; rfl
  have m4f : ∀ l, l < 2000 → l ≠ 1105 → l ≠ 1106 → l ≠ 946 → F m4 l = F m l := fun l h0 h1 h2 h3 => congrArg Int32.toInt (m4g l h0 h1 h2 h3)
  have h23 : A m4 23 = A m 23 := by funext i; show (m4.2.2.1 23 i).toInt = _; rw [m4A 23 (by omega)]; rfl
  have fq : ∀ l, l < 42 → l ≠ 13 → l ≠ 24 → l ≠ 26 → F m4 (pq p l) = F m (pq p l) := fun l h0 h1 h2 h3 => congrArg Int32.toInt (m4q l (by omega) h1 h2 h3 (by omega) (by omega))
  have fa4 : FAs m4 w4 p j nb (upf Hs j H) (upf Os j []) := by
    refine ⟨⟨by rw [fq 21 (by omega) (by omega) (by omega) (by omega)]; exact f1, by rw [w4a]; exact v95, f3⟩, fun r hr => ?_, fun r hr => ?_, ?_⟩
    · by_cases cr' : r = j
      · subst cr'
        rw [upf_s, upf_s]
        refine ⟨?_, Or.inl ⟨by rw [w4a]; exact v97, ?_⟩, ⟨?_, by rw [w4a]; exact v99⟩, ?_, by rw [w4a, v101, hH], fun i x hx => ?_⟩
        · rw [m430, if_neg (by omega), if_neg (by omega), if_pos rfl, w4a, v96]
        · rw [m430, if_neg (by omega), if_pos rfl]
        · rw [m430, if_neg (by omega), if_neg (by omega), if_neg (by omega)]; exact g3
        · rw [m430, if_neg (by omega), if_neg (by omega), if_neg (by omega), w4a, v100]; exact g5
        · rw [List.append_nil] at hx
          exact m432' i x hx
      · rw [upf_n cr', upf_n cr']
        obtain ⟨y1, y2, ⟨y3, y4⟩, y5, y6, y7⟩ := f4 r hr
        have m30 : ∀ d, d < 4 → A m4 (pq p 30) (5 * r + d) = A m (pq p 30) (5 * r + d) := fun d hd => by rw [m430, if_neg (by omega), if_neg (by omega), if_neg (by omega)]
        have wr : ∀ K, 96 ≤ K → K ≤ 101 → A w4 K (60 * p + r) = A w K (60 * p + r) := fun K h1 h2 => by rw [w4a]; exact w3a K _ h1 h2 (by omega)
        refine ⟨by rw [show 5 * r = 5 * r + 0 from rfl, m30 0 (by omega), wr 96 (by omega) (by omega)]; exact y1, ?_, ⟨by rw [m30 2 (by omega)]; exact y3, by rw [wr 99 (by omega) (by omega)]; exact y4⟩, by rw [m30 3 (by omega), wr 100 (by omega) (by omega)]; exact y5, by rw [wr 101 (by omega) (by omega)]; exact y6, fun i x hx => ?_⟩
        · rw [wr 97 (by omega) (by omega), m30 1 (by omega)]
          rcases y2 with y2 | ⟨k2, t2, q1, q3, q4⟩
          · exact Or.inl y2
          · exact Or.inr ⟨k2, t2, q1, by rw [hPr 44 (by unfold PRr; omega)]; exact q3, by rw [hPr 8 (by unfold PRr; omega)]; exact q4⟩
        · have hi : i < (Hs r ++ Os r).length := by
            rcases Nat.lt_or_ge i (Hs r ++ Os r).length with h | h
            · exact h
            · rw [List.getElem?_eq_none h] at hx
              cases hx
          have := hBl r (by omega)
          rw [m432 _ (by omega)]
          exact y7 i x hx
    · rw [upf_n (show r ≠ j by omega), upf_n (show r ≠ j by omega)]
      obtain ⟨y1, a3, n3, y2, y3, f9, y4⟩ := f5 r hr
      refine ⟨y1, a3, n3, ?_, by rw [w4a, w3a 98 _ (by omega) (by omega) (by omega)]; exact y3, f9, by rw [h23, ROs_eq pr4, w4J 34 (by omega) (by omega)]; exact y4⟩
      rw [m430, if_neg (by omega), if_neg (by omega), if_neg (by omega)]
      exact y2
    · rw [upf_s, upf_s, m424, List.append_nil, hH]
  have ct4 : CTs m4 w4 p j nb (upf Hs j H) (upf Os j []) := by
    obtain ⟨nC, c1, c2, c3, c5, c4⟩ := id ct
    have wc : ∀ K i, 102 ≤ K → K ≤ 106 → A w4 K i = A w K i := fun K i h1 h2 => by
      rw [w4a]
      show (w3.2.2.1 K i).toInt = _
      rw [w3R K (by omega) (by omega) (by omega) (by omega) (by omega) (by omega) (by omega) (by omega) (by omega)]
      rfl
    have h37 : A m4 (pq p 37) = A m (pq p 37) := by funext i; show (m4.2.2.1 (pq p 37) i).toInt = _; rw [m4Aq 37 (by omega) (by omega) (by omega)]; rfl
    refine ⟨nC, by rw [fq 28 (by omega) (by omega) (by omega) (by omega)]; exact c1, by rw [wc 106 _ (by omega) (by omega)]; exact c2, c3, fun c hc => by rw [wc 102 _ (by omega) (by omega), wc 102 _ (by omega) (by omega), wc 105 _ (by omega) (by omega), wc 105 _ (by omega) (by omega)]; exact c5 c hc, fun c hc => ?_⟩
    obtain ⟨r, k, a3, nd, nn, k1, k2, k3, k4, k5, k6, k7, k8, k9, k10, f9, k11⟩ := c4 c hc
    have rl := hct nC c c1 hc
    rw [k3] at rl
    have rn : r ≠ j := by omega
    exact ⟨r, k, a3, nd, nn, by omega, by rw [h37]; exact k2, by rw [wc 102 _ (by omega) (by omega)]; exact k3, by rw [h37, upf_n rn]; exact k4, by rw [wc 105 _ (by omega) (by omega), upf_n rn]; exact k5, by rw [upf_n rn]; exact k6, by rw [h37, wc 104 _ (by omega) (by omega)]; exact k7, by rw [h37]; exact k8, by rw [wc 103 _ (by omega) (by omega)]; exact k9, by rw [hPr 25 (by unfold PRr; omega)]; exact k10, f9, by rw [h23, ROs_eq pr4, w4J 34 (by omega) (by omega), upf_n rn, upf_n rn]; exact k11⟩
  have aR : ∀ K, K = 89 ∨ K = 108 → A w4 K p = A w K p := fun K hK => by
    rw [w4a]
    show (w3.2.2.1 K p).toInt = _
    rw [w3R K (by omega) (by omega) (by omega) (by omega) (by omega) (by omega) (by omega) (by omega) (by omega)]
    rfl
  have pl4 : PLs b p m4 w4 U (nb j + L) (P0 + ar) Y := by
    obtain ⟨⟨⟨p1, p2, p3⟩, p4, p5⟩, ⟨p6, p7, p8⟩, ⟨p9, p10, p11⟩, p12, p13, p14⟩ := pl
    have hpe : hp w4 p = hp w p := by
      funext k
      show w4.2.2.2 88 (500 * p + k) = _
      rw [w4J 88 (by omega) (by omega)]
      rfl
    refine ⟨⟨⟨by rw [fq 4 (by omega) (by omega) (by omega) (by omega)]; exact p1, by rw [aR 89 (by omega)]; exact p2, p3⟩, by rw [m4J 2 (by omega) (by omega) (by omega), hpe]; exact p4, ?_⟩, ⟨m424, by rw [w4a]; exact v94, fun i hi => ?_⟩, ⟨m426, by rw [w4a]; exact v92, fun i hi => ?_⟩, by rw [fq 7 (by omega) (by omega) (by omega) (by omega)]; exact p12, by rw [aR 108 (by omega)]; exact p13, fun i hi => by rw [m4J 6 (by omega) (by omega) (by omega), w4J 107 (by omega) (by omega)]; exact p14 i hi⟩
    · rw [m4q 5 (by omega) (by omega) (by omega) (by omega) (by omega) (by omega), w42, w3R 90 (by omega) (by omega) (by omega) (by omega) (by omega) (by omega) (by omega) (by omega) (by omega)]
      exact p5
    · rw [w42]
      by_cases c : i < nb j
      · rw [m433 i c, w393 i c]
        exact p8 i (by omega)
      · obtain ⟨d, rfl⟩ : ∃ d, i = nb j + d := ⟨i - nb j, by omega⟩
        exact held d (by omega)
    · rw [w42, m435 i hi, w391 i hi]
      by_cases c : P0 ≤ i
      · rw [if_pos c, if_pos c]
        exact p11 _ (by omega)
      · rw [if_neg c, if_neg c]
        exact p11 i (by omega)
  have sc4 : SCs p m w → SCs p m4 w4 := fun s => by
    obtain ⟨s1, s2, s3, s4, s5, s6⟩ := s
    have rr : ∀ K, 112 ≤ K → K ≤ 117 → K ≠ 114 → w4.2.2.1 K = w.2.2.1 K := fun K h1 h2 h3 => by
      rw [w42]
      exact w3R K (by omega) (by omega) (by omega) (by omega) (by omega) (by omega) (by omega) (by omega) h3
    have q9 : ∀ l, l = 11 ∨ l = 12 ∨ l = 15 ∨ l = 29 → m4.1 (pq p l) = m.1 (pq p l) := fun l hl => m4q l (by omega) (by omega) (by omega) (by omega) (by omega) (by omega)
    refine ⟨by rw [q9 12 (by omega), rr 113 (by omega) (by omega) (by omega)]; exact s1, ?_, by rw [q9 11 (by omega), rr 112 (by omega) (by omega) (by omega)]; exact s3, by rw [q9 15 (by omega), rr 117 (by omega) (by omega) (by omega)]; exact s4, by rw [q9 29 (by omega), rr 115 (by omega) (by omega) (by omega)]; exact s5, fun i hi => ?_⟩
    · rw [m413, w42, v114]
      congr 1
      show (m.1 (pq p 13)).toInt + 1 = (w.2.2.1 114 p).toInt + 1
      rw [s2]
    · rw [m4Aq 14 (by omega) (by omega) (by omega), rr 116 (by omega) (by omega) (by omega)]
      refine s6 i ?_
      rw [show F m (pq p 15) = F m4 (pq p 15) from (congrArg Int32.toInt (q9 15 (by omega))).symm]
      exact hi
  obtain ⟨g1, g2, zr⟩ := zr
  refine ⟨⟨⟨⟨fa4, ct4⟩, ⟨by rw [fq 9 (by omega) (by omega) (by omega) (by omega)]; exact r5, ?_⟩, Or.inl ⟨rfl, (m4f 1112 (by omega) (by omega) (by omega) (by omega)).trans h12, (w4f 152 (by omega) (by omega) (by omega) (by omega) (by omega) (by omega) (by omega)).trans h152⟩, ⟨(m4f 1108 (by omega) (by omega) (by omega) (by omega)).trans r8, (m4f 1109 (by omega) (by omega) (by omega) (by omega)).trans r9, (w4f 151 (by omega) (by omega) (by omega) (by omega) (by omega) (by omega) (by omega)).trans r10⟩, (w4f 133 (by omega) (by omega) (by omega) (by omega) (by omega) (by omega) (by omega)).trans r11, ?_, ?_⟩, m4pc, ⟨?_, ?_, ?_⟩, fun c => ?_, ⟨?_, ?_⟩, g1, g2, ?_⟩, PLs_94 pl4 (by omega), sc4⟩
  · show (w4.2.2.1 109 p).toInt = 0
    rw [w42, w3R 109 (by omega) (by omega) (by omega) (by omega) (by omega) (by omega) (by omega) (by omega) (by omega)]
    exact r6
  · rw [m406, w41 165 (by omega) (by omega) (by omega) (by omega), i165]
    congr 1
    show (m.1 1106).toInt + 1 = (w.1 165).toInt + 1
    rw [r12]
  · rw [m4g 1107 (by omega) (by omega) (by omega) (by omega), w4i 164 (by omega) (by omega) (by omega) (by omega) (by omega) (by omega) (by omega)]
    exact r13
  · rw [← hw4, wi_ne (by omega), wi_ne (by omega), wi_ne (by omega), wi_sm (by omega) (by omega)]
    rfl
  · rw [← hw4, wi_ne (by omega), wi_sm (by omega) (by omega)]
  · rw [upf_s, upf_s, ← hw4, wi_sm (by omega) (by omega), hH]
    simp
  · omega
  · rw [upf_s]; exact List.nodup_nil
  · rw [upf_s]; exact nd
  · rw [upf_s, upf_s, h23, ROs_eq pr4, w4J 34 (by omega) (by omega)]
    exact zr
end
end
section
set_option maxRecDepth 100000
def rtS (m : MS) (p j B P0 src ar : Nat) (f e : Int) : MS := wi (rpS m p j B P0 src ar (I f) (I e)) 1105 e
section
variable {p j B P0 src ar k : Nat} {m : MS} {f e : Int}
theorem rtS_1 (h1 : k ≠ 1105) (h2 : k ≠ pq p 24) (h3 : k ≠ pq p 26) : (rtS m p j B P0 src ar f e).1 k = m.1 k := by
  unfold rtS
  rw [wi_1 h1]
  show (wi (wi (upJ m (pq p 35) (va_cpy (m.2.2.2 (pq p 35)) (m.2.2.2 (pq p 35)) src P0 ar)) (pq p 26) ((P0 + ar : Nat) : Int)) (pq p 24) ((B : Nat) : Int)).1 k = _
  rw [wi_1 h2, wi_1 h3]
  rfl
theorem rtS_24 (hB : B < 2147483648) : F (rtS m p j B P0 src ar f e) (pq p 24) = ((B : Nat) : Int) := by
  unfold rtS
  rw [wi_ne (fun c => pq_n (by omega) c.symm)]
  show F (wi (wi (upJ m (pq p 35) (va_cpy (m.2.2.2 (pq p 35)) (m.2.2.2 (pq p 35)) src P0 ar)) (pq p 26) ((P0 + ar : Nat) : Int)) (pq p 24) ((B : Nat) : Int)) (pq p 24) = _
  rw [wi_sm (by omega) (by omega)]
theorem rtS_26 (hB : P0 + ar < 2147483648) : F (rtS m p j B P0 src ar f e) (pq p 26) = ((P0 + ar : Nat) : Int) := by
  unfold rtS
  rw [wi_ne (fun c => pq_n (by omega) c.symm)]
  show F (wi (wi (upJ m (pq p 35) (va_cpy (m.2.2.2 (pq p 35)) (m.2.2.2 (pq p 35)) src P0 ar)) (pq p 26) ((P0 + ar : Nat) : Int)) (pq p 24) ((B : Nat) : Int)) (pq p 26) = _
  rw [wi_ne (pq_inj (by omega)), wi_sm (by omega) (by omega)]
theorem rtS_05 (he : RG e) : F (rtS m p j B P0 src ar f e) 1105 = e := by
  unfold rtS
  rw [wi_sm he.1 he.2]
theorem rtS_J (h : k ≠ pq p 35) : (rtS m p j B P0 src ar f e).2.2.2 k = m.2.2.2 k := if_neg h
theorem rtS_35 {i : Nat} : (rtS m p j B P0 src ar f e).2.2.2 (pq p 35) i = if P0 ≤ i ∧ i < P0 + ar then m.2.2.2 (pq p 35) (src + (i - P0)) else m.2.2.2 (pq p 35) i := by
  show (if pq p 35 = pq p 35 then va_cpy (m.2.2.2 (pq p 35)) (m.2.2.2 (pq p 35)) src P0 ar else m.2.2.2 (pq p 35)) i = _
  rw [if_pos rfl]
  rfl
theorem rtS_A (h : k ≠ pq p 30) : (rtS m p j B P0 src ar f e).2.2.1 k = m.2.2.1 k := by
  show (rpS m p j B P0 src ar (I f) (I e)).2.2.1 k = _
  unfold rpS
  exact (if_neg h).trans ((if_neg h).trans (if_neg h))
theorem rtS_30 {i : Nat} (hf : RG f) (he : RG e) : A (rtS m p j B P0 src ar f e) (pq p 30) i = if i = 5 * j + 4 then e else if i = 5 * j + 1 then 0 else if i = 5 * j then f else A m (pq p 30) i := by
  show A (rpS m p j B P0 src ar (I f) (I e)) (pq p 30) i = _
  rw [rpS_30, I_ti he.1 he.2, I_ti hf.1 hf.2]
theorem GGm_rtS : GGm p m (rtS m p j B P0 src ar f e) := GGm.tr GGm_rpS (GGm_reg (by omega))
end
section
variable {α β : Type} {b : Int → Nat → Nat → Prop} {N p U B Y j a n ar P0 src l v v' uu ff e ad L c : Nat} {m w : MS} {t x : Int64} {nb : Nat → Nat} {Hs Os : Nat → List Nat} {H : List Nat} {Q : MS → α → MS → β → Prop} {K1 : MS → Option (MS × α)} {K2 : MS → Option (MS × β)}
theorem op_applyTN (hpp : p < 24) (pl : PLs b p m w U B (src + 1 + ar) Y) (ru : RUs m w p j nb Hs Os none a n) (hW : src + 1 + ar ≤ 46000) (hP : P0 ≤ src) (h100 : A w 100 (60 * p + j) = ((P0 : Nat) : Int)) (hct : ∀ nC c : Nat, F m (pq p 28) = ((nC : Nat) : Int) → c < nC → A w 102 (1600 * p + c) < ((j : Nat) : Int)) (hB2 : nb j + L ≤ 2500) (hlt : F m 1106 < F m 1107) (ha : a + 2 < 24000) (hl : F m (pq p 45) = ((l : Nat) : Int)) (hl2 : src + 1 + ar ≤ l ∧ l ≤ 1000000) (h43 : ((nb j : Nat) : Int) ≤ F m (pq p 43) ∧ ((nb j : Nat) : Int) ≤ F m (pq p 42)) (c1 : A m 23 (a + 1) = ((ar : Nat) : Int)) (h26 : A w 26 n = ((ar : Nat) : Int)) (h30 : A w 30 n = 1)
    (ht : m.2.2.2 (pq p 35) src = t) (hx : w.2.2.2 91 (46000 * p + src) = x) (st : so t = 3) (sx : so x = 3) (hv : va t = ((v : Nat) : Int)) (hv' : va x = ((v' : Nat) : Int)) (hv2 : v + 2 + L ≤ 500) (hv2' : v' + 2 + L ≤ 500) (hc0 : va (m.2.2.2 (pq p 2) v) = ((uu : Nat) : Int)) (hd : (hp w p v').toInt = ((uu : Nat) : Int)) (hL' : va (hp w p (v' + 1)) = ((L : Nat) : Int)) (hcs : ∀ i, i < L → RTb b (m.2.2.2 (pq p 2) (v + 2 + i)) (hp w p (v' + 2 + i)))
    (h449 : ((uu : Nat) : Int) < F m 449) (hu : uu < 400) (f30 : A m 30 uu = ((ar : Nat) : Int)) (f31 : A m 31 uu = ((e : Nat) : Int)) (f32 : A m 32 uu = ((ad : Nat) : Int)) (fL : A m 23 ad = ((L : Nat) : Int)) (had : ad + 1 + L < 24000) (hH : H.length = L) (nm : ∀ i x : Nat, H[i]? = some x → A m 23 (ad + 1 + i) = ((x : Nat) : Int)) (nd : H.Nodup) (h53 : A w 53 uu = ((c : Nat) : Int)) (hc : c < 100000) (h41 : A w 41 c = ((ar : Nat) : Int)) (zr : ∃ g g2, ZRs (A m 23) (ROs w) (w.2.2.2 34) (CRs (A m 23) (ROs w) (w.2.2.2 34) g) 0 0 H [] g2 e ((c : Nat) : Int))
    (k : ∀ m4 w4, TRs m4 w4 p j nb (upf Hs j H) (upf Os j []) 0 0 e ((c : Nat) : Int) → PLs b p m4 (wa w4 94 p ((nb j + L : Nat) : Int)) U (nb j + L) (P0 + ar) Y → GGm p (cbM m) m4 → GGw p (cbW w) w4 → (SCs p m w → SCs p m4 w4) → (w4.2.2.2 88 = w.2.2.2 88 ∧ w4.1 140 = w.1 140) → PP Q (K1 m4) (bnd (gg_M_choose N (rc_M_error N 19) N w4 1) (fun u _ => K2 u))) : PP Q (bnd (hm_Ma_flow N m p (I 28)) (fun u _ => K1 u)) (bnd (fm_M_one N w (I ((n : Nat) : Int)) (I 13)) (fun u _ => K2 u)) := by
  obtain ⟨⟨fa, ct⟩, ⟨r2, r3⟩, ⟨f0, cr0⟩, ⟨r5, r6⟩, r7, ⟨r8, r9, r10⟩, r11, r12, r13⟩ := id ru
  have cb := CR_b cr0
  obtain ⟨⟨f1, f2, f3⟩, f4, f5, f6⟩ := id fa
  have ebd : e + 1 < 24000 := by
    obtain ⟨g, g2, z⟩ := zr
    cases g2 with
    | zero => exact z.elim
    | succ g2 => exact z.1
  have hne : (wi w 166 1).1 165 ≠ (wi w 166 1).1 164 := by
    rw [wi_1 (by omega), wi_1 (by omega), ← r12, ← r13]
    intro c
    have := congrArg Int32.toInt c
    have h1 : F m 1106 = (m.1 1106).toInt := rfl
    have h2 : F m 1107 = (m.1 1107).toInt := rfl
    omega
  obtain ⟨-, -, ⟨g3, g4⟩, g5, -, -⟩ := f4 j (Nat.le_refl _)
  rw [h100] at g5
  have t1 : ∀ k, k < 2000 → k ≠ 1106 → k ≠ 946 → (toS (cnM m p) p src ar).1 k = m.1 k := fun k h0 h1 h2 => (toS_1 (pq_n h0)).trans (cnM_1 h0 h1 h2)
  have tF : ∀ k, k < 2000 → k ≠ 1106 → k ≠ 946 → F (toS (cnM m p) p src ar) k = F m k := fun k h0 h1 h2 => congrArg Int32.toInt (t1 k h0 h1 h2)
  have tq : ∀ k, k ≠ 13 → k ≠ 26 → (toS (cnM m p) p src ar).1 (pq p k) = m.1 (pq p k) := fun k h1 h2 => (toS_1 (pq_inj h2)).trans (cnM_q h1)
  have en := entry_u (N := N) (p := p) (m := toS (cnM m p) p src ar) (uu := uu) (by rw [tF 449 (by omega) (by omega) (by omega)]; exact h449) hu
  have e31 : A (toS (cnM m p) p src ar) 31 uu = ((e : Nat) : Int) := f31
  rw [e31] at en
  have tk := takes_u (N := N) h449 hu
  rw [f30] at tk
  rw [apl_28, I_F' r2, show I ((a : Nat) : Int) + 1 = I ((a + 1 : Nat) : Int) from addN, Co_e (k := a + 1) rfl (by omega), bnd_so, c1, apT_m (src := src) (P0 := P0) (B := nb j) (cc := uu) (ff := (-1)) hlt r2 ha f1 f3 g5 g3 pl.2.2.1.1 hP hl hl2 ht st hv (by omega) hc0 tk en.2 en.1]
  refine l_bb (l_bb ?_)
  show PP Q (bnd (hm_Ma_hold N (rtS (toS (cnM m p) p src ar) p j (nb j) P0 src ar (-1) ((e : Nat) : Int)) p p (pq p 2) t) _) _
  generalize hT : toS (cnM m p) p src ar = mT at t1 tF tq
  have tJ : ∀ k, k ≠ 35 → mT.2.2.2 (pq p k) = m.2.2.2 (pq p k) := fun k h => by rw [← hT, toS_J (pq_inj h)]; rfl
  have t35 : mT.2.2.2 (pq p 35) = (toS m p src ar).2.2.2 (pq p 35) := by
    rw [← hT]
    show (if pq p 35 = pq p 35 then _ else _) = (if pq p 35 = pq p 35 then _ else _)
    rw [if_pos rfl, if_pos rfl]
    rfl
  have tA : mT.2.2.1 = m.2.2.1 := by rw [← hT]; rfl
  have tAa : ∀ K i, A mT K i = A m K i := fun K i => by show (mT.2.2.1 K i).toInt = _; rw [tA]; rfl
  generalize hE : rtS mT p j (nb j) P0 src ar (-1) ((e : Nat) : Int) = mE
  have eA : ∀ K, K < 2000 → mE.2.2.1 K = m.2.2.1 K := fun K h => by rw [← hE, rtS_A (pq_n h), tA]
  have eAa : ∀ K i, K < 2000 → A mE K i = A m K i := fun K i h => by show (mE.2.2.1 K i).toInt = _; rw [eA K h]; rfl
  have eJ : ∀ k, k ≠ 35 → mE.2.2.2 (pq p k) = m.2.2.2 (pq p k) := fun k h => by rw [← hE, rtS_J (pq_inj h), tJ k h]
  have e35 : ∀ i, mE.2.2.2 (pq p 35) i = if P0 ≤ i ∧ i < P0 + ar then (toS m p src ar).2.2.2 (pq p 35) (src + (i - P0)) else (toS m p src ar).2.2.2 (pq p 35) i := fun i => by rw [← hE, rtS_35, t35]
  have eq : ∀ k, k ≠ 13 → k ≠ 24 → k ≠ 26 → mE.1 (pq p k) = m.1 (pq p k) := fun k h1 h2 h3 => by rw [← hE, rtS_1 (fun c => pq_n (by omega) c.symm) (pq_inj h2) (pq_inj h3)]; exact tq k h1 h3
  have eg : ∀ k, k < 2000 → k ≠ 1105 → mE.1 k = mT.1 k := fun k h0 h1 => by rw [← hE, rtS_1 h1 (pq_n h0) (pq_n h0)]
  have eF : ∀ k, k ≠ 13 → k ≠ 24 → k ≠ 26 → F mE (pq p k) = F m (pq p k) := fun k h1 h2 h3 => congrArg Int32.toInt (eq k h1 h2 h3)
  have e24 : F mE (pq p 24) = ((nb j : Nat) : Int) := by rw [← hE, rtS_24 (by omega)]
  refine l_bnd (pk_mo (hold_m (N := N) (m := mE) (L := L) (ad := ad) (uu := uu) (B := nb j) hv (by omega) (by rw [eJ 2 (by omega)]; exact hc0) (by rw [show F mE 449 = F mT 449 from congrArg Int32.toInt (eg 449 (by omega) (by omega)), tF 449 (by omega) (by omega) (by omega)]; exact h449) hu ((eAa 32 uu (by omega)).trans f32) had ((eAa 23 ad (by omega)).trans fL) e24 ⟨by rw [eF 43 (by omega) (by omega) (by omega)]; exact h43.1, by rw [eF 42 (by omega) (by omega) (by omega)]; exact h43.2⟩) (fun m4 _ h => ?_))
  obtain ⟨fx, q44, q24, q43, q32, q33⟩ := h
  have fm : DFm (toS m p src ar) m4 p j (nb j) P0 src ar e L (-1) H := by
    have xq : ∀ k, k < 100 → k ≠ 24 → k ≠ 42 → k ≠ 43 → m4.1 (pq p k) = mE.1 (pq p k) := fun k h0 h1 h2 h3 => fx.2.2.2.2.1 p k h0 (fun _ => by simp; omega)
    have xg : ∀ k, k < 2000 → m4.1 k = mE.1 k := fun k h => fx.1 k h (by simp)
    have nS : ∀ k, k < 2000 → F (toS m p src ar) k = F m k := fun k h => congrArg Int32.toInt (toS_1 (pq_n h))
    refine ⟨⟨fun k h0 h1 h2 h3 h4 h5 => ?_, fun k h0 h1 h2 h3 => ?_, ?_, ?_, ?_, q24, ?_⟩, ⟨fun K h => ?_, fun k h0 h1 h2 => ?_, fun i hi => ?_, fun i x hx => ?_, fun i => ?_⟩, fun k h0 h1 h2 => ?_, fun i hi => ?_, fun i hi => ?_⟩
    · rw [xq k h0 h2 h4 h5, eq k h1 h2 h3, toS_1 (pq_inj h3)]
    · rw [xg k h0, eg k h0 h1, t1 k h0 h2 h3, toS_1 (pq_n h0)]
    · rw [xg 1106 (by omega), eg 1106 (by omega) (by omega), ← hT, toS_1 (pq_n (by omega)), cnM_06, nS 1106 (by omega)]
    · rw [xq 13 (by omega) (by omega) (by omega) (by omega), ← hE, rtS_1 (fun c => pq_n (by omega) c.symm) (pq_inj (by omega)) (pq_inj (by omega)), ← hT, toS_1 (pq_inj (by omega)), cnM_13, show F (toS m p src ar) (pq p 13) = F m (pq p 13) from congrArg Int32.toInt (toS_1 (pq_inj (by omega)))]
    · rw [show F m4 (pq p 26) = F mE (pq p 26) from congrArg Int32.toInt (xq 26 (by omega) (by omega) (by omega) (by omega)), ← hE, rtS_26 (by omega)]
    · rw [show F m4 1105 = F mE 1105 from congrArg Int32.toInt (xg 1105 (by omega)), ← hE, rtS_05 ⟨by omega, by omega⟩]
    · rw [fx.2.2.1 K h (by simp), eA K h]
      rfl
    · rw [fx.2.2.2.2.2.2.1 p k h0 (fun _ => by simp; omega), ← hE, rtS_A (pq_inj h1), tA]
      rfl
    · show (m4.2.2.1 (pq p 32) i).toInt = (m.2.2.1 (pq p 32) i).toInt
      rw [q32 i (by omega), if_pos hi, ← hE, rtS_A (pq_inj (by omega)), tA]
    · have hi : i < L := by
        rcases Nat.lt_or_ge i H.length with h | h
        · omega
        · rw [List.getElem?_eq_none h] at hx
          cases hx
      show (m4.2.2.1 (pq p 32) (nb j + i)).toInt = _
      rw [q32 (nb j + i) (by omega), if_neg (by omega), show nb j + i - nb j = i by omega, eAa 23 _ (by omega), nm i x hx]
      have := A_r m 23 (ad + 1 + i)
      rw [nm i x hx] at this
      exact I_ti this.1 this.2
    · rw [show A m4 (pq p 30) i = A mE (pq p 30) i from by show (m4.2.2.1 (pq p 30) i).toInt = _; rw [fx.2.2.2.2.2.2.1 p 30 (by omega) (fun _ => by simp)]; rfl, ← hE, rtS_30 ⟨by omega, by omega⟩ ⟨by omega, by omega⟩, tAa]
      rfl
    · rw [fx.2.2.2.2.2.2.2 p k h0 (fun _ => by simp; omega), eJ k h2, toS_J (pq_inj h2)]
    · rw [q33 i (by omega), if_pos hi, eJ 33 (by omega), toS_J (pq_inj (by omega))]
    · rw [fx.2.2.2.2.2.2.2 p 35 (by omega) (fun _ => by simp), e35]
      by_cases c : P0 ≤ i
      · rw [if_pos ⟨c, hi⟩, if_pos c]
      · rw [if_neg (by omega), if_neg c]
  have gm : GGm p (cbM m) m4 := by
    refine GGm.tr (GGm.tr (GGm.tr GGm_cn (GGm_toS (P0 := src) (ar := ar))) (m3 := mE) ?_) (GGm_fc fx (by simp) (by simp) (by simp))
    rw [hT, ← hE]
    exact GGm_rtS
  rw [one_13]
  refine r_bb ?_
  refine call_13u (P0 := src) (c := c) hpp (by omega) h26 r11 pl.2.2.1.2.1 hW hx sx hv' (by omega) hd (by omega) h53 hc h41 ?_
  have x33 : F (wi w 166 1) 133 = ((p : Nat) : Int) := by rw [wi_ne (by omega)]; exact r11
  refine call_go (j1 := j) (tl := 1) hpp (by omega) x33 f2 f3 hne h30 (Or.inl rfl) ?_
  have e165 : F (wi w 166 1) 165 = F w 165 := wi_ne (by omega)
  have e119 : F (wi w 166 1) 119 = F w 119 := wi_ne (by omega)
  rw [e165, e119, show A (wi w 166 1) 114 p = A w 114 p from rfl]
  generalize hw1 : wa (wa (wi (wi (wi w 166 1) 165 (F w 165 + 1)) 119 (F w 119 + 1)) 114 p (A w 114 p + 1)) 98 (60 * p + j) ((n + 1 : Nat) : Int) = w1
  have a1 : ∀ K i, K ≠ 114 → K ≠ 98 → A w1 K i = A w K i := fun K i h1 h2 => by rw [← hw1, wa_rne h2, wa_rne h1]; rfl
  have i1 : ∀ l, l ≠ 166 → l ≠ 165 → l ≠ 119 → w1.1 l = w.1 l := fun l h1 h2 h3 => by
    rw [← hw1]
    show (wi (wi (wi w 166 1) 165 (F w 165 + 1)) 119 (F w 119 + 1)).1 l = _
    rw [wi_1 h3, wi_1 h2, wi_1 h1]
  have i165 : w1.1 165 = I (F w 165 + 1) := by
    rw [← hw1]
    show (wi (wi (wi w 166 1) 165 (F w 165 + 1)) 119 (F w 119 + 1)).1 165 = _
    rw [wi_1 (by omega)]
    exact wi_s1
  have i119 : w1.1 119 = I (F w 119 + 1) := by
    rw [← hw1]
    show (wi (wi (wi w 166 1) 165 (F w 165 + 1)) 119 (F w 119 + 1)).1 119 = _
    exact wi_s1
  have i166 : F w1 166 = 1 := by
    rw [← hw1]
    show F (wi (wi (wi w 166 1) 165 (F w 165 + 1)) 119 (F w 119 + 1)) 166 = 1
    rw [wi_ne (by omega), wi_ne (by omega), wi_sm (by omega) (by omega)]
  have j1J : w1.2.2.2 = w.2.2.2 := by rw [← hw1]; rfl
  have hpw : hp w1 p = hp w p := by
    funext k
    show w1.2.2.2 88 (500 * p + k) = _
    rw [j1J]
    rfl
  have y33 : F w1 133 = ((p : Nat) : Int) := (congrArg Int32.toInt (i1 133 (by omega) (by omega) (by omega))).trans r11
  refine frTH_r (P0 := P0) (src := src) (nbj := nb j) (j := j) (L := L) (v := v') (x := x) hpp (by omega) y33 i166 ((a1 92 p (by omega) (by omega)).trans pl.2.2.1.2.1) hW hP ((a1 95 p (by omega) (by omega)).trans f2) f3 ((a1 100 _ (by omega) (by omega)).trans h100) ((a1 99 _ (by omega) (by omega)).trans g4) hB2 (by rw [j1J]; exact hx) hv' hv2' (by rw [hpw]; exact hL') (fun u u2 fr r f2' r2' => ?_)
  generalize hw3 : wa u2 94 p ((nb j + L : Nat) : Int) = w3
  have uR : ∀ K, u.2.2.1 K = w1.2.2.1 K := fun K => fr.2.2.1 K (by simp)
  have u2R : ∀ K, u2.2.2.1 K = (wa (frmW u p j (-1) P0 (nb j) (P0 + ar)) 101 (60 * p + j) ((L : Nat) : Int)).2.2.1 K := fun K => f2'.2.2.1 K (by simp)
  have w3i : w3.1 = w1.1 := by
    rw [← hw3]
    funext l
    show u2.1 l = _
    rw [f2'.1 l (by simp)]
    show u.1 l = _
    rw [fr.1 l (by simp)]
  have w3J : ∀ K, K ≠ 93 → K ≠ 91 → w3.2.2.2 K = w.2.2.2 K := fun K h1 h2 => by
    rw [← hw3]
    show u2.2.2.2 K = _
    rw [f2'.2.2.2 K (by simpa using h1)]
    show u.2.2.2 K = _
    rw [fr.2.2.2 K (by simpa using h2), j1J]
  have w391 : ∀ i, w3.2.2.2 91 i = if 46000 * p + P0 ≤ i ∧ i < 46000 * p + P0 + ar then w.2.2.2 91 (i + (src + 1 - P0)) else w.2.2.2 91 i := fun i => by
    rw [← hw3]
    show u2.2.2.2 91 i = _
    rw [f2'.2.2.2 91 (by simp)]
    show u.2.2.2 91 i = _
    rw [r i, j1J]
  have w393 : ∀ q, w3.2.2.2 93 q = if 2500 * p + nb j ≤ q ∧ q < 2500 * p + nb j + L then hp w p (v' + 2 + (q - (2500 * p + nb j))) else w.2.2.2 93 q := fun q => by
    rw [← hw3]
    show u2.2.2.2 93 q = _
    rw [r2' q, hpw, j1J]
  have w393b : ∀ i, i < nb j → w3.2.2.2 93 (2500 * p + i) = w.2.2.2 93 (2500 * p + i) := fun i hi => by rw [w393, if_neg (by omega)]
  have w393o : ∀ i, ¬ (2500 * p ≤ i ∧ i < 2500 * p + 2500) → w3.2.2.2 93 i = w.2.2.2 93 i := fun i hi => by rw [w393, if_neg (by omega)]
  have row : ∀ K i, ¬ (K = 94 ∧ i = p) → ¬ (K = 101 ∧ i = 60 * p + j) → ¬ (K = 99 ∧ i = 60 * p + j) → ¬ (K = 100 ∧ i = 60 * p + j) → ¬ (K = 97 ∧ i = 60 * p + j) → ¬ (K = 96 ∧ i = 60 * p + j) → ¬ (K = 92 ∧ i = p) → ¬ (K = 98 ∧ i = 60 * p + j) → ¬ (K = 114 ∧ i = p) → w3.2.2.1 K i = w.2.2.1 K i := fun K i h1 h2 h3 h4 h5 h6 h7 h9 h10 => by
    rw [← hw3, wa_at h1, u2R, wa_at h2]
    unfold frmW
    rw [wa_at h2, wa_at h1, wa_at h3, wa_at h4, wa_at h5, wa_at h6, wa_at h7, uR, ← hw1, wa_at h9, wa_at h10]
    rfl
  have rd : ∀ K i, K ≠ 94 → K ≠ 101 → A w3 K i = A (frmW u p j (-1) P0 (nb j) (P0 + ar)) K i := fun K i h1 h2 => by
    rw [← hw3, wa_rne h1]
    show (u2.2.2.1 K i).toInt = _
    rw [u2R, wa_21 h2]
    rfl
  have v101 : A w3 101 (60 * p + j) = ((L : Nat) : Int) := by
    rw [← hw3, wa_rne (by omega)]
    show (u2.2.2.1 101 (60 * p + j)).toInt = _
    rw [u2R]
    exact wa_sm (u := frmW u p j (-1) P0 (nb j) (P0 + ar)) (by omega) (by omega)
  have v94 : A w3 94 p = ((nb j + L : Nat) : Int) := by rw [← hw3]; exact wa_sm (by omega) (by omega)
  have v114 : w3.2.2.1 114 p = I (A w 114 p + 1) := by
    rw [← hw3, wa_21 (by omega), u2R, wa_21 (by omega)]
    unfold frmW
    rw [wa_21 (by omega), wa_21 (by omega), wa_21 (by omega), wa_21 (by omega), wa_21 (by omega), wa_21 (by omega), wa_21 (by omega), uR, ← hw1, wa_21 (by omega), wa_s1]
  have w3R : ∀ K, K ≠ 92 → K ≠ 94 → K ≠ 96 → K ≠ 97 → K ≠ 98 → K ≠ 99 → K ≠ 100 → K ≠ 101 → K ≠ 114 → w3.2.2.1 K = w.2.2.1 K := fun K h1 h2 h4 h5 h6 h7 h8 h9 h10 => by
    funext i
    exact row K i (by omega) (by omega) (by omega) (by omega) (by omega) (by omega) (by omega) (by omega) (by omega)
  have w3A : ∀ K i, 96 ≤ K → K ≤ 101 → i ≠ 60 * p + j → w3.2.2.1 K i = w.2.2.1 K i := fun K i h1 h2 h3 => row K i (by omega) (by omega) (by omega) (by omega) (by omega) (by omega) (by omega) (by omega) (by omega)
  have o1 : ∀ K i, (K = 92 ∨ K = 94 ∨ K = 114) → i ≠ p → w3.2.2.1 K i = w.2.2.1 K i := fun K i h1 h2 => row K i (by omega) (by omega) (by omega) (by omega) (by omega) (by omega) (by omega) (by omega) (by omega)
  have v99 : A w3 99 (60 * p + j) = ((nb j : Nat) : Int) := by
    rw [rd 99 _ (by omega) (by omega)]
    unfold frmW
    rw [wa_rne (by omega), wa_rne (by omega), wa_sm (by omega) (by omega)]
  have v100 : A w3 100 (60 * p + j) = ((P0 : Nat) : Int) := by
    rw [rd 100 _ (by omega) (by omega)]
    unfold frmW
    rw [wa_rne (by omega), wa_rne (by omega), wa_rne (by omega), wa_sm (by omega) (by omega)]
  have v97 : A w3 97 (60 * p + j) = -1 := by
    rw [rd 97 _ (by omega) (by omega)]
    unfold frmW
    rw [wa_rne (by omega), wa_rne (by omega), wa_rne (by omega), wa_rne (by omega), wa_sm (by omega) (by omega)]
  have v96 : A w3 96 (60 * p + j) = (-1) := by
    rw [rd 96 _ (by omega) (by omega)]
    unfold frmW
    rw [wa_rne (by omega), wa_rne (by omega), wa_rne (by omega), wa_rne (by omega), wa_rne (by omega), wa_sm (by omega) (by omega)]
  have v92 : A w3 92 p = ((P0 + ar : Nat) : Int) := by
    rw [rd 92 _ (by omega) (by omega)]
    unfold frmW
    rw [wa_rne (by omega), wa_rne (by omega), wa_rne (by omega), wa_rne (by omega), wa_rne (by omega), wa_rne (by omega), wa_sm (by omega) (by omega)]
  have v95 : A w3 95 p = ((j + 1 : Nat) : Int) := by
    show (w3.2.2.1 95 p).toInt = _
    rw [w3R 95 (by omega) (by omega) (by omega) (by omega) (by omega) (by omega) (by omega) (by omega) (by omega)]
    exact f2
  have z33 : F w3 133 = ((p : Nat) : Int) := by show (w3.1 133).toInt = _; rw [w3i]; exact y33
  have fw : DFw (toW w p src ar) w3 p j (nb j) P0 src ar L (-1) := by
    refine ⟨⟨fun l h1 h2 h3 => by rw [w3i]; exact i1 l h1 h2 h3, by rw [w3i]; exact i165⟩, ⟨fun K h h' => by rw [w3J K h h', toW_J h'], fun i hi => ?_, fun i hi => ?_⟩, fun K h1 h2 h3 h4 h5 h6 h7 h8 h9 => by rw [w3R K h1 h2 h3 h4 h5 h6 h7 h8 h9, toW_A h1], fun K i h1 h2 h3 => by rw [w3A K i h1 h2 h3, toW_A (by omega)], ⟨v92, v94, v96, v97, v99, v100, v101⟩, ?_⟩
    · rw [w393b i hi, toW_J (by omega)]
    · rw [w391, toW_91, toW_91]
      by_cases c : P0 ≤ i
      · rw [if_pos (by omega), if_pos c, if_pos (by omega), show 46000 * p + i + (src + 1 - P0) = 46000 * p + (src + (i - P0)) + 1 by omega]
      · rw [if_neg (by omega), if_neg c, if_neg (by omega)]
    · rw [v114]
      congr 2
  have pr : ∀ K, PRr K → w3.2.2.1 K = w.2.2.1 K := fun K h => by
    unfold PRr at h
    exact w3R K (by omega) (by omega) (by omega) (by omega) (by omega) (by omega) (by omega) (by omega) (by omega)
  have prT : ∀ K, PRr K → (toW w p src ar).2.2.1 K = w.2.2.1 K := fun K h => toW_A (by unfold PRr at h; omega)
  have ruN : RUs (toS m p src ar) (toW w p src ar) p j nb Hs Os none a n := RUs_mv ru FGm_toS (FGw_toW hW) (by rw [show F (toS m p src ar) 1105 = F m 1105 from congrArg Int32.toInt (toS_1 (pq_n (by omega)))]; exact r2) (by show ((toW w p src ar).2.2.1 98 (60 * p + j)).toInt = _; rw [toW_A (by omega)]; exact r3) ⟨f0, cr0⟩
  rw [show decide ((-1 : Int32) = -1) = true from rfl, br_tq]
  refine rb_ck (fun _ => ?_)
  have v53 : A w3 53 uu = ((c : Nat) : Int) := by show (w3.2.2.1 53 uu).toInt = _; rw [pr 53 (by unfold PRr; omega)]; exact h53
  rw [tnI (n := uu) rfl (by omega), I_A' v53]
  refine clof_r (j := j) (a := L) (nbn := nb j) hpp z33 v95 f3 v99 v101 ?_
  have core := callTH_core (c := c) (e := e) (H := H) (L := L) (PLs_to pl hW) ruN hP (by show ((toW w p src ar).2.2.1 100 (60 * p + j)).toInt = _; rw [toW_A (by omega)]; exact h100) (fun nC c' h1 h2 => by
    show ((toW w p src ar).2.2.1 102 (1600 * p + c')).toInt < _
    rw [toW_A (by omega)]
    exact hct nC c' ((congrArg Int32.toInt (toS_1 (m := m) (P0 := src) (ar := ar) (pq_inj (by omega)))).symm.trans h1) h2) hB2 (by omega) fm fw hH nd (fun i hi => by
    rw [q33 (nb j + i) (by omega), if_neg (by omega), show nb j + i - nb j = i by omega, eJ 2 (by omega), w393, if_pos (by omega), show 2500 * p + (nb j + i) - (2500 * p + nb j) = i by omega]
    exact hcs i hi) (by rw [ROs_eq prT, toW_J (by omega)]; exact zr)
  obtain ⟨tr, pl4, sc4⟩ := core
  refine k _ _ tr pl4 gm ?_ (fun s => sc4 (SC_fg s FGm_toS (FGw_toW (j := j) hW))) ⟨w3J 88 (by omega) (by omega), by rw [wi_1 (by omega), wi_1 (by omega), wi_1 (by omega), wi_1 (by omega), w3i]; exact i1 140 (by omega) (by omega) (by omega)⟩
  generalize hw4 : wi (wi (wi (wi w3 153 0) 155 ((c : Nat) : Int)) 154 ((c : Nat) : Int)) 156 ((nb j + L : Nat) : Int) = w4
  have w42 : w4.2 = w3.2 := by rw [← hw4]; rfl
  have w41 : ∀ l, l ≠ 153 → l ≠ 154 → l ≠ 155 → l ≠ 156 → w4.1 l = w3.1 l := fun l h1 h2 h3 h4 => by rw [← hw4, wi_1 h4, wi_1 h2, wi_1 h3, wi_1 h1]
  have ow : ∀ r K i, K ≠ 92 → K ≠ 94 → K ≠ 114 → (96 ≤ K → K ≤ 101 → r ≠ p → 60 * r ≤ i ∧ i < 60 * r + 60) → r ≠ p → w4.2.2.1 K i = w.2.2.1 K i := fun r K i h1 h2 h4 h5 h6 => by
    rw [w42]
    by_cases c : 96 ≤ K ∧ K ≤ 101
    · have := h5 c.1 c.2 h6
      exact w3A K i c.1 c.2 (by omega)
    · rw [w3R K h1 h2 (by omega) (by omega) (by omega) (by omega) (by omega) (by omega) h4]
  have wi1 : ∀ l, l ≤ 132 ∨ l = 150 ∨ l = 164 ∨ l = 165 → w4.1 l = (cbW w).1 l := fun l hl => by
    rw [w41 l (by omega) (by omega) (by omega) (by omega), w3i]
    unfold cbW
    by_cases c : l = 119
    · subst c
      rw [i119, wi_1 (by omega), wi_s1]
    · by_cases c5 : l = 165
      · subst c5
        rw [i165, wi_s1]
      · rw [i1 l (by omega) c5 c, wi_1 c5, wi_1 c]
  refine ⟨fun d hd => ⟨fun K i h => ?_, fun K h => ?_, fun i _ _ => ?_, by rw [w42, w3J 111 (by omega) (by omega)]; rfl, fun i _ _ => by rw [w42, w3J 88 (by omega) (by omega)]; rfl, fun i h1 h2 => ?_, fun i h1 h2 => ?_, fun i _ _ => by rw [w42, w3J 107 (by omega) (by omega)]; rfl⟩, ⟨fun K h => by rw [w42]; exact pr K h, by rw [w42, w3J 34 (by omega) (by omega)]; rfl, ?_, ?_, wi1 14 (by omega)⟩, wi1 150 (by omega), fun K h => ?_, by rw [w42, w3J 148 (by omega) (by omega)]; rfl, fun K h => ?_, fun l h => wi1 l (by omega)⟩
  · show w4.2.2.1 K i = w.2.2.1 K i
    by_cases c : K = 92 ∨ K = 94 ∨ K = 114
    · rw [w42]
      refine o1 K i c ?_
      unfold OWi at h
      omega
    · refine ow d K i (by omega) (by omega) (by omega) (fun h1 h2 _ => ?_) hd
      unfold OWi at h
      omega
  · exact ow d K d (by omega) (by omega) (by omega) (fun h1 h2 _ => by omega) hd
  · exact ow d 131 i (by omega) (by omega) (by omega) (fun h1 h2 _ => by omega) hd
  · rw [w42, w391 i, if_neg (by omega)]
    rfl
  · rw [w42, w393o i (by omega)]
    rfl
  · show w4.2.2.1 12 = w.2.2.1 12
    rw [w42]
    exact w3R 12 (by omega) (by omega) (by omega) (by omega) (by omega) (by omega) (by omega) (by omega) (by omega)
  · show w4.2.2.1 13 = w.2.2.1 13
    rw [w42]
    exact w3R 13 (by omega) (by omega) (by omega) (by omega) (by omega) (by omega) (by omega) (by omega) (by omega)
  · show w4.2.2.1 K = w.2.2.1 K
    rw [w42]
    exact w3R K (by omega) (by omega) (by omega) (by omega) (by omega) (by omega) (by omega) (by omega) (by omega)
  · show w4.2.2.1 K = w.2.2.1 K
    rw [w42]
    exact w3R K (by omega) (by omega) (by omega) (by omega) (by omega) (by omega) (by omega) (by omega) (by omega)
end
end
section
set_option maxRecDepth 100000
section
variable {α β : Type} {b : Int → Nat → Nat → Prop} {N p U B Y j a n ar P0 src l v v' uu ff e ad L c : Nat} {m w : MS} {t x : Int64} {nb : Nat → Nat} {Hs Os : Nat → List Nat} {H : List Nat} {Q : MS → α → MS → β → Prop} {K1 : MS → Option (MS × α)} {K2 : MS → Option (MS × β)}
theorem op_applyTF (hpp : p < 24) (pl : PLs b p m w U B (src + 1 + ar) Y) (ru : RUs m w p j nb Hs Os none a n) (hW : src + 1 + ar ≤ 46000) (hP : P0 ≤ src) (h100 : A w 100 (60 * p + j) = ((P0 : Nat) : Int)) (hct : ∀ nC c : Nat, F m (pq p 28) = ((nC : Nat) : Int) → c < nC → A w 102 (1600 * p + c) < ((j : Nat) : Int)) (hB2 : nb j + 0 ≤ 2500) (hlt : F m 1106 < F m 1107) (ha : a + 2 < 24000) (hl : F m (pq p 45) = ((l : Nat) : Int)) (hl2 : src + 1 + ar ≤ l ∧ l ≤ 1000000) (c1 : A m 23 (a + 1) = ((ar : Nat) : Int)) (h26 : A w 26 n = ((ar : Nat) : Int)) (h30 : A w 30 n = 1)
    (ht : m.2.2.2 (pq p 35) src = t) (hx : w.2.2.2 91 (46000 * p + src) = x) (st : so t = 3) (sx : so x = 3) (hv : va t = ((v : Nat) : Int)) (hv' : va x = ((v' : Nat) : Int)) (hv2 : v < 500) (hv2' : v' < 500) (hc0 : va (m.2.2.2 (pq p 2) v) = ((1000000 + ff : Nat) : Int)) (hd : (hp w p v').toInt = -1 - ((ff : Nat) : Int))
    (h442 : ((ff : Nat) : Int) < F m 442) (hu : ff < 666) (h449 : F m 449 ≤ 400) (f25 : A m 25 ff = ((ar : Nat) : Int)) (f29 : A m 29 ff = ((e : Nat) : Int)) (h50 : A w 50 ff = ((c : Nat) : Int)) (hc : c < 100000) (h48 : A w 48 ff = ((ar : Nat) : Int)) (zr : ∃ g g2, ZRs (A m 23) (ROs w) (w.2.2.2 34) (CRs (A m 23) (ROs w) (w.2.2.2 34) g) 0 0 [] [] g2 e ((c : Nat) : Int))
    (k : ∀ m4 w4, TRs m4 w4 p j nb (upf Hs j []) (upf Os j []) 0 0 e ((c : Nat) : Int) → PLs b p m4 (wa w4 94 p ((nb j + 0 : Nat) : Int)) U (nb j + 0) (P0 + ar) Y → GGm p (cbM m) m4 → GGw p (cbW w) w4 → (SCs p m w → SCs p m4 w4) → (w4.2.2.2 88 = w.2.2.2 88 ∧ w4.1 140 = w.1 140) → PP Q (K1 m4) (bnd (gg_M_choose N (rc_M_error N 19) N w4 1) (fun u _ => K2 u))) : PP Q (bnd (hm_Ma_flow N m p (I 28)) (fun u _ => K1 u)) (bnd (fm_M_one N w (I ((n : Nat) : Int)) (I 13)) (fun u _ => K2 u)) := by
  obtain ⟨⟨fa, ct⟩, ⟨r2, r3⟩, ⟨f0, cr0⟩, ⟨r5, r6⟩, r7, ⟨r8, r9, r10⟩, r11, r12, r13⟩ := id ru
  have cb := CR_b cr0
  obtain ⟨⟨f1, f2, f3⟩, f4, f5, f6⟩ := id fa
  have ebd : e + 1 < 24000 := by
    obtain ⟨g, g2, z⟩ := zr
    cases g2 with
    | zero => exact z.elim
    | succ g2 => exact z.1
  have hne : (wi w 166 1).1 165 ≠ (wi w 166 1).1 164 := by
    rw [wi_1 (by omega), wi_1 (by omega), ← r12, ← r13]
    intro c
    have := congrArg Int32.toInt c
    have h1 : F m 1106 = (m.1 1106).toInt := rfl
    have h2 : F m 1107 = (m.1 1107).toInt := rfl
    omega
  obtain ⟨-, -, ⟨g3, g4⟩, g5, -, -⟩ := f4 j (Nat.le_refl _)
  rw [h100] at g5
  have t1 : ∀ k, k < 2000 → k ≠ 1106 → k ≠ 946 → (toS (cnM m p) p src ar).1 k = m.1 k := fun k h0 h1 h2 => (toS_1 (pq_n h0)).trans (cnM_1 h0 h1 h2)
  have tF : ∀ k, k < 2000 → k ≠ 1106 → k ≠ 946 → F (toS (cnM m p) p src ar) k = F m k := fun k h0 h1 h2 => congrArg Int32.toInt (t1 k h0 h1 h2)
  have tq : ∀ k, k ≠ 13 → k ≠ 26 → (toS (cnM m p) p src ar).1 (pq p k) = m.1 (pq p k) := fun k h1 h2 => (toS_1 (pq_inj h2)).trans (cnM_q h1)
  have en := entry_f (N := N) (p := p) (m := toS (cnM m p) p src ar) (uu := ff) (by rw [tF 442 (by omega) (by omega) (by omega)]; exact h442) hu
  have e31 : A (toS (cnM m p) p src ar) 29 ff = ((e : Nat) : Int) := f29
  rw [e31] at en
  have tk := takes_f (N := N) h442 hu
  rw [f25] at tk
  rw [apl_28, I_F' r2, show I ((a : Nat) : Int) + 1 = I ((a + 1 : Nat) : Int) from addN, Co_e (k := a + 1) rfl (by omega), bnd_so, c1, apT_m (src := src) (P0 := P0) (B := nb j) (cc := 1000000 + ff) (ff := ((ff : Nat) : Int)) hlt r2 ha f1 f3 g5 g3 pl.2.2.1.1 hP hl hl2 ht st hv (by omega) hc0 tk en.2 en.1]
  refine l_bb (l_bb ?_)
  show PP Q (bnd (hm_Ma_hold N (rtS (toS (cnM m p) p src ar) p j (nb j) P0 src ar ((ff : Nat) : Int) ((e : Nat) : Int)) p p (pq p 2) t) _) _
  generalize hT : toS (cnM m p) p src ar = mT at t1 tF tq
  have tJ : ∀ k, k ≠ 35 → mT.2.2.2 (pq p k) = m.2.2.2 (pq p k) := fun k h => by rw [← hT, toS_J (pq_inj h)]; rfl
  have t35 : mT.2.2.2 (pq p 35) = (toS m p src ar).2.2.2 (pq p 35) := by
    rw [← hT]
    show (if pq p 35 = pq p 35 then _ else _) = (if pq p 35 = pq p 35 then _ else _)
    rw [if_pos rfl, if_pos rfl]
    rfl
  have tA : mT.2.2.1 = m.2.2.1 := by rw [← hT]; rfl
  have tAa : ∀ K i, A mT K i = A m K i := fun K i => by show (mT.2.2.1 K i).toInt = _; rw [tA]; rfl
  generalize hE : rtS mT p j (nb j) P0 src ar ((ff : Nat) : Int) ((e : Nat) : Int) = mE
  have eA : ∀ K, K < 2000 → mE.2.2.1 K = m.2.2.1 K := fun K h => by rw [← hE, rtS_A (pq_n h), tA]
  have eAa : ∀ K i, K < 2000 → A mE K i = A m K i := fun K i h => by show (mE.2.2.1 K i).toInt = _; rw [eA K h]; rfl
  have eJ : ∀ k, k ≠ 35 → mE.2.2.2 (pq p k) = m.2.2.2 (pq p k) := fun k h => by rw [← hE, rtS_J (pq_inj h), tJ k h]
  have e35 : ∀ i, mE.2.2.2 (pq p 35) i = if P0 ≤ i ∧ i < P0 + ar then (toS m p src ar).2.2.2 (pq p 35) (src + (i - P0)) else (toS m p src ar).2.2.2 (pq p 35) i := fun i => by rw [← hE, rtS_35, t35]
  have eq : ∀ k, k ≠ 13 → k ≠ 24 → k ≠ 26 → mE.1 (pq p k) = m.1 (pq p k) := fun k h1 h2 h3 => by rw [← hE, rtS_1 (fun c => pq_n (by omega) c.symm) (pq_inj h2) (pq_inj h3)]; exact tq k h1 h3
  have eg : ∀ k, k < 2000 → k ≠ 1105 → mE.1 k = mT.1 k := fun k h0 h1 => by rw [← hE, rtS_1 h1 (pq_n h0) (pq_n h0)]
  have eF : ∀ k, k ≠ 13 → k ≠ 24 → k ≠ 26 → F mE (pq p k) = F m (pq p k) := fun k h1 h2 h3 => congrArg Int32.toInt (eq k h1 h2 h3)
  have e24 : F mE (pq p 24) = ((nb j : Nat) : Int) := by rw [← hE, rtS_24 (by omega)]
  refine l_bnd (pk_mo (hold_0 (N := N) (m := mE) (uu := ff) hv (by omega) (by rw [eJ 2 (by omega)]; exact hc0) (by omega) (by rw [show F mE 449 = F mT 449 from congrArg Int32.toInt (eg 449 (by omega) (by omega)), tF 449 (by omega) (by omega) (by omega)]; exact h449)) (fun m4 _ h => ?_))
  subst h
  have fm : DFm (toS m p src ar) m4 p j (nb j) P0 src ar e 0 ((ff : Nat) : Int) [] := by
    have nS : ∀ k, k < 2000 → F (toS m p src ar) k = F m k := fun k h => congrArg Int32.toInt (toS_1 (pq_n h))
    refine ⟨⟨fun k h0 h1 h2 h3 h4 h5 => ?_, fun k h0 h1 h2 h3 => ?_, ?_, ?_, ?_, e24, ?_⟩, ⟨fun K h => ?_, fun k h0 h1 h2 => ?_, fun i hi => ?_, fun i x hx => by simp at hx, fun i => ?_⟩, fun k h0 h1 h2 => ?_, fun i hi => ?_, fun i hi => ?_⟩
    · rw [eq k h1 h2 h3, toS_1 (pq_inj h3)]
    · rw [eg k h0 h1, t1 k h0 h2 h3, toS_1 (pq_n h0)]
    · rw [eg 1106 (by omega) (by omega), ← hT, toS_1 (pq_n (by omega)), cnM_06, nS 1106 (by omega)]
    · rw [← hE, rtS_1 (fun c => pq_n (by omega) c.symm) (pq_inj (by omega)) (pq_inj (by omega)), ← hT, toS_1 (pq_inj (by omega)), cnM_13, show F (toS m p src ar) (pq p 13) = F m (pq p 13) from congrArg Int32.toInt (toS_1 (pq_inj (by omega)))]
    · rw [← hE, rtS_26 (by omega)]
    · rw [← hE, rtS_05 ⟨by omega, by omega⟩]
    · rw [eA K h]
      rfl
    · rw [← hE, rtS_A (pq_inj h1), tA]
      rfl
    · show (m4.2.2.1 (pq p 32) i).toInt = (m.2.2.1 (pq p 32) i).toInt
      rw [← hE, rtS_A (pq_inj (by omega)), tA]
    · rw [← hE, rtS_30 ⟨by omega, by omega⟩ ⟨by omega, by omega⟩, tAa]
      rfl
    · rw [eJ k h2, toS_J (pq_inj h2)]
    · rw [eJ 33 (by omega), toS_J (pq_inj (by omega))]
    · rw [e35]
      by_cases c : P0 ≤ i
      · rw [if_pos ⟨c, hi⟩, if_pos c]
      · rw [if_neg (by omega), if_neg c]
  have gm : GGm p (cbM m) m4 := by
    refine GGm.tr (GGm.tr GGm_cn (GGm_toS (P0 := src) (ar := ar))) ?_
    rw [hT, ← hE]
    exact GGm_rtS
  rw [one_13]
  refine r_bb ?_
  refine call_13f (P0 := src) (ff := ff) hpp (by omega) h26 r11 pl.2.2.1.2.1 hW hx sx hv' (by omega) hd (by omega) h48 ?_
  have x33 : F (wi w 166 1) 133 = ((p : Nat) : Int) := by rw [wi_ne (by omega)]; exact r11
  refine call_go (j1 := j) (tl := 1) hpp (by omega) x33 f2 f3 hne h30 (Or.inl rfl) ?_
  have e165 : F (wi w 166 1) 165 = F w 165 := wi_ne (by omega)
  have e119 : F (wi w 166 1) 119 = F w 119 := wi_ne (by omega)
  rw [e165, e119, show A (wi w 166 1) 114 p = A w 114 p from rfl]
  generalize hw1 : wa (wa (wi (wi (wi w 166 1) 165 (F w 165 + 1)) 119 (F w 119 + 1)) 114 p (A w 114 p + 1)) 98 (60 * p + j) ((n + 1 : Nat) : Int) = w1
  have a1 : ∀ K i, K ≠ 114 → K ≠ 98 → A w1 K i = A w K i := fun K i h1 h2 => by rw [← hw1, wa_rne h2, wa_rne h1]; rfl
  have i1 : ∀ l, l ≠ 166 → l ≠ 165 → l ≠ 119 → w1.1 l = w.1 l := fun l h1 h2 h3 => by
    rw [← hw1]
    show (wi (wi (wi w 166 1) 165 (F w 165 + 1)) 119 (F w 119 + 1)).1 l = _
    rw [wi_1 h3, wi_1 h2, wi_1 h1]
  have i165 : w1.1 165 = I (F w 165 + 1) := by
    rw [← hw1]
    show (wi (wi (wi w 166 1) 165 (F w 165 + 1)) 119 (F w 119 + 1)).1 165 = _
    rw [wi_1 (by omega)]
    exact wi_s1
  have i119 : w1.1 119 = I (F w 119 + 1) := by
    rw [← hw1]
    show (wi (wi (wi w 166 1) 165 (F w 165 + 1)) 119 (F w 119 + 1)).1 119 = _
    exact wi_s1
  have i166 : F w1 166 = 1 := by
    rw [← hw1]
    show F (wi (wi (wi w 166 1) 165 (F w 165 + 1)) 119 (F w 119 + 1)) 166 = 1
    rw [wi_ne (by omega), wi_ne (by omega), wi_sm (by omega) (by omega)]
  have j1J : w1.2.2.2 = w.2.2.2 := by rw [← hw1]; rfl
  have hpw : hp w1 p = hp w p := by
    funext k
    show w1.2.2.2 88 (500 * p + k) = _
    rw [j1J]
    rfl
  have y33 : F w1 133 = ((p : Nat) : Int) := (congrArg Int32.toInt (i1 133 (by omega) (by omega) (by omega))).trans r11
  refine frTF_r (f := ((ff : Nat) : Int)) (P0 := P0) (src := src) (nbj := nb j) (j := j) hpp rfl y33 i166 ((a1 92 p (by omega) (by omega)).trans pl.2.2.1.2.1) hW hP ((a1 95 p (by omega) (by omega)).trans f2) f3 ((a1 100 _ (by omega) (by omega)).trans h100) ((a1 99 _ (by omega) (by omega)).trans g4) (by omega) (fun u fr r => ?_)
  generalize hw3 : frmW u p j ((ff : Nat) : Int) P0 (nb j) (P0 + ar) = w3
  have uR : ∀ K, u.2.2.1 K = w1.2.2.1 K := fun K => fr.2.2.1 K (by simp)
  have w3i : w3.1 = w1.1 := by
    rw [← hw3]
    funext l
    show u.1 l = _
    rw [fr.1 l (by simp)]
  have w3J : ∀ K, K ≠ 93 → K ≠ 91 → w3.2.2.2 K = w.2.2.2 K := fun K h1 h2 => by
    rw [← hw3]
    show u.2.2.2 K = _
    rw [fr.2.2.2 K (by simpa using h2), j1J]
  have w391 : ∀ i, w3.2.2.2 91 i = if 46000 * p + P0 ≤ i ∧ i < 46000 * p + P0 + ar then w.2.2.2 91 (i + (src + 1 - P0)) else w.2.2.2 91 i := fun i => by
    rw [← hw3]
    show u.2.2.2 91 i = _
    rw [r i, j1J]
  have w393 : w3.2.2.2 93 = w.2.2.2 93 := by
    rw [← hw3]
    show u.2.2.2 93 = _
    rw [fr.2.2.2 93 (by simp), j1J]
  have w393b : ∀ i, i < nb j → w3.2.2.2 93 (2500 * p + i) = w.2.2.2 93 (2500 * p + i) := fun i hi => by rw [w393]
  have w393o : ∀ i, ¬ (2500 * p ≤ i ∧ i < 2500 * p + 2500) → w3.2.2.2 93 i = w.2.2.2 93 i := fun i hi => by rw [w393]
  have row : ∀ K i, ¬ (K = 94 ∧ i = p) → ¬ (K = 101 ∧ i = 60 * p + j) → ¬ (K = 99 ∧ i = 60 * p + j) → ¬ (K = 100 ∧ i = 60 * p + j) → ¬ (K = 97 ∧ i = 60 * p + j) → ¬ (K = 96 ∧ i = 60 * p + j) → ¬ (K = 92 ∧ i = p) → ¬ (K = 98 ∧ i = 60 * p + j) → ¬ (K = 114 ∧ i = p) → w3.2.2.1 K i = w.2.2.1 K i := fun K i h1 h2 h3 h4 h5 h6 h7 h9 h10 => by
    rw [← hw3]
    unfold frmW
    rw [wa_at h2, wa_at h1, wa_at h3, wa_at h4, wa_at h5, wa_at h6, wa_at h7, uR, ← hw1, wa_at h9, wa_at h10]
    rfl
  have rd : ∀ K i, K ≠ 94 → K ≠ 101 → A w3 K i = A (frmW u p j ((ff : Nat) : Int) P0 (nb j) (P0 + ar)) K i := fun K i h1 h2 => by rw [← hw3]
  have v101 : A w3 101 (60 * p + j) = ((0 : Nat) : Int) := by rw [← hw3]; exact wa_sm (by omega) (by omega)
  have v94 : A w3 94 p = ((nb j + 0 : Nat) : Int) := by
    rw [← hw3]
    unfold frmW
    rw [wa_rne (by omega), wa_sm (by omega) (by omega)]
    rfl
  have v114 : w3.2.2.1 114 p = I (A w 114 p + 1) := by
    rw [← hw3]
    unfold frmW
    rw [wa_21 (by omega), wa_21 (by omega), wa_21 (by omega), wa_21 (by omega), wa_21 (by omega), wa_21 (by omega), wa_21 (by omega), uR, ← hw1, wa_21 (by omega), wa_s1]
  have w3R : ∀ K, K ≠ 92 → K ≠ 94 → K ≠ 96 → K ≠ 97 → K ≠ 98 → K ≠ 99 → K ≠ 100 → K ≠ 101 → K ≠ 114 → w3.2.2.1 K = w.2.2.1 K := fun K h1 h2 h4 h5 h6 h7 h8 h9 h10 => by
    funext i
    exact row K i (by omega) (by omega) (by omega) (by omega) (by omega) (by omega) (by omega) (by omega) (by omega)
  have w3A : ∀ K i, 96 ≤ K → K ≤ 101 → i ≠ 60 * p + j → w3.2.2.1 K i = w.2.2.1 K i := fun K i h1 h2 h3 => row K i (by omega) (by omega) (by omega) (by omega) (by omega) (by omega) (by omega) (by omega) (by omega)
  have o1 : ∀ K i, (K = 92 ∨ K = 94 ∨ K = 114) → i ≠ p → w3.2.2.1 K i = w.2.2.1 K i := fun K i h1 h2 => row K i (by omega) (by omega) (by omega) (by omega) (by omega) (by omega) (by omega) (by omega) (by omega)
  have v99 : A w3 99 (60 * p + j) = ((nb j : Nat) : Int) := by
    rw [rd 99 _ (by omega) (by omega)]
    unfold frmW
    rw [wa_rne (by omega), wa_rne (by omega), wa_sm (by omega) (by omega)]
  have v100 : A w3 100 (60 * p + j) = ((P0 : Nat) : Int) := by
    rw [rd 100 _ (by omega) (by omega)]
    unfold frmW
    rw [wa_rne (by omega), wa_rne (by omega), wa_rne (by omega), wa_sm (by omega) (by omega)]
  have v97 : A w3 97 (60 * p + j) = -1 := by
    rw [rd 97 _ (by omega) (by omega)]
    unfold frmW
    rw [wa_rne (by omega), wa_rne (by omega), wa_rne (by omega), wa_rne (by omega), wa_sm (by omega) (by omega)]
  have v96 : A w3 96 (60 * p + j) = ((ff : Nat) : Int) := by
    rw [rd 96 _ (by omega) (by omega)]
    unfold frmW
    rw [wa_rne (by omega), wa_rne (by omega), wa_rne (by omega), wa_rne (by omega), wa_rne (by omega), wa_sm (by omega) (by omega)]
  have v92 : A w3 92 p = ((P0 + ar : Nat) : Int) := by
    rw [rd 92 _ (by omega) (by omega)]
    unfold frmW
    rw [wa_rne (by omega), wa_rne (by omega), wa_rne (by omega), wa_rne (by omega), wa_rne (by omega), wa_rne (by omega), wa_sm (by omega) (by omega)]
  have v95 : A w3 95 p = ((j + 1 : Nat) : Int) := by
    show (w3.2.2.1 95 p).toInt = _
    rw [w3R 95 (by omega) (by omega) (by omega) (by omega) (by omega) (by omega) (by omega) (by omega) (by omega)]
    exact f2
  have z33 : F w3 133 = ((p : Nat) : Int) := by show (w3.1 133).toInt = _; rw [w3i]; exact y33
  have fw : DFw (toW w p src ar) w3 p j (nb j) P0 src ar 0 ((ff : Nat) : Int) := by
    refine ⟨⟨fun l h1 h2 h3 => by rw [w3i]; exact i1 l h1 h2 h3, by rw [w3i]; exact i165⟩, ⟨fun K h h' => by rw [w3J K h h', toW_J h'], fun i hi => ?_, fun i hi => ?_⟩, fun K h1 h2 h3 h4 h5 h6 h7 h8 h9 => by rw [w3R K h1 h2 h3 h4 h5 h6 h7 h8 h9, toW_A h1], fun K i h1 h2 h3 => by rw [w3A K i h1 h2 h3, toW_A (by omega)], ⟨v92, v94, v96, v97, v99, v100, v101⟩, ?_⟩
    · rw [w393b i hi, toW_J (by omega)]
    · rw [w391, toW_91, toW_91]
      by_cases c : P0 ≤ i
      · rw [if_pos (by omega), if_pos c, if_pos (by omega), show 46000 * p + i + (src + 1 - P0) = 46000 * p + (src + (i - P0)) + 1 by omega]
      · rw [if_neg (by omega), if_neg c, if_neg (by omega)]
    · rw [v114]
      congr 2
  have pr : ∀ K, PRr K → w3.2.2.1 K = w.2.2.1 K := fun K h => by
    unfold PRr at h
    exact w3R K (by omega) (by omega) (by omega) (by omega) (by omega) (by omega) (by omega) (by omega) (by omega)
  have prT : ∀ K, PRr K → (toW w p src ar).2.2.1 K = w.2.2.1 K := fun K h => toW_A (by unfold PRr at h; omega)
  have ruN : RUs (toS m p src ar) (toW w p src ar) p j nb Hs Os none a n := RUs_mv ru FGm_toS (FGw_toW hW) (by rw [show F (toS m p src ar) 1105 = F m 1105 from congrArg Int32.toInt (toS_1 (pq_n (by omega)))]; exact r2) (by show ((toW w p src ar).2.2.1 98 (60 * p + j)).toInt = _; rw [toW_A (by omega)]; exact r3) ⟨f0, cr0⟩
  rw [show decide (I ((ff : Nat) : Int) = (-1 : Int32)) = false from by rw [m1I, decE (by omega) (by omega) (by omega) (by omega)]; exact decide_eq_false (by omega), br_fq]
  refine rb_ck (fun _ => ?_)
  have v50 : A w3 50 ff = ((c : Nat) : Int) := by show (w3.2.2.1 50 ff).toInt = _; rw [pr 50 (by unfold PRr; omega)]; exact h50
  rw [tnI (n := ff) rfl (by omega), I_A' v50]
  refine clof_r (j := j) (a := 0) (nbn := nb j) hpp z33 v95 f3 v99 v101 ?_
  have core := callTH_core (c := c) (e := e) (H := []) (L := 0) (PLs_to pl hW) ruN hP (by show ((toW w p src ar).2.2.1 100 (60 * p + j)).toInt = _; rw [toW_A (by omega)]; exact h100) (fun nC c' h1 h2 => by
    show ((toW w p src ar).2.2.1 102 (1600 * p + c')).toInt < _
    rw [toW_A (by omega)]
    exact hct nC c' ((congrArg Int32.toInt (toS_1 (m := m) (P0 := src) (ar := ar) (pq_inj (by omega)))).symm.trans h1) h2) hB2 (by omega) fm fw rfl List.nodup_nil (fun i hi => absurd hi (Nat.not_lt_zero _)) (by rw [ROs_eq prT, toW_J (by omega)]; exact zr)
  obtain ⟨tr, pl4, sc4⟩ := core
  refine k _ _ tr pl4 gm ?_ (fun s => sc4 (SC_fg s FGm_toS (FGw_toW (j := j) hW))) ⟨w3J 88 (by omega) (by omega), by rw [wi_1 (by omega), wi_1 (by omega), wi_1 (by omega), wi_1 (by omega), w3i]; exact i1 140 (by omega) (by omega) (by omega)⟩
  generalize hw4 : wi (wi (wi (wi w3 153 0) 155 ((c : Nat) : Int)) 154 ((c : Nat) : Int)) 156 ((nb j + 0 : Nat) : Int) = w4
  have w42 : w4.2 = w3.2 := by rw [← hw4]; rfl
  have w41 : ∀ l, l ≠ 153 → l ≠ 154 → l ≠ 155 → l ≠ 156 → w4.1 l = w3.1 l := fun l h1 h2 h3 h4 => by rw [← hw4, wi_1 h4, wi_1 h2, wi_1 h3, wi_1 h1]
  have ow : ∀ r K i, K ≠ 92 → K ≠ 94 → K ≠ 114 → (96 ≤ K → K ≤ 101 → r ≠ p → 60 * r ≤ i ∧ i < 60 * r + 60) → r ≠ p → w4.2.2.1 K i = w.2.2.1 K i := fun r K i h1 h2 h4 h5 h6 => by
    rw [w42]
    by_cases c : 96 ≤ K ∧ K ≤ 101
    · have := h5 c.1 c.2 h6
      exact w3A K i c.1 c.2 (by omega)
    · rw [w3R K h1 h2 (by omega) (by omega) (by omega) (by omega) (by omega) (by omega) h4]
  have wi1 : ∀ l, l ≤ 132 ∨ l = 150 ∨ l = 164 ∨ l = 165 → w4.1 l = (cbW w).1 l := fun l hl => by
    rw [w41 l (by omega) (by omega) (by omega) (by omega), w3i]
    unfold cbW
    by_cases c : l = 119
    · subst c
      rw [i119, wi_1 (by omega), wi_s1]
    · by_cases c5 : l = 165
      · subst c5
        rw [i165, wi_s1]
      · rw [i1 l (by omega) c5 c, wi_1 c5, wi_1 c]
  refine ⟨fun d hd => ⟨fun K i h => ?_, fun K h => ?_, fun i _ _ => ?_, by rw [w42, w3J 111 (by omega) (by omega)]; rfl, fun i _ _ => by rw [w42, w3J 88 (by omega) (by omega)]; rfl, fun i h1 h2 => ?_, fun i h1 h2 => ?_, fun i _ _ => by rw [w42, w3J 107 (by omega) (by omega)]; rfl⟩, ⟨fun K h => by rw [w42]; exact pr K h, by rw [w42, w3J 34 (by omega) (by omega)]; rfl, ?_, ?_, wi1 14 (by omega)⟩, wi1 150 (by omega), fun K h => ?_, by rw [w42, w3J 148 (by omega) (by omega)]; rfl, fun K h => ?_, fun l h => wi1 l (by omega)⟩
  · show w4.2.2.1 K i = w.2.2.1 K i
    by_cases c : K = 92 ∨ K = 94 ∨ K = 114
    · rw [w42]
      refine o1 K i c ?_
      unfold OWi at h
      omega
    · refine ow d K i (by omega) (by omega) (by omega) (fun h1 h2 _ => ?_) hd
      unfold OWi at h
      omega
  · exact ow d K d (by omega) (by omega) (by omega) (fun h1 h2 _ => by omega) hd
  · exact ow d 131 i (by omega) (by omega) (by omega) (fun h1 h2 _ => by omega) hd
  · rw [w42, w391 i, if_neg (by omega)]
    rfl
  · rw [w42, w393o i (by omega)]
    rfl
  · show w4.2.2.1 12 = w.2.2.1 12
    rw [w42]
    exact w3R 12 (by omega) (by omega) (by omega) (by omega) (by omega) (by omega) (by omega) (by omega) (by omega)
  · show w4.2.2.1 13 = w.2.2.1 13
    rw [w42]
    exact w3R 13 (by omega) (by omega) (by omega) (by omega) (by omega) (by omega) (by omega) (by omega) (by omega)
  · show w4.2.2.1 K = w.2.2.1 K
    rw [w42]
    exact w3R K (by omega) (by omega) (by omega) (by omega) (by omega) (by omega) (by omega) (by omega) (by omega)
  · show w4.2.2.1 K = w.2.2.1 K
    rw [w42]
    exact w3R K (by omega) (by omega) (by omega) (by omega) (by omega) (by omega) (by omega) (by omega) (by omega)
end
end
section
set_option maxRecDepth 100000
section
variable {N p k : Nat} {w : MS} {z : Int}
theorem wi_id (h : F w k = z) : wi w k z = w := by
  have e : (wi w k z).1 = w.1 := by
    funext l
    by_cases c : l = k
    · subst c
      rw [wi_s1, ← h]
      exact (I_F (w := w) (k := l)).symm
    · exact wi_1 c
  exact Prod.ext e rfl
theorem ends_id (h1 : F w 149 = 0) (h2 : F w 150 = 0) : fm_M_allEnds N w = some (w, ()) := by
  unfold fm_M_allEnds fb_M_allEnds_0
  rw [I_F' h2, I_F' h1, show decide (I 0 ≤ I 0) = true from rfl, br_tq, show upI w 149 0 = wi w 149 0 from rfl, wi_id h1, lt_e, show upI w 150 0 = wi w 150 0 from rfl, wi_id h2, lt_e]
theorem ck_c {α : Type} {c : Bool} {x y : Option (MS × α)} (h : x = y) : ck c x = ck c y := by rw [h]
end
section
variable {N p c : Nat} {w : MS} {z : Int} {x : Int64} {v : Int32} {S : SG_M_error}
theorem gup_94 (hpp : p < 24) (h33 : F w 133 = ((p : Nat) : Int)) (h152 : F w 152 = 0) (h106 : A w 106 p = ((c + 1 : Nat) : Int)) (hc : c < 100000) : fm_M_goesUp N S (wa w 94 p z) v x = fm_M_goesUp N S w v x := by
  have key : ∀ (X Y : MS) (y y' : Int32), X = Y → y = y' → (br (decide (v = 2)) (bnd (fm_M_put N X x) (fun u15 _ => fb_M_goesUp_205 N S () u15 (y))) (bnd (fm_M_hand N X (X.1 133) x) (fun u10 _ => bnd (fm_M_wants N u10 (u10.1 133) 3) (fun u11 r11 => br (decide (r11 = 0)) (bnd (fm_M_handNone N u11) (fun u13 _ => bnd (fm_M_noRoom N u13) (fun u14 _ => some (u14, ())))) (bnd (fm_M_handNone N u11) (fun u12 _ => br (decide (v = 0)) (fb_M_goesUp_197 N S () u12 (y) ((u11.2.1 139)) (7)) (fb_M_goesUp_197 N S () u12 (y) ((u11.2.1 139)) (8)))))))) = (br (decide (v = 2)) (bnd (fm_M_put N Y x) (fun u15 _ => fb_M_goesUp_205 N S () u15 (y'))) (bnd (fm_M_hand N Y (Y.1 133) x) (fun u10 _ => bnd (fm_M_wants N u10 (u10.1 133) 3) (fun u11 r11 => br (decide (r11 = 0)) (bnd (fm_M_handNone N u11) (fun u13 _ => bnd (fm_M_noRoom N u13) (fun u14 _ => some (u14, ())))) (bnd (fm_M_handNone N u11) (fun u12 _ => br (decide (v = 0)) (fb_M_goesUp_197 N S () u12 (y') ((u11.2.1 139)) (7)) (fb_M_goesUp_197 N S () u12 (y') ((u11.2.1 139)) (8)))))))) := fun X Y y y' h h' => by rw [h, h']
  have g33 : F (wa w 94 p z) 133 = ((p : Nat) : Int) := h33
  have g152 : F (wa w 94 p z) 152 = 0 := h152
  have g106 : A (wa w 94 p z) 106 p = ((c + 1 : Nat) : Int) := by rw [wa_rne (by omega)]; exact h106
  have d0 : decide (I ((c + 1 : Nat) : Int) = 0) = false := by rw [lit0q, decE (by omega) (by omega) (by omega) (by omega)]; exact decide_eq_false (by omega)
  unfold fm_M_goesUp fb_M_goesUp_0
  rw [I_F' h152, I_F' g152, show decide (I 0 = 0) = true from rfl, br_tq, br_tq, I_F' h33, I_F' g33, tnI (n := p) rfl (by omega), I_A' h106, I_A' g106, d0, br_fq, br_fq]
  simp only [lt_e]
  refine ck_c (ck_c (ck_c (ck_c (ck_c (ck_c (ck_c (ck_c (ck_c (ck_c ?_)))))))))
  refine key _ _ _ _ ?_ rfl
  refine Prod.ext rfl (Prod.ext rfl (Prod.ext (funext (fun K => ?_)) rfl))
  have hq : (w.1 133).toNatClampNeg = p := by rw [I_F' h33]; exact tnI (n := p) rfl (by omega)
  by_cases k94 : K = 94
  · subst k94
    have uu : ∀ (d : Int32), upd (upd (w.2.2.1 94) p (I z)) ((w.1 133).toNatClampNeg) d = upd (w.2.2.1 94) ((w.1 133).toNatClampNeg) d := fun d => by
      rw [hq]
      funext i
      by_cases ci : i = p
      · exact (if_pos ci).trans (if_pos ci).symm
      · exact (if_neg ci).trans ((if_neg ci).trans (if_neg ci).symm)
    exact uu _
  · by_cases k92 : K = 92
    · subst k92; rfl
    · by_cases k95 : K = 95
      · subst k95; rfl
      · by_cases k106 : K = 106
        · subst k106; rfl
        · exact ((if_neg k94).trans ((if_neg k92).trans ((if_neg k95).trans ((if_neg k106).trans (if_neg k94))))).trans ((if_neg k94).trans ((if_neg k92).trans ((if_neg k95).trans (if_neg k106)))).symm
end
section
variable {α β : Type} {b : Int → Nat → Nat → Prop} {N p PR U B W Wc B' Y j ee ee' : Nat} {m w : MS} {x : Int64} {Q : MS → α → MS → β → Prop} {K1 : MS → Option (MS × α)} {K2 : MS → Option (MS × β)} {ow kd ow' kd' : Nat → Nat} {Fv Fv' : Int64 → Int64 → Prop} {P P' : Int64 → Prop} {S : SG_M_error}
theorem err_n2 (hpp : p < 24) (hpr : p < PR) (is : ISb b (m.2.2.2 (pq p 2)) U (hp w p) U) (h89 : A w 89 p = ((U : Nat) : Int)) (h5 : m.1 (pq p 5) = w.2.2.1 90 p) (h28 : F m (pq p 28) = 0) (h106 : A w 106 p = 0) (h152 : F w 152 = 0) (h133 : F w 133 = ((p : Nat) : Int)) (h9 : F m (pq p 9) ≠ 3 ∧ A w 109 p ≠ 3) (pt : PTQ m p U ow kd Fv P B Wc Y) (cx : CTX Fv P m) (xc : CX w p (hp w p) U ow' kd' Fv' P' W B' Y) (g : GT U ow kd P (m.2.1 1110)) (g' : GT U ow' kd' P' x) (rt : RTb b (m.2.1 1110) x) (hee : F m 955 = ((ee : Nat) : Int) ∧ ee < 24) (hee' : F w 150 = ((ee' : Nat) : Int) ∧ ee' < 4000)
    (ke : ∀ m1 t1, GGm p m m1 → (SCs p m w → SCs p m1 w) → F m1 (pq p 15) = F m (pq p 15) → m1.1 (pq p 5) = w.2.2.1 90 p → RQs Fv P Fv' P' PR (enS m1 p t1 p ee) (enR w p 1 ((p : Nat) : Int) x ee') p 1 p x → PP Q (K1 (enS m1 p t1 p ee)) (K2 (wi (enR w p 1 ((p : Nat) : Int) x ee') 151 1))) : PP Q (bnd (hb_Ma_raise_65 N () m p (I 1)) (fun u _ => K1 u)) (bnd (fm_M_goesUp N S w (I 0) x) (fun u _ => K2 u)) := by
  have hU := pt.1.2.1
  have hcl : hb_Ma_raise_65 N () m p (I 1) = bnd (hm_Pr_pair N m p (I ((7 : Nat) : Int)) (m.2.1 1110)) (fun u8 r8 => bnd (hm_Wl_endsWith N u8 p r8 p) (fun u5 _ => some (u5, ()))) := by
    unfold hb_Ma_raise_65
    rw [I_F' h28, show decide (I 0 = 0) = true from rfl, br_tq]
    rfl
  rw [hcl, bb_e]
  refine l_bnd (pk_mo (pk_andq (pair_m (N := N) (v := ((7 : Nat) : Int)) (t := m.2.1 1110) pt.1.1 (by omega)) (pk_ok (pair_t (N := N) cx pt.1.1 (by omega) pt.1.2.2 g (by omega)))) (fun m1 t1 h => ?_))
  obtain ⟨⟨hm1, rfl⟩, f1, e4, -, ow2, kd2, hg, gt, -⟩ := h
  have fr : FR [pq p 4] [] [] [pq p 2] m m1 := by
    rw [hm1]
    exact FR.wi (FR.wj (FR.wj (FR.wj FR.rf (by simp)) (by simp)) (by simp)) (by simp)
  have i1 : ∀ d, d ≠ 4 → m1.1 (pq p d) = m.1 (pq p d) := fun d hd => fr.1 _ (by simp; exact pq_inj hd)
  have e9 : F m1 (pq p 9) ≠ 3 := by
    show (m1.1 (pq p 9)).toInt ≠ 3
    rw [i1 9 (by omega)]; exact h9.1
  have e55 : F m1 955 = ((ee : Nat) : Int) := by rw [FR.F fr (by simp [pq_n])]; exact hee.1
  rw [endsW_e e9 e55 hee.2, bnd_so, bnd_so]
  have cm : ∀ i, m1.2.2.2 (pq p 2) i = if i = U + 2 then m.2.1 1110 else if i = U + 1 then mk 1 ((7 : Nat) : Int) else if i = U then mk 8 2 else m.2.2.2 (pq p 2) i := fun i => by
    rw [hm1]
    show (wj (wj (wj m (pq p 2) U (mk 8 2)) (pq p 2) (U + 1) (mk 1 ((7 : Nat) : Int))) (pq p 2) (U + 2) (m.2.1 1110)).2.2.2 (pq p 2) i = _
    rw [wj_row, wj_row, wj_row]
  refine goes_n (wr := 1) (ee' := ee') hpp (by omega) h152 h133 h106 h9.2 hee'.1 hee'.2 ?_
  refine ke m1 _ (GGm_pa fr) (fun s => SC_ow s (fun d hd => i1 d (by omega)) (fr.2.2.1 _ (by simp)) (fun _ _ _ => rfl)) (congrArg Int32.toInt (i1 15 (by omega))) (by rw [i1 5 (by omega)]; exact h5) (RQ_wrap (m := m) (t := m.2.1 1110) (B := B') (W := W) (Y := Y) hpr hpp (Or.inl rfl) is (fun i hi => by rw [cm, if_neg (by omega), if_neg (by omega), if_neg (by omega)]) (by rw [cm, if_neg (by omega), if_neg (by omega), if_pos rfl]) (by rw [cm, if_neg (by omega), if_pos rfl, if_pos rfl]; rfl) (by rw [cm, if_pos rfl]) hg gt xc h89 hU g' rt)
end
end
section
set_option maxRecDepth 100000
section
variable {Sf : MS → Int32 → Prop} {b : Int → Nat → Nat → Prop} {N p PR U B W B0 Y j a n r M1 M2 vk ee l : Nat} {m w : MS} {nb : Nat → Nat} {Hs Os : Nat → List Nat} {Q : MS → Int32 → MS → Int32 → Prop} {ow kw ow' kd' : Nat → Nat} {Fv Fv' : Int64 → Int64 → Prop} {P P' : Int64 → Prop}
theorem hr_ge {x y : Int32} (h1 : 0 ≤ x.toInt) (h2 : 0 ≤ y.toInt) : 0 ≤ (x.toInt64 + y.toInt64).toInt := by
  have a1 := x.toInt_lt
  have a2 := y.toInt_lt
  rw [Int64.toInt_add, Int32.toInt_toInt64, Int32.toInt_toInt64, Int.bmod_eq_of_le (by omega) (by omega)]
  omega
theorem awa_pp {K0 K2 : MS → Option (MS × Int32)} (hpp : p < 24) (hpr : p < PR) (pl : PLs b p m (wa w 94 p ((B : Nat) : Int)) U B (W + 1) Y) (ru : RUb m w p j nb Hs Os none) (hpc : F m 1105 = ((a : Nat) : Int)) (ha : a + 1 < 24000) (bd : B ≤ 2500 ∧ W < 46000) (hY : Y ≤ 30) (hvk : vk + 200 < 1000000000) (h956 : F m 955 ≤ F m 956) (q149 : F w 149 = 0) (q150 : F w 150 = 0) (hcl : m.1 944 = w.1 120) (hc0 : 0 ≤ F w 120) (c1 : A m 23 (a + 1) = 1) (hn : n < 100000) (hr : r < 100000) (h25 : A w 25 n = ((r : Nat) : Int)) (h27 : A w 27 n = (((Os j).length : Nat) : Int)) (r23 : A w 23 r = 27) (r31 : A w 31 r = ((n : Nat) : Int)) (r27 : A w 27 r = (((Os j).length : Nat) : Int)) (nd : (Os j).Nodup ∧ (Hs j).Nodup) (rc : ∃ g, RCs (A m 23) (ROs w) (w.2.2.2 34) (CRs (A m 23) (ROs w) (w.2.2.2 34) g) g (a + 2) r (Hs j) (Os j)) (hl : F m (pq p 45) = ((l : Nat) : Int)) (hl2 : W + 1 ≤ l ∧ l ≤ 1000000)
    (lb : LNB m p) (pt : PTQ m p U ow kw Fv P B (W + 1) Y) (cx : CTX Fv P m) (xc : CX w p (hp w p) U ow' kd' Fv' P' (W + 1) B0 Y) (hBB : B ≤ B0) (pb : PB P' PR) (ca : CTa m w p W) (hee : F m 955 = ((ee : Nat) : Int) ∧ ee < 24) (hN : 2200000 ≤ N)
    (hK0 : ∀ (u : MS) (Z : Option (MS × Int32)), GGw p w u → A u 98 (60 * p + j) = ((r : Nat) : Int) → A u 109 p = 0 → F u 151 = 0 → F u 133 = ((p : Nat) : Int) → A u 95 p = ((j + 1 : Nat) : Int) → F u 149 = 0 → F u 150 = 0 → A u 23 r = 27 → PP Q Z (bnd (fm_M_one N u (I ((r : Nat) : Int)) (I 27)) (fun u3 _ => K2 u3)) → PP Q Z (K0 u))
    (kW : ∀ M' vk' m3 w3, M' ≤ M1 → vk' ≤ vk + 61 → WTn m3 w3 p j nb Hs Os (a + 2) → PLs b p m3 w3 U B W Y → GGm p m m3 → GGw p w w3 → (SCs p m w → SCs p m3 w3) → PP Q (q195 Sf N (qgo Sf N M') m3 p (I ((vk' : Nat) : Int))) (K2 w3))
    (kR : ∀ M' vk' m3 w3 l q, M' ≤ M1 → vk' ≤ vk + 61 → RUs m3 w3 p j nb Hs Os none l q → PLs b p m3 w3 U B W Y → GGm p m m3 → GGw p w w3 → (SCs p m w → SCs p m3 w3) → PP Q (q195 Sf N (qgo Sf N M') m3 p (I ((vk' : Nat) : Int))) (K2 w3))
    (kT : ∀ M' vk' m3 w3 k, M' ≤ M1 → vk' ≤ vk + 1 → 0 < Y → TRs m3 w3 p j nb Hs Os 3 (a + 2) (a + 2 + 2) k → PLs b p m3 (wa w3 94 p ((B : Nat) : Int)) U B W Y → F m3 (pq p 8) = ((0 : Nat) : Int) → GGm p m m3 → GGw p w w3 → (SCs p m w → SCs p m3 w3) → (w3.2.2.2 88 = w.2.2.2 88 ∧ w3.1 140 = w.1 140) → PP Q (q195 Sf N (qgo Sf N M') m3 p (I ((vk' : Nat) : Int))) (bnd (gg_M_choose N (rc_M_error N 19) N w3 1) (fun u _ => K2 u)))
    (kk : ∀ b3 U3 W3 r k a0 nn m3 w3, PLs b3 p m3 w3 U3 (nb r + (Hs r).length + k) (W3 + 1) Y → RUs m3 w3 p r nb Hs (tkO Os r k) none a0 nn → GGm p m m3 → GGw p w w3 → (SCs p m w → SCs p m3 w3) → PP Q (q206 Sf N (qgo Sf N M1) m3 p (I ((vk : Nat) : Int))) (K0 w3))
    (ke : ∀ m3 w3 wr t3 x3, GGm p m m3 → GGw p w w3 → (SCs p m w → SCs p m3 w3) → m3.1 (pq p 5) = w3.2.2.1 90 p → (wr = 0 ∨ wr = 1 ∨ wr = 2) → RQs Fv P Fv' P' PR (enS m3 p t3 p ee) (enR w3 p wr ((p : Nat) : Int) x3 0) p wr p x3 → PP Q (q206 Sf N (qgo Sf N M1) (enS m3 p t3 p ee) p (I ((vk : Nat) : Int))) (K0 (wi (enR w3 p wr ((p : Nat) : Int) x3 0) 151 1))) : PP Q (bnd (hm_Ma_flow N m p (I 31)) (fun u _ => q195 Sf N (qgo Sf N M1) u p (I ((vk : Nat) : Int)))) (bnd (fm_M_one N w (I ((n : Nat) : Int)) (I 28)) (fun u _ => K0 u)) := by
  obtain ⟨⟨fa, ct⟩, ⟨r5, r6⟩, r7, ⟨r8, r9, r10⟩, r11, r12, r13⟩ := id ru
  obtain ⟨h12, h152⟩ : F m 1112 = 0 ∧ F w 152 = 0 := by
    rcases r7 with ⟨_, c3, c4⟩ | ⟨_, _, _, c, _⟩
    · exact ⟨c3, c4⟩
    · cases c
  have hj : j < 60 := fa.1.2.2
  obtain ⟨-, -, ⟨-, g4⟩, -, g6, -⟩ := fa.2.1 j (Nat.le_refl _)
  have hB : B = nb j + (Hs j).length + (Os j).length := by
    have h1 := pl.2.1.1
    rw [fa.2.2.2, List.length_append] at h1
    omega
  have w92 : A w 92 p = ((W + 1 : Nat) : Int) := by
    have := pl.2.2.1.2.1
    rw [wa_rne (by omega)] at this
    exact this
  have rt : RTb b (m.2.2.2 (pq p 35) W) (w.2.2.2 91 (46000 * p + W)) := pl.2.2.1.2.2 W (by omega)
  obtain ⟨k1, k2, k3⟩ := await1_m (N := N) hpc ha c1 pl.2.2.1.1 hl hl2 rfl
  have fin : ∀ (hr' : Int64) (m2 : MS), (∀ l, l ≠ 8 → l ≠ 26 → m2.1 (pq p l) = m.1 (pq p l)) → (∀ l, l < 2000 → l ≠ 1105 → m2.1 l = m.1 l) → m2.2.2 = m.2.2 → F m2 (pq p 8) = ((0 : Nat) : Int) → F m2 (pq p 26) = ((W : Nat) : Int) → m2.2.1 (pq p 10) = hr' → F m2 1105 = ((a + 2 : Nat) : Int) → GGm p m m2 → (hr' = -1 ∨ 0 ≤ hr'.toInt) → PP Q (q195 Sf N (qgo Sf N M1) m2 p (I ((vk : Nat) : Int))) (K0 (wa (wj (wa (wa (wa w 98 (60 * p + j) ((n + 1 : Nat) : Int)) 92 p ((W : Nat) : Int)) 94 p ((nb j + (Hs j).length + (Os j).length : Nat) : Int)) 111 p hr') 98 (60 * p + j) ((r : Nat) : Int))) := fun hr' m2 mq mg mr m8 m26 mL mpc gm dl => by
    generalize hw2 : wa (wj (wa (wa (wa w 98 (60 * p + j) ((n + 1 : Nat) : Int)) 92 p ((W : Nat) : Int)) 94 p ((nb j + (Hs j).length + (Os j).length : Nat) : Int)) 111 p hr') 98 (60 * p + j) ((r : Nat) : Int) = w2
    have w2i : w2.1 = w.1 := by rw [← hw2]; rfl
    have w2F : ∀ l, F w2 l = F w l := fun l => by show (w2.1 l).toInt = _; rw [w2i]; rfl
    have wJ : ∀ K, K ≠ 111 → w2.2.2.2 K = w.2.2.2 K := fun K h => by
      rw [← hw2]
      show (wj (wa (wa (wa w 98 (60 * p + j) ((n + 1 : Nat) : Int)) 92 p ((W : Nat) : Int)) 94 p ((nb j + (Hs j).length + (Os j).length : Nat) : Int)) 111 p hr').2.2.2 K = _
      rw [wj_22 h]
      rfl
    have w111 : w2.2.2.2 111 p = hr' := by
      rw [← hw2]
      show (wj (wa (wa (wa w 98 (60 * p + j) ((n + 1 : Nat) : Int)) 92 p ((W : Nat) : Int)) 94 p ((nb j + (Hs j).length + (Os j).length : Nat) : Int)) 111 p hr').2.2.2 111 p = _
      rw [wj_row, if_pos rfl]
    have wat : ∀ K i, ¬ (K = 98 ∧ i = 60 * p + j) → ¬ (K = 92 ∧ i = p) → ¬ (K = 94 ∧ i = p) → w2.2.2.1 K i = w.2.2.1 K i := fun K i h1 h2 h3 => by
      rw [← hw2, wa_at h1]
      show (wa (wa (wa w 98 (60 * p + j) ((n + 1 : Nat) : Int)) 92 p ((W : Nat) : Int)) 94 p ((nb j + (Hs j).length + (Os j).length : Nat) : Int)).2.2.1 K i = _
      rw [wa_at h3, wa_at h2, wa_at h1]
    have wA : ∀ K i, ¬ (K = 98 ∧ i = 60 * p + j) → ¬ (K = 92 ∧ i = p) → ¬ (K = 94 ∧ i = p) → A w2 K i = A w K i := fun K i h1 h2 h3 => congrArg Int32.toInt (wat K i h1 h2 h3)
    have wR : ∀ K, K ≠ 98 → K ≠ 92 → K ≠ 94 → w2.2.2.1 K = w.2.2.1 K := fun K h1 h2 h3 => by funext i; exact wat K i (fun c => h1 c.1) (fun c => h2 c.1) (fun c => h3 c.1)
    have v98 : A w2 98 (60 * p + j) = ((r : Nat) : Int) := by rw [← hw2, wa_sm (by omega) (by omega)]
    have v92 : w2.2.2.1 92 p = I ((W : Nat) : Int) := by
      rw [← hw2, wa_21 (by omega)]
      show (wa (wa (wa w 98 (60 * p + j) ((n + 1 : Nat) : Int)) 92 p ((W : Nat) : Int)) 94 p ((nb j + (Hs j).length + (Os j).length : Nat) : Int)).2.2.1 92 p = _
      rw [wa_21 (by omega), wa_s1]
    have v94 : w2.2.2.1 94 p = I ((B : Nat) : Int) := by
      rw [← hw2, wa_21 (by omega)]
      show (wa (wa (wa w 98 (60 * p + j) ((n + 1 : Nat) : Int)) 92 p ((W : Nat) : Int)) 94 p ((nb j + (Hs j).length + (Os j).length : Nat) : Int)).2.2.1 94 p = _
      rw [wa_s1, hB]
    have pr : ∀ K, PRr K → w2.2.2.1 K = w.2.2.1 K := fun K h => wR K (by unfold PRr at h; omega) (by unfold PRr at h; omega) (by unfold PRr at h; omega)
    have mF : ∀ l, l < 2000 → l ≠ 1105 → F m2 l = F m l := fun l h0 h => congrArg Int32.toInt (mg l h0 h)
    have h23 : A m2 23 = A m 23 := by funext i; show (m2.2.2.1 23 i).toInt = _; rw [mr]; rfl
    have fc2 : FAs m2 w2 p j nb Hs Os ∧ CTs m2 w2 p j nb Hs Os := FC_w ⟨fa, ct⟩ (fun l h => mq l (by omega) (by omega)) (fun l _ => by rw [mr]) (by rw [mr]) (fun K h => wat K p (by omega) (by omega) (by omega)) (fun K q h1 h2 h3 h4 => wat K _ (by omega) (by omega) (by omega)) (fun K c h1 h2 _ => wat K _ (by omega) (by omega) (by omega)) pr (wJ 34 (by omega))
    have ru2 : RUb m2 w2 p j nb Hs Os none := ⟨fc2, ⟨(congrArg Int32.toInt (mq 9 (by omega) (by omega))).trans r5, (wA 109 p (by omega) (by omega) (by omega)).trans r6⟩, Or.inl ⟨rfl, (mF 1112 (by omega) (by omega)).trans h12, (w2F 152).trans h152⟩, ⟨(mF 1108 (by omega) (by omega)).trans r8, (mF 1109 (by omega) (by omega)).trans r9, (w2F 151).trans r10⟩, (w2F 133).trans r11, by rw [mg 1106 (by omega) (by omega), w2i]; exact r12, by rw [mg 1107 (by omega) (by omega), w2i]; exact r13⟩
    have pl2 : PLs b p m2 w2 U B W Y := PLs_cg (PLs_drop (W := W) (k := 1) pl (by omega)) (fun k hk => by
        by_cases c : k = 26
        · subst c
          rw [wi_s1]
          exact I_F' m26
        · rw [wi_1 (pq_inj c)]
          exact mq k (by simp at hk; omega) c) (fun i _ => by rw [mr]; rfl) (fun i _ => by rw [mr]; rfl) (fun i _ => by rw [mr]; rfl) (fun i _ => by rw [mr]; rfl) (fun K hK => by
        by_cases c : K = 92
        · subst c
          rw [v92, wa_s1]
        · by_cases c2 : K = 94
          · subst c2
            rw [v94, wa_21 (by omega), wa_s1]
          · rw [wa_21 c, wa_21 c2]
            exact wat K p (by simp at hK; omega) (by omega) (by omega)) (fun i _ => by rw [wJ 88 (by omega)]; rfl) (fun i _ => by rw [wJ 93 (by omega)]; rfl) (fun i _ => by rw [wJ 91 (by omega)]; rfl) (fun i _ => by rw [wJ 107 (by omega)]; rfl)
    have gw : GGw p w w2 := by
      rw [← hw2]
      have g1 : GGw p w (wa w 98 (60 * p + j) ((n + 1 : Nat) : Int)) := GGw_fg FGw.goto hj
      have g2 : GGw p w (wa (wa w 98 (60 * p + j) ((n + 1 : Nat) : Int)) 92 p ((W : Nat) : Int)) := GGw.tr g1 (GGw_fg (jj := j) FGw.w92 hj)
      have g3 : GGw p w (wa (wa (wa w 98 (60 * p + j) ((n + 1 : Nat) : Int)) 92 p ((W : Nat) : Int)) 94 p ((nb j + (Hs j).length + (Os j).length : Nat) : Int)) := GGw.tr g2 (GGw_own (Or.inl ⟨Or.inr (Or.inl rfl), rfl⟩))
      refine GGw.tr (w2 := wj (wa (wa (wa w 98 (60 * p + j) ((n + 1 : Nat) : Int)) 92 p ((W : Nat) : Int)) 94 p ((nb j + (Hs j).length + (Os j).length : Nat) : Int)) 111 p hr') (GGw.tr g3 ?_) (GGw_fg FGw.goto hj)
      exact ⟨fun d hd => ⟨fun _ _ _ => rfl, fun _ _ => rfl, fun _ _ _ => rfl, by rw [wj_row, if_neg hd], fun _ _ _ => by rw [wj_22 (by omega)], fun _ _ _ => by rw [wj_22 (by omega)], fun _ _ _ => by rw [wj_22 (by omega)], fun _ _ _ => by rw [wj_22 (by omega)]⟩, ⟨fun _ _ => rfl, wj_22 (by omega), rfl, rfl, rfl⟩, rfl, fun _ _ => rfl, wj_22 (by omega), fun _ _ => rfl, fun _ _ => rfl⟩
    have sc2 : SCs p m w → SCs p m2 w2 := fun s => SC_ow s (fun l hl => mq l (by omega) (by omega)) (by rw [mr]) (fun K h1 h2 => wR K (by omega) (by omega) (by omega))
    refine hK0 w2 _ gw v98 ((wA 109 p (by omega) (by omega) (by omega)).trans r6) ((w2F 151).trans r10) ((w2F 133).trans r11) ((wA 95 p (by omega) (by omega) (by omega)).trans fa.1.2.1) ((w2F 149).trans q149) ((w2F 150).trans q150) ((wA 23 r (by omega) (by omega) (by omega)).trans r23) ?_
    obtain ⟨g, rc⟩ := rc
    exact rcv_27 (K2 := fun u => K2 u) (sc := a + 2) hpp pl2 ru2 mpc m8 (by rw [mL, w111]; exact ⟨rfl, dl⟩) (by omega) hY hvk (by rw [mF 955 (by omega) (by omega), mF 956 (by omega) (by omega)]; exact h956) (by rw [mg 944 (by omega) (by omega), w2i]; exact hcl) (by rw [h23]; exact c1) hr (by rw [wA 31 r (by omega) (by omega) (by omega), r31]; omega) ((wA 23 r (by omega) (by omega) (by omega)).trans r23) ((wA 27 r (by omega) (by omega) (by omega)).trans r27) nd ⟨g, by rw [h23, ROs_eq pr, wJ 34 (by omega)]; exact rc⟩ (fun M' vk' m3 w3 q1 q2 a1 a2 a3 a4 a5 => kW M' vk' m3 w3 q1 q2 a1 a2 (GGm.tr gm a3) (GGw.tr gw a4) (fun s => a5 (sc2 s))) (fun M' vk' m3 w3 l q q1 q2 a1 a2 a3 a4 a5 => kR M' vk' m3 w3 l q q1 q2 a1 a2 (GGm.tr gm a3) (GGw.tr gw a4) (fun s => a5 (sc2 s))) (fun M' vk' m3 w3 k q1 q2 q3 a1 a2 a3 a4 a5 a6 a7 => kT M' vk' m3 w3 k q1 q2 q3 a1 a2 a3 (GGm.tr gm a4) (GGw.tr gw a5) (fun s => a6 (sc2 s)) ⟨a7.1.trans (wJ 88 (by omega)), a7.2.trans (by rw [w2i])⟩)
  rw [one_28, show I ((n : Nat) : Int) + 1 = I ((n + 1 : Nat) : Int) from addN, bb_e]
  refine r_bnd (pk_mo (goto_r (N := N) (n := ((n + 1 : Nat) : Int)) hpp r11 fa.1.2.1 hj) (fun w0 _ h => ?_))
  subst h
  have aw : ∀ K i, K ≠ 98 → A (wa w 98 (60 * p + j) ((n + 1 : Nat) : Int)) K i = A w K i := fun K i h => by rw [wa_rne h]
  rw [oth_28]
  refine r_bb (r_bb ?_)
  refine after_k (W := W) (z := nb j) (h := (Hs j).length) (k := (Os j).length) (r := r) (j := j) hpp hn r11 ((aw 92 p (by omega)).trans w92) (by omega) ((aw 95 p (by omega)).trans fa.1.2.1) hj ((aw 99 _ (by omega)).trans g4) ((aw 101 _ (by omega)).trans g6) ((aw 27 n (by omega)).trans h27) ((aw 25 n (by omega)).trans h25) rfl (fun s0 v0 => ?_) (fun e => ?_) (fun n1 n2 => ?_)
  · have s0' : so (m.2.2.2 (pq p 35) W) = 0 := by rw [← RTb_so rt]; exact s0
    have nh : ¬ isH (m.2.2.2 (pq p 35) W) := by unfold isH; omega
    have ex : w.2.2.2 91 (46000 * p + W) = m.2.2.2 (pq p 35) W := RTb_n rt nh
    have v0' : 0 ≤ va (m.2.2.2 (pq p 35) W) := by rw [← ex]; exact v0
    rw [k1 s0' v0', bnd_so]
    simp only [bnd_so]
    have eh : ((wa w 98 (60 * p + j) ((n + 1 : Nat) : Int)).1 120).toInt64 + (I (va ((wa w 98 (60 * p + j) ((n + 1 : Nat) : Int)).2.2.2 91 (46000 * p + W)))).toInt64 = (m.1 944).toInt64 + ((m.2.2.2 (pq p 35) W).toInt32).toInt64 := by
      show (w.1 120).toInt64 + (I (va (w.2.2.2 91 (46000 * p + W)))).toInt64 = _
      rw [ex, ← hcl, valI]
    rw [eh]
    have vr := va_r (m.2.2.2 (pq p 35) W)
    refine fin _ _ (fun l h1 h2 => ?_) (fun l h0 h1 => ?_) rfl ?_ ?_ ?_ ?_ ?_ (Or.inr ?_)
    · rw [wi_1 (fun c => pq_n (by omega) c.symm), wi_1 (pq_inj h2)]
      exact wi_1 (pq_inj h1)
    · rw [wi_1 h1, wi_1 (pq_n h0)]
      exact wi_1 (pq_n h0)
    · rw [wi_ne (fun c => pq_n (by omega) c.symm), wi_ne (pq_inj (by omega))]
      show F (wi m (pq p 8) 0) (pq p 8) = _
      rw [wi_sm (by omega) (by omega)]; rfl
    · rw [wi_ne (fun c => pq_n (by omega) c.symm), wi_sm (by omega) (by omega)]
    · exact if_pos rfl
    · rw [wi_sm (by omega) (by omega)]
    · exact GGm.tr (GGm.tr (GGm.tr (GGm.tr (GGm_own (by omega)) (GGm_l (by omega))) (GGm_l (by omega))) (GGm_own (by omega))) (GGm_reg (by omega))
    · refine hr_ge ?_ ?_
      · rw [hcl]; exact hc0
      · rw [valI, I_ti vr.1 vr.2]; exact v0'
  · have e' : m.2.2.2 (pq p 35) W = mk 1 10 := (RTb_at rt).mpr e
    rw [k2 e', bnd_so]
    simp only [bnd_so]
    refine fin _ _ (fun l h1 h2 => ?_) (fun l h0 h1 => ?_) rfl ?_ ?_ ?_ ?_ ?_ (Or.inl rfl)
    · rw [wi_1 (fun c => pq_n (by omega) c.symm), wi_1 (pq_inj h2)]
      exact wi_1 (pq_inj h1)
    · rw [wi_1 h1, wi_1 (pq_n h0)]
      exact wi_1 (pq_n h0)
    · rw [wi_ne (fun c => pq_n (by omega) c.symm), wi_ne (pq_inj (by omega))]
      show F (wi m (pq p 8) 0) (pq p 8) = _
      rw [wi_sm (by omega) (by omega)]; rfl
    · rw [wi_ne (fun c => pq_n (by omega) c.symm), wi_sm (by omega) (by omega)]
    · exact if_pos rfl
    · rw [wi_sm (by omega) (by omega)]
    · exact GGm.tr (GGm.tr (GGm.tr (GGm_own (by omega)) (GGm_l (by omega))) (GGm_own (by omega))) (GGm_reg (by omega))
  · have n1' : ¬ (so (m.2.2.2 (pq p 35) W) = 0 ∧ 0 ≤ va (m.2.2.2 (pq p 35) W)) := fun c => by
      have nh : ¬ isH (m.2.2.2 (pq p 35) W) := by unfold isH; omega
      have ex : w.2.2.2 91 (46000 * p + W) = m.2.2.2 (pq p 35) W := RTb_n rt nh
      refine n1 ?_
      show so (w.2.2.2 91 (46000 * p + W)) = 0 ∧ 0 ≤ va (w.2.2.2 91 (46000 * p + W))
      rw [ex]
      exact c
    have n2' : m.2.2.2 (pq p 35) W ≠ mk 1 10 := fun c => n2 ((RTb_at rt).mp c)
    rw [k3 n1' n2', bnd_so]
    refine r_bb ?_
    simp only [bnd_so]
    generalize hmA : wl (wi m (pq p 8) 0) (pq p 10) (-1) = mA
    generalize hw9 : wa (wa w 98 (60 * p + j) ((n + 1 : Nat) : Int)) 92 p ((W : Nat) : Int) = w9
    have aq : ∀ k, k ≠ 8 → mA.1 (pq p k) = m.1 (pq p k) := fun k h => by rw [← hmA]; exact wi_1 (pq_inj h)
    have ag : ∀ k, k < 2000 → mA.1 k = m.1 k := fun k h => by rw [← hmA]; exact wi_1 (pq_n h)
    have aF : ∀ k, k < 2000 → F mA k = F m k := fun k h => congrArg Int32.toInt (ag k h)
    have fA : ∀ k, k ≠ 8 → F mA (pq p k) = F m (pq p k) := fun k h => congrArg Int32.toInt (aq k h)
    have a2 : mA.2.2 = m.2.2 := by rw [← hmA]; rfl
    have gmA : GGm p m mA := by rw [← hmA]; exact GGm.tr (GGm_own (by omega)) (GGm_l (by omega))
    have w9i : w9.1 = w.1 := by rw [← hw9]; rfl
    have w9F : ∀ k, F w9 k = F w k := fun k => by show (w9.1 k).toInt = _; rw [w9i]; rfl
    have w9J : w9.2.2.2 = w.2.2.2 := by rw [← hw9]; rfl
    have w9L : w9.2.1 = w.2.1 := by rw [← hw9]; rfl
    have w9t : ∀ K i, ¬ (K = 98 ∧ i = 60 * p + j) → ¬ (K = 92 ∧ i = p) → w9.2.2.1 K i = w.2.2.1 K i := fun K i h1 h2 => by rw [← hw9, wa_at h2, wa_at h1]
    have w9A : ∀ K i, ¬ (K = 98 ∧ i = 60 * p + j) → ¬ (K = 92 ∧ i = p) → A w9 K i = A w K i := fun K i h1 h2 => congrArg Int32.toInt (w9t K i h1 h2)
    have w9R : ∀ K, K ≠ 98 → K ≠ 92 → w9.2.2.1 K = w.2.2.1 K := fun K h1 h2 => by funext i; exact w9t K i (fun c => h1 c.1) (fun c => h2 c.1)
    have w992 : A w9 92 p = ((W : Nat) : Int) := by rw [← hw9, wa_sm (by omega) (by omega)]
    have pr : ∀ K, PRr K → w9.2.2.1 K = w.2.2.1 K := fun K h => w9R K (by unfold PRr at h; omega) (by unfold PRr at h; omega)
    have gw9 : GGw p w w9 := by rw [← hw9]; exact GGw.tr (GGw_fg FGw.goto hj) (GGw_fg (jj := j) FGw.w92 hj)
    have fc9 : FAs mA w9 p j nb Hs Os ∧ CTs mA w9 p j nb Hs Os := FC_w ⟨fa, ct⟩ (fun l h => aq l (by omega)) (fun l _ => by rw [a2]) (by rw [a2]) (fun K h => w9t K p (by omega) (by omega)) (fun K q h1 h2 h3 h4 => w9t K _ (by omega) (by omega)) (fun K c h1 h2 _ => w9t K _ (by omega) (by omega)) pr (by rw [w9J])
    have ru9 : RUb mA w9 p j nb Hs Os none := ⟨fc9, ⟨(fA 9 (by omega)).trans r5, (w9A 109 p (by omega) (by omega)).trans r6⟩, Or.inl ⟨rfl, (aF 1112 (by omega)).trans h12, (w9F 152).trans h152⟩, ⟨(aF 1108 (by omega)).trans r8, (aF 1109 (by omega)).trans r9, (w9F 151).trans r10⟩, (w9F 133).trans r11, by rw [ag 1106 (by omega), w9i]; exact r12, by rw [ag 1107 (by omega), w9i]; exact r13⟩
    have lbA : LNB mA p := by
      obtain ⟨l1, l2, l3⟩ := lb
      refine ⟨by rw [fA 45 (by omega)]; exact l1, by rw [fA 43 (by omega), fA 42 (by omega)]; exact l2, by rw [fA 47 (by omega), fA 28 (by omega)]; exact l3⟩
    have ptA : PTQ mA p U ow kw Fv P B (W + 1) Y := PTQ_same pt (fun k hk => aq k (by simp at hk; omega)) (fun k _ => by rw [a2])
    have cxA : CTX Fv P mA := CTX_fr cx (ag 22 (by omega)) (by rw [a2])
    have caA : CTa mA w9 p W := fun c h => by
      rw [fA 28 (by omega)] at h
      rw [w9A 104 _ (by omega) (by omega), w9A 103 _ (by omega) (by omega)]
      exact ca c h
    have sc9 : SCs p m w → SCs p mA w9 := fun s => SC_ow s (fun l hl => aq l (by omega)) (by rw [a2]) (fun K h1 h2 => w9R K (by omega) (by omega))
    have hp9 : hp w9 p = hp w p := by
      funext k
      show w9.2.2.2 88 (500 * p + k) = _
      rw [w9J]
      rfl
    have gA : GT U ow kw P (mk 1 11) := Or.inl ⟨nh_mk (by omega), cx.2.2.2.2.2.1 11 (by omega) (by have := cx.2.2.2.1; omega)⟩
    have gA' : GT U ow' kd' P' (mk 1 11) := Or.inl ⟨nh_mk (by omega), pb.1 11 (by omega) (by omega)⟩
    have rtA : RTb b (mk 1 11) (mk 1 11) := RTb_lit (nh_mk (by omega)) (fun c => by rw [so_mk (by omega) (by omega)] at c; omega)
    show PP Q _ (bnd ((rc_M_error N 20).1 w9 (I 11)) (fun u _ => K0 u))
    refine er_pp (K2 := fun u => K0 u) (fun d => ?_)
    obtain ⟨nC, n1c, n2c, -⟩ := id ct
    obtain ⟨x1, x2, x3, x4, ⟨x5, x6⟩, ⟨x7, x8⟩, ⟨x9, x10⟩, x11, x12, x13, x14⟩ := xc
    cases nC with
    | zero =>
      have xc9 : CX w9 p (hp w9 p) U ow' kd' Fv' P' W B0 Y := by
        refine ⟨rfl, by rw [hp9]; exact x2, x3, x4, ⟨w992, by omega⟩, ⟨by rw [w9A 94 p (by omega) (by omega)]; exact x7, x8⟩, ⟨by rw [w9A 108 p (by omega) (by omega)]; exact x9, x10⟩, fun i hi => by rw [w9J]; exact x11 i (by omega), fun i hi => by rw [w9J]; exact x12 i hi, fun i hi => by rw [w9J]; exact x13 i hi, fun h => by rw [w9L]; exact x14 (by rw [← w9F]; exact h)⟩
      refine err195 (by omega) ?_
      rw [raise_n ((aF 1112 (by omega)).trans h12) ⟨by omega, by omega⟩]
      have sct : SCs p mA w9 → SCs p (trs mA 1 (-1) (mk 1 11)) w9 := fun s => SC_ow s (fun _ _ => trs_q) rfl (fun _ _ _ => rfl)
      refine err_n2 (K1 := fun u => q206 Sf N (qgo Sf N M1) u p (I ((vk : Nat) : Int))) (K2 := fun u => K0 u) (ee' := 0) hpp hpr ?_ ?_ ?_ ?_ ?_ ((w9F 152).trans h152) ((w9F 133).trans r11) ⟨?_, ?_⟩ (PTQ_trs ptA) (CTX_trs cxA) xc9 (by rw [trs_10]; exact gA) gA' (by rw [trs_10]; exact rtA) ⟨(congrArg Int32.toInt (trs_1 (by omega) (by omega))).trans ((aF 955 (by omega)).trans hee.1), hee.2⟩ ⟨(w9F 150).trans q150, by omega⟩ (fun m1 t1 b1 b2 _ b3 b4 => ke m1 w9 1 t1 _ (GGm.tr gmA (GGm.tr GGm_trs b1)) gw9 (fun s => b2 (sct (sc9 s))) b3 (by omega) b4)
      · rw [trs_3, a2, hp9]
        exact pl.1.2.1
      · rw [w9A 89 p (by omega) (by omega)]
        have := pl.1.1.2.1
        rw [wa_rne (by omega)] at this
        exact this
      · rw [trs_q, aq 5 (by omega), w9R 90 (by omega) (by omega)]
        have := pl.1.2.2
        rw [wa_21 (by omega)] at this
        exact this
      · rw [show F (trs mA 1 (-1) (mk 1 11)) (pq p 28) = F mA (pq p 28) from congrArg Int32.toInt trs_q, fA 28 (by omega)]
        exact n1c
      · rw [w9A 106 p (by omega) (by omega)]
        exact n2c
      · rw [show F (trs mA 1 (-1) (mk 1 11)) (pq p 9) = F mA (pq p 9) from congrArg Int32.toInt trs_q, fA 9 (by omega), r5]
        omega
      · rw [w9A 109 p (by omega) (by omega), r6]
        omega
    | succ c =>
      obtain ⟨hc, -⟩ := ca c n1c
      rw [← gup_94 (z := ((B : Nat) : Int)) (c := c) hpp ((w9F 133).trans r11) ((w9F 152).trans h152) ((w9A 106 p (by omega) (by omega)).trans n2c) (by omega)]
      have hpE : hp (wa w9 94 p ((B : Nat) : Int)) p = hp w p := hp9
      have xcE : CX (wa w9 94 p ((B : Nat) : Int)) p (hp (wa w9 94 p ((B : Nat) : Int)) p) U ow' kd' Fv' P' W B Y := by
        refine ⟨rfl, by rw [hpE]; exact x2, x3, x4, ⟨by rw [wa_rne (by omega)]; exact w992, by omega⟩, ⟨wa_sm (by omega) (by omega), bd.1⟩, ⟨by rw [wa_rne (by omega), w9A 108 p (by omega) (by omega)]; exact x9, x10⟩, fun i hi => ?_, fun i hi => ?_, fun i hi => ?_, fun h => ?_⟩
        · show GT U ow' kd' P' (w9.2.2.2 91 (46000 * p + i))
          rw [w9J]; exact x11 i (by omega)
        · show GT U ow' kd' P' (w9.2.2.2 93 (2500 * p + i))
          rw [w9J]; exact x12 i (by omega)
        · show GT U ow' kd' P' (w9.2.2.2 107 (30 * p + i))
          rw [w9J]; exact x13 i hi
        · show GT U ow' kd' P' (w9.2.1 139)
          rw [w9L]
          refine x14 ?_
          rw [← w9F]
          exact h
      have plE : PLs b p (wi mA (pq p 26) ((W : Nat) : Int)) (wa w9 94 p ((B : Nat) : Int)) U B W Y := PLs_cg (PLs_drop (W := W) (k := 1) pl (by omega)) (fun k hk => by
          by_cases c : k = 26
          · subst c
            rw [wi_s1, wi_s1]
          · rw [wi_1 (pq_inj c), wi_1 (pq_inj c)]
            exact aq k (by simp at hk; omega)) (fun i _ => by show mA.2.2.2 _ _ = _; rw [a2]; rfl) (fun i _ => by show mA.2.2.2 _ _ = _; rw [a2]; rfl) (fun i _ => by show mA.2.2.2 _ _ = _; rw [a2]; rfl) (fun i _ => by show mA.2.2.2 _ _ = _; rw [a2]; rfl) (fun K hK => by
          by_cases c : K = 92
          · subst c
            rw [wa_21 (by omega), wa_s1]
            exact I_A' w992
          · by_cases c2 : K = 94
            · subst c2
              rw [wa_s1, wa_21 (by omega), wa_s1]
            · rw [wa_21 c2, wa_21 c, wa_21 c2]
              exact w9t K p (by simp at hK; omega) (by omega)) (fun i _ => by show w9.2.2.2 _ _ = _; rw [w9J]; rfl) (fun i _ => by show w9.2.2.2 _ _ = _; rw [w9J]; rfl) (fun i _ => by show w9.2.2.2 _ _ = _; rw [w9J]; rfl) (fun i _ => by show w9.2.2.2 _ _ = _; rw [w9J]; rfl)
      have gwE : GGw p w (wa w9 94 p ((B : Nat) : Int)) := GGw.tr gw9 (GGw_own (Or.inl ⟨by omega, rfl⟩))
      have scE : SCs p m w → SCs p mA (wa w9 94 p ((B : Nat) : Int)) := fun s => SC_ow (sc9 s) (fun _ _ => rfl) rfl (fun K h1 h2 => wa_21 (by omega))
      have caE : CTa mA (wa w9 94 p ((B : Nat) : Int)) p W := fun c h => by
        rw [wa_rne (by omega), wa_rne (by omega)]
        exact caA c h
      exact wrong_up (how := 1) (kn := 0) (Wc := W + 1) (ee' := 0) (K2 := fun u => K0 u) (Or.inl ⟨rfl, rfl⟩) hpp hpr plE (RUb_94 ru9) (by omega) bd lbA ptA cxA xcE pb gA gA' rtA caE ⟨(aF 955 (by omega)).trans hee.1, hee.2⟩ ⟨(w9F 150).trans q150, by omega⟩ hN (fun b3 U3 W3 r k a0 nn m3 w3 b1 b2 b3' b4 b5 => kk b3 U3 W3 r k a0 nn m3 w3 b1 b2 (GGm.tr gmA b3') (GGw.tr gwE b4) (fun s => b5 (scE s))) (fun m3 w3 wr t3 x3 b1 b2 b3 b4 b5 b6 => ke m3 w3 wr t3 x3 (GGm.tr gmA b1) (GGw.tr gwE b2) (fun s => b3 (scE s)) b4 b5 b6)
end
end
section
set_option maxRecDepth 100000
section
variable {Sf : MS → Int32 → Prop} {b : Int → Nat → Nat → Prop} {N p PR U B W Y j a n r M1 M2 vk ee l kn : Nat} {m w : MS} {nb : Nat → Nat} {Hs Os : Nat → List Nat} {Q : MS → Int32 → MS → Int32 → Prop} {ow kw ow' kd' : Nat → Nat} {Fv Fv' : Int64 → Int64 → Prop} {P P' : Int64 → Prop}
theorem op_28b {K0 K2 : MS → Option (MS × Int32)} (hpp : p < 24) (hpr : p < PR) (pl : PLs b p m w U B (W + 1) Y) (ru : RUs m w p j nb Hs Os none a n) (ha : a + 3 < 24000) (bd : B ≤ 2500 ∧ W < 46000) (hY : Y ≤ 30) (hvk : vk + 300 < 1000000000) (h956 : F m 955 ≤ F m 956) (q149 : F w 149 = 0) (q150 : F w 150 = 0) (hcl : m.1 944 = w.1 120) (hc0 : 0 ≤ F w 120) (hk : kn ≤ (Os j).length) (cf : A m 23 (a + 1) = (((Os j).length - kn : Nat) : Int)) (c31 : A m 23 (a + 2) = 31) (c1 : A m 23 (a + 3) = 1) (hr : r < 100000) (h25 : A w 25 n = ((r : Nat) : Int)) (h27 : A w 27 n = ((kn : Nat) : Int)) (r23 : A w 23 r = 27) (r31 : A w 31 r = ((n : Nat) : Int)) (r27 : A w 27 r = ((kn : Nat) : Int)) (rc : ∃ g, RCs (A m 23) (ROs w) (w.2.2.2 34) (CRs (A m 23) (ROs w) (w.2.2.2 34) g) g (a + 4) r (Hs j) ((Os j).take kn)) (hct : ∀ nC c : Nat, F m (pq p 28) = ((nC : Nat) : Int) → c < nC → A w 105 (1600 * p + c) ≤ ((nb j + (Hs j).length + kn : Nat) : Int)) (hl : F m (pq p 45) = ((l : Nat) : Int)) (hl2 : W + 1 ≤ l ∧ l ≤ 1000000)
    (lb : LNB m p) (pt : PTQ m p U ow kw Fv P B (W + 1) Y) (cx : CTX Fv P m) (xc : CX w p (hp w p) U ow' kd' Fv' P' (W + 1) B Y) (pb : PB P' PR) (ca : CTa m w p W) (hee : F m 955 = ((ee : Nat) : Int) ∧ ee < 24) (hN : 2200000 ≤ N)
    (hK0 : ∀ (u : MS) (Z : Option (MS × Int32)), GGw p w u → A u 98 (60 * p + j) = ((r : Nat) : Int) → A u 109 p = 0 → F u 151 = 0 → F u 133 = ((p : Nat) : Int) → A u 95 p = ((j + 1 : Nat) : Int) → F u 149 = 0 → F u 150 = 0 → A u 23 r = 27 → PP Q Z (bnd (fm_M_one N u (I ((r : Nat) : Int)) (I 27)) (fun u3 _ => K2 u3)) → PP Q Z (K0 u))
    (kW : ∀ M' vk' m3 w3, M' ≤ M1 → vk' ≤ vk + 62 → WTn m3 w3 p j nb Hs (tkO Os j kn) (a + 4) → PLs b p m3 w3 U (nb j + (Hs j).length + kn) W Y → GGm p m m3 → GGw p w w3 → (SCs p m w → SCs p m3 w3) → PP Q (q195 Sf N (qgo Sf N M') m3 p (I ((vk' : Nat) : Int))) (K2 w3))
    (kR : ∀ M' vk' m3 w3 l q, M' ≤ M1 → vk' ≤ vk + 62 → RUs m3 w3 p j nb Hs (tkO Os j kn) none l q → PLs b p m3 w3 U (nb j + (Hs j).length + kn) W Y → GGm p m m3 → GGw p w w3 → (SCs p m w → SCs p m3 w3) → PP Q (q195 Sf N (qgo Sf N M') m3 p (I ((vk' : Nat) : Int))) (K2 w3))
    (kT : ∀ M' vk' m3 w3 k, M' ≤ M1 → vk' ≤ vk + 2 → 0 < Y → TRs m3 w3 p j nb Hs (tkO Os j kn) 3 (a + 4) (a + 4 + 2) k → PLs b p m3 (wa w3 94 p ((nb j + (Hs j).length + kn : Nat) : Int)) U (nb j + (Hs j).length + kn) W Y → F m3 (pq p 8) = ((0 : Nat) : Int) → GGm p m m3 → GGw p w w3 → (SCs p m w → SCs p m3 w3) → (w3.2.2.2 88 = w.2.2.2 88 ∧ w3.1 140 = w.1 140) → PP Q (q195 Sf N (qgo Sf N M') m3 p (I ((vk' : Nat) : Int))) (bnd (gg_M_choose N (rc_M_error N 19) N w3 1) (fun u _ => K2 u)))
    (kk : ∀ M' vk' b3 U3 W3 r k a0 nn m3 w3, M' ≤ M1 → vk' ≤ vk + 1 → PLs b3 p m3 w3 U3 (nb r + (Hs r).length + k) (W3 + 1) Y → RUs m3 w3 p r nb Hs (tkO (tkO Os j kn) r k) none a0 nn → GGm p m m3 → GGw p w w3 → (SCs p m w → SCs p m3 w3) → PP Q (q206 Sf N (qgo Sf N M') m3 p (I ((vk' : Nat) : Int))) (K0 w3))
    (ke : ∀ M' vk' m3 w3 wr t3 x3, M' ≤ M1 → vk' ≤ vk + 1 → GGm p m m3 → GGw p w w3 → (SCs p m w → SCs p m3 w3) → m3.1 (pq p 5) = w3.2.2.1 90 p → (wr = 0 ∨ wr = 1 ∨ wr = 2) → RQs Fv P Fv' P' PR (enS m3 p t3 p ee) (enR w3 p wr ((p : Nat) : Int) x3 0) p wr p x3 → PP Q (q206 Sf N (qgo Sf N M') (enS m3 p t3 p ee) p (I ((vk' : Nat) : Int))) (K0 (wi (enR w3 p wr ((p : Nat) : Int) x3 0) 151 1))) : PP Q (bnd (hm_Ma_value N m p (I 16)) (fun u _ => q195 Sf N (qgo Sf N M1) u p (I ((vk : Nat) : Int)))) (bnd (fm_M_one N w (I ((n : Nat) : Int)) (I 28)) (fun u _ => K0 u)) := by
  obtain ⟨⟨fa, ct⟩, ⟨r2, r3⟩, ⟨f0, cr0⟩, ⟨r5, r6⟩, r7, ⟨r8, r9, r10⟩, r11, r12, r13⟩ := id ru
  obtain ⟨h12, h152⟩ : F m 1112 = 0 ∧ F w 152 = 0 := by
    rcases r7 with ⟨_, c3, c4⟩ | ⟨_, _, _, c, _⟩
    · exact ⟨c3, c4⟩
    · cases c
  have cb := CR_b cr0
  have nd := CR_n cr0
  have eB : B = nb j + (Hs j).length + (Os j).length := by
    have := fa.2.2.2
    rw [pl.2.1.1, List.length_append] at this
    omega
  have eB2 : B - ((Os j).length - kn) = nb j + (Hs j).length + kn := by omega
  rw [val16, I_F' r2, show I ((a : Nat) : Int) + 1 = I ((a + 1 : Nat) : Int) from addN, Co_e (k := a + 1) rfl (by omega), bnd_so, cf, forgetc_e (B := B) (k := (Os j).length - kn) pl.2.1.1 rfl (by omega), bnd_so, eB2]
  have e5 : F (wi m (pq p 24) ((nb j + (Hs j).length + kn : Nat) : Int)) 1105 = ((a : Nat) : Int) := by rw [wi_ne (pq_n (by omega))]; exact r2
  rw [I_F' e5, show I ((a : Nat) : Int) + 2 = I ((a + 2 : Nat) : Int) from addN, wi_e]
  show PP Q (q195 Sf N (qgo Sf N M1) (wi (wi m (pq p 24) ((nb j + (Hs j).length + kn : Nat) : Int)) 1105 ((a + 2 : Nat) : Int)) p (I ((vk : Nat) : Int))) _
  generalize hm1 : wi (wi m (pq p 24) ((nb j + (Hs j).length + kn : Nat) : Int)) 1105 ((a + 2 : Nat) : Int) = m1
  have i1 : ∀ k, k ≠ 24 → m1.1 (pq p k) = m.1 (pq p k) := fun k h2 => by rw [← hm1]; exact (if_neg (fun c => pq_n (by omega) c.symm)).trans (if_neg (pq_inj h2))
  have ig : ∀ k, k < 2000 → k ≠ 1105 → m1.1 k = m.1 k := fun k h0 h1 => by rw [← hm1]; exact (if_neg h1).trans (if_neg (pq_n h0))
  have iF : ∀ k, k < 2000 → k ≠ 1105 → F m1 k = F m k := fun k h0 h1 => congrArg Int32.toInt (ig k h0 h1)
  have fq : ∀ k, k ≠ 24 → F m1 (pq p k) = F m (pq p k) := fun k h => congrArg Int32.toInt (i1 k h)
  have i2 : m1.2 = m.2 := by rw [← hm1]; rfl
  have e24 : F m1 (pq p 24) = ((nb j + (Hs j).length + kn : Nat) : Int) := by rw [← hm1, wi_ne (fun c => pq_n (by omega) c.symm), wi_sm (by omega) (by omega)]
  have epc : F m1 1105 = ((a + 2 : Nat) : Int) := by rw [← hm1, wi_sm (by omega) (by omega)]
  have gm : GGm p m m1 := by rw [← hm1]; exact GGm.tr (GGm_own (by omega)) (GGm_reg (by omega))
  have h23 : A m1 23 = A m 23 := by funext i; show (m1.2.2.1 23 i).toInt = _; rw [i2]; rfl
  have fa2 : FAs m1 w p j nb Hs (tkO Os j kn) := FA_less fa hk (i1 21 (by omega)) e24 (fun _ _ => by rw [i2]) (by rw [i2]) rfl (fun _ _ _ _ _ _ => rfl) (fun _ _ => rfl) rfl
  have ct2 : CTs m1 w p j nb Hs (tkO Os j kn) := CT_less ct hct hk (i1 28 (by omega)) (by rw [i2]) (by rw [i2]) rfl (fun _ _ _ => rfl) (fun _ _ => rfl) rfl
  have ru1 : RUb m1 w p j nb Hs (tkO Os j kn) none := ⟨⟨fa2, ct2⟩, ⟨(fq 9 (by omega)).trans r5, r6⟩, Or.inl ⟨rfl, (iF 1112 (by omega) (by omega)).trans h12, h152⟩, ⟨(iF 1108 (by omega) (by omega)).trans r8, (iF 1109 (by omega) (by omega)).trans r9, r10⟩, r11, by rw [ig 1106 (by omega) (by omega)]; exact r12, by rw [ig 1107 (by omega) (by omega)]; exact r13⟩
  have pl1 : PLs b p m1 (wa w 94 p ((nb j + (Hs j).length + kn : Nat) : Int)) U (nb j + (Hs j).length + kn) (W + 1) Y := by
    have pl2 : PLs b p m w U (nb j + (Hs j).length + kn + ((Os j).length - kn)) (W + 1) Y := by
      rw [show nb j + (Hs j).length + kn + ((Os j).length - kn) = B by omega]
      exact pl
    rw [← hm1]
    exact PLs_pc (PLs_forget pl2 (by omega))
  have tl : (tkO Os j kn j).length = kn := by rw [tkO_j, List.length_take]; omega
  have lb1 : LNB m1 p := by
    obtain ⟨l1, l2, l3⟩ := lb
    refine ⟨by rw [fq 45 (by omega)]; exact l1, by rw [fq 43 (by omega), fq 42 (by omega)]; exact l2, by rw [fq 47 (by omega), fq 28 (by omega)]; exact l3⟩
  have pt1 : PTQ m1 p U ow kw Fv P (nb j + (Hs j).length + kn) (W + 1) Y := by
    obtain ⟨⟨p1, p2, p3⟩, ⟨p4, p5⟩, ⟨p6, p7⟩, ⟨p8, p9⟩, ⟨l1, z1, z2, z3⟩, ⟨l2, y1, y2, y3⟩, p10⟩ := pt
    refine ⟨⟨(fq 4 (by omega)).trans p1, p2, by rw [i2]; exact p3⟩, ⟨e24, fun i hi => by rw [i2]; exact p5 i (by omega)⟩, ⟨(fq 26 (by omega)).trans p6, fun i hi => by rw [i2]; exact p7 i hi⟩, ⟨(fq 7 (by omega)).trans p8, fun i hi => by rw [i2]; exact p9 i hi⟩, ⟨l1, (fq 43 (by omega)).trans z1, by omega, z3⟩, ⟨l2, (fq 45 (by omega)).trans y1, y2, y3⟩, p10⟩
  have cx1 : CTX Fv P m1 := CTX_fr cx (ig 22 (by omega) (by omega)) (by rw [i2])
  have ca1 : CTa m1 w p W := fun c h => ca c ((fq 28 (by omega)).symm.trans h)
  have sc1 : SCs p m w → SCs p m1 w := fun s => SC_ow s (fun l hl => i1 l (by omega)) (by rw [i2]) (fun _ _ _ => rfl)
  refine go195 ((iF 1109 (by omega) (by omega)).trans r9) (by rw [iF 955 (by omega) (by omega), iF 956 (by omega) (by omega)]; exact h956) (fun hsf => ?_)
  cases M1 with
  | zero => exact pp_nl
  | succ M1 =>
  show PP Q (q67 Sf N (qgo Sf N M1) m1 p (I ((vk + 1 : Nat) : Int))) _
  rw [go_fl (v := 31) (a := a + 2) ((fq 9 (by omega)).trans r5) ((iF 1108 (by omega) (by omega)).trans r8) (by omega) epc (by omega) (by rw [h23]; exact c31) (by omega)]
  obtain ⟨g, rc⟩ := rc
  exact awa_pp (r := r) (B0 := B) (Os := tkO Os j kn) hpp hpr pl1 ru1 epc (by omega) ⟨by omega, bd.2⟩ hY (by omega) (by rw [iF 955 (by omega) (by omega), iF 956 (by omega) (by omega)]; exact h956) q149 q150 (by rw [ig 944 (by omega) (by omega)]; exact hcl) hc0 (by rw [h23]; exact c1) (by omega) hr h25 (by rw [tl]; exact h27) r23 r31 (by rw [tl]; exact r27) ⟨by rw [tkO_j]; exact List.Nodup.sublist (List.take_sublist _ _) nd.1, nd.2⟩ ⟨g, by rw [h23, tkO_j]; exact rc⟩ ((fq 45 (by omega)).trans hl) hl2 lb1 pt1 cx1 xc (by omega) pb ca1 ⟨(iF 955 (by omega) (by omega)).trans hee.1, hee.2⟩ hN hK0 (fun M' vk' m3 w3 q1 q2 a1 a2 a3 a4 a5 => kW M' vk' m3 w3 (by omega) (by omega) a1 a2 (GGm.tr gm a3) a4 (fun s => a5 (sc1 s))) (fun M' vk' m3 w3 l q q1 q2 a1 a2 a3 a4 a5 => kR M' vk' m3 w3 l q (by omega) (by omega) a1 a2 (GGm.tr gm a3) a4 (fun s => a5 (sc1 s))) (fun M' vk' m3 w3 k q1 q2 q3 a1 a2 a3 a4 a5 a6 a7 => kT M' vk' m3 w3 k (by omega) (by omega) q3 a1 a2 a3 (GGm.tr gm a4) a5 (fun s => a6 (sc1 s)) a7) (fun b3 U3 W3 r k a0 nn m3 w3 b1 b2 b3' b4 b5 => kk M1 (vk + 1) b3 U3 W3 r k a0 nn m3 w3 (by omega) (by omega) b1 b2 (GGm.tr gm b3') b4 (fun s => b5 (sc1 s))) (fun m3 w3 wr t3 x3 b1 b2 b3 b4 b5 b6 => ke M1 (vk + 1) m3 w3 wr t3 x3 (by omega) (by omega) (GGm.tr gm b1) b2 (fun s => b3 (sc1 s)) b4 b5 b6)
end
end
section
set_option maxRecDepth 100000
def cnk (fl : Nat → Bool) : Nat → Nat
  | 0 => 0
  | i + 1 => cnk fl i + (if fl i = true then 0 else 1)
def selk (fl : Nat → Bool) (e : Nat → Int64) : Nat → Nat → Int64
  | 0, _ => 0
  | k + 1, r => if fl k = false ∧ r = cnk fl k then e k else selk fl e k r
section
variable {fl : Nat → Bool} {e : Nat → Int64}
theorem cnk_s {i : Nat} (h : fl i = false) : cnk fl (i + 1) = cnk fl i + 1 := by
  show cnk fl i + (if fl i = true then 0 else 1) = _
  rw [h]
  rfl
theorem cnk_f {i : Nat} (h : fl i = true) : cnk fl (i + 1) = cnk fl i := by
  show cnk fl i + (if fl i = true then 0 else 1) = _
  rw [if_pos h, Nat.add_zero]
theorem cnk_le1 {i : Nat} : cnk fl i ≤ cnk fl (i + 1) := Nat.le_add_right _ _
theorem cnk_mono : ∀ d i : Nat, cnk fl i ≤ cnk fl (i + d)
  | 0, _ => Nat.le_refl _
  | d + 1, i => Nat.le_trans (cnk_mono d i) cnk_le1
theorem cnk_m {i k : Nat} (h : i ≤ k) : cnk fl i ≤ cnk fl k := by
  have := cnk_mono (fl := fl) (k - i) i
  rw [show i + (k - i) = k by omega] at this
  exact this
theorem cnk_b : ∀ k : Nat, cnk fl k ≤ k
  | 0 => Nat.le_refl _
  | k + 1 => by
    have := cnk_b k
    show cnk fl k + (if fl k = true then 0 else 1) ≤ k + 1
    split <;> omega
theorem cnk_all {k : Nat} : (∀ i, i < k → fl i = false) → cnk fl k = k := by
  induction k with
  | zero => intro _; rfl
  | succ k ih =>
    intro h
    rw [cnk_s (h k (by omega)), ih (fun i hi => h i (by omega))]
theorem selk_at : ∀ k i : Nat, i < k → fl i = false → selk fl e k (cnk fl i) = e i
  | 0, i, h, _ => absurd h (Nat.not_lt_zero _)
  | k + 1, i, h, hf => by
    show (if fl k = false ∧ cnk fl i = cnk fl k then e k else selk fl e k (cnk fl i)) = e i
    by_cases c : i = k
    · subst c
      rw [if_pos ⟨hf, rfl⟩]
    · have h1 := cnk_s hf
      have h2 := cnk_m (fl := fl) (show i + 1 ≤ k by omega)
      rw [if_neg (by omega)]
      exact selk_at k i (by omega) hf
theorem selk_ex : ∀ k r : Nat, r < cnk fl k → ∃ i, i < k ∧ fl i = false ∧ r = cnk fl i
  | 0, r, h => absurd h (Nat.not_lt_zero _)
  | k + 1, r, h => by
    by_cases c : r < cnk fl k
    · obtain ⟨i, a1, a2, a3⟩ := selk_ex k r c
      exact ⟨i, by omega, a2, a3⟩
    · cases hf : fl k with
      | true => rw [cnk_f hf] at h; omega
      | false => rw [cnk_s hf] at h; exact ⟨k, by omega, hf, by omega⟩
end
section
variable {b : Int → Nat → Nat → Prop} {Fv Fv' : Int64 → Int64 → Prop} {P P' : Int64 → Prop} {ow kd ow' kd' : Nat → Nat} {U U' n0 n0' k : Nat} {h h' : Nat → Int64} {t x : Int64}
theorem tl_TP (is : ISb b h n0 h' n0') (g : HPc h U ow kd Fv P) (g' : HP h' U' ow' kd' Fv' P') (q : TPb b U ow kd P U' ow' kd' P' t x) (hs : ∀ j, j < k → so (tlc h t j) = 7) : ∀ j, j ≤ k → TPb b U ow kd P U' ow' kd' P' (tlc h t j) (tlc h' x j) := by
  intro j
  induction j with
  | zero => intro _; exact q
  | succ j ih =>
    intro hj
    exact (TP_pair is g g' (ih (by omega)) (hs j (by omega))).2.2
end
section
variable {b : Int → Nat → Nat → Prop} {Fv Fv' : Int64 → Int64 → Prop} {P P' : Int64 → Prop} {ow kd ow' kd' : Nat → Nat} {N p n k B W Y ee : Nat} {m w : MS}
theorem room_tags (q : PTQ m p n ow kd Fv P B W Y) (cx : CTX Fv P m) (hk : k ≤ 2000) (h9 : F m (pq p 9) ≠ 3) (hee : F m 955 = ((ee : Nat) : Int) ∧ ee < 24) (hN : 2200000 ≤ N) : PK (fun m3 r => r = 1 → ∀ i, i < W → ∀ j, (∀ i2, i2 < j → so (tlc (m.2.2.2 (pq p 2)) (m.2.2.2 (pq p 35) i) i2) = 7) → so (tlc (m3.2.2.2 (pq p 2)) (m3.2.2.2 (pq p 35) i) j) = so (tlc (m.2.2.2 (pq p 2)) (m.2.2.2 (pq p 35) i) j)) (hm_Ma_room N m p (I ((k : Nat) : Int))) := by
  refine pk_mo (room_e (N := N) (p := p) (k := k) (m := m) (ee := ee) (fun m2 (_ : Int32) => ∀ i, i < W → ∀ j, (∀ i2, i2 < j → so (tlc (m.2.2.2 (pq p 2)) (m.2.2.2 (pq p 35) i) i2) = 7) → so (tlc (m2.2.2.2 (pq p 2)) (m2.2.2.2 (pq p 35) i) j) = so (tlc (m.2.2.2 (pq p 2)) (m.2.2.2 (pq p 35) i) j)) (pk_mo (pk_ok (want_ok (N := N) (x := ((k : Nat) : Int)) q cx ⟨by omega, by omega⟩ (by omega))) (fun m2 r h => ?_)) h9 hee) (fun m3 r h e => ?_)
  · obtain ⟨a1, U, ow2, kd2, a2, a3, a4, a5, a6⟩ := h
    exact ⟨a1, a4, fun i hi j hj => (a6 i hi).2.1.2 j hj⟩
  · obtain ⟨m2, a1, a2, c⟩ := h
    rcases c with ⟨_, rfl⟩ | ⟨c, _⟩
    · exact a2
    · rw [e] at c
      exact absurd c (by decide)
end
def SCw (w w2 : MS) : Prop := FR [169] [] [168] [167, 141] w w2
section
variable {b : Int → Nat → Nat → Prop} {Fv Fv' : Int64 → Int64 → Prop} {P P' : Int64 → Prop} {ow kd ow' kd' : Nat → Nat} {N p j U B W Y a n : Nat} {m w w2 : MS} {nb : Nat → Nat} {Hs Os : Nat → List Nat} {y : Option (Nat × Nat × Nat)}
theorem SCw_pl (f : SCw w w2) (pl : PLs b p m w U B W Y) : PLs b p m w2 U B W Y := PLs_cg pl (fun _ _ => rfl) (fun _ _ => rfl) (fun _ _ => rfl) (fun _ _ => rfl) (fun _ _ => rfl) (fun K hK => by rw [f.2.2.1 K (by simp at hK ⊢; omega)]) (fun _ _ => by rw [f.2.2.2 88 (by simp)]) (fun _ _ => by rw [f.2.2.2 93 (by simp)]) (fun _ _ => by rw [f.2.2.2 91 (by simp)]) (fun _ _ => by rw [f.2.2.2 107 (by simp)])
theorem SCw_pr (f : SCw w w2) : ∀ K, PRr K → w2.2.2.1 K = w.2.2.1 K := fun K h => f.2.2.1 K (by unfold PRr at h; simp; omega)
theorem SCw_hp (f : SCw w w2) : hp w2 p = hp w p := by
  funext k
  show w2.2.2.2 88 (500 * p + k) = _
  rw [f.2.2.2 88 (by simp)]
  rfl
theorem SCw_gg (f : SCw w w2) : GGw p w w2 := ⟨fun d _ => ⟨fun K i h => by rw [f.2.2.1 K (by have := OWi_k h; simp; omega)], fun K h => by rw [f.2.2.1 K (by simp; omega)], fun i _ _ => by rw [f.2.2.1 131 (by simp)], by rw [f.2.2.2 111 (by simp)], fun _ _ _ => by rw [f.2.2.2 88 (by simp)], fun _ _ _ => by rw [f.2.2.2 91 (by simp)], fun _ _ _ => by rw [f.2.2.2 93 (by simp)], fun _ _ _ => by rw [f.2.2.2 107 (by simp)]⟩, ⟨SCw_pr f, f.2.2.2 34 (by simp), f.2.2.1 12 (by simp), f.2.2.1 13 (by simp), f.1 14 (by simp)⟩, f.1 150 (by simp), fun K h => f.2.2.1 K (by simp; omega), f.2.2.2 148 (by simp), fun K h => f.2.2.1 K (by simp; omega), fun k h => f.1 k (by simp; omega)⟩
theorem RUb_sc (f : SCw w w2) (ru : RUb m w p j nb Hs Os y) : RUb m w2 p j nb Hs Os y := RUb_st ru ⟨fun _ _ _ => rfl, fun _ _ _ => rfl, fun _ _ _ => rfl, rfl⟩ ⟨fun K i h _ _ => by rw [f.2.2.1 K (by have := OWi_k h; simp; omega)], by rw [f.2.2.2 111 (by simp)], SCw_pr f, f.2.2.2 34 (by simp)⟩ ⟨⟨⟨rfl, rfl, rfl⟩, SCw_pr f, f.2.2.2 34 (by simp), f.2.2.1 12 (by simp), f.2.2.1 13 (by simp), f.1 14 (by simp)⟩, fun _ _ _ => ⟨rfl, rfl⟩, fun k h => f.1 k (by simp; omega)⟩
theorem SCw_cx (f : SCw w w2) (xc : CX w p (hp w p) U ow' kd' Fv' P' W B Y) : CX w2 p (hp w2 p) U ow' kd' Fv' P' W B Y := by
  obtain ⟨x1, x2, x3, x4, ⟨x5, x6⟩, ⟨x7, x8⟩, ⟨x9, x10⟩, x11, x12, x13, x14⟩ := xc
  exact ⟨rfl, by rw [SCw_hp f]; exact x2, x3, x4, ⟨by rw [FR.A f (by simp)]; exact x5, x6⟩, ⟨by rw [FR.A f (by simp)]; exact x7, x8⟩, ⟨by rw [FR.A f (by simp)]; exact x9, x10⟩, fun i hi => by rw [f.2.2.2 91 (by simp)]; exact x11 i hi, fun i hi => by rw [f.2.2.2 93 (by simp)]; exact x12 i hi, fun i hi => by rw [f.2.2.2 107 (by simp)]; exact x13 i hi, fun h => by rw [f.2.1 139 (by simp)]; exact x14 (by rw [← FR.F f (by simp)]; exact h)⟩
end
end
section
set_option maxRecDepth 100000
section
variable {N p U W k1 C : Nat} {w w0 : MS} {te x0 : Int64} {fl : Nat → Bool} {ee xx : Nat → Int64}
theorem anw_p (hpp : p < 24) (h133 : F w0 133 = ((p : Nat) : Int)) (h92 : A w0 92 p = ((W + 2 : Nat) : Int)) (hW : W + 2 ≤ 46000) (hk : k1 ≤ 1000) (hfl : ∀ i, i < k1 → A w0 168 i = if fl i = true then 1 else 0) (h167 : ∀ i, i < k1 → w0.2.2.2 167 i = ee i) (hC : C = cnk fl k1) (hxx : ∀ i, i < k1 → fl i = false → xx (cnk fl i) = ee i) (hU : U + 2 * C ≤ 500) : ∀ (i M : Nat) (w : MS) (t : Int64), i ≤ k1 → FR [] [] [89] [88] w0 w → A w 89 p = ((U + 2 * (C - cnk fl i) : Nat) : Int) → (∀ r, r ≠ p → A w 89 r = A w0 89 r) → (∀ q, ¬ (500 * p ≤ q ∧ q < 500 * p + 500) → w.2.2.2 88 q = w0.2.2.2 88 q) → lsC (hp w p) (hp w0 p) U (C - cnk fl i) C xx te → t = (if C - cnk fl i = 0 then te else mk 7 ((U + 2 * (C - cnk fl i - 1) : Nat) : Int)) → PK (fun w2 (_ : Unit) => ∃ w1 : MS, FR [] [] [89] [88] w0 w1 ∧ A w1 89 p = ((U + 2 * C : Nat) : Int) ∧ (∀ r, r ≠ p → A w1 89 r = A w0 89 r) ∧ (∀ q, ¬ (500 * p ≤ q ∧ q < 500 * p + 500) → w1.2.2.2 88 q = w0.2.2.2 88 q) ∧ lsC (hp w1 p) (hp w0 p) U C C xx te ∧ w2 = wa (wj (wa w1 92 p ((W : Nat) : Int)) 91 (46000 * p + W) (if C = 0 then te else mk 7 ((U + 2 * (C - 1) : Nat) : Int))) 92 p ((W + 1 : Nat) : Int)) ((gg_M_anew N M).2 w t (I (((i : Nat) : Int) - 1))) := by
  intro i
  induction i with
  | zero =>
    intro M w t hi fr h89 ho1 ho2 ls ht
    cases M with
    | zero => exact pk_none
    | succ M =>
    show PK _ (fb_M_anew_95 N (gg_M_anew N M) w t (I (((0 : Nat) : Int) - 1)))
    unfold fb_M_anew_95
    have c0 : cnk fl 0 = 0 := rfl
    rw [c0, Nat.sub_zero] at h89 ls ht
    have x33 : F w 133 = ((p : Nat) : Int) := by rw [FR.F fr (by simp)]; exact h133
    have x92 : A w 92 p = ((W + 2 : Nat) : Int) := by rw [FR.A fr (by simp)]; exact h92
    rw [show ((0 : Nat) : Int) - 1 = -1 by omega, show decide (I (-1) < 0) = true from rfl, br_tq]
    refine pk_ck (fun _ => pk_ck (fun _ => ?_))
    rw [I_F' x33, tnI (n := p) rfl (by omega), I_A' x92, show I ((W + 2 : Nat) : Int) - 2 = I ((W : Nat) : Int) by rw [show (2 : Int32) = I 2 from rfl, I_sub]; congr 1; omega, wa_e, lt_e]
    have y33 : F (wa w 92 p ((W : Nat) : Int)) 133 = ((p : Nat) : Int) := x33
    refine pk_bnd (pk_mo (put_r (N := N) (x := t) (W := W) hpp y33 (wa_sm (by omega) (by omega)) (by omega)) (fun w2 _ e => ?_))
    subst e
    exact pk_some ⟨w, fr, h89, ho1, ho2, ls, by rw [ht]⟩
  | succ i ih =>
    intro M w t hi fr h89 ho1 ho2 ls ht
    cases M with
    | zero => exact pk_none
    | succ M =>
    show PK _ (fb_M_anew_95 N (gg_M_anew N M) w t (I (((i + 1 : Nat) : Int) - 1)))
    unfold fb_M_anew_95 fb_M_anew_130
    have x33 : F w 133 = ((p : Nat) : Int) := by rw [FR.F fr (by simp)]; exact h133
    have x168 : A w 168 i = if fl i = true then 1 else 0 := by rw [FR.A fr (by simp)]; exact hfl i (by omega)
    have x167 : w.2.2.2 167 i = ee i := by rw [fr.2.2.2 167 (by simp)]; exact h167 i (by omega)
    have e1 : ((i + 1 : Nat) : Int) - 1 = ((i : Nat) : Int) := by omega
    have e2 : I ((i : Nat) : Int) + -1 = I (((i : Nat) : Int) - 1) := by rw [m1I, I_add]; congr 1
    rw [e1, d_lt0 (by omega), br_fq]
    refine pk_ck (fun _ => ?_)
    rw [tnI (n := i) rfl (by omega), I_A' x168, e2]
    have cm := cnk_m (fl := fl) (show i + 1 ≤ k1 by omega)
    cases hf : fl i with
    | true =>
      have ce := cnk_f hf
      rw [ce] at h89 ls ht
      rw [if_pos rfl, show decide (I 1 = 0) = false from rfl, br_fq]
      exact ih M w t (by omega) fr h89 ho1 ho2 ls ht
    | false =>
      have ce := cnk_s hf
      have e3 : C - cnk fl i = C - cnk fl (i + 1) + 1 := by omega
      rw [show (if false = true then (1 : Int) else 0) = 0 from rfl, show decide (I 0 = 0) = true from rfl, br_tq]
      refine pk_ck (fun _ => ?_)
      rw [x167]
      refine pk_bnd (pk_mo (pair_r (N := N) (U := U + 2 * (C - cnk fl (i + 1))) hpp x33 h89 (by omega)) (fun w2 r e => ?_))
      obtain ⟨rfl, rfl⟩ := e
      rw [show (7 : Int32) = I 7 from rfl, term_e, bnd_so]
      refine ih M _ _ (by omega) (FR_pair fr) ?_ (fun r hr => ?_) (fun q hq => ?_) ?_ ?_
      · rw [wa_sm (by omega) (by omega)]
        congr 1
        omega
      · rw [wa_ro (by omega) (by omega), if_neg hr]
        exact ho1 r hr
      · show (wj (wj w 88 (500 * p + (U + 2 * (C - cnk fl (i + 1)))) _) 88 (500 * p + (U + 2 * (C - cnk fl (i + 1))) + 1) t).2.2.2 88 q = _
        rw [wj_row, if_neg (by omega), wj_row, if_neg (by omega)]
        exact ho2 q hq
      · rw [e3]
        refine lsC_s ls ?_ ht
        rw [show C - 1 - (C - cnk fl (i + 1)) = cnk fl i by omega]
        exact (hxx i (by omega) hf).symm
      · rw [if_neg (by omega), show C - cnk fl i - 1 = C - cnk fl (i + 1) by omega]
theorem anw_c {x1 : Int64} (hpp : p < 24) (h133 : F w0 133 = ((p : Nat) : Int)) (h92 : A w0 92 p = ((W + 2 : Nat) : Int)) (hW : W + 2 ≤ 46000) (hk : k1 ≤ 1000) (hfl : ∀ i, i < k1 → A w0 168 i = if fl i = true then 1 else 0) (h89 : A w0 89 p = ((U : Nat) : Int)) (hC : C = cnk fl k1) (hU : U + 2 * C ≤ 500) (hts : ∀ i, i < k1 → va (tlc (hp w0 p) x1 i) = ((vn (tlc (hp w0 p) x1 i) : Nat) : Int) ∧ vn (tlc (hp w0 p) x1 i) + 2 ≤ 500) (hxx : ∀ i, i < k1 → fl i = false → xx (cnk fl i) = hp w0 p (vn (tlc (hp w0 p) x1 i))) (hx0 : w0.2.2.2 91 (46000 * p + (W + 1)) = x0) (h169 : (F w0 169 = 0 ∧ te = x0) ∨ (F w0 169 = 1 ∧ te = tlc (hp w0 p) x1 k1)) : ∀ (d M i : Nat) (w : MS), i + d = k1 → FR [] [] [] [167] w0 w → (∀ q, q < i → w.2.2.2 167 q = hp w0 p (vn (tlc (hp w0 p) x1 q))) → PK (fun w2 (_ : Unit) => ∃ w1 : MS, FR [] [] [89] [88, 167] w0 w1 ∧ A w1 89 p = ((U + 2 * C : Nat) : Int) ∧ (∀ r, r ≠ p → A w1 89 r = A w0 89 r) ∧ (∀ q, ¬ (500 * p ≤ q ∧ q < 500 * p + 500) → w1.2.2.2 88 q = w0.2.2.2 88 q) ∧ lsC (hp w1 p) (hp w0 p) U C C xx te ∧ w2 = wa (wj (wa w1 92 p ((W : Nat) : Int)) 91 (46000 * p + W) (if C = 0 then te else mk 7 ((U + 2 * (C - 1) : Nat) : Int))) 92 p ((W + 1 : Nat) : Int)) ((gg_M_anew N M).1 w (I ((k1 : Nat) : Int)) (tlc (hp w0 p) x1 i) (I ((i : Nat) : Int))) := by
  intro d
  induction d with
  | zero =>
    intro M i w hi fr h167
    have : i = k1 := by omega
    subst this
    cases M with
    | zero => exact pk_none
    | succ M =>
    show PK _ (fb_M_anew_26 N (gg_M_anew N M) w (I ((i : Nat) : Int)) (tlc (hp w0 p) x1 i) (I ((i : Nat) : Int)))
    unfold fb_M_anew_26 fb_M_anew_88
    have x33 : F w 133 = ((p : Nat) : Int) := by rw [FR.F fr (by simp)]; exact h133
    have x92 : A w 92 p = ((W + 2 : Nat) : Int) := by rw [FR.A fr (by simp)]; exact h92
    have hpw : hp w p = hp w0 p := by
      funext k
      show w.2.2.2 88 (500 * p + k) = _
      rw [fr.2.2.2 88 (by simp)]
      rfl
    have e1 : I ((i : Nat) : Int) - 1 = I (((i : Nat) : Int) - 1) := by rw [lit1q, I_sub]
    rw [decI (by omega) (by omega) (by omega) (by omega), decide_eq_true (by omega), br_tq, e1]
    have fin : PK (fun w2 (_ : Unit) => ∃ w1 : MS, FR [] [] [89] [88, 167] w0 w1 ∧ A w1 89 p = ((U + 2 * C : Nat) : Int) ∧ (∀ r, r ≠ p → A w1 89 r = A w0 89 r) ∧ (∀ q, ¬ (500 * p ≤ q ∧ q < 500 * p + 500) → w1.2.2.2 88 q = w0.2.2.2 88 q) ∧ lsC (hp w1 p) (hp w0 p) U C C xx te ∧ w2 = wa (wj (wa w1 92 p ((W : Nat) : Int)) 91 (46000 * p + W) (if C = 0 then te else mk 7 ((U + 2 * (C - 1) : Nat) : Int))) 92 p ((W + 1 : Nat) : Int)) ((gg_M_anew N M).2 w te (I (((i : Nat) : Int) - 1))) := by
      have c0 : C - cnk fl i = 0 := by omega
      refine pk_mo (anw_p (N := N) (p := p) (U := U) (W := W) (k1 := i) (C := C) (w0 := w) (te := te) (fl := fl) (ee := fun q => hp w0 p (vn (tlc (hp w0 p) x1 q))) (xx := xx) hpp x33 x92 hW hk (fun q hq => by rw [FR.A fr (by simp)]; exact hfl q hq) h167 hC hxx hU i M w te (Nat.le_refl _) FR.rf (by rw [c0, FR.A fr (by simp), h89]; congr 1) (fun _ _ => rfl) (fun _ _ => rfl) ⟨fun _ _ => rfl, fun r hr => by omega⟩ (by rw [c0, if_pos rfl])) (fun w2 _ hh => ?_)
      obtain ⟨w1, f1, a1, a2, a3, a4, a5⟩ := hh
      refine ⟨w1, FR.tr (FR.mo fr (by simp) (by simp) (by simp) (by simp)) (FR.mo f1 (by simp) (by simp) (by simp) (by simp)), a1, fun r hr => by rw [a2 r hr, FR.A fr (by simp)], fun q hq => by rw [a3 q hq, fr.2.2.2 88 (by simp)], by rw [← hpw]; exact a4, a5⟩
    rcases h169 with ⟨c1, c2⟩ | ⟨c1, c2⟩
    · have y169 : F w 169 = 0 := by rw [FR.F fr (by simp)]; exact c1
      rw [I_F' y169, show decide (I 0 = 0) = true from rfl, br_tq, show (0 : Int32) = I ((0 : Nat) : Int) from rfl]
      refine pk_bnd (pk_mo (top_r (N := N) (k := 0) (W := W + 2) hpp x33 x92 hW (by omega)) (fun w2 r e => ?_))
      obtain ⟨rfl, rfl⟩ := e
      rw [show W + 2 - 1 - 0 = W + 1 by omega, fr.2.2.2 91 (by simp), hx0, ← c2]
      exact fin
    · have y169 : F w 169 = 1 := by rw [FR.F fr (by simp)]; exact c1
      rw [I_F' y169, show decide (I 1 = 0) = false from rfl, br_fq, ← c2]
      exact fin
  | succ d ih =>
    intro M i w hi fr h167
    cases M with
    | zero => exact pk_none
    | succ M =>
    show PK _ (fb_M_anew_26 N (gg_M_anew N M) w (I ((k1 : Nat) : Int)) (tlc (hp w0 p) x1 i) (I ((i : Nat) : Int)))
    unfold fb_M_anew_26
    have x33 : F w 133 = ((p : Nat) : Int) := by rw [FR.F fr (by simp)]; exact h133
    have hpw : ∀ u : MS, FR [] [] [] [167] w0 u → hp u p = hp w0 p := fun u fu => by
      funext k
      show u.2.2.2 88 (500 * p + k) = _
      rw [fu.2.2.2 88 (by simp)]
      rfl
    obtain ⟨v1, v2⟩ := hts i (by omega)
    rw [decI (by omega) (by omega) (by omega) (by omega), decide_eq_false (by omega), br_fq, valueOf_e, bnd_so, v1, I_F' x33, cell_e (by omega) (by omega), bnd_so, hpw w fr]
    refine pk_ck (fun _ => ?_)
    rw [tnI (n := i) rfl (by omega), wj_e, lt_e, valueOf_e, bnd_so, v1]
    have y33 : F (wj w 167 i (hp w0 p (vn (tlc (hp w0 p) x1 i)))) 133 = ((p : Nat) : Int) := x33
    have fr2 : FR [] [] [] [167] w0 (wj w 167 i (hp w0 p (vn (tlc (hp w0 p) x1 i)))) := FR.wj fr (by simp)
    rw [I_F' y33, show I ((vn (tlc (hp w0 p) x1 i) : Nat) : Int) + 1 = I ((vn (tlc (hp w0 p) x1 i) + 1 : Nat) : Int) from addN, cell_e (by omega) (by omega), bnd_so, hpw _ fr2, show I ((i : Nat) : Int) + 1 = I ((i + 1 : Nat) : Int) from addN]
    refine ih M (i + 1) _ (by omega) fr2 (fun q hq => ?_)
    rw [wj_row]
    by_cases c : q = i
    · rw [if_pos c, c]
    · rw [if_neg c]
      exact h167 q (by omega)
end
end
section
set_option maxRecDepth 100000
section
variable {N p U W k a lc : Nat} {m m0 : MS} {t1 : Int64}
theorem jn_m (h26 : F m0 (pq p 26) = ((W + 2 : Nat) : Int)) (hl : F m0 (pq p 45) = ((lc : Nat) : Int)) (hl2 : W + 2 ≤ lc ∧ lc ≤ 1000000) (h5 : F m0 1105 = ((a : Nat) : Int)) (ha : a < 24000) (hk : 0 < k) (hU : U + 2 * k ≤ 500) (hts : ∀ i, i < k → va (tlc (m0.2.2.2 (pq p 2)) t1 i) = ((vn (tlc (m0.2.2.2 (pq p 2)) t1 i) : Nat) : Int) ∧ vn (tlc (m0.2.2.2 (pq p 2)) t1 i) + 2 ≤ U) : ∀ (d M : Nat) (m : MS) (s : Nat), s + d = k → FR [] [] [] [pq p 2] m0 m → lsM (m.2.2.2 (pq p 2)) (m0.2.2.2 (pq p 2)) U s (fun i => m0.2.2.2 (pq p 2) (vn (tlc (m0.2.2.2 (pq p 2)) t1 i))) → PK (fun m2 (_ : Unit) => FR [pq p 4, pq p 26, pq p 45, 1105] [] [] [pq p 2, pq p 35] m0 m2 ∧ F m2 (pq p 4) = ((U + 2 * k : Nat) : Int) ∧ F m2 (pq p 26) = ((W + 1 : Nat) : Int) ∧ F m2 1105 = ((a + 2 : Nat) : Int) ∧ (∀ i, i < U → m2.2.2.2 (pq p 2) i = m0.2.2.2 (pq p 2) i) ∧ (∀ r, r < k → m2.2.2.2 (pq p 2) (U + 2 * r) = m0.2.2.2 (pq p 2) (vn (tlc (m0.2.2.2 (pq p 2)) t1 r)) ∧ m2.2.2.2 (pq p 2) (U + 2 * r + 1) = (if r + 1 = k then m0.2.2.2 (pq p 35) (W + 1) else mk 7 ((U + 2 * (r + 1) : Nat) : Int))) ∧ ∀ i, i ≤ W → m2.2.2.2 (pq p 35) i = if i = W then mk 7 ((U : Nat) : Int) else m0.2.2.2 (pq p 35) i) (hg_Ma_join N M m p (I ((k : Nat) : Int)) (I ((U : Nat) : Int)) (tlc (m0.2.2.2 (pq p 2)) t1 s) (I ((s : Nat) : Int))) := by
  intro d
  induction d with
  | zero =>
    intro M m s hs fr ls
    have : s = k := by omega
    subst this
    cases M with
    | zero => exact pk_none
    | succ M =>
    show PK _ (hb_Ma_join_106 N (hg_Ma_join N M) m p (I ((s : Nat) : Int)) (I ((U : Nat) : Int)) (tlc (m0.2.2.2 (pq p 2)) t1 s) (I ((s : Nat) : Int)))
    unfold hb_Ma_join_106
    have e26 : F m (pq p 26) = ((W + 2 : Nat) : Int) := by rw [FR.F fr (by simp)]; exact h26
    have e45 : F m (pq p 45) = ((lc : Nat) : Int) := by rw [FR.F fr (by simp)]; exact hl
    have j35 : m.2.2.2 (pq p 35) = m0.2.2.2 (pq p 35) := fr.2.2.2 _ (by simp; exact pq_inj (by omega))
    have be : hm_Fr_below N m p 0 = some (m, m0.2.2.2 (pq p 35) (W + 1)) := by
      have := below_e (N := N) (x := 0) (k := 0) (W := W + 2) (l := lc) e26 e45 hl2.1 hl2.2 rfl (by omega)
      rw [show W + 2 - 1 - 0 = W + 1 by omega, j35] at this
      exact this
    rw [decI (by omega) (by omega) (by omega) (by omega), decide_eq_true (by omega), br_tq, be, bnd_so, endL_e hk hU, bnd_so, show (7 : Int32) = I 7 from rfl, e_make, bnd_so, show (2 : Int32) = I ((2 : Nat) : Int) from rfl]
    generalize hm1 : wi (wj m (pq p 2) (U + 2 * s - 1) (m0.2.2.2 (pq p 35) (W + 1))) (pq p 4) ((U + 2 * s : Nat) : Int) = m1
    have f1 : FR [pq p 4] [] [] [pq p 2] m0 m1 := by
      rw [← hm1]
      exact FR.wi (FR.wj (FR.mo fr (by simp) (by simp) (by simp) (by simp)) (by simp)) (by simp)
    have e4 : F m1 (pq p 4) = ((U + 2 * s : Nat) : Int) := by rw [← hm1, wi_sm (by omega) (by omega)]
    have c1 : ∀ i, m1.2.2.2 (pq p 2) i = if i = U + 2 * s - 1 then m0.2.2.2 (pq p 35) (W + 1) else m.2.2.2 (pq p 2) i := fun i => by
      rw [← hm1]
      show (wj m (pq p 2) (U + 2 * s - 1) (m0.2.2.2 (pq p 35) (W + 1))).2.2.2 (pq p 2) i = _
      rw [wj_row]
    unfold hm_Ma_answer hb_Ma_answer_0
    have g26 : F m1 (pq p 26) = ((W + 2 : Nat) : Int) := by rw [FR.F f1 (by simp; exact pq_inj (by omega))]; exact h26
    rw [drop_e (W := W + 2) (k := 2) (x := ((2 : Nat) : Int)) g26 rfl (by omega), bnd_so, bb_e, show W + 2 - 2 = W by omega]
    have h26' : F (wi m1 (pq p 26) ((W : Nat) : Int)) (pq p 26) = ((W : Nat) : Int) := wi_sm (by omega) (by omega)
    have h45' : F (wi m1 (pq p 26) ((W : Nat) : Int)) (pq p 45) = ((lc : Nat) : Int) := by rw [wi_ne (pq_inj (by omega)), FR.F f1 (by simp; exact pq_inj (by omega))]; exact hl
    refine pk_bnd (pk_mo (push_m (N := N) (t := mk 7 ((U : Nat) : Int)) h26' h45' (by omega) hl2.2) (fun m2 _ hh => ?_))
    obtain ⟨z1, z2, z3⟩ := hh
    rw [bnd_so]
    have e5 : F m2 1105 = ((a : Nat) : Int) := by
      rw [FR.F z1 (by simp [pq_n]), wi_ne (pq_n (by omega)), FR.F f1 (by simp [pq_n])]
      exact h5
    rw [I_F' e5, show I ((a : Nat) : Int) + I ((2 : Nat) : Int) = I ((a + 2 : Nat) : Int) from addN, wi_e, lt_e]
    have j2 : m2.2.2.2 (pq p 2) = m1.2.2.2 (pq p 2) := z1.2.2.2 _ (by simp; exact pq_inj (by omega))
    refine pk_some ⟨?_, ?_, ?_, wi_sm (by omega) (by omega), fun i hi => ?_, fun r hr => ⟨?_, ?_⟩, fun i hi => ?_⟩
    · exact FR.wi (FR.tr (FR.wi (FR.mo f1 (by simp) (by simp) (by simp) (by simp)) (by simp)) (FR.mo z1 (by simp) (by simp) (by simp) (by simp))) (by simp)
    · rw [wi_ne (fun c => pq_n (by omega) c.symm), FR.F z1 (by simp; exact ⟨pq_inj (by omega), pq_inj (by omega)⟩), wi_ne (pq_inj (by omega))]
      exact e4
    · rw [wi_ne (fun c => pq_n (by omega) c.symm)]
      exact z2
    · show m2.2.2.2 (pq p 2) i = _
      rw [j2, c1, if_neg (by omega)]
      exact ls.1 i hi
    · show m2.2.2.2 (pq p 2) (U + 2 * r) = _
      rw [j2, c1, if_neg (by omega)]
      exact (ls.2 r hr).1
    · show m2.2.2.2 (pq p 2) (U + 2 * r + 1) = _
      rw [j2, c1]
      by_cases c : r + 1 = s
      · rw [if_pos (by omega), if_pos c]
      · rw [if_neg (by omega), if_neg c]
        exact (ls.2 r hr).2
    · show m2.2.2.2 (pq p 35) i = _
      rw [z3 i hi]
      by_cases c : i = W
      · rw [if_pos c, if_pos c]
      · rw [if_neg c, if_neg c]
        show m1.2.2.2 (pq p 35) i = _
        rw [f1.2.2.2 _ (by simp; exact pq_inj (by omega))]
  | succ d ih =>
    intro M m s hs fr ls
    cases M with
    | zero => exact pk_none
    | succ M =>
    show PK _ (hb_Ma_join_106 N (hg_Ma_join N M) m p (I ((k : Nat) : Int)) (I ((U : Nat) : Int)) (tlc (m0.2.2.2 (pq p 2)) t1 s) (I ((s : Nat) : Int)))
    unfold hb_Ma_join_106
    obtain ⟨v1, v2⟩ := hts s (by omega)
    have s1 : I ((U : Nat) : Int) + 2 * I ((s : Nat) : Int) = I ((U + 2 * s : Nat) : Int) := by
      rw [show (2 : Int32) = I 2 from rfl, I_mul, I_add]
      congr 1 <;> omega
    rw [decI (by omega) (by omega) (by omega) (by omega), decide_eq_false (by omega), br_fq, valI, v1, s1, (I_inb (by omega) (by omega)).mpr ⟨by omega, by omega⟩, ck_t, (I_inb (by omega) (by omega)).mpr ⟨by omega, by omega⟩, ck_t, tnI (n := U + 2 * s) rfl (by omega), tnI (n := vn (tlc (m0.2.2.2 (pq p 2)) t1 s)) rfl (by omega), wj_e, lt_e, show I ((U + 2 * s : Nat) : Int) + 2 = I ((U + 2 * s + 2 : Nat) : Int) from addN, show (7 : Int32) = I 7 from rfl, e_make, bnd_so, show I ((U + 2 * s : Nat) : Int) + 1 = I ((U + 2 * s + 1 : Nat) : Int) from addN, (I_inb (by omega) (by omega)).mpr ⟨by omega, by omega⟩, ck_t, tnI (n := U + 2 * s + 1) rfl (by omega), wj_e, lt_e, show I ((vn (tlc (m0.2.2.2 (pq p 2)) t1 s) : Nat) : Int) + 1 = I ((vn (tlc (m0.2.2.2 (pq p 2)) t1 s) + 1 : Nat) : Int) from addN, (I_inb (by omega) (by omega)).mpr ⟨by omega, by omega⟩, ck_t, tnI (n := vn (tlc (m0.2.2.2 (pq p 2)) t1 s) + 1) rfl (by omega), show I ((s : Nat) : Int) + 1 = I ((s + 1 : Nat) : Int) from addN, wj_row, if_neg (by omega), wj_row, if_neg (by omega), ls.1 _ (show vn (tlc (m0.2.2.2 (pq p 2)) t1 s) + 1 < U by omega), ls.1 _ (show vn (tlc (m0.2.2.2 (pq p 2)) t1 s) < U by omega)]
    refine ih M _ (s + 1) (by omega) (FR.wj (FR.wj fr (by simp)) (by simp)) ⟨fun i hi => ?_, fun r hr => ?_⟩
    · rw [wj_row, if_neg (by omega), wj_row, if_neg (by omega)]
      exact ls.1 i hi
    · by_cases c : r = s
      · subst c
        rw [wj_row, if_neg (by omega), wj_row, if_pos rfl, wj_row, if_pos rfl]
        exact ⟨rfl, by congr 1⟩
      · rw [wj_row, if_neg (by omega), wj_row, if_neg (by omega), wj_row, if_neg (by omega), wj_row, if_neg (by omega)]
        exact ls.2 r (by omega)
end
end
section
set_option maxRecDepth 100000
def LMm (m m7 : MS) (p U C W : Nat) (tt : Nat → Int64) (te : Int64) : Prop :=
  FR [pq p 4, pq p 26, pq p 45, 1105] [] [] [pq p 2, pq p 35] m m7 ∧ F m7 (pq p 4) = ((U + 2 * C : Nat) : Int) ∧ F m7 (pq p 26) = ((W + 1 : Nat) : Int) ∧ (∀ i, i < U → m7.2.2.2 (pq p 2) i = m.2.2.2 (pq p 2) i) ∧ (∀ r, r < C → m7.2.2.2 (pq p 2) (U + 2 * r) = tt r ∧ m7.2.2.2 (pq p 2) (U + 2 * r + 1) = (if r + 1 = C then te else mk 7 ((U + 2 * (r + 1) : Nat) : Int))) ∧ ∀ i, i ≤ W → m7.2.2.2 (pq p 35) i = if i = W then (if C = 0 then te else mk 7 ((U : Nat) : Int)) else m.2.2.2 (pq p 35) i
def LMw (w w7 : MS) (p U C W : Nat) (xx : Nat → Int64) (xe : Int64) : Prop :=
  ∃ w1 : MS, FR [] [] [89] [88, 167] w w1 ∧ A w1 89 p = ((U + 2 * C : Nat) : Int) ∧ (∀ r, r ≠ p → A w1 89 r = A w 89 r) ∧ (∀ q, ¬ (500 * p ≤ q ∧ q < 500 * p + 500) → w1.2.2.2 88 q = w.2.2.2 88 q) ∧ lsC (hp w1 p) (hp w p) U C C xx xe ∧ w7 = wa (wj (wa w1 92 p ((W : Nat) : Int)) 91 (46000 * p + W) (if C = 0 then xe else mk 7 ((U + 2 * (C - 1) : Nat) : Int))) 92 p ((W + 1 : Nat) : Int)
section
variable {b : Int → Nat → Nat → Prop} {p U B W Y C j : Nat} {m w m7 w7 : MS} {tt xx : Nat → Int64} {te xe : Int64}
theorem SCw_J {r : Nat → Int64} : SCw w (upJ w 167 r) := ⟨fun _ _ => rfl, fun _ _ => rfl, fun _ _ => rfl, fun K h => if_neg (by simp at h; exact h.1)⟩
theorem anw_fin (hpp : p < 24) (pl : PLs b p m w U B (W + 2) Y) (hU : U + 2 * C ≤ 500) (hW : W + 2 ≤ 46000) (cm : LMm m m7 p U C W tt te) (cw : LMw w w7 p U C W xx xe) (r1 : ∀ i, i < C → RTb b (tt i) (xx i)) (r2 : RTb b te xe) : (∃ b3, PLs b3 p m7 w7 (U + 2 * C) B (W + 1) Y) ∧ FGm p m m7 ∧ ∃ wX, SCw w wX ∧ FGw p j wX w7 ∧ w7.2.2.1 98 = w.2.2.1 98 := by
  obtain ⟨t1, t2, t3, t5, t6, t7⟩ := cm
  obtain ⟨w1, f1, s89, so1, so2, ls, hw7⟩ := cw
  have sX : SCw w (upJ w 167 (w1.2.2.2 167)) := SCw_J
  have plX := SCw_pl sX pl
  have hpX := SCw_hp (p := p) sX
  generalize hwX : upJ w 167 (w1.2.2.2 167) = wX at sX plX hpX
  have j1 : ∀ K, K ≠ 88 → w1.2.2.2 K = wX.2.2.2 K := fun K h => by
    rw [← hwX]
    by_cases c : K = 167
    · subst c
      show w1.2.2.2 167 = (if (167 : Nat) = 167 then w1.2.2.2 167 else w.2.2.2 167)
      rw [if_pos rfl]
    · rw [f1.2.2.2 K (by simp; omega)]
      exact (if_neg c).symm
  have f7 : FR [] [] [89, 92] [88, 91] wX w7 := by
    refine ⟨fun k _ => ?_, fun k _ => ?_, fun K h => ?_, fun K h => ?_⟩
    · rw [hw7, ← hwX]
      exact f1.1 k (by simp)
    · rw [hw7, ← hwX]
      exact f1.2.1 k (by simp)
    · simp at h
      rw [hw7, wa_21 h.2]
      show (wa w1 92 p ((W : Nat) : Int)).2.2.1 K = _
      rw [wa_21 h.2, f1.2.2.1 K (by simp; exact h.1), ← hwX]
      rfl
    · simp at h
      rw [hw7]
      show (wj (wa w1 92 p ((W : Nat) : Int)) 91 (46000 * p + W) (if C = 0 then xe else mk 7 ((U + 2 * (C - 1) : Nat) : Int))).2.2.2 K = _
      rw [wj_22 h.2]
      exact j1 K h.1
  have hp7 : hp w7 p = hp w1 p := by
    funext i
    rw [hw7]
    show (wj (wa w1 92 p ((W : Nat) : Int)) 91 (46000 * p + W) (if C = 0 then xe else mk 7 ((U + 2 * (C - 1) : Nat) : Int))).2.2.2 88 (500 * p + i) = _
    rw [wj_22 (by omega)]
    rfl
  have w791 : ∀ i, w7.2.2.2 91 i = if i = 46000 * p + W then (if C = 0 then xe else mk 7 ((U + 2 * (C - 1) : Nat) : Int)) else wX.2.2.2 91 i := fun i => by
    rw [hw7]
    show (wj (wa w1 92 p ((W : Nat) : Int)) 91 (46000 * p + W) (if C = 0 then xe else mk 7 ((U + 2 * (C - 1) : Nat) : Int))).2.2.2 91 i = _
    rw [wj_row]
    by_cases c : i = 46000 * p + W
    · rw [if_pos c, if_pos c]
    · rw [if_neg c, if_neg c]
      exact congrFun (j1 91 (by omega)) i
  have e89 : A w7 89 p = ((U + 2 * C : Nat) : Int) := by
    rw [hw7, wa_rne (by omega)]
    show A (wa w1 92 p ((W : Nat) : Int)) 89 p = _
    rw [wa_rne (by omega)]
    exact s89
  have e92 : A w7 92 p = ((W + 1 : Nat) : Int) := by rw [hw7, wa_sm (by omega) (by omega)]
  have X89 : ∀ r, A wX 89 r = A w 89 r := fun r => FR.A sX (by simp)
  have X92 : ∀ r, A wX 92 r = A w 92 r := fun r => FR.A sX (by simp)
  have fw7 : FGw p j wX w7 := by
    refine FGw_mk f7 (fun r hr => ?_) (fun r hr => ?_) (fun i hi => ?_) (fun i hi => ?_)
    · rw [hw7, wa_rne (by omega)]
      show A (wa w1 92 p ((W : Nat) : Int)) 89 r = _
      rw [wa_rne (by omega), X89]
      exact so1 r hr
    · rw [hw7, wa_ro (by omega) (by omega), if_neg hr]
      show A (wa w1 92 p ((W : Nat) : Int)) 92 r = _
      rw [wa_ro (by omega) (by omega), if_neg hr, X92]
      exact FR.A f1 (by simp)
    · rw [hw7]
      show (wj (wa w1 92 p ((W : Nat) : Int)) 91 (46000 * p + W) (if C = 0 then xe else mk 7 ((U + 2 * (C - 1) : Nat) : Int))).2.2.2 88 i = _
      rw [wj_22 (by omega), sX.2.2.2 88 (by simp)]
      exact so2 i hi
    · rw [w791, if_neg (by omega)]
  have ls' : lsC (hp w7 p) (hp wX p) U C C xx xe := by rw [hp7, hpX]; exact ls
  have top' : ∀ (x : Int64), x = (if C = 0 then xe else mk 7 ((U + 2 * (C - 1) : Nat) : Int)) → ∀ i, i ≤ W → w7.2.2.2 91 (46000 * p + i) = if i = W then x else wX.2.2.2 91 (46000 * p + i) := fun x hx i hi => by
    rw [w791, ← hx]
    by_cases c : i = W
    · rw [if_pos c, if_pos (by omega)]
    · rw [if_neg c, if_neg (by omega)]
  refine ⟨?_, FR.mo t1 (by simp) (by simp) (by simp) (by simp), wX, sX, fw7, by rw [f7.2.2.1 98 (by simp), sX.2.2.1 98 (by simp)]⟩
  by_cases cl : C = 0
  · have t7' : ∀ i, i ≤ W → m7.2.2.2 (pq p 35) i = if i = W then te else m.2.2.2 (pq p 35) i := fun i hi => by rw [t7 i hi, if_pos cl]
    have is7 : ISb b (m7.2.2.2 (pq p 2)) (U + 2 * C) (hp w7 p) (U + 2 * C) := by
      rw [cl]
      exact ISb_ag plX.1.2.1 t5 ls'.1
    exact ⟨b, PLs_mk plX (fun _ _ _ h => h) t1 t2 t3 (by omega) t7' f7 e89 hU e92 (top' xe (by rw [if_pos cl])) is7 r2⟩
  · have t7' : ∀ i, i ≤ W → m7.2.2.2 (pq p 35) i = if i = W then mk 7 ((U : Nat) : Int) else m.2.2.2 (pq p 35) i := fun i hi => by rw [t7 i hi, if_neg cl]
    obtain ⟨is7, rt7⟩ := pairs_iso (l := C) (h2 := m7.2.2.2 (pq p 2)) (h2' := hp w7 p) (tt := tt) (xx := xx) (te := te) (xe := xe) plX.1.2.1 hU (by omega) t5 t6 ls' r1 r2
    exact ⟨_, PLs_mk plX (fun _ _ _ h => Or.inl h) t1 t2 t3 (by omega) t7' f7 e89 hU e92 (top' _ (by rw [if_neg cl])) is7 rt7⟩
end
end
section
set_option maxRecDepth 100000
section
variable {N p U W l f0 f1 z0 z1 : Nat} {m w : MS} {h : Nat → Int64} {ow kd : Nat → Nat} {Fv : Int64 → Int64 → Prop} {P : Int64 → Prop} {t0 t1 : Int64}
theorem val10y : hm_Ma_value N m p (I 10) = bnd (hm_Co_at N m ((m.1 1105) + 1)) (fun u4 r4 => br (decide (r4 = 43)) (bnd (hm_Ma_join N u4 p) (fun u25 _ => some (u25, ()))) (bnd (hm_Ma_without N u4 p) (fun u24 _ => some (u24, ())))) := rfl
theorem two_22 : fm_M_twoRun N w (I 22) = bnd (fm_M_joined N w) (fun u13 _ => some (u13, ())) := rfl
theorem two_23 : fm_M_twoRun N w (I 23) = bnd (fm_M_lessened N w) (fun u12 _ => some (u12, ())) := rfl
theorem wants_0 (hpp : p < 24) (h89 : A w 89 p = ((U : Nat) : Int)) (hU : U ≤ 500) : PK (fun w2 r => w2 = w ∧ r = 1) (fm_M_wants N w (I ((p : Nat) : Int)) (I ((0 : Nat) : Int))) := by
  unfold fm_M_wants fb_M_wants_0 fb_M_wants_19 fb_M_wants_38
  refine pk_ck (fun _ => ?_)
  rw [tnI (n := p) rfl (by omega), I_A' h89, show I ((U : Nat) : Int) + I ((0 : Nat) : Int) = I ((U : Nat) : Int) from addN, show (500 : Int32) = I ((500 : Nat) : Int) from rfl, decI (by omega) (by omega) (by omega) (by omega), decide_eq_true (by omega), br_tq]
  refine pk_ck (fun _ => ?_)
  rw [show decide (I ((500 : Nat) : Int) < I ((U : Nat) : Int)) = false from decide_eq_false (by rw [I_lt (by omega) (by omega) (by omega) (by omega)]; omega), br_fq]
  exact pk_ck (fun _ => pk_some ⟨rfl, rfl⟩)
theorem szs2 (h26 : F m (pq p 26) = ((W + 2 : Nat) : Int)) (hl : F m (pq p 45) = ((l : Nat) : Int)) (hl2 : W + 2 ≤ l ∧ l ≤ 1000000) (ht1 : m.2.2.2 (pq p 35) W = t1) (ht0 : m.2.2.2 (pq p 35) (W + 1) = t0) (hh : m.2.2.2 (pq p 2) = h) (hU : U ≤ 500) (hF : FVc Fv) (s0 : SZc h U ow kd Fv P f0 t0 z0) (s1 : SZc h U ow kd Fv P f1 t1 z1) (b0 : z0 ≤ 1000) (b1 : z1 ≤ 1000) (hN : 6000 ≤ N) : ∀ M, PK (fun m2 r => FR [] [] [] [45] m m2 ∧ r = I ((z0 + z1 : Nat) : Int)) (hg_Ma_sizes N M m p 2 0 0) := by
  intro M
  cases M with
  | zero => exact pk_none
  | succ M =>
  show PK _ (hb_Ma_sizes_5 N (hg_Ma_sizes N M) m p 2 0 0)
  unfold hb_Ma_sizes_5
  have be : hm_Fr_below N m p 0 = some (m, t0) := by
    have := below_e (N := N) (x := 0) (k := 0) (W := W + 2) (l := l) h26 hl hl2.1 hl2.2 rfl (by omega)
    rw [show W + 2 - 1 - 0 = W + 1 by omega, ht0] at this
    exact this
  rw [show decide ((2 : Int32) ≤ 0) = false from rfl, br_fq, be, bnd_so]
  refine pk_bnd (pk_mo (pk_ok (size_ok (N := N) (b := pq p 2) (u := m) (fun c => pq_n (by omega) c.symm) hh (by omega) hF.1 (by omega) s0 hN)) (fun m1 r e => ?_))
  obtain ⟨fa, rfl⟩ := e
  have g26 : F m1 (pq p 26) = ((W + 2 : Nat) : Int) := by rw [FR.F fa (by simp)]; exact h26
  have g45 : F m1 (pq p 45) = ((l : Nat) : Int) := by rw [FR.F fa (by simp)]; exact hl
  have gj : ∀ d, m1.2.2.2 (pq p d) = m.2.2.2 (pq p d) := fun d => fa.2.2.2 _ (by simp; exact fun c => pq_n (by omega) c.symm)
  cases M with
  | zero => exact pk_none
  | succ M =>
  show PK _ (hb_Ma_sizes_5 N (hg_Ma_sizes N M) m1 p 2 (0 + I ((z0 : Nat) : Int)) (0 + 1))
  unfold hb_Ma_sizes_5
  have be1 : hm_Fr_below N m1 p (0 + 1) = some (m1, t1) := by
    have := below_e (N := N) (x := 1) (k := 1) (W := W + 2) (l := l) g26 g45 hl2.1 hl2.2 rfl (by omega)
    rw [show W + 2 - 1 - 1 = W by omega, gj, ht1] at this
    exact this
  rw [show decide ((2 : Int32) ≤ 0 + 1) = false from rfl, br_fq, be1, bnd_so]
  refine pk_bnd (pk_mo (pk_ok (size_ok (N := N) (b := pq p 2) (u := m1) (fun c => pq_n (by omega) c.symm) ((gj 2).trans hh) (by omega) hF.1 (by omega) s1 hN)) (fun m2 r e => ?_))
  obtain ⟨fb, rfl⟩ := e
  cases M with
  | zero => exact pk_none
  | succ M =>
  show PK _ (hb_Ma_sizes_5 N (hg_Ma_sizes N M) m2 p 2 (0 + I ((z0 : Nat) : Int) + I ((z1 : Nat) : Int)) (0 + 1 + 1))
  unfold hb_Ma_sizes_5
  rw [show decide ((2 : Int32) ≤ 0 + 1 + 1) = true from rfl, br_tq, show (0 : Int32) + I ((z0 : Nat) : Int) = I ((0 + z0 : Nat) : Int) from addN (a := 0), addN, show 0 + z0 + z1 = z0 + z1 by omega]
  exact pk_some ⟨FR.tr fa fb, rfl⟩
end
section
variable {N p U W l a : Nat} {m : MS} {te : Int64} {tt : Nat → Int64}
theorem ans0_m (h26 : F m (pq p 26) = ((W + 2 : Nat) : Int)) (hl : F m (pq p 45) = ((l : Nat) : Int)) (hl2 : W + 2 ≤ l ∧ l ≤ 1000000) (h5 : F m 1105 = ((a : Nat) : Int)) (ha : a < 24000) (h4 : F m (pq p 4) = ((U : Nat) : Int)) : PK (fun m7 (_ : Unit) => LMm m m7 p U 0 W tt te ∧ F m7 1105 = ((a + 2 : Nat) : Int)) (bnd (hm_Ma_answer N m p 2 te) (fun u51 _ => lt (upI u51 1105 ((u51.1 1105) + 2)) (fun w53 => some (w53, ())))) := by
  unfold hm_Ma_answer hb_Ma_answer_0
  rw [show (2 : Int32) = I ((2 : Nat) : Int) from rfl, drop_e (W := W + 2) (k := 2) (x := ((2 : Nat) : Int)) h26 rfl (by omega), bnd_so, bb_e, show W + 2 - 2 = W by omega]
  have h26' : F (wi m (pq p 26) ((W : Nat) : Int)) (pq p 26) = ((W : Nat) : Int) := wi_sm (by omega) (by omega)
  have h45' : F (wi m (pq p 26) ((W : Nat) : Int)) (pq p 45) = ((l : Nat) : Int) := by rw [wi_ne (pq_inj (by omega))]; exact hl
  refine pk_bnd (pk_mo (push_m (N := N) (t := te) h26' h45' (by omega) hl2.2) (fun m2 _ hh => ?_))
  obtain ⟨z1, z2, z3⟩ := hh
  rw [bnd_so]
  have e5 : F m2 1105 = ((a : Nat) : Int) := by
    rw [FR.F z1 (by simp [pq_n]), wi_ne (pq_n (by omega))]
    exact h5
  rw [I_F' e5, show I ((a : Nat) : Int) + I ((2 : Nat) : Int) = I ((a + 2 : Nat) : Int) from addN, wi_e, lt_e]
  refine pk_some ⟨⟨?_, ?_, ?_, fun i hi => ?_, fun r hr => absurd hr (Nat.not_lt_zero _), fun i hi => ?_⟩, wi_sm (by omega) (by omega)⟩
  · exact FR.wi (FR.tr (FR.wi FR.rf (by simp)) (FR.mo z1 (by simp) (by simp) (by simp) (by simp))) (by simp)
  · rw [wi_ne (fun c => pq_n (by omega) c.symm), FR.F z1 (by simp; exact ⟨pq_inj (by omega), pq_inj (by omega)⟩), wi_ne (pq_inj (by omega)), h4]
    rfl
  · rw [wi_ne (fun c => pq_n (by omega) c.symm)]
    exact z2
  · show m2.2.2.2 (pq p 2) i = _
    rw [z1.2.2.2 _ (by simp; exact pq_inj (by omega))]
    rfl
  · show m2.2.2.2 (pq p 35) i = _
    rw [z3 i hi, if_pos rfl]
    rfl
end
section
variable {α β : Type} {N k : Nat} {w0 : MS} {Q : MS → α → MS → β → Prop} {D : Option (MS × α)} {K : MS → Unit → Option (MS × β)}
theorem jn_fill (hk : k ≤ 1000) (cont : ∀ wE, FR [169] [] [168] [] w0 wE → F wE 169 = 0 → (∀ q, q < k → A wE 168 q = 0) → PP Q D (bnd (bnd (fm_M_anew N wE (I ((k : Nat) : Int)) (2 * I ((k : Nat) : Int))) (fun u2 _ => some (u2, ()))) K)) : ∀ (d M i : Nat) (w : MS), i + d = k → FR [] [] [168] [] w0 w → (∀ q, q < i → A w 168 q = 0) → PP Q D (bnd (gg_M_joined N M w (I ((k : Nat) : Int)) (I ((i : Nat) : Int))) K) := by
  intro d
  induction d with
  | zero =>
    intro M i w hi fr hf
    have : i = k := by omega
    subst this
    cases M with
    | zero => exact pp_nr
    | succ M =>
    show PP Q D (bnd (fb_M_joined_61 N (gg_M_joined N M) w (I ((i : Nat) : Int)) (I ((i : Nat) : Int))) K)
    unfold fb_M_joined_61
    rw [decI (by omega) (by omega) (by omega) (by omega), decide_eq_true (by omega), br_tq, show upI w 169 0 = wi w 169 0 from rfl, lt_e]
    exact cont _ (FR.wi (FR.mo fr (by simp) (by simp) (by simp) (by simp)) (by simp)) (wi_sm (by omega) (by omega)) hf
  | succ d ih =>
    intro M i w hi fr hf
    cases M with
    | zero => exact pp_nr
    | succ M =>
    show PP Q D (bnd (fb_M_joined_61 N (gg_M_joined N M) w (I ((k : Nat) : Int)) (I ((i : Nat) : Int))) K)
    unfold fb_M_joined_61
    rw [decI (by omega) (by omega) (by omega) (by omega), decide_eq_false (by omega), br_fq]
    refine rb_ck (fun _ => ?_)
    rw [show vp_nar .boolean 0 = I 0 from rfl, tnI (n := i) rfl (by omega), wa_e, lt_e, show I ((i : Nat) : Int) + 1 = I ((i + 1 : Nat) : Int) from addN]
    refine ih M (i + 1) _ (by omega) (FR.wa fr (by simp)) (fun q hq => ?_)
    rw [wa_ro (by omega) (by omega)]
    by_cases c : q = i
    · rw [if_pos c]
    · rw [if_neg c]
      exact hf q (by omega)
end
end
section
set_option maxRecDepth 100000
section
variable {α β : Type} {b : Int → Nat → Nat → Prop} {Fv Fv' : Int64 → Int64 → Prop} {P P' : Int64 → Prop} {ow kd ow' kd' : Nat → Nat} {N p U B W Y l j a n ee ee' : Nat} {m w : MS} {nb : Nat → Nat} {Hs Os : Nat → List Nat} {y : Option (Nat × Nat × Nat)} {Q : MS → α → MS → β → Prop} {K1 : MS → Option (MS × α)} {K2 : MS → Option (MS × β)}
theorem op_join (hpp : p < 24) (pl : PLs b p m w U B (W + 2) Y) (ru : RUs m w p j nb Hs Os y a n) (hW : W + 2 ≤ 46000) (hl : F m (pq p 45) = ((l : Nat) : Int)) (hl2 : W + 2 ≤ l ∧ l ≤ 1000000) (pt : PTQ m p U ow kd Fv P B (W + 2) Y) (cx : CTX Fv P m) (xc : CX w p (hp w p) U ow' kd' Fv' P' (W + 2) B Y) (h140 : F w 140 = -1) (h25 : A w 25 n = 22) (c1 : A m 23 (a + 1) = 43) (hee : F m 955 = ((ee : Nat) : Int) ∧ ee < 24) (hee' : F w 150 = ((ee' : Nat) : Int) ∧ ee' < 4000) (hN : 2200000 ≤ N) (cr : ∃ f, CRs (A m 23) (ROs w) (w.2.2.2 34) f y (a + 2) (n + 1) (Hs j) (Os j))
    (kS : ∀ b3 U3 m3 w3, PLs b3 p m3 w3 U3 B (W + 1) Y → RUs m3 w3 p j nb Hs Os y (a + 2) (n + 1) → GGm p m m3 → GGw p w w3 → (SCs p m w → SCs p m3 w3) → PP Q (K1 m3) (K2 w3))
    (kX : ∀ m3 w3, FGm p m m3 → FGw p j w w3 → PLs b p m3 w3 U B (W + 2) Y → RUb m3 w3 p j nb Hs Os y → PTQ m3 p U ow kd Fv P B (W + 2) Y → CX w3 p (hp w3 p) U ow' kd' Fv' P' (W + 2) B Y → F w3 140 = -1 → PP Q (K1 (tld m3 1 (-1) (mk 1 11))) (bnd (fr_M_error N w3 11) (fun u _ => K2 u)))
    (kE : ∀ m3 w3, GGm p m m3 → GGw p w w3 → (SCs p m w → SCs p m3 w3) → m3.1 (pq p 5) = w3.2.2.1 90 p → PP Q (K1 (enS m3 p (mk 1 20) p ee)) (K2 (wi (enR w3 p 0 ((p : Nat) : Int) (mk 1 20) ee') 151 1))) : PP Q (bnd (hm_Ma_value N m p (I 10)) (fun u _ => K1 u)) (bnd (fm_M_one N w (I ((n : Nat) : Int)) (I 6)) (fun u _ => K2 u)) := by
  obtain ⟨⟨fa, ct⟩, ⟨r2, r3⟩, ⟨f0, cr0⟩, ⟨r5, r6⟩, r7, ⟨r8, r9, r10⟩, r11, r12, r13⟩ := id ru
  have cb := CR_b cr0
  have hj : j < 60 := fa.1.2.2
  have hU := pl.1.1.2.2
  rw [val10y, one_6, I_F' r2, show I ((a : Nat) : Int) + 1 = I ((a + 1 : Nat) : Int) from addN, Co_e (k := a + 1) rfl (by omega), bnd_so, c1, show decide (I 43 = 43) = true from rfl, br_tq, show I ((n : Nat) : Int) + 1 = I ((n + 1 : Nat) : Int) from addN]
  refine l_bb (r_bb ?_)
  refine r_bnd (pk_mo (goto_r (N := N) (n := ((n + 1 : Nat) : Int)) hpp r11 fa.1.2.1 hj) (fun w1 _ e => ?_))
  subst e
  refine rb_ck (fun _ => ?_)
  have e25 : A (wa w 98 (60 * p + j) ((n + 1 : Nat) : Int)) 25 n = 22 := by rw [wa_rne (by omega)]; exact h25
  rw [tnI (n := n) rfl (by omega), I_A' e25, two_22]
  refine r_bb (r_bb ?_)
  generalize hw1 : wa w 98 (60 * p + j) ((n + 1 : Nat) : Int) = w1
  have g1 : FGw p j w w1 := by rw [← hw1]; exact FGw.goto
  have pl1 : PLs b p m w1 U B (W + 2) Y := by rw [← hw1]; exact PLs_98 pl
  have x33 : F w1 133 = ((p : Nat) : Int) := by rw [← hw1]; exact r11
  have x98 : A w1 98 (60 * p + j) = ((n + 1 : Nat) : Int) := by rw [← hw1, wa_sm (by omega) (by omega)]
  have xc1 : CX w1 p (hp w1 p) U ow' kd' Fv' P' (W + 2) B Y := by rw [← hw1]; exact CX_98 xc
  have y40 : F w1 140 = -1 := by rw [← hw1]; exact h140
  have ru1 : RUb m w1 p j nb Hs Os y := RUb_fg (RUs_b ru) FGm.rf g1
  have gg1 : GGw p w w1 := GGw_fg g1 hj
  have sc1 : SCs p m w → SCs p m w1 := fun s => SC_fg s FGm.rf g1
  have tp : ∀ i, i < W + 2 → TPb b U ow kd P U ow' kd' P' (m.2.2.2 (pq p 35) i) (w1.2.2.2 91 (46000 * p + i)) := fun i hi => ⟨pl1.2.2.1.2.2 i hi, pt.2.2.1.2 i hi, xc1.2.2.2.2.2.2.2.1 i hi⟩
  have be1 : hm_Fr_below N m p 1 = some (m, m.2.2.2 (pq p 35) W) := by
    have := below_e (N := N) (x := 1) (k := 1) (W := W + 2) (l := l) pl.2.2.1.1 hl hl2.1 hl2.2 rfl (by omega)
    rw [show W + 2 - 1 - 1 = W by omega] at this
    exact this
  have tp1 : ∀ u : MS, F u 133 = ((p : Nat) : Int) → A u 92 p = ((W + 2 : Nat) : Int) → PK (fun w2 r => w2 = u ∧ r = u.2.2.2 91 (46000 * p + W)) (fm_M_top N u 1) := fun u h1 h2 => by
    have := top_r (N := N) (k := 1) (W := W + 2) hpp h1 h2 hW (by omega)
    rw [show W + 2 - 1 - 1 = W by omega] at this
    exact this
  have tp0 : ∀ u : MS, F u 133 = ((p : Nat) : Int) → A u 92 p = ((W + 2 : Nat) : Int) → PK (fun w2 r => w2 = u ∧ r = u.2.2.2 91 (46000 * p + (W + 1))) (fm_M_top N u 0) := fun u h1 h2 => by
    have := top_r (N := N) (k := 0) (W := W + 2) hpp h1 h2 hW (by omega)
    rw [show W + 2 - 1 - 0 = W + 1 by omega] at this
    exact this
  unfold hm_Ma_join hb_Ma_join_0 fm_M_joined fb_M_joined_0
  rw [be1, bnd_so]
  refine rb_bnd (pk_mo (tp1 w1 x33 pl1.2.2.1.2.1) (fun w4 r e => ?_))
  obtain ⟨rfl, rfl⟩ := e
  refine l_bb (r_bb (pp_bb (pp_mo (len_pp (N := N) (v := pq p 2) rfl rfl pt.1.2.2 hU xc1.2.1 hU (by omega) x33 pl1.1.2.1 (tp W (by omega))) (fun m2 r w2 r' hq => ?_))))
  obtain ⟨⟨rfl, rfl⟩, rfl, hq⟩ := hq
  rcases hq with rfl | ⟨k, rfl, hk5, hs6, hs6', hts⟩
  · 
    rw [show decide (I (-1) = 0) = false from rfl, br_fq, show decide (I (-1) = -1) = true from rfl, br_tq, br_tq]
    unfold hb_Ma_join_68 fb_M_joined_52
    rw [show (11 : Int32) = I 11 from rfl, wrong_e, bnd_so]
    refine r_bb ?_
    simp only [bnd_so]
    exact kX m2 w2 FGm.rf g1 pl1 ru1 pt xc1 y40
  · have dm : decide (I ((k : Nat) : Int) = -1) = false := by rw [m1I, decE (by omega) (by omega) (by omega) (by omega)]; exact decide_eq_false (by omega)
    rw [dm, br_fq, br_fq]
    have s2 : (2 : Int32) * I ((k : Nat) : Int) = I ((2 * k : Nat) : Int) := by
      rw [show (2 : Int32) = I 2 from rfl, I_mul]
      congr 1
    by_cases k0 : k = 0
    · subst k0
      have be0 : hm_Fr_below N m2 p 0 = some (m2, m2.2.2.2 (pq p 35) (W + 1)) := by
        have := below_e (N := N) (x := 0) (k := 0) (W := W + 2) (l := l) pl.2.2.1.1 hl hl2.1 hl2.2 rfl (by omega)
        rw [show W + 2 - 1 - 0 = W + 1 by omega] at this
        exact this
      rw [show decide (I ((0 : Nat) : Int) = 0) = true from rfl, br_tq, show decide (I ((0 : Nat) : Int) ≤ 0) = true from rfl, br_tq, be0, bnd_so]
      refine l_bnd (pk_mo (ans0_m (N := N) (U := U) (W := W) (l := l) (a := a) (tt := fun _ => 0) pl.2.2.1.1 hl hl2 r2 (by omega) pl.1.1.1) (fun m7 _ hm7 => ?_))
      obtain ⟨lm, t5⟩ := hm7
      unfold fb_M_joined_59
      refine jn_fill (k := 0) (w0 := w2) (by omega) (fun wE fE e169 _ => ?_) 0 N 0 w2 rfl FR.rf (fun q hq => absurd hq (Nat.not_lt_zero _))
      have sE : SCw w2 wE := FR.mo fE (by simp) (by simp) (by simp) (by simp)
      have plE := SCw_pl sE pl1
      have xE : F wE 133 = ((p : Nat) : Int) := by rw [FR.F fE (by simp)]; exact x33
      unfold fm_M_anew fb_M_anew_0
      rw [I_F' xE, s2]
      refine r_bb (rb_bnd (pk_mo (wants_0 (N := N) (U := U) hpp plE.1.1.2.1 hU) (fun w3 r e => ?_)))
      obtain ⟨rfl, rfl⟩ := e
      rw [show decide ((1 : Int32) = 0) = false from rfl, br_fq]
      refine rb_bnd (pk_mo (tp1 w3 xE plE.2.2.1.2.1) (fun w4 r e => ?_))
      obtain ⟨rfl, rfl⟩ := e
      refine r_bnd (pk_mo (anw_c (N := N) (U := U) (W := W) (k1 := 0) (C := 0) (fl := fun _ => false) (xx := fun _ => 0) (te := w4.2.2.2 91 (46000 * p + (W + 1))) (x1 := w4.2.2.2 91 (46000 * p + W)) hpp xE plE.2.2.1.2.1 hW (by omega) (fun i hi => absurd hi (Nat.not_lt_zero _)) plE.1.1.2.1 rfl (by omega) (fun i hi => absurd hi (Nat.not_lt_zero _)) (fun i hi => absurd hi (Nat.not_lt_zero _)) rfl (Or.inl ⟨e169, rfl⟩) 0 N 0 w4 rfl FR.rf (fun q hq => absurd hq (Nat.not_lt_zero _))) (fun w7 _ lw => ?_))
      simp only [bnd_so]
      obtain ⟨⟨b3, pl7⟩, fm7, wX, sX, fw7, s98⟩ := anw_fin (j := j) hpp plE (by omega) hW lm lw (fun i hi => absurd hi (Nat.not_lt_zero _)) (plE.2.2.1.2.2 (W + 1) (by omega))
      have ru7 := RUb_fg (RUb_sc sX (RUb_sc sE ru1)) fm7 fw7
      have gg7 : GGw p w w7 := GGw.tr gg1 (GGw.tr (SCw_gg sE) (GGw.tr (SCw_gg sX) (GGw_fg fw7 hj)))
      have sc7 : SCs p m2 w → SCs p m7 w7 := fun s => SC_fg (SC_ow (SC_ow (sc1 s) (fun _ _ => rfl) rfl (fun K h1 h2 => sE.2.2.1 K (by simp; omega))) (fun _ _ => rfl) rfl (fun K h1 h2 => sX.2.2.1 K (by simp; omega))) fm7 fw7
      have h98 : A w7 98 (60 * p + j) = ((n + 1 : Nat) : Int) := by
        show (w7.2.2.1 98 _).toInt = _
        rw [s98, sE.2.2.1 98 (by simp)]
        exact x98
      refine kS b3 _ m7 w7 pl7 ⟨ru7.1, ⟨t5, h98⟩, ?_, ru7.2⟩ (GGm_fg fm7) gg7 sc7
      rw [ROs_eq gg7.2.1.1, gg7.2.1.2.1, show A m7 23 = A m2 23 from by funext i; exact FR.A fm7 (by simp [pq_n])]
      exact cr
    · have hk0 : 0 < k := by omega
      have d0 : decide (I ((k : Nat) : Int) = 0) = false := by rw [lit0q, decE (by omega) (by omega) (by omega) (by omega)]; exact decide_eq_false (by omega)
      have dl : decide (I ((k : Nat) : Int) ≤ 0) = false := by rw [lit0q, decI (by omega) (by omega) (by omega) (by omega)]; exact decide_eq_false (by omega)
      rw [d0, br_fq, dl, br_fq]
      obtain ⟨q0, q0g, q0g'⟩ := tp (W + 1) (by omega)
      obtain ⟨q1, q1g, q1g'⟩ := tp W (by omega)
      obtain ⟨f0, z0, y0⟩ := HP_szc pt.1.2.2 q0g
      obtain ⟨f0', z0', y0'⟩ := HP_sz xc1.2.1 q0g'
      obtain ⟨f1, z1, y1⟩ := HP_szc pt.1.2.2 q1g
      obtain ⟨f1', z1', y1'⟩ := HP_sz xc1.2.1 q1g'
      have e0 := SZ_iso pl1.1.2.1 q0 y0 y0'
      have e1 := SZ_iso pl1.1.2.1 q1 y1 y1'
      subst e0
      subst e1
      have bz0 := SZ_1000c pt.1.2.2 hU y0
      have bz1 := SZ_1000c pt.1.2.2 hU y1
      unfold hm_Ma_sizes hb_Ma_sizes_0
      refine lb_bnd (pk_mo (szs2 (N := N) (W := W) (l := l) pl.2.2.1.1 hl hl2 rfl rfl rfl hU cx.1 y0 y1 bz0 bz1 (by omega) N) (fun m4 r e => ?_))
      obtain ⟨f4, rfl⟩ := e
      refine rb_bnd (pk_mo (tp1 w2 x33 pl1.2.2.1.2.1) (fun w3 r e => ?_))
      obtain ⟨rfl, rfl⟩ := e
      rw [I_F' x33]
      refine rb_bnd (pk_mo (pk_ok (copySize_ok (N := N) xc1.2.1 hU (by omega) y1' (by omega))) (fun w4 r e => ?_))
      obtain ⟨f5, rfl⟩ := e
      have x4 : F w4 133 = ((p : Nat) : Int) := by rw [FR.F f5 (by simp)]; exact x33
      have x492 : A w4 92 p = ((W + 2 : Nat) : Int) := by rw [FR.A f5 (by simp)]; exact pl1.2.2.1.2.1
      have hp4 : hp w4 p = hp w3 p := by
        funext i
        show w4.2.2.2 88 (500 * p + i) = _
        rw [f5.2.2.2 88 (by simp)]
        rfl
      refine rb_bnd (pk_mo (tp0 w4 x4 x492) (fun w5 r e => ?_))
      obtain ⟨rfl, rfl⟩ := e
      rw [I_F' x4, show w5.2.2.2 91 (46000 * p + (W + 1)) = w3.2.2.2 91 (46000 * p + (W + 1)) from by rw [f5.2.2.2 91 (by simp)]]
      refine rb_bnd (pk_mo (pk_ok (copySize_ok (N := N) (u := w5) (by rw [hp4]; exact xc1.2.1) hU (by omega) (by rw [hp4]; exact y0') (by omega))) (fun w6 r e => ?_))
      obtain ⟨f6, rfl⟩ := e
      have f36 : FR [] [] [] [141] w3 w6 := FR.tr f5 f6
      have fw6 : FGw p j w3 w6 := FGw_141 f36
      have fm4 : FGm p m2 m4 := FR.mo f4 (by simp) (by simp) (by simp) (by simp)
      have gg6 : GGw p w w6 := GGw.tr gg1 (GGw_fg fw6 hj)
      have sc6 : SCs p m2 w → SCs p m4 w6 := fun s => SC_fg (sc1 s) fm4 fw6
      have jq : ∀ d, m4.2.2.2 (pq p d) = m2.2.2.2 (pq p d) := fun d => f4.2.2.2 _ (by simp; exact fun c => pq_n (by omega) c.symm)
      have iq : ∀ d, m4.1 d = m2.1 d := fun d => f4.1 d (by simp)
      have fq : ∀ d, F m4 d = F m2 d := fun d => congrArg Int32.toInt (iq d)
      have pl6 : PLs b p m4 w6 U B (W + 2) Y := PLs_cg pl1 (fun d _ => iq _) (fun i _ => by rw [jq]) (fun i _ => by rw [jq]) (fun i _ => by rw [jq]) (fun i _ => by rw [jq]) (fun K hK => by rw [f36.2.2.1 K (by simp)]) (fun i _ => by rw [f36.2.2.2 88 (by simp)]) (fun i _ => by rw [f36.2.2.2 93 (by simp)]) (fun i _ => by rw [f36.2.2.2 91 (by simp)]) (fun i _ => by rw [f36.2.2.2 107 (by simp)])
      have ru6 : RUb m4 w6 p j nb Hs Os y := RUb_fg ru1 fm4 fw6
      have pt6 : PTQ m4 p U ow kd Fv P B (W + 2) Y := PTQ_same pt (fun d _ => iq _) (fun d _ => jq d)
      have cx6 : CTX Fv P m4 := CTX_fr cx (iq 22) (f4.2.2.1 3 (by simp))
      have xc6 : CX w6 p (hp w6 p) U ow' kd' Fv' P' (W + 2) B Y := CX_141 xc1 f36
      have hc : ((z0 + z1 ≤ 500) ↔ ((if z1 ≤ 500 then z1 else 501) + (if z0 ≤ 500 then z0 else 501) ≤ 500)) := by
        by_cases c1 : z1 ≤ 500
        · rw [if_pos c1]
          by_cases c0 : z0 ≤ 500
          · rw [if_pos c0]; omega
          · rw [if_neg c0]; omega
        · rw [if_neg c1]
          by_cases c0 : z0 ≤ 500
          · rw [if_pos c0]; omega
          · rw [if_neg c0]; omega
      have hb : (if z1 ≤ 500 then z1 else 501) + (if z0 ≤ 500 then z0 else 501) ≤ 1002 := by
        by_cases c1 : z1 ≤ 500
        · rw [if_pos c1]
          by_cases c0 : z0 ≤ 500
          · rw [if_pos c0]; omega
          · rw [if_neg c0]; omega
        · rw [if_neg c1]
          by_cases c0 : z0 ≤ 500
          · rw [if_pos c0]; omega
          · rw [if_neg c0]; omega
      rw [show I (((if z1 ≤ 500 then z1 else 501 : Nat) : Int)) + I (((if z0 ≤ 500 then z0 else 501 : Nat) : Int)) = I (((if z1 ≤ 500 then z1 else 501) + (if z0 ≤ 500 then z0 else 501) : Nat) : Int) from addN]
      generalize (if z1 ≤ 500 then z1 else 501) + (if z0 ≤ 500 then z0 else 501) = zr at hc hb
      rw [show (500 : Int32) = I ((500 : Nat) : Int) from rfl, decI (by omega) (by omega) (by omega) (by omega), decI (by omega) (by omega) (by omega) (by omega)]
      by_cases cz : z0 + z1 ≤ 500
      · have cz' := hc.mp cz
        rw [decide_eq_true (by omega), decide_eq_true (by omega), br_tq, br_tq]
        unfold fb_M_joined_59
        rw [show (0 : Int32) = I ((0 : Nat) : Int) from rfl]
        refine jn_fill (k := k) (w0 := w6) (by omega) (fun wE fE e169 e168 => ?_) k N 0 w6 (by omega) FR.rf (fun q hq => absurd hq (Nat.not_lt_zero _))
        have sE : SCw w6 wE := FR.mo fE (by simp) (by simp) (by simp) (by simp)
        have plE := SCw_pl sE pl6
        have xcE := SCw_cx sE xc6
        have xE : F wE 133 = ((p : Nat) : Int) := by rw [FR.F fE (by simp), FR.F f36 (by simp)]; exact x33
        have yE : F wE 140 = -1 := by rw [FR.F fE (by simp), FR.F f36 (by simp)]; exact y40
        have ggE : GGw p w wE := GGw.tr gg6 (SCw_gg sE)
        have scE : SCs p m2 w → SCs p m4 wE := fun s => SC_ow (sc6 s) (fun _ _ => rfl) rfl (fun K h1 h2 => sE.2.2.1 K (by simp; omega))
        have ruE := RUb_sc sE ru6
        have e9 : F m4 (pq p 9) ≠ 3 := by rw [fq, r5]; omega
        have ee4 : F m4 955 = ((ee : Nat) : Int) ∧ ee < 24 := ⟨by rw [fq]; exact hee.1, hee.2⟩
        unfold fm_M_anew fb_M_anew_0
        rw [I_F' xE, s2]
        refine l_bb (r_bb (r_bb (pp_bb (pp_mo (pp_pl (room_pp (N := N) (k := 2 * k) pt6 cx6 xcE plE yE (by omega) e9 ee4 hN) (room_tags (N := N) (k := 2 * k) pt6 cx6 (by omega) e9 ee4 hN)) (fun m5 r4 w5' r5' q9 => ?_)))))
        obtain ⟨q9, tg⟩ := q9
        rcases q9 with ⟨rfl, rfl, a4, a5, b2', U2, pl5, rm5, ⟨ow2, kd2, pt5⟩, ⟨ow2', kd2', xc5⟩⟩ | ⟨rfl, rfl, m6, a4, a5, rfl, h5⟩
        · rw [show decide ((1 : Int32) = I ((0 : Nat) : Int)) = false from rfl, br_fq, show decide ((1 : Int32) = 0) = false from rfl, br_fq]
          have z33 : F w5' 133 = ((p : Nat) : Int) := by rw [FR.F a5.1 (by simp)]; exact xE
          obtain ⟨l4, e1, e2, e3⟩ := pt5.2.2.2.2.2.1
          have e5 : F m5 1105 = ((a : Nat) : Int) := by rw [FR.F a4 (by simp [pq_n]), fq]; exact r2
          have be5 : hm_Fr_below N m5 p 1 = some (m5, m5.2.2.2 (pq p 35) W) := by
            have := below_e (N := N) (x := 1) (k := 1) (W := W + 2) (l := l4) pl5.2.2.1.1 e1 e2 e3 rfl (by omega)
            rw [show W + 2 - 1 - 1 = W by omega] at this
            exact this
          rw [be5, bnd_so, I_F' pl5.1.1.1]
          refine rb_bnd (pk_mo (tp1 w5' z33 pl5.2.2.1.2.1) (fun w4' r e => ?_))
          obtain ⟨rfl, rfl⟩ := e
          have tags : ∀ j, j < k → so (tlc (m5.2.2.2 (pq p 2)) (m5.2.2.2 (pq p 35) W) j) = 7 := fun i hi => by
            rw [tg rfl W (by omega) i (fun i2 h2 => by rw [jq, jq]; exact (hts i2 (by omega)).1), jq, jq]
            exact (hts i hi).1
          have tp5 : ∀ i, i < W + 2 → TPb b2' U2 ow2 kd2 P U2 ow2' kd2' P' (m5.2.2.2 (pq p 35) i) (w4'.2.2.2 91 (46000 * p + i)) := fun i hi => ⟨pl5.2.2.1.2.2 i hi, pt5.2.2.1.2 i hi, xc5.2.2.2.2.2.2.2.1 i hi⟩
          have tl5 := tl_TP pl5.1.2.1 pt5.1.2.2 xc5.2.1 (tp5 W (by omega)) tags
          have prs := fun i (hi : i < k) => TP_pair pl5.1.2.1 pt5.1.2.2 xc5.2.1 (tl5 i (by omega)) (tags i hi)
          have hU2 := pl5.1.1.2.2
          refine l_bnd (pk_mo (jn_m (N := N) (U := U2) (W := W) (k := k) (a := a) (lc := l4) (m0 := m5) (t1 := m5.2.2.2 (pq p 35) W) pl5.2.2.1.1 e1 ⟨e2, e3⟩ e5 (by omega) hk0 rm5 (fun i hi => ⟨(prs i hi).1.2.1, (prs i hi).1.2.2.1⟩) k N m5 0 (by omega) FR.rf ⟨fun _ _ => rfl, fun r hr => absurd hr (Nat.not_lt_zero _)⟩) (fun m7 _ hm7 => ?_))
          obtain ⟨t1, t2, t3, t4, t5, t6, t7⟩ := hm7
          have lm : LMm m5 m7 p U2 k W (fun i => m5.2.2.2 (pq p 2) (vn (tlc (m5.2.2.2 (pq p 2)) (m5.2.2.2 (pq p 35) W) i))) (m5.2.2.2 (pq p 35) (W + 1)) := ⟨t1, t2, t3, t5, t6, fun i hi => by rw [t7 i hi, if_neg k0]⟩
          have cf : ∀ i, cnk (fun _ => false) i = i := fun i => cnk_all (fun _ _ => rfl)
          refine r_bnd (pk_mo (anw_c (N := N) (U := U2) (W := W) (k1 := k) (C := k) (fl := fun _ => false) (xx := fun i => hp w4' p (vn (tlc (hp w4' p) (w4'.2.2.2 91 (46000 * p + W)) i))) (te := w4'.2.2.2 91 (46000 * p + (W + 1))) (x1 := w4'.2.2.2 91 (46000 * p + W)) (w0 := w4') hpp z33 pl5.2.2.1.2.1 hW (by omega) (fun i hi => by rw [FR.A a5.1 (by simp), e168 i hi]; rfl) pl5.1.1.2.1 (cf k).symm rm5 (fun i hi => ⟨(prs i hi).1.2.2.2.1, by have := (prs i hi).1.2.2.2.2; omega⟩) (fun i hi _ => by rw [cf]) rfl (Or.inl ⟨by rw [FR.F a5.1 (by simp)]; exact e169, rfl⟩) k N 0 w4' (by omega) FR.rf (fun q hq => absurd hq (Nat.not_lt_zero _))) (fun w7 _ lw => ?_))
          simp only [bnd_so]
          obtain ⟨⟨b3, pl7⟩, fm7, wX, sX, fw7, s98⟩ := anw_fin (j := j) hpp pl5 rm5 hW lm lw (fun i hi => (prs i hi).2.1.1) (tp5 (W + 1) (by omega)).1
          have fm5 : FGm p m4 m5 := FGm_xr a4
          have fw5 : FGw p j wE w4' := FGw_xr a5
          have ru7 := RUb_fg (RUb_sc sX (RUb_fg ruE fm5 fw5)) fm7 fw7
          have gg7 : GGw p w w7 := GGw.tr ggE (GGw.tr (GGw_fg fw5 hj) (GGw.tr (SCw_gg sX) (GGw_fg fw7 hj)))
          have fm27 : FGm p m2 m7 := FGm.tr fm4 (FGm.tr fm5 fm7)
          have sc7 : SCs p m2 w → SCs p m7 w7 := fun s => SC_fg (SC_ow (SC_fg (scE s) fm5 fw5) (fun _ _ => rfl) rfl (fun K h1 h2 => sX.2.2.1 K (by simp; omega))) fm7 fw7
          have h98 : A w7 98 (60 * p + j) = ((n + 1 : Nat) : Int) := by
            show (w7.2.2.1 98 _).toInt = _
            rw [s98]
            show A w4' 98 (60 * p + j) = _
            rw [FR.A a5.1 (by simp), FR.A fE (by simp), FR.A f36 (by simp)]
            exact x98
          refine kS b3 _ m7 w7 pl7 ⟨ru7.1, ⟨t4, h98⟩, ?_, ru7.2⟩ (GGm_fg fm27) gg7 sc7
          rw [ROs_eq gg7.2.1.1, gg7.2.1.2.1, show A m7 23 = A m2 23 from by funext i; exact FR.A fm27 (by simp [pq_n])]
          exact cr
        · rw [show decide ((0 : Int32) = I ((0 : Nat) : Int)) = true from rfl, br_tq, show decide ((0 : Int32) = 0) = true from rfl, br_tq]
          have z33 : F w5' 133 = ((p : Nat) : Int) := by rw [FR.F a5.1 (by simp)]; exact xE
          have fw5 : FGw p j wE w5' := FGw_xr a5
          have e109 : A w5' 109 p ≠ 3 := by rw [FR.A fw5.1 (by simp), FR.A fE (by simp), FR.A f36 (by simp), FR.A g1.1 (by simp), r6]; omega
          have e150 : F w5' 150 = ((ee' : Nat) : Int) := by rw [FR.F fw5.1 (by simp), FR.F fE (by simp), FR.F f36 (by simp), FR.F g1.1 (by simp)]; exact hee'.1
          rw [noR_e hpp z33 e109 e150 hee'.2]
          simp only [bnd_so]
          exact kE m6 w5' (GGm_fg (FGm.tr fm4 (FGm_xr a4))) (GGw.tr ggE (GGw_fg fw5 hj)) (fun s => SC_fg (scE s) (FGm_xr a4) fw5) h5
      · have cz' : ¬ zr ≤ 500 := fun c => cz (hc.mpr c)
        rw [decide_eq_false (by omega), decide_eq_false (by omega), br_fq, br_fq]
        unfold hb_Ma_join_68 fb_M_joined_52
        rw [show (11 : Int32) = I 11 from rfl, wrong_e, bnd_so]
        refine r_bb ?_
        simp only [bnd_so]
        exact kX m4 w6 fm4 (FGw.tr g1 fw6) pl6 ru6 pt6 xc6 (by rw [FR.F f36 (by simp)]; exact y40)
end
end
section
set_option maxRecDepth 100000
def MGi (m0 w0 m w : MS) (l1 : Nat) (fl : Nat → Bool) : Prop := FR [] [] [] [44, 45, 46] m0 m ∧ FR [] [] [168] [141] w0 w ∧ ∀ i, i < l1 → m.2.2.2 44 i = (if fl i = true then 1 else 0) ∧ A w 168 i = (if fl i = true then 1 else 0)
section
variable {N : Nat} {w : MS}
theorem len_w : ∀ (M : Nat) (x : Int64) (v : Int32), PK (fun w2 (_ : Int32) => w2 = w) (gg_M_lengthOf N M w x v) := by
  intro M
  induction M with
  | zero => intro x v; exact pk_none
  | succ M ih =>
    intro x v
    show PK _ (fb_M_lengthOf_5 N (gg_M_lengthOf N M) w x v)
    unfold fb_M_lengthOf_5 fb_M_lengthOf_50
    rw [sortOf_e, bnd_so]
    refine pk_br (fun _ => ?_) (fun _ => ?_)
    · rw [valueOf_e, bnd_so]
      unfold fm_M_cell fb_M_cell_0
      refine pk_bnd (pk_ck (fun _ => pk_some ?_))
      exact ih _ _
    · rw [sortOf_e, bnd_so]
      exact pk_br (fun _ => pk_some rfl) (fun _ => pk_some rfl)
end
section
variable {α β : Type} {b : Int → Nat → Nat → Prop} {Fv Fv' : Int64 → Int64 → Prop} {P P' : Int64 → Prop} {ow kd ow' kd' fa : Nat → Nat} {N p U W l l1 l0 na o : Nat} {m0 w0 : MS} {h h' : Nat → Int64} {t1 t0 x1 x0 : Int64} {Q : MS → α → MS → β → Prop} {K1 : MS → Int32 → Option (MS × α)} {K2 : MS → Unit → Option (MS × β)}
theorem MGi_fr {m w m2 w2 : MS} {fl : Nat → Bool} (h : MGi m0 w0 m w l1 fl) (f1 : FR [] [] [] [45, 46] m m2) (f2 : FR [] [] [] [141] w w2) : MGi m0 w0 m2 w2 l1 fl := ⟨FR.tr h.1 (FR.mo f1 (by simp) (by simp) (by simp) (by simp)), FR.tr h.2.1 (FR.mo f2 (by simp) (by simp) (by simp) (by simp)), fun i hi => ⟨by rw [f1.2.2.2 44 (by simp)]; exact (h.2.2 i hi).1, by rw [FR.A f2 (by simp)]; exact (h.2.2 i hi).2⟩⟩
theorem MGi_set {m w : MS} {fl : Nat → Bool} {i : Nat} (hg : MGi m0 w0 m w l1 fl) : MGi m0 w0 (wj m 44 i 1) (wa w 168 i 1) l1 (fun k => if k = i then true else fl k) := by
  refine ⟨FR.wj hg.1 (by simp), FR.wa hg.2.1 (by simp), fun k hk => ⟨?_, ?_⟩⟩
  · rw [wj_row]
    by_cases c : k = i
    · rw [if_pos c]; simp [c]
    · rw [if_neg c]
      simp only [if_neg c]
      exact (hg.2.2 k hk).1
  · rw [wa_ro (by omega) (by omega)]
    by_cases c : k = i
    · rw [if_pos c]; simp [c]
    · rw [if_neg c]
      simp only [if_neg c]
      exact (hg.2.2 k hk).2
theorem mg_in (hpp : p < 24) (h133 : F w0 133 = ((p : Nat) : Int)) (hh : m0.2.2.2 (pq p 2) = h) (hh' : hp w0 p = h') (g : HPc h U ow kd Fv P) (hU : U ≤ 500) (g' : HP h' U ow' kd' Fv' P') (is : ISb b h U h' U) (q1 : TPb b U ow kd P U ow' kd' P' t1 x1) (q0 : TPb b U ow kd P U ow' kd' P' t0 x0) (T1 : ∀ j, j < l1 → so (tlc h t1 j) = 7) (T0 : ∀ j, j < l0 → so (tlc h t0 j) = 7) (b1 : l1 ≤ 500) (b0 : l0 ≤ 500) (ho : o < l0) (cx : CTX Fv P m0) (hF' : FVH Fv') (hA : ATf m0 w0 fa na) (hN : 200000 ≤ N)
    (out : ∀ M M2 m w fl q, q ≤ l1 → MGi m0 w0 m w l1 fl → PP Q (bnd ((hg_Ma_markGone N M).2.1 m p (I ((l1 : Nat) : Int)) (I ((q : Nat) : Int)) (tlc h t0 (o + 1)) (I ((o + 1 : Nat) : Int))) K1) (bnd ((gg_M_lessened N M2).2.1 w (I ((l1 : Nat) : Int)) (I ((l0 : Nat) : Int)) (I (((q : Nat) : Int) - 1)) 0 (tlc h' x0 (o + 1)) (I ((o + 1 : Nat) : Int))) K2)) : ∀ (d M M2 : Nat) (m w : MS) (fl : Nat → Bool) (q i : Nat), i + d = l1 → q ≤ l1 → MGi m0 w0 m w l1 fl → PP Q (bnd ((hg_Ma_markGone N M).2.2 m p (I ((l1 : Nat) : Int)) (I ((q : Nat) : Int)) (tlc h t0 o) (I ((o : Nat) : Int)) (tlc h t1 i) (I ((i : Nat) : Int))) K1) (bnd ((gg_M_lessened N M2).2.2.1 w (I ((l1 : Nat) : Int)) (I ((l0 : Nat) : Int)) (I (((q : Nat) : Int) - 1)) 0 (tlc h' x0 (o + 1)) (I ((o : Nat) : Int)) (h' (vn (tlc h' x0 o))) (tlc h' x1 i) (I ((i : Nat) : Int)) 1) K2) := by
  have tl0 := tl_TP is g g' q0 T0
  have tl1 := tl_TP is g g' q1 T1
  have p0 := TP_pair is g g' (tl0 o (by omega)) (T0 o ho)
  have nx : ∀ (M M2 : Nat) (m w : MS) (fl : Nat → Bool) (q : Nat), q ≤ l1 → MGi m0 w0 m w l1 fl → PP Q (bnd (hb_Ma_markGone_169 N (hg_Ma_markGone N M) m p (I ((l1 : Nat) : Int)) (I ((q : Nat) : Int)) (tlc h t0 o) (I ((o : Nat) : Int))) K1) (bnd (fb_M_lessened_213 N (gg_M_lessened N M2) w (I ((l1 : Nat) : Int)) (I ((l0 : Nat) : Int)) (I (((q : Nat) : Int) - 1)) 0 (tlc h' x0 (o + 1)) (I ((o : Nat) : Int))) K2) := fun M M2 m w fl q hq hg => by
    unfold hb_Ma_markGone_169 fb_M_lessened_213
    refine lb_ck (fun _ => ?_)
    have j2 : m.2.2.2 (pq p 2) = h := by rw [hg.1.2.2.2 _ (by simp; exact ⟨fun c => pq_n (by omega) c.symm, fun c => pq_n (by omega) c.symm, fun c => pq_n (by omega) c.symm⟩)]; exact hh
    rw [valI, p0.1.2.1, show I ((vn (tlc h t0 o) : Nat) : Int) + 1 = I ((vn (tlc h t0 o) + 1 : Nat) : Int) from addN, tnI (n := vn (tlc h t0 o) + 1) rfl (by omega), j2, show I ((o : Nat) : Int) + 1 = I ((o + 1 : Nat) : Int) from addN]
    exact out M M2 m w fl q hq hg
  intro d
  induction d with
  | zero =>
    intro M M2 m w fl q i hi hq hg
    have : i = l1 := by omega
    subst this
    cases M with
    | zero => exact pp_nl
    | succ M =>
    cases M2 with
    | zero => exact pp_nr
    | succ M2 =>
    show PP Q (bnd (hb_Ma_markGone_66 N (hg_Ma_markGone N M) m p (I ((i : Nat) : Int)) (I ((q : Nat) : Int)) (tlc h t0 o) (I ((o : Nat) : Int)) (tlc h t1 i) (I ((i : Nat) : Int))) K1) (bnd (fb_M_lessened_123 N (gg_M_lessened N M2) w (I ((i : Nat) : Int)) (I ((l0 : Nat) : Int)) (I (((q : Nat) : Int) - 1)) 0 (tlc h' x0 (o + 1)) (I ((o : Nat) : Int)) (h' (vn (tlc h' x0 o))) (tlc h' x1 i) (I ((i : Nat) : Int)) 1) K2)
    unfold hb_Ma_markGone_66 fb_M_lessened_123
    rw [decI (by omega) (by omega) (by omega) (by omega), decide_eq_true (by omega), br_tq, br_tq]
    exact nx M M2 m w fl q hq hg
  | succ d ih =>
    intro M M2 m w fl q i hi hq hg
    cases M with
    | zero => exact pp_nl
    | succ M =>
    cases M2 with
    | zero => exact pp_nr
    | succ M2 =>
    show PP Q (bnd (hb_Ma_markGone_66 N (hg_Ma_markGone N M) m p (I ((l1 : Nat) : Int)) (I ((q : Nat) : Int)) (tlc h t0 o) (I ((o : Nat) : Int)) (tlc h t1 i) (I ((i : Nat) : Int))) K1) (bnd (fb_M_lessened_123 N (gg_M_lessened N M2) w (I ((l1 : Nat) : Int)) (I ((l0 : Nat) : Int)) (I (((q : Nat) : Int) - 1)) 0 (tlc h' x0 (o + 1)) (I ((o : Nat) : Int)) (h' (vn (tlc h' x0 o))) (tlc h' x1 i) (I ((i : Nat) : Int)) 1) K2)
    have p1 := TP_pair is g g' (tl1 i (by omega)) (T1 i (by omega))
    have nq : ∀ K, K = 44 ∨ K = 45 ∨ K = 46 → pq p 2 ≠ K := fun K hK c => pq_n (by omega) c.symm
    have j2 : ∀ m' : MS, FR [] [] [] [44, 45, 46] m0 m' → m'.2.2.2 (pq p 2) = h := fun m' f => by rw [f.2.2.2 _ (by simp; exact ⟨nq 44 (by omega), nq 45 (by omega), nq 46 (by omega)⟩)]; exact hh
    have hpw : ∀ w' : MS, FR [] [] [168] [141] w0 w' → hp w' p = h' := fun w' f => by
      rw [← hh']
      funext k
      show w'.2.2.2 88 (500 * p + k) = _
      rw [f.2.2.2 88 (by simp)]
      rfl
    have x33 : ∀ w' : MS, FR [] [] [168] [141] w0 w' → F w' 133 = ((p : Nat) : Int) := fun w' f => by rw [FR.F f (by simp)]; exact h133
    obtain ⟨k44, k168⟩ := hg.2.2 i (by omega)
    have nxt : ∀ (m' w' : MS) (fl' : Nat → Bool), MGi m0 w0 m' w' l1 fl' → PP Q (bnd (hb_Ma_markGone_148 N (hg_Ma_markGone N M) m' p (I ((l1 : Nat) : Int)) (I ((q : Nat) : Int)) (tlc h t0 o) (I ((o : Nat) : Int)) (tlc h t1 i) (I ((i : Nat) : Int))) K1) (bnd (fb_M_lessened_190 N (gg_M_lessened N M2) w' (I ((l1 : Nat) : Int)) (I ((l0 : Nat) : Int)) (I (((q : Nat) : Int) - 1)) 0 (tlc h' x0 (o + 1)) (I ((o : Nat) : Int)) (h' (vn (tlc h' x0 o))) (tlc h' x1 i) (I ((i : Nat) : Int)) 1) K2) := fun m' w' fl' hg' => by
      unfold hb_Ma_markGone_148 fb_M_lessened_190
      refine lb_ck (fun _ => ?_)
      rw [valI, p1.1.2.1, show I ((vn (tlc h t1 i) : Nat) : Int) + 1 = I ((vn (tlc h t1 i) + 1 : Nat) : Int) from addN, tnI (n := vn (tlc h t1 i) + 1) rfl (by omega), j2 m' hg'.1, valueOf_e, bnd_so, p1.1.2.2.2.1, I_F' (x33 w' hg'.2.1), show I ((vn (tlc h' x1 i) : Nat) : Int) + 1 = I ((vn (tlc h' x1 i) + 1 : Nat) : Int) from addN, cell_e (by omega) (by omega), bnd_so, hpw w' hg'.2.1, show I ((i : Nat) : Int) + 1 = I ((i + 1 : Nat) : Int) from addN]
      exact ih M M2 m' w' fl' q (i + 1) (by omega) hq hg'
    unfold hb_Ma_markGone_66 fb_M_lessened_123
    rw [decI (by omega) (by omega) (by omega) (by omega), decide_eq_false (by omega), br_fq, br_fq, show decide ((1 : Int32) = 0) = false from rfl, br_fq, tnI (n := i) rfl (by omega), I_A' k168, k44]
    refine lb_ck (fun _ => rb_ck (fun _ => ?_))
    cases hf : fl i with
    | true =>
      rw [show (if true = true then (1 : Int64) else 0) = 1 from rfl, show (if true = true then (1 : Int) else 0) = 1 from rfl, dec_lg0 (by decide), br_fq, show decide (I 1 = 0) = false from rfl, br_fq]
      exact nxt m w fl hg
    | false =>
      rw [show (if false = true then (1 : Int64) else 0) = 0 from rfl, show (if false = true then (1 : Int) else 0) = 0 from rfl, dec_lg rfl, br_tq, show decide (I 0 = 0) = true from rfl, br_tq]
      refine lb_ck (fun _ => lb_ck (fun _ => ?_))
      rw [valI, valI, p1.1.2.1, p0.1.2.1, tnI (n := vn (tlc h t1 i)) rfl (by omega), tnI (n := vn (tlc h t0 o)) rfl (by omega), j2 m hg.1, valueOf_e, rb_bnd_so, p1.1.2.2.2.1, I_F' (x33 w hg.2.1), cell_e (by omega) (by omega), rb_bnd_so, hpw w hg.2.1]
      have cxm : CTX Fv P m := CTX_fr cx (hg.1.1 22 (by simp)) (hg.1.2.2.1 3 (by simp))
      have hAm : ATf m w fa na := ATf_k hA (hg.1.1 22 (by simp)) (hg.1.2.2.1 2 (by simp)) (hg.1.2.2.1 3 (by simp)) (hg.2.1.1 14 (by simp)) (hg.2.1.2.2.1 12 (by simp)) (hg.2.1.2.2.1 13 (by simp))
      refine l_bb (r_bb (pp_bb (pp_mo (order_pp (N := N) (v := pq p 2) (m := m) (w := w) (p := p) (n0 := U) (n0' := U) ⟨nq 45 (by omega), nq 46 (by omega)⟩ (j2 m hg.1) (hpw w hg.2.1) g hU cxm.1 cxm.2.1 cxm.2.2.1 g' hU (by omega) (x33 w hg.2.1) hF' is hAm hN p1.2.1 p0.2.1) (fun m3 r w3 s hq9 => ?_))))
      obtain ⟨⟨fa3, fb3⟩, sg⟩ := hq9
      have hg3 := MGi_fr hg fa3 fb3
      by_cases r0 : r = 0
      · have s0 := sg.2.mp r0
        subst r0
        subst s0
        rw [show decide ((0 : Int32) = 0) = true from rfl, br_tq, br_tq]
        refine lb_ck (fun _ => rb_ck (fun _ => ?_))
        rw [show vp_nar .boolean 1 = I 1 from rfl, wj_e, lt_e, wa_e, lt_e, lt_e, show I ((i : Nat) : Int) + 1 = I ((i + 1 : Nat) : Int) from addN]
        have hg4 := MGi_set (i := i) hg3
        have fin : ∀ q' : Nat, q' ≤ l1 → PP Q (bnd (hb_Ma_markGone_169 N (hg_Ma_markGone N M) (wj m3 44 i 1) p (I ((l1 : Nat) : Int)) (I ((q' : Nat) : Int)) (tlc h t0 o) (I ((o : Nat) : Int))) K1) (bnd (fb_M_lessened_186 N (gg_M_lessened N M2) (wa w3 168 i 1) (I ((l1 : Nat) : Int)) (I ((l0 : Nat) : Int)) 0 (tlc h' x0 (o + 1)) (I ((o : Nat) : Int)) (h' (vn (tlc h' x0 o))) (tlc h' x1 i) (I ((i : Nat) : Int)) (I (((q' : Nat) : Int) - 1))) K2) := fun q' hq' => by
          unfold fb_M_lessened_186 fb_M_lessened_190
          rw [valueOf_e, bnd_so, p1.1.2.2.2.1, I_F' (x33 _ hg4.2.1), show I ((vn (tlc h' x1 i) : Nat) : Int) + 1 = I ((vn (tlc h' x1 i) + 1 : Nat) : Int) from addN, cell_e (by omega) (by omega), bnd_so, show I ((i : Nat) : Int) + 1 = I ((i + 1 : Nat) : Int) from addN]
          cases M2 with
          | zero => exact pp_nr
          | succ M2 =>
          show PP Q _ (bnd (fb_M_lessened_123 N (gg_M_lessened N M2) (wa w3 168 i 1) (I ((l1 : Nat) : Int)) (I ((l0 : Nat) : Int)) (I (((q' : Nat) : Int) - 1)) 0 (tlc h' x0 (o + 1)) (I ((o : Nat) : Int)) (h' (vn (tlc h' x0 o))) _ (I ((i + 1 : Nat) : Int)) 0) K2)
          unfold fb_M_lessened_123
          rw [show decide ((0 : Int32) = 0) = true from rfl, br_tq]
          refine rb_br (fun _ => ?_) (fun _ => ?_)
          · exact nx M M2 _ _ _ q' hq' hg4
          · exact nx M M2 _ _ _ q' hq' hg4
        by_cases c : q < i + 1
        · rw [if_pos (by rw [I_lt (by omega) (by omega) (by omega) (by omega)]; omega), decI (by omega) (by omega) (by omega) (by omega), decide_eq_false (by omega), br_fq, show I ((i : Nat) : Int) = I (((i + 1 : Nat) : Int) - 1) from by congr 1; omega]
          have := fin (i + 1) (by omega)
          rw [show I ((i : Nat) : Int) = I (((i + 1 : Nat) : Int) - 1) from by congr 1; omega] at this
          exact this
        · rw [if_neg (by rw [I_lt (by omega) (by omega) (by omega) (by omega)]; omega), decI (by omega) (by omega) (by omega) (by omega), decide_eq_true (by omega), br_tq]
          exact fin q hq
      · have s0 : ¬ s = 0 := fun c => r0 (sg.2.mpr c)
        rw [decide_eq_false r0, br_fq, decide_eq_false s0, br_fq]
        exact nxt m3 w3 fl hg3
end
end
section
set_option maxRecDepth 100000
section
variable {α β : Type} {b : Int → Nat → Nat → Prop} {Fv Fv' : Int64 → Int64 → Prop} {P P' : Int64 → Prop} {ow kd ow' kd' fa : Nat → Nat} {N p U W l l1 l0 na : Nat} {m0 w0 : MS} {h h' : Nat → Int64} {Q : MS → α → MS → β → Prop} {K1 : MS → Int32 → Option (MS × α)} {K2 : MS → Unit → Option (MS × β)}
theorem mg_out (hpp : p < 24) (h133 : F w0 133 = ((p : Nat) : Int)) (h26 : F m0 (pq p 26) = ((W + 2 : Nat) : Int)) (hl : F m0 (pq p 45) = ((l : Nat) : Int)) (hl2 : W + 2 ≤ l ∧ l ≤ 1000000) (h92 : A w0 92 p = ((W + 2 : Nat) : Int)) (hW : W + 2 ≤ 46000) (hh : m0.2.2.2 (pq p 2) = h) (hh' : hp w0 p = h') (g : HPc h U ow kd Fv P) (hU : U ≤ 500) (g' : HP h' U ow' kd' Fv' P') (is : ISb b h U h' U) (q1 : TPb b U ow kd P U ow' kd' P' (m0.2.2.2 (pq p 35) W) (w0.2.2.2 91 (46000 * p + W))) (q0 : TPb b U ow kd P U ow' kd' P' (m0.2.2.2 (pq p 35) (W + 1)) (w0.2.2.2 91 (46000 * p + (W + 1)))) (T1 : ∀ j, j < l1 → so (tlc h (m0.2.2.2 (pq p 35) W) j) = 7) (T0 : ∀ j, j < l0 → so (tlc h (m0.2.2.2 (pq p 35) (W + 1)) j) = 7) (E0 : so (tlc h (m0.2.2.2 (pq p 35) (W + 1)) l0) = 6) (b1 : l1 ≤ 500) (b0 : l0 ≤ 500) (cx : CTX Fv P m0) (hF' : FVH Fv') (hA : ATf m0 w0 fa na) (hN : 200000 ≤ N)
    (fin : ∀ M2 m w fl q, q ≤ l1 → MGi m0 w0 m w l1 fl → PP Q (K1 m (I ((q : Nat) : Int))) (bnd ((gg_M_lessened N M2).2.2.2 w (I (((q : Nat) : Int) - 1)) 0 0) K2)) : ∀ (d M M2 : Nat) (m w : MS) (fl : Nat → Bool) (q o : Nat), o + d = l0 → q ≤ l1 → MGi m0 w0 m w l1 fl → PP Q (bnd ((hg_Ma_markGone N M).2.1 m p (I ((l1 : Nat) : Int)) (I ((q : Nat) : Int)) (tlc h (m0.2.2.2 (pq p 35) (W + 1)) o) (I ((o : Nat) : Int))) K1) (bnd ((gg_M_lessened N M2).2.1 w (I ((l1 : Nat) : Int)) (I ((l0 : Nat) : Int)) (I (((q : Nat) : Int) - 1)) 0 (tlc h' (w0.2.2.2 91 (46000 * p + (W + 1))) o) (I ((o : Nat) : Int))) K2) := by
  have tl0 := tl_TP is g g' q0 T0
  intro d
  induction d with
  | zero =>
    intro M M2 m w fl q o hi hq hg
    have : o = l0 := by omega
    subst this
    cases M with
    | zero => exact pp_nl
    | succ M =>
    cases M2 with
    | zero => exact pp_nr
    | succ M2 =>
    show PP Q (bnd (hb_Ma_markGone_37 N (hg_Ma_markGone N M) m p (I ((l1 : Nat) : Int)) (I ((q : Nat) : Int)) (tlc h (m0.2.2.2 (pq p 35) (W + 1)) o) (I ((o : Nat) : Int))) K1) (bnd (fb_M_lessened_72 N (gg_M_lessened N M2) w (I ((l1 : Nat) : Int)) (I ((o : Nat) : Int)) (I (((q : Nat) : Int) - 1)) 0 (tlc h' (w0.2.2.2 91 (46000 * p + (W + 1))) o) (I ((o : Nat) : Int))) K2)
    unfold hb_Ma_markGone_37 hb_Ma_markGone_188 fb_M_lessened_72
    rw [show (1000000000 : Int32) = I ((1000000000 : Nat) : Int) from rfl, decI (by omega) (by omega) (by omega) (by omega), decide_eq_false (by omega), br_fq, e_tag, bnd_so, E0, show decide (I 6 = 7) = false from rfl, br_fq, bnd_so, decI (by omega) (by omega) (by omega) (by omega), decide_eq_true (by omega), br_tq]
    exact fin M2 m w fl q hq hg
  | succ d ih =>
    intro M M2 m w fl q o hi hq hg
    cases M with
    | zero => exact pp_nl
    | succ M =>
    cases M2 with
    | zero => exact pp_nr
    | succ M2 =>
    show PP Q (bnd (hb_Ma_markGone_37 N (hg_Ma_markGone N M) m p (I ((l1 : Nat) : Int)) (I ((q : Nat) : Int)) (tlc h (m0.2.2.2 (pq p 35) (W + 1)) o) (I ((o : Nat) : Int))) K1) (bnd (fb_M_lessened_72 N (gg_M_lessened N M2) w (I ((l1 : Nat) : Int)) (I ((l0 : Nat) : Int)) (I (((q : Nat) : Int) - 1)) 0 (tlc h' (w0.2.2.2 91 (46000 * p + (W + 1))) o) (I ((o : Nat) : Int))) K2)
    unfold hb_Ma_markGone_37 fb_M_lessened_72
    have p0 := TP_pair is g g' (tl0 o (by omega)) (T0 o (by omega))
    have nq : ∀ d K, K = 44 ∨ K = 45 ∨ K = 46 → pq p d ≠ K := fun d K hK c => pq_n (by omega) c.symm
    have jq : ∀ d, m.2.2.2 (pq p d) = m0.2.2.2 (pq p d) := fun d => hg.1.2.2.2 _ (by simp; exact ⟨nq d 44 (by omega), nq d 45 (by omega), nq d 46 (by omega)⟩)
    have x33 : F w 133 = ((p : Nat) : Int) := by rw [FR.F hg.2.1 (by simp)]; exact h133
    have x92 : A w 92 p = ((W + 2 : Nat) : Int) := by rw [FR.A hg.2.1 (by simp)]; exact h92
    have hpw : hp w p = h' := by
      rw [← hh']
      funext k
      show w.2.2.2 88 (500 * p + k) = _
      rw [hg.2.1.2.2.2 88 (by simp)]
      rfl
    have be1 : hm_Fr_below N m p 1 = some (m, m0.2.2.2 (pq p 35) W) := by
      have := below_e (N := N) (x := 1) (k := 1) (W := W + 2) (l := l) (show F m (pq p 26) = _ by rw [FR.F hg.1 (by simp)]; exact h26) (show F m (pq p 45) = _ by rw [FR.F hg.1 (by simp)]; exact hl) hl2.1 hl2.2 rfl (by omega)
      rw [show W + 2 - 1 - 1 = W by omega, jq] at this
      exact this
    have tp1 : PK (fun w2 r => w2 = w ∧ r = w0.2.2.2 91 (46000 * p + W)) (fm_M_top N w 1) := by
      have := top_r (N := N) (k := 1) (W := W + 2) hpp x33 x92 hW (by omega)
      rw [show W + 2 - 1 - 1 = W by omega, hg.2.1.2.2.2 91 (by simp)] at this
      exact this
    rw [show (1000000000 : Int32) = I ((1000000000 : Nat) : Int) from rfl, decI (by omega) (by omega) (by omega) (by omega), decide_eq_false (by omega), br_fq, e_tag, bnd_so, T0 o (by omega), show decide (I 7 = 7) = true from rfl, br_tq, be1, bnd_so, decI (by omega) (by omega) (by omega) (by omega), decide_eq_false (by omega), br_fq, valueOf_e, rb_bnd_so, p0.1.2.2.2.1, I_F' x33, cell_e (by omega) (by omega), rb_bnd_so, valueOf_e, rb_bnd_so, p0.1.2.2.2.1, show I ((vn (tlc h' (w0.2.2.2 91 (46000 * p + (W + 1))) o) : Nat) : Int) + 1 = I ((vn (tlc h' (w0.2.2.2 91 (46000 * p + (W + 1))) o) + 1 : Nat) : Int) from addN, I_F' x33, cell_e (by omega) (by omega), rb_bnd_so, hpw]
    refine rb_bnd (pk_mo tp1 (fun w4 r e => ?_))
    obtain ⟨rfl, rfl⟩ := e
    exact mg_in (o := o) hpp h133 hh hh' g hU g' is q1 q0 T1 T0 b1 b0 (by omega) cx hF' hA hN (fun M M2 m w fl q hq hg => ih M M2 m w fl q (o + 1) (by omega) hq hg) l1 M M2 m w4 fl q 0 (by omega) hq hg
theorem mg_0 (hpp : p < 24) (h133 : F w0 133 = ((p : Nat) : Int)) (h26 : F m0 (pq p 26) = ((W + 2 : Nat) : Int)) (hl : F m0 (pq p 45) = ((l : Nat) : Int)) (hl2 : W + 2 ≤ l ∧ l ≤ 1000000) (h92 : A w0 92 p = ((W + 2 : Nat) : Int)) (hW : W + 2 ≤ 46000) (b1 : l1 ≤ 500)
    (go : ∀ M M2 m w, MGi m0 w0 m w l1 (fun _ => false) → PP Q (bnd ((hg_Ma_markGone N M).2.1 m p (I ((l1 : Nat) : Int)) (I ((0 : Nat) : Int)) (m0.2.2.2 (pq p 35) (W + 1)) (I ((0 : Nat) : Int))) K1) (bnd ((gg_M_lessened N M2).2.1 w (I ((l1 : Nat) : Int)) (I ((l0 : Nat) : Int)) (I (((0 : Nat) : Int) - 1)) 0 (w0.2.2.2 91 (46000 * p + (W + 1))) (I ((0 : Nat) : Int))) K2)) : ∀ (d M M2 : Nat) (m w : MS) (i : Nat), i + d = l1 → MGi m0 w0 m w i (fun _ => false) → PP Q (bnd ((hg_Ma_markGone N M).1 m p (I ((l1 : Nat) : Int)) (I ((i : Nat) : Int))) K1) (bnd ((gg_M_lessened N M2).1 w (I ((l1 : Nat) : Int)) (I ((l0 : Nat) : Int)) (I ((i : Nat) : Int))) K2) := by
  intro d
  induction d with
  | zero =>
    intro M M2 m w i hi hg
    have : i = l1 := by omega
    subst this
    cases M with
    | zero => exact pp_nl
    | succ M =>
    cases M2 with
    | zero => exact pp_nr
    | succ M2 =>
    show PP Q (bnd (hb_Ma_markGone_2 N (hg_Ma_markGone N M) m p (I ((i : Nat) : Int)) (I ((i : Nat) : Int))) K1) (bnd (fb_M_lessened_39 N (gg_M_lessened N M2) w (I ((i : Nat) : Int)) (I ((l0 : Nat) : Int)) (I ((i : Nat) : Int))) K2)
    unfold hb_Ma_markGone_2 fb_M_lessened_39
    have nq : ∀ d K, K = 44 ∨ K = 45 ∨ K = 46 → pq p d ≠ K := fun d K hK c => pq_n (by omega) c.symm
    have jq : ∀ d, m.2.2.2 (pq p d) = m0.2.2.2 (pq p d) := fun d => hg.1.2.2.2 _ (by simp; exact ⟨nq d 44 (by omega), nq d 45 (by omega), nq d 46 (by omega)⟩)
    have x33 : F w 133 = ((p : Nat) : Int) := by rw [FR.F hg.2.1 (by simp)]; exact h133
    have x92 : A w 92 p = ((W + 2 : Nat) : Int) := by rw [FR.A hg.2.1 (by simp)]; exact h92
    have be0 : hm_Fr_below N m p 0 = some (m, m0.2.2.2 (pq p 35) (W + 1)) := by
      have := below_e (N := N) (x := 0) (k := 0) (W := W + 2) (l := l) (show F m (pq p 26) = _ by rw [FR.F hg.1 (by simp)]; exact h26) (show F m (pq p 45) = _ by rw [FR.F hg.1 (by simp)]; exact hl) hl2.1 hl2.2 rfl (by omega)
      rw [show W + 2 - 1 - 0 = W + 1 by omega, jq] at this
      exact this
    have tp0 : PK (fun w2 r => w2 = w ∧ r = w0.2.2.2 91 (46000 * p + (W + 1))) (fm_M_top N w 0) := by
      have := top_r (N := N) (k := 0) (W := W + 2) hpp x33 x92 hW (by omega)
      rw [show W + 2 - 1 - 0 = W + 1 by omega, hg.2.1.2.2.2 91 (by simp)] at this
      exact this
    rw [decI (by omega) (by omega) (by omega) (by omega), decide_eq_true (by omega), br_tq, be0, bnd_so, br_tq]
    refine rb_bnd (pk_mo tp0 (fun w4 r e => ?_))
    obtain ⟨rfl, rfl⟩ := e
    exact go M M2 m w4 hg
  | succ d ih =>
    intro M M2 m w i hi hg
    cases M with
    | zero => exact pp_nl
    | succ M =>
    cases M2 with
    | zero => exact pp_nr
    | succ M2 =>
    show PP Q (bnd (hb_Ma_markGone_2 N (hg_Ma_markGone N M) m p (I ((l1 : Nat) : Int)) (I ((i : Nat) : Int))) K1) (bnd (fb_M_lessened_39 N (gg_M_lessened N M2) w (I ((l1 : Nat) : Int)) (I ((l0 : Nat) : Int)) (I ((i : Nat) : Int))) K2)
    unfold hb_Ma_markGone_2 fb_M_lessened_39
    rw [decI (by omega) (by omega) (by omega) (by omega), decide_eq_false (by omega), br_fq, br_fq]
    refine lb_ck (fun _ => rb_ck (fun _ => ?_))
    rw [tnI (n := i) rfl (by omega), wj_e, lt_e, show vp_nar .boolean 0 = I 0 from rfl, wa_e, lt_e, show I ((i : Nat) : Int) + 1 = I ((i + 1 : Nat) : Int) from addN]
    refine ih M M2 _ _ (i + 1) (by omega) ⟨FR.wj hg.1 (by simp), FR.wa hg.2.1 (by simp), fun k hk => ⟨?_, ?_⟩⟩
    · rw [wj_row]
      by_cases c : k = i
      · rw [if_pos c]; rfl
      · rw [if_neg c]
        exact (hg.2.2 k (by omega)).1
    · rw [wa_ro (by omega) (by omega)]
      by_cases c : k = i
      · rw [if_pos c]; rfl
      · rw [if_neg c]
        exact (hg.2.2 k (by omega)).2
end
def wiE (N M : Nat) (u : MS) (p : Nat) (v2 v3 : Int32) : Option (MS × Unit) := bnd (hm_Ma_room N u p (2 * v3)) (fun u32 r32 => br (decide (r32 = 0)) (some (u32, ())) (bnd (hm_Fr_below N u32 p 1) (fun u37 r37 => (hg_Ma_without N M).2 u37 p (v2) ((u32.1 (pq p 4))) (0) (r37) (0))))
section
variable {α β : Type} {N p q : Nat} {m w : MS} {fl : Nat → Bool} {Q : MS → α → MS → β → Prop} {D : Option (MS × α)} {E : Option (MS × β)} {K1 : MS → Unit → Option (MS × α)} {K2 : MS → Unit → Option (MS × β)}
theorem cnt_l (hq : q ≤ 1000) (hf : ∀ i, i < q → m.2.2.2 44 i = (if fl i = true then 1 else 0)) (go : ∀ M, PP Q (bnd (wiE N M m p (I ((q : Nat) : Int)) (I ((cnk fl q : Nat) : Int))) K1) E) : ∀ d M i : Nat, i + d = q → PP Q (bnd ((hg_Ma_without N M).1 m p (I ((q : Nat) : Int)) (I ((cnk fl i : Nat) : Int)) (I ((i : Nat) : Int))) K1) E := by
  intro d
  induction d with
  | zero =>
    intro M i hi
    have : i = q := by omega
    subst this
    cases M with
    | zero => exact pp_nl
    | succ M =>
    show PP Q (bnd (hb_Ma_without_79 N (hg_Ma_without N M) m p (I ((i : Nat) : Int)) (I ((cnk fl i : Nat) : Int)) (I ((i : Nat) : Int))) K1) E
    unfold hb_Ma_without_79
    rw [decI (by omega) (by omega) (by omega) (by omega), decide_eq_true (by omega), br_tq]
    exact go M
  | succ d ih =>
    intro M i hi
    cases M with
    | zero => exact pp_nl
    | succ M =>
    show PP Q (bnd (hb_Ma_without_79 N (hg_Ma_without N M) m p (I ((q : Nat) : Int)) (I ((cnk fl i : Nat) : Int)) (I ((i : Nat) : Int))) K1) E
    unfold hb_Ma_without_79 hb_Ma_without_106
    rw [decI (by omega) (by omega) (by omega) (by omega), decide_eq_false (by omega), br_fq]
    refine lb_ck (fun _ => ?_)
    rw [tnI (n := i) rfl (by omega), hf i (by omega), show I ((i : Nat) : Int) + 1 = I ((i + 1 : Nat) : Int) from addN]
    cases hfi : fl i with
    | true =>
      rw [show (if true = true then (1 : Int64) else 0) = 1 from rfl, dec_lg0 (by decide), br_fq, show I ((cnk fl i : Nat) : Int) + 0 = I ((cnk fl i : Nat) : Int) from addN (b := 0), ← cnk_f hfi]
      exact ih M (i + 1) (by omega)
    | false =>
      rw [show (if false = true then (1 : Int64) else 0) = 0 from rfl, dec_lg rfl, br_tq, show I ((cnk fl i : Nat) : Int) + 1 = I ((cnk fl i + 1 : Nat) : Int) from addN, ← cnk_s hfi]
      exact ih M (i + 1) (by omega)
theorem cnt_r (hq : q ≤ 1000) (hf : ∀ i, i < q → A w 168 i = (if fl i = true then 1 else 0)) (go : PP Q D (bnd (bnd (fm_M_anew N (wi w 169 1) (I ((q : Nat) : Int)) (2 * I ((cnk fl q : Nat) : Int))) (fun u2 _ => some (u2, ()))) K2)) : ∀ d M i : Nat, i + d = q → PP Q D (bnd ((gg_M_lessened N M).2.2.2 w (I (((q : Nat) : Int) - 1)) (I ((cnk fl i : Nat) : Int)) (I ((i : Nat) : Int))) K2) := by
  intro d
  induction d with
  | zero =>
    intro M i hi
    have : i = q := by omega
    subst this
    cases M with
    | zero => exact pp_nr
    | succ M =>
    show PP Q D (bnd (fb_M_lessened_222 N (gg_M_lessened N M) w (I (((i : Nat) : Int) - 1)) (I ((cnk fl i : Nat) : Int)) (I ((i : Nat) : Int))) K2)
    unfold fb_M_lessened_222
    rw [show decide (I (((i : Nat) : Int) - 1) < I ((i : Nat) : Int)) = true from decide_eq_true (by rw [I_lt (by omega) (by omega) (by omega) (by omega)]; omega), br_tq, show upI w 169 1 = wi w 169 1 from rfl, lt_e, show I (((i : Nat) : Int) - 1) + 1 = I ((i : Nat) : Int) from by rw [lit1q, I_add]; congr 1; omega]
    exact go
  | succ d ih =>
    intro M i hi
    cases M with
    | zero => exact pp_nr
    | succ M =>
    show PP Q D (bnd (fb_M_lessened_222 N (gg_M_lessened N M) w (I (((q : Nat) : Int) - 1)) (I ((cnk fl i : Nat) : Int)) (I ((i : Nat) : Int))) K2)
    unfold fb_M_lessened_222 fb_M_lessened_247
    rw [show decide (I (((q : Nat) : Int) - 1) < I ((i : Nat) : Int)) = false from decide_eq_false (by rw [I_lt (by omega) (by omega) (by omega) (by omega)]; omega), br_fq]
    refine rb_ck (fun _ => ?_)
    rw [tnI (n := i) rfl (by omega), I_A' (hf i (by omega)), show I ((i : Nat) : Int) + 1 = I ((i + 1 : Nat) : Int) from addN]
    cases hfi : fl i with
    | true =>
      rw [show (if true = true then (1 : Int) else 0) = 1 from rfl, show decide (I 1 = 0) = false from rfl, br_fq, ← cnk_f hfi]
      exact ih M (i + 1) (by omega)
    | false =>
      rw [show (if false = true then (1 : Int) else 0) = 0 from rfl, show decide (I 0 = 0) = true from rfl, br_tq, show I ((cnk fl i : Nat) : Int) + 1 = I ((cnk fl i + 1 : Nat) : Int) from addN, ← cnk_s hfi]
      exact ih M (i + 1) (by omega)
end
end
section
set_option maxRecDepth 100000
section
variable {N p U W C k a lc : Nat} {m m0 : MS} {t1 te : Int64} {fl : Nat → Bool} {tt : Nat → Int64}
theorem ans_g (h26 : F m (pq p 26) = ((W + 2 : Nat) : Int)) (hl : F m (pq p 45) = ((lc : Nat) : Int)) (hl2 : W + 2 ≤ lc ∧ lc ≤ 1000000) (h5 : F m 1105 = ((a : Nat) : Int)) (ha : a < 24000) : PK (fun m7 (_ : Unit) => FR [pq p 26, pq p 45, 1105] [] [] [pq p 35] m m7 ∧ F m7 (pq p 26) = ((W + 1 : Nat) : Int) ∧ F m7 1105 = ((a + 2 : Nat) : Int) ∧ ∀ i, i ≤ W → m7.2.2.2 (pq p 35) i = if i = W then te else m.2.2.2 (pq p 35) i) (bnd (hm_Ma_answer N m p 2 te) (fun u51 _ => lt (upI u51 1105 ((u51.1 1105) + 2)) (fun w53 => some (w53, ())))) := by
  unfold hm_Ma_answer hb_Ma_answer_0
  rw [show (2 : Int32) = I ((2 : Nat) : Int) from rfl, drop_e (W := W + 2) (k := 2) (x := ((2 : Nat) : Int)) h26 rfl (by omega), bnd_so, bb_e, show W + 2 - 2 = W by omega]
  have h26' : F (wi m (pq p 26) ((W : Nat) : Int)) (pq p 26) = ((W : Nat) : Int) := wi_sm (by omega) (by omega)
  have h45' : F (wi m (pq p 26) ((W : Nat) : Int)) (pq p 45) = ((lc : Nat) : Int) := by rw [wi_ne (pq_inj (by omega))]; exact hl
  refine pk_bnd (pk_mo (push_m (N := N) (t := te) h26' h45' (by omega) hl2.2) (fun m2 _ hh => ?_))
  obtain ⟨z1, z2, z3⟩ := hh
  rw [bnd_so]
  have e5 : F m2 1105 = ((a : Nat) : Int) := by
    rw [FR.F z1 (by simp [pq_n]), wi_ne (pq_n (by omega))]
    exact h5
  rw [I_F' e5, show I ((a : Nat) : Int) + I ((2 : Nat) : Int) = I ((a + 2 : Nat) : Int) from addN, wi_e, lt_e]
  refine pk_some ⟨FR.wi (FR.tr (FR.wi FR.rf (by simp)) (FR.mo z1 (by simp) (by simp) (by simp) (by simp))) (by simp), ?_, wi_sm (by omega) (by omega), fun i hi => ?_⟩
  · rw [wi_ne (fun c => pq_n (by omega) c.symm)]
    exact z2
  · show m2.2.2.2 (pq p 35) i = _
    rw [z3 i hi]
    rfl
theorem endl_g (hU : U + 2 * C ≤ 500) : ∃ m1 : MS, hm_Ma_endList N m p (I ((U : Nat) : Int)) (I ((C : Nat) : Int)) te = some (wi m1 (pq p 4) ((U + 2 * C : Nat) : Int), ()) ∧ FR [] [] [] [pq p 2] m m1 ∧ ∀ i, m1.2.2.2 (pq p 2) i = if 0 < C ∧ i = U + 2 * C - 1 then te else m.2.2.2 (pq p 2) i := by
  by_cases c : C = 0
  · subst c
    unfold hm_Ma_endList hb_Ma_endList_0 hb_Ma_endList_20
    have s1 : I ((U : Nat) : Int) + 2 * I ((0 : Nat) : Int) = I ((U + 2 * 0 : Nat) : Int) := by
      rw [show (2 : Int32) = I 2 from rfl, I_mul, I_add]
      congr 1
    rw [s1, show decide (I ((0 : Nat) : Int) ≤ 0) = true from rfl, br_tq, wi_e, lt_e]
    exact ⟨m, rfl, FR.rf, fun i => by rw [if_neg (by omega)]⟩
  · refine ⟨wj m (pq p 2) (U + 2 * C - 1) te, endL_e (by omega) hU, FR.wj FR.rf (by simp), fun i => ?_⟩
    rw [wj_row]
    by_cases c2 : i = U + 2 * C - 1
    · rw [if_pos c2, if_pos ⟨by omega, c2⟩]
    · rw [if_neg c2, if_neg (fun z => c2 z.2)]
theorem wo_m (h26 : F m0 (pq p 26) = ((W + 2 : Nat) : Int)) (hl : F m0 (pq p 45) = ((lc : Nat) : Int)) (hl2 : W + 2 ≤ lc ∧ lc ≤ 1000000) (h5 : F m0 1105 = ((a : Nat) : Int)) (ha : a < 24000) (hk : k ≤ 1000) (hC : C = cnk fl k) (hU : U + 2 * C ≤ 500) (hf : ∀ i, i < k → m0.2.2.2 44 i = (if fl i = true then 1 else 0)) (hts : ∀ i, i < k → va (tlc (m0.2.2.2 (pq p 2)) t1 i) = ((vn (tlc (m0.2.2.2 (pq p 2)) t1 i) : Nat) : Int) ∧ vn (tlc (m0.2.2.2 (pq p 2)) t1 i) + 2 ≤ U) (htt : ∀ i, i < k → fl i = false → tt (cnk fl i) = m0.2.2.2 (pq p 2) (vn (tlc (m0.2.2.2 (pq p 2)) t1 i))) : ∀ (d M : Nat) (m : MS) (i : Nat), i + d = k → FR [] [] [] [pq p 2] m0 m → lsM (m.2.2.2 (pq p 2)) (m0.2.2.2 (pq p 2)) U (cnk fl i) tt → PK (fun m2 (_ : Unit) => LMm m0 m2 p U C W tt (tlc (m0.2.2.2 (pq p 2)) t1 k) ∧ F m2 1105 = ((a + 2 : Nat) : Int)) ((hg_Ma_without N M).2 m p (I ((k : Nat) : Int)) (I ((U : Nat) : Int)) (I ((cnk fl i : Nat) : Int)) (tlc (m0.2.2.2 (pq p 2)) t1 i) (I ((i : Nat) : Int))) := by
  intro d
  induction d with
  | zero =>
    intro M m i hi fr ls
    have : i = k := by omega
    subst this
    cases M with
    | zero => exact pk_none
    | succ M =>
    show PK _ (hb_Ma_without_150 N (hg_Ma_without N M) m p (I ((i : Nat) : Int)) (I ((U : Nat) : Int)) (I ((cnk fl i : Nat) : Int)) (tlc (m0.2.2.2 (pq p 2)) t1 i) (I ((i : Nat) : Int)))
    unfold hb_Ma_without_150 hb_Ma_without_281
    rw [decI (by omega) (by omega) (by omega) (by omega), decide_eq_true (by omega), br_tq, ← hC]
    rw [← hC] at ls
    obtain ⟨m1, el, f1, c1⟩ := endl_g (N := N) (p := p) (m := m) (te := tlc (m0.2.2.2 (pq p 2)) t1 i) hU
    rw [el, bnd_so]
    have fr1 : FR [] [] [] [pq p 2] m0 m1 := FR.tr fr f1
    have tail : ∀ x : Int64, x = (if C = 0 then tlc (m0.2.2.2 (pq p 2)) t1 i else mk 7 ((U : Nat) : Int)) → PK (fun m2 (_ : Unit) => LMm m0 m2 p U C W tt (tlc (m0.2.2.2 (pq p 2)) t1 i) ∧ F m2 1105 = ((a + 2 : Nat) : Int)) (bnd (hm_Ma_answer N (wi m1 (pq p 4) ((U + 2 * C : Nat) : Int)) p 2 x) (fun u1 _ => lt (upI u1 1105 ((u1.1 1105) + 2)) (fun w3 => some (w3, ())))) := fun x hx => by
      have e26 : F (wi m1 (pq p 4) ((U + 2 * C : Nat) : Int)) (pq p 26) = ((W + 2 : Nat) : Int) := by rw [wi_ne (pq_inj (by omega)), FR.F fr1 (by simp)]; exact h26
      have e45 : F (wi m1 (pq p 4) ((U + 2 * C : Nat) : Int)) (pq p 45) = ((lc : Nat) : Int) := by rw [wi_ne (pq_inj (by omega)), FR.F fr1 (by simp)]; exact hl
      have e5 : F (wi m1 (pq p 4) ((U + 2 * C : Nat) : Int)) 1105 = ((a : Nat) : Int) := by rw [wi_ne (pq_n (by omega)), FR.F fr1 (by simp)]; exact h5
      refine pk_mo (ans_g (N := N) (te := x) e26 e45 hl2 e5 ha) (fun m7 _ hh => ?_)
      obtain ⟨z1, z2, z3, z4⟩ := hh
      have j2 : m7.2.2.2 (pq p 2) = m1.2.2.2 (pq p 2) := z1.2.2.2 _ (by simp; exact pq_inj (by omega))
      refine ⟨⟨?_, ?_, z2, fun r hr => ?_, fun r hr => ⟨?_, ?_⟩, fun r hr => ?_⟩, z3⟩
      · exact FR.tr (FR.wi (FR.mo fr1 (by simp) (by simp) (by simp) (by simp)) (by simp)) (FR.mo z1 (by simp) (by simp) (by simp) (by simp))
      · rw [FR.F z1 (by
          simp only [List.mem_cons, List.not_mem_nil, or_false]
          intro c
          rcases c with c | c | c
          · exact pq_inj (by omega) c
          · exact pq_inj (by omega) c
          · exact pq_n (by omega) c.symm), wi_sm (by omega) (by omega)]
      · rw [j2, c1, if_neg (by omega)]
        exact ls.1 r hr
      · rw [j2, c1, if_neg (by omega)]
        exact (ls.2 r hr).1
      · rw [j2, c1]
        by_cases c : r + 1 = C
        · rw [if_pos (by omega), if_pos c]
        · rw [if_neg (by omega), if_neg c]
          exact (ls.2 r hr).2
      · rw [z4 r hr, ← hx]
        by_cases c : r = W
        · rw [if_pos c, if_pos c]
        · rw [if_neg c, if_neg c]
          show m1.2.2.2 (pq p 35) r = _
          rw [fr1.2.2.2 _ (by simp; exact pq_inj (by omega))]
    by_cases c : C = 0
    · rw [show decide (I ((C : Nat) : Int) = 0) = true from by rw [lit0q, decE (by omega) (by omega) (by omega) (by omega)]; exact decide_eq_true (by omega), br_tq]
      exact tail _ (by rw [if_pos c])
    · rw [show decide (I ((C : Nat) : Int) = 0) = false from by rw [lit0q, decE (by omega) (by omega) (by omega) (by omega)]; exact decide_eq_false (by omega), br_fq, show (7 : Int32) = I 7 from rfl, e_make, bnd_so]
      exact tail _ (by rw [if_neg c])
  | succ d ih =>
    intro M m i hi fr ls
    cases M with
    | zero => exact pk_none
    | succ M =>
    show PK _ (hb_Ma_without_150 N (hg_Ma_without N M) m p (I ((k : Nat) : Int)) (I ((U : Nat) : Int)) (I ((cnk fl i : Nat) : Int)) (tlc (m0.2.2.2 (pq p 2)) t1 i) (I ((i : Nat) : Int)))
    unfold hb_Ma_without_150 hb_Ma_without_231
    obtain ⟨v1, v2⟩ := hts i (by omega)
    have s1 : I ((U : Nat) : Int) + 2 * I ((cnk fl i : Nat) : Int) = I ((U + 2 * cnk fl i : Nat) : Int) := by
      rw [show (2 : Int32) = I 2 from rfl, I_mul, I_add]
      congr 1 <;> omega
    have j44 : m.2.2.2 44 i = (if fl i = true then 1 else 0) := by rw [fr.2.2.2 44 (by simp; exact fun c => pq_n (by omega) c)]; exact hf i (by omega)
    have cm := cnk_m (fl := fl) (show i + 1 ≤ k by omega)
    rw [decI (by omega) (by omega) (by omega) (by omega), decide_eq_false (by omega), br_fq]
    refine pk_ck (fun _ => ?_)
    rw [tnI (n := i) rfl (by omega), j44]
    cases hfi : fl i with
    | true =>
      rw [show (if true = true then (1 : Int64) else 0) = 1 from rfl, dec_lg0 (by decide), br_fq, valI, v1, show I ((vn (tlc (m0.2.2.2 (pq p 2)) t1 i) : Nat) : Int) + 1 = I ((vn (tlc (m0.2.2.2 (pq p 2)) t1 i) + 1 : Nat) : Int) from addN]
      refine pk_ck (fun _ => ?_)
      rw [tnI (n := vn (tlc (m0.2.2.2 (pq p 2)) t1 i) + 1) rfl (by omega), ls.1 _ (by omega), show I ((i : Nat) : Int) + 1 = I ((i + 1 : Nat) : Int) from addN]
      have := ih M m (i + 1) (by omega) fr (by rw [cnk_f hfi]; exact ls)
      rw [cnk_f hfi] at this
      exact this
    | false =>
      have ce := cnk_s hfi
      rw [show (if false = true then (1 : Int64) else 0) = 0 from rfl, dec_lg rfl, br_tq, valI, v1, s1]
      refine pk_ck (fun _ => pk_ck (fun _ => ?_))
      rw [tnI (n := U + 2 * cnk fl i) rfl (by omega), tnI (n := vn (tlc (m0.2.2.2 (pq p 2)) t1 i)) rfl (by omega), wj_e, lt_e, show I ((U + 2 * cnk fl i : Nat) : Int) + 2 = I ((U + 2 * cnk fl i + 2 : Nat) : Int) from addN, show (7 : Int32) = I 7 from rfl, e_make, bnd_so, show I ((U + 2 * cnk fl i : Nat) : Int) + 1 = I ((U + 2 * cnk fl i + 1 : Nat) : Int) from addN]
      refine pk_ck (fun _ => ?_)
      rw [tnI (n := U + 2 * cnk fl i + 1) rfl (by omega), wj_e, lt_e, show I ((vn (tlc (m0.2.2.2 (pq p 2)) t1 i) : Nat) : Int) + 1 = I ((vn (tlc (m0.2.2.2 (pq p 2)) t1 i) + 1 : Nat) : Int) from addN]
      refine pk_ck (fun _ => ?_)
      rw [tnI (n := vn (tlc (m0.2.2.2 (pq p 2)) t1 i) + 1) rfl (by omega), show I ((i : Nat) : Int) + 1 = I ((i + 1 : Nat) : Int) from addN, wj_row, if_neg (by omega), wj_row, if_neg (by omega), ls.1 _ (show vn (tlc (m0.2.2.2 (pq p 2)) t1 i) + 1 < U by omega), ls.1 _ (show vn (tlc (m0.2.2.2 (pq p 2)) t1 i) < U by omega), show I ((cnk fl i : Nat) : Int) + 1 = I ((cnk fl (i + 1) : Nat) : Int) from by rw [ce]; exact addN]
      refine ih M _ (i + 1) (by omega) (FR.wj (FR.wj fr (by simp)) (by simp)) ⟨fun r hr => ?_, fun r hr => ?_⟩
      · rw [wj_row, if_neg (by omega), wj_row, if_neg (by omega)]
        exact ls.1 r hr
      · by_cases c : r = cnk fl i
        · subst c
          rw [wj_row, if_neg (by omega), wj_row, if_pos rfl, wj_row, if_pos rfl]
          exact ⟨(htt i (by omega) hfi).symm, by congr 1⟩
        · rw [wj_row, if_neg (by omega), wj_row, if_neg (by omega), wj_row, if_neg (by omega), wj_row, if_neg (by omega)]
          exact ls.2 r (by omega)
end
end
section
set_option maxRecDepth 100000
section
variable {α β : Type} {b : Int → Nat → Nat → Prop} {Fv Fv' : Int64 → Int64 → Prop} {P P' : Int64 → Prop} {ow kd ow' kd' fa' : Nat → Nat} {N p U B W Y l j a n ee ee' na : Nat} {m w : MS} {nb : Nat → Nat} {Hs Os : Nat → List Nat} {y : Option (Nat × Nat × Nat)} {Q : MS → α → MS → β → Prop} {K1 : MS → Option (MS × α)} {K2 : MS → Option (MS × β)}
theorem op_less (hpp : p < 24) (pl : PLs b p m w U B (W + 2) Y) (ru : RUs m w p j nb Hs Os y a n) (hW : W + 2 ≤ 46000) (hl : F m (pq p 45) = ((l : Nat) : Int)) (hl2 : W + 2 ≤ l ∧ l ≤ 1000000) (pt : PTQ m p U ow kd Fv P B (W + 2) Y) (cx : CTX Fv P m) (xc : CX w p (hp w p) U ow' kd' Fv' P' (W + 2) B Y) (h140 : F w 140 = -1) (h25 : A w 25 n = 23) (c1 : A m 23 (a + 1) = 44) (hF' : FVH Fv') (hA : ATf m w fa' na) (hee : F m 955 = ((ee : Nat) : Int) ∧ ee < 24) (hee' : F w 150 = ((ee' : Nat) : Int) ∧ ee' < 4000) (hN : 2200000 ≤ N) (cr : ∃ f, CRs (A m 23) (ROs w) (w.2.2.2 34) f y (a + 2) (n + 1) (Hs j) (Os j))
    (kS : ∀ b3 U3 m3 w3, PLs b3 p m3 w3 U3 B (W + 1) Y → RUs m3 w3 p j nb Hs Os y (a + 2) (n + 1) → GGm p m m3 → GGw p w w3 → (SCs p m w → SCs p m3 w3) → PP Q (K1 m3) (K2 w3))
    (kX : ∀ m3 w3, FGm p m m3 → FGw p j w w3 → PLs b p m3 w3 U B (W + 2) Y → RUb m3 w3 p j nb Hs Os y → PTQ m3 p U ow kd Fv P B (W + 2) Y → CX w3 p (hp w3 p) U ow' kd' Fv' P' (W + 2) B Y → F w3 140 = -1 → PP Q (K1 (tld m3 1 (-1) (mk 1 11))) (bnd (fr_M_error N w3 11) (fun u _ => K2 u)))
    (kE : ∀ m3 w3, GGm p m m3 → GGw p w w3 → (SCs p m w → SCs p m3 w3) → m3.1 (pq p 5) = w3.2.2.1 90 p → PP Q (K1 (enS m3 p (mk 1 20) p ee)) (K2 (wi (enR w3 p 0 ((p : Nat) : Int) (mk 1 20) ee') 151 1))) : PP Q (bnd (hm_Ma_value N m p (I 10)) (fun u _ => K1 u)) (bnd (fm_M_one N w (I ((n : Nat) : Int)) (I 6)) (fun u _ => K2 u)) := by
  obtain ⟨⟨fa, ct⟩, ⟨r2, r3⟩, ⟨f0, cr0⟩, ⟨r5, r6⟩, r7, ⟨r8, r9, r10⟩, r11, r12, r13⟩ := id ru
  have cb := CR_b cr0
  have hj : j < 60 := fa.1.2.2
  have hU := pl.1.1.2.2
  rw [val10y, one_6, I_F' r2, show I ((a : Nat) : Int) + 1 = I ((a + 1 : Nat) : Int) from addN, Co_e (k := a + 1) rfl (by omega), bnd_so, c1, show decide (I 44 = 43) = false from rfl, br_fq, show I ((n : Nat) : Int) + 1 = I ((n + 1 : Nat) : Int) from addN]
  refine l_bb (r_bb ?_)
  refine r_bnd (pk_mo (goto_r (N := N) (n := ((n + 1 : Nat) : Int)) hpp r11 fa.1.2.1 hj) (fun w1 _ e => ?_))
  subst e
  refine rb_ck (fun _ => ?_)
  have e25 : A (wa w 98 (60 * p + j) ((n + 1 : Nat) : Int)) 25 n = 23 := by rw [wa_rne (by omega)]; exact h25
  rw [tnI (n := n) rfl (by omega), I_A' e25, two_23]
  refine r_bb (r_bb ?_)
  generalize hw1 : wa w 98 (60 * p + j) ((n + 1 : Nat) : Int) = w1
  have g1 : FGw p j w w1 := by rw [← hw1]; exact FGw.goto
  have pl1 : PLs b p m w1 U B (W + 2) Y := by rw [← hw1]; exact PLs_98 pl
  have x33 : F w1 133 = ((p : Nat) : Int) := by rw [← hw1]; exact r11
  have x98 : A w1 98 (60 * p + j) = ((n + 1 : Nat) : Int) := by rw [← hw1, wa_sm (by omega) (by omega)]
  have xc1 : CX w1 p (hp w1 p) U ow' kd' Fv' P' (W + 2) B Y := by rw [← hw1]; exact CX_98 xc
  have y40 : F w1 140 = -1 := by rw [← hw1]; exact h140
  have ru1 : RUb m w1 p j nb Hs Os y := RUb_fg (RUs_b ru) FGm.rf g1
  have gg1 : GGw p w w1 := GGw_fg g1 hj
  have sc1 : SCs p m w → SCs p m w1 := fun s => SC_fg s FGm.rf g1
  have tp : ∀ i, i < W + 2 → TPb b U ow kd P U ow' kd' P' (m.2.2.2 (pq p 35) i) (w1.2.2.2 91 (46000 * p + i)) := fun i hi => ⟨pl1.2.2.1.2.2 i hi, pt.2.2.1.2 i hi, xc1.2.2.2.2.2.2.2.1 i hi⟩
  have be1 : hm_Fr_below N m p 1 = some (m, m.2.2.2 (pq p 35) W) := by
    have := below_e (N := N) (x := 1) (k := 1) (W := W + 2) (l := l) pl.2.2.1.1 hl hl2.1 hl2.2 rfl (by omega)
    rw [show W + 2 - 1 - 1 = W by omega] at this
    exact this
  have tp1 : ∀ u : MS, F u 133 = ((p : Nat) : Int) → A u 92 p = ((W + 2 : Nat) : Int) → PK (fun w2 r => w2 = u ∧ r = u.2.2.2 91 (46000 * p + W)) (fm_M_top N u 1) := fun u h1 h2 => by
    have := top_r (N := N) (k := 1) (W := W + 2) hpp h1 h2 hW (by omega)
    rw [show W + 2 - 1 - 1 = W by omega] at this
    exact this
  have tp0 : ∀ u : MS, F u 133 = ((p : Nat) : Int) → A u 92 p = ((W + 2 : Nat) : Int) → PK (fun w2 r => w2 = u ∧ r = u.2.2.2 91 (46000 * p + (W + 1))) (fm_M_top N u 0) := fun u h1 h2 => by
    have := top_r (N := N) (k := 0) (W := W + 2) hpp h1 h2 hW (by omega)
    rw [show W + 2 - 1 - 0 = W + 1 by omega] at this
    exact this
  have be0 : hm_Fr_below N m p 0 = some (m, m.2.2.2 (pq p 35) (W + 1)) := by
    have := below_e (N := N) (x := 0) (k := 0) (W := W + 2) (l := l) pl.2.2.1.1 hl hl2.1 hl2.2 rfl (by omega)
    rw [show W + 2 - 1 - 0 = W + 1 by omega] at this
    exact this
  unfold hm_Ma_without hb_Ma_without_0 hb_Ma_without_61 fm_M_lessened fb_M_lessened_0 fb_M_lessened_30
  rw [be1, bnd_so]
  refine rb_bnd (pk_mo (tp1 w1 x33 pl1.2.2.1.2.1) (fun w4 r e => ?_))
  obtain ⟨rfl, rfl⟩ := e
  refine l_bb (r_bb (pp_bb (pp_mo (len_pp (N := N) (v := pq p 2) rfl rfl pt.1.2.2 hU xc1.2.1 hU (by omega) x33 pl1.1.2.1 (tp W (by omega))) (fun m2 r w2 r' hq => ?_))))
  obtain ⟨⟨rfl, rfl⟩, rfl, hq⟩ := hq
  refine rb_bnd (pk_mo (tp0 w2 x33 pl1.2.2.1.2.1) (fun w4 r e => ?_))
  obtain ⟨rfl, rfl⟩ := e
  rcases hq with rfl | ⟨l1, rfl, b1, hs6, hs6', hts⟩
  · 
    rw [show decide (I (-1) = -1) = true from rfl, br_tq]
    unfold fm_M_lengthOf fb_M_lengthOf_0
    refine rb_bnd (pk_mo (len_w (N := N) N _ 0) (fun w3 r e => ?_))
    subst e
    rw [br_tq, show (11 : Int32) = I 11 from rfl, wrong_e, bnd_so]
    refine r_bb ?_
    simp only [bnd_so]
    exact kX m2 w3 FGm.rf g1 pl1 ru1 pt xc1 y40
  · have dm : ∀ k : Nat, k ≤ 500 → decide (I ((k : Nat) : Int) = -1) = false := fun k hk => by rw [m1I, decE (by omega) (by omega) (by omega) (by omega)]; exact decide_eq_false (by omega)
    rw [dm l1 b1, br_fq, show decide ((2048 : Int32) < I ((l1 : Nat) : Int)) = false from decide_eq_false (by rw [show (2048 : Int32) = I 2048 from rfl, I_lt (by omega) (by omega) (by omega) (by omega)]; omega), br_fq, be0, bnd_so]
    refine l_bb (r_bb (pp_bb (pp_mo (len_pp (N := N) (v := pq p 2) rfl rfl pt.1.2.2 hU xc1.2.1 hU (by omega) x33 pl1.1.2.1 (tp (W + 1) (by omega))) (fun m3 r w3 r' hq => ?_))))
    obtain ⟨⟨rfl, rfl⟩, rfl, hq⟩ := hq
    rw [br_fq]
    rcases hq with rfl | ⟨l0, rfl, b0, ht6, ht6', htt⟩
    · rw [show decide (I (-1) = -1) = true from rfl, br_tq, br_tq, show (11 : Int32) = I 11 from rfl, wrong_e, bnd_so]
      refine r_bb ?_
      simp only [bnd_so]
      exact kX m3 w3 FGm.rf g1 pl1 ru1 pt xc1 y40
    · rw [dm l0 b0, br_fq, br_fq]
      unfold hm_Ma_markGone hb_Ma_markGone_0
      refine l_bb ?_
      have hA1 : ATf m3 w3 fa' na := ATf_k hA rfl rfl rfl (gg1.2.1.2.2.2.2) (gg1.2.1.2.2.1) (gg1.2.1.2.2.2.1)
      refine mg_0 (N := N) (p := p) (W := W) (l := l) (l1 := l1) (l0 := l0) (m0 := m3) (w0 := w3) hpp x33 pl.2.2.1.1 hl hl2 pl1.2.2.1.2.1 hW b1 (fun M M2 m' w' hg => ?_) l1 N N m3 w3 0 (by omega) ⟨FR.rf, FR.rf, fun i hi => absurd hi (Nat.not_lt_zero _)⟩
      refine mg_out (N := N) (p := p) (U := U) (W := W) (l := l) (l1 := l1) (l0 := l0) (m0 := m3) (w0 := w3) hpp x33 pl.2.2.1.1 hl hl2 pl1.2.2.1.2.1 hW rfl rfl pt.1.2.2 hU xc1.2.1 pl1.1.2.1 (tp W (by omega)) (tp (W + 1) (by omega)) (fun i hi => (hts i hi).1) (fun i hi => (htt i hi).1) ht6 b1 b0 cx hF' hA1 (by omega) (fun M2 m4 w6 fl q hq hg => ?_) l0 M M2 m' w' _ 0 0 (by omega) (by omega) hg
      show PP Q (bnd ((hg_Ma_without N N).1 m4 p (I ((q : Nat) : Int)) 0 0) _) _
      refine cnt_l (fl := fl) (q := q) (by omega) (fun i hi => (hg.2.2 i (by omega)).1) (fun M => ?_) q N 0 (by omega)
      refine cnt_r (fl := fl) (q := q) (by omega) (fun i hi => (hg.2.2 i (by omega)).2) ?_ q M2 0 (by omega)
      have f4 : FR [] [] [] [44, 45, 46] m3 m4 := hg.1
      have nq : ∀ d K, K = 44 ∨ K = 45 ∨ K = 46 → pq p d ≠ K := fun d K hK c => pq_n (by omega) c.symm
      have jq : ∀ d, m4.2.2.2 (pq p d) = m3.2.2.2 (pq p d) := fun d => f4.2.2.2 _ (by simp; exact ⟨nq d 44 (by omega), nq d 45 (by omega), nq d 46 (by omega)⟩)
      have iq : ∀ d, m4.1 d = m3.1 d := fun d => f4.1 d (by simp)
      have fq : ∀ d, F m4 d = F m3 d := fun d => congrArg Int32.toInt (iq d)
      have fm4 : FGm p m3 m4 := FR.mo f4 (by simp) (by simp) (by simp) (by simp)
      have cb' := cnk_b (fl := fl) q
      have s2 : (2 : Int32) * I ((cnk fl q : Nat) : Int) = I ((2 * cnk fl q : Nat) : Int) := by
        rw [show (2 : Int32) = I 2 from rfl, I_mul]
        congr 1
      generalize hwE : wi w6 169 1 = wE
      have fE : FR [169] [] [168] [141] w3 wE := by rw [← hwE]; exact FR.wi (FR.mo hg.2.1 (by simp) (by simp) (by simp) (by simp)) (by simp)
      have e169 : F wE 169 = 1 := by rw [← hwE]; exact wi_sm (by omega) (by omega)
      have e168 : ∀ i, i < l1 → A wE 168 i = (if fl i = true then 1 else 0) := fun i hi => by rw [← hwE]; exact (hg.2.2 i hi).2
      have sE : SCw w3 wE := FR.mo fE (by simp) (by simp) (by simp) (by simp)
      have pl4 : PLs b p m4 w3 U B (W + 2) Y := PLs_cg pl1 (fun d _ => iq _) (fun i _ => by rw [jq]) (fun i _ => by rw [jq]) (fun i _ => by rw [jq]) (fun i _ => by rw [jq]) (fun _ _ => rfl) (fun _ _ => rfl) (fun _ _ => rfl) (fun _ _ => rfl) (fun _ _ => rfl)
      have plE := SCw_pl sE pl4
      have xcE := SCw_cx sE xc1
      have pt6 : PTQ m4 p U ow kd Fv P B (W + 2) Y := PTQ_same pt (fun d _ => iq _) (fun d _ => jq d)
      have cx6 : CTX Fv P m4 := CTX_fr cx (iq 22) (f4.2.2.1 3 (by simp))
      have xE : F wE 133 = ((p : Nat) : Int) := by rw [FR.F fE (by simp)]; exact x33
      have yE : F wE 140 = -1 := by rw [FR.F fE (by simp)]; exact y40
      have ggE : GGw p w wE := GGw.tr gg1 (SCw_gg sE)
      have scE : SCs p m3 w → SCs p m4 wE := fun s => SC_fg (SC_ow (sc1 s) (fun _ _ => rfl) rfl (fun K h1 h2 => sE.2.2.1 K (by simp; omega))) fm4 (FGw.rf (j := j))
      have ruE : RUb m4 wE p j nb Hs Os y := RUb_fg (RUb_sc sE ru1) fm4 FGw.rf
      have e9 : F m4 (pq p 9) ≠ 3 := by rw [fq, r5]; omega
      have ee4 : F m4 955 = ((ee : Nat) : Int) ∧ ee < 24 := ⟨by rw [fq]; exact hee.1, hee.2⟩
      unfold wiE fm_M_anew fb_M_anew_0
      rw [I_F' xE, s2]
      refine l_bb (r_bb (r_bb (pp_bb (pp_mo (pp_pl (room_pp (N := N) (k := 2 * cnk fl q) pt6 cx6 xcE plE yE (by omega) e9 ee4 hN) (room_tags (N := N) (k := 2 * cnk fl q) pt6 cx6 (by omega) e9 ee4 hN)) (fun m5 r4 w5' r5' q9 => ?_)))))
      obtain ⟨q9, tg⟩ := q9
      rcases q9 with ⟨rfl, rfl, a4, a5, b2', U2, pl5, rm5, ⟨ow2, kd2, pt5⟩, ⟨ow2', kd2', xc5⟩⟩ | ⟨rfl, rfl, m6, a4, a5, rfl, h5⟩
      · rw [show decide ((1 : Int32) = 0) = false from rfl, br_fq, br_fq]
        have z33 : F w5' 133 = ((p : Nat) : Int) := by rw [FR.F a5.1 (by simp)]; exact xE
        obtain ⟨l4, e1, e2, e3⟩ := pt5.2.2.2.2.2.1
        have e5 : F m5 1105 = ((a : Nat) : Int) := by rw [FR.F a4 (by simp [pq_n]), fq]; exact r2
        have be5 : hm_Fr_below N m5 p 1 = some (m5, m5.2.2.2 (pq p 35) W) := by
          have := below_e (N := N) (x := 1) (k := 1) (W := W + 2) (l := l4) pl5.2.2.1.1 e1 e2 e3 rfl (by omega)
          rw [show W + 2 - 1 - 1 = W by omega] at this
          exact this
        rw [be5, bnd_so, I_F' pl5.1.1.1]
        refine rb_bnd (pk_mo (tp1 w5' z33 pl5.2.2.1.2.1) (fun w4' r e => ?_))
        obtain ⟨rfl, rfl⟩ := e
        have tags : ∀ j, j < l1 → so (tlc (m5.2.2.2 (pq p 2)) (m5.2.2.2 (pq p 35) W) j) = 7 := fun i hi => by
          rw [tg rfl W (by omega) i (fun i2 h2 => by rw [jq, jq]; exact (hts i2 (by omega)).1), jq, jq]
          exact (hts i hi).1
        have tp5 : ∀ i, i < W + 2 → TPb b2' U2 ow2 kd2 P U2 ow2' kd2' P' (m5.2.2.2 (pq p 35) i) (w4'.2.2.2 91 (46000 * p + i)) := fun i hi => ⟨pl5.2.2.1.2.2 i hi, pt5.2.2.1.2 i hi, xc5.2.2.2.2.2.2.2.1 i hi⟩
        have tl5 := tl_TP pl5.1.2.1 pt5.1.2.2 xc5.2.1 (tp5 W (by omega)) tags
        have prs := fun i (hi : i < l1) => TP_pair pl5.1.2.1 pt5.1.2.2 xc5.2.1 (tl5 i (by omega)) (tags i hi)
        have hU2 := pl5.1.1.2.2
        have f44 : ∀ i, i < q → m5.2.2.2 44 i = (if fl i = true then 1 else 0) := fun i hi => by
          rw [a4.2.2.2 44 (by simp; exact ⟨fun c => pq_n (by omega) c, fun c => pq_n (by omega) c, fun c => pq_n (by omega) c, fun c => pq_n (by omega) c, fun c => pq_n (by omega) c⟩)]
          exact (hg.2.2 i (by omega)).1
        refine l_bnd (pk_mo (wo_m (N := N) (U := U2) (W := W) (C := cnk fl q) (k := q) (a := a) (lc := l4) (m0 := m5) (t1 := m5.2.2.2 (pq p 35) W) (fl := fl) (tt := selk fl (fun i => m5.2.2.2 (pq p 2) (vn (tlc (m5.2.2.2 (pq p 2)) (m5.2.2.2 (pq p 35) W) i))) q) pl5.2.2.1.1 e1 ⟨e2, e3⟩ e5 (by omega) (by omega) rfl rm5 f44 (fun i hi => ⟨(prs i (by omega)).1.2.1, (prs i (by omega)).1.2.2.1⟩) (fun i hi hf => selk_at q i hi hf) q M m5 0 (by omega) FR.rf ⟨fun _ _ => rfl, fun r hr => absurd hr (Nat.not_lt_zero _)⟩) (fun m7 _ hm7 => ?_))
        obtain ⟨lm, t4⟩ := hm7
        refine r_bnd (pk_mo (anw_c (N := N) (U := U2) (W := W) (k1 := q) (C := cnk fl q) (fl := fl) (xx := selk fl (fun i => hp w4' p (vn (tlc (hp w4' p) (w4'.2.2.2 91 (46000 * p + W)) i))) q) (te := tlc (hp w4' p) (w4'.2.2.2 91 (46000 * p + W)) q) (x1 := w4'.2.2.2 91 (46000 * p + W)) (w0 := w4') hpp z33 pl5.2.2.1.2.1 hW (by omega) (fun i hi => by rw [FR.A a5.1 (by simp)]; exact e168 i (by omega)) pl5.1.1.2.1 rfl rm5 (fun i hi => ⟨(prs i (by omega)).1.2.2.2.1, by have := (prs i (by omega)).1.2.2.2.2; omega⟩) (fun i hi hf => selk_at q i hi hf) rfl (Or.inr ⟨by rw [FR.F a5.1 (by simp)]; exact e169, rfl⟩) q N 0 w4' (by omega) FR.rf (fun q hq => absurd hq (Nat.not_lt_zero _))) (fun w7 _ lw => ?_))
        simp only [bnd_so]
        obtain ⟨⟨b3, pl7⟩, fm7, wX, sX, fw7, s98⟩ := anw_fin (j := j) hpp pl5 rm5 hW lm lw (fun i hi => by
          obtain ⟨i2, h1, h2, h3⟩ := selk_ex q i hi
          rw [h3, selk_at q i2 h1 h2, selk_at q i2 h1 h2]
          exact (prs i2 (by omega)).2.1.1) (tl5 q hq).1
        have fm5 : FGm p m4 m5 := FGm_xr a4
        have fw5 : FGw p j wE w4' := FGw_xr a5
        have ru7 := RUb_fg (RUb_sc sX (RUb_fg ruE fm5 fw5)) fm7 fw7
        have gg7 : GGw p w w7 := GGw.tr ggE (GGw.tr (GGw_fg fw5 hj) (GGw.tr (SCw_gg sX) (GGw_fg fw7 hj)))
        have fm27 : FGm p m3 m7 := FGm.tr fm4 (FGm.tr fm5 fm7)
        have sc7 : SCs p m3 w → SCs p m7 w7 := fun s => SC_fg (SC_ow (SC_fg (scE s) fm5 fw5) (fun _ _ => rfl) rfl (fun K h1 h2 => sX.2.2.1 K (by simp; omega))) fm7 fw7
        have h98 : A w7 98 (60 * p + j) = ((n + 1 : Nat) : Int) := by
          show (w7.2.2.1 98 _).toInt = _
          rw [s98]
          show A w4' 98 (60 * p + j) = _
          rw [FR.A a5.1 (by simp), FR.A fE (by simp)]
          exact x98
        refine kS b3 _ m7 w7 pl7 ⟨ru7.1, ⟨t4, h98⟩, ?_, ru7.2⟩ (GGm_fg fm27) gg7 sc7
        rw [ROs_eq gg7.2.1.1, gg7.2.1.2.1, show A m7 23 = A m3 23 from by funext i; exact FR.A fm27 (by simp [pq_n])]
        exact cr
      · rw [show decide ((0 : Int32) = 0) = true from rfl, br_tq, br_tq]
        have z33 : F w5' 133 = ((p : Nat) : Int) := by rw [FR.F a5.1 (by simp)]; exact xE
        have fw5 : FGw p j wE w5' := FGw_xr a5
        have e109 : A w5' 109 p ≠ 3 := by rw [FR.A fw5.1 (by simp), FR.A fE (by simp), FR.A g1.1 (by simp), r6]; omega
        have e150 : F w5' 150 = ((ee' : Nat) : Int) := by rw [FR.F fw5.1 (by simp), FR.F fE (by simp), FR.F g1.1 (by simp)]; exact hee'.1
        rw [noR_e hpp z33 e109 e150 hee'.2]
        simp only [bnd_so]
        exact kE m6 w5' (GGm_fg (FGm.tr fm4 (FGm_xr a4))) (GGw.tr ggE (GGw_fg fw5 hj)) (fun s => SC_fg (scE s) (FGm_xr a4) fw5) h5
end
end
