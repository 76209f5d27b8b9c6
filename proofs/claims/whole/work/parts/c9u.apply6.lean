/-! a FUN: its block; no CALL is left, or no FRAME -/
set_option maxRecDepth 100000
section
variable {b : Int → Nat → Nat → Prop} {Fv Fv' : Int64 → Int64 → Prop} {P P' : Int64 → Prop} {ow kd ow' kd' : Nat → Nat} {U U' n0 n0' : Nat} {t x : Int64}
/-- a FUN there, one here -/
theorem TP_fun {h h' : Nat → Int64} (is : ISb b h n0 h' n0') (g : HPc h U ow kd Fv P) (g' : HP h' U' ow' kd' Fv' P') (q : TPb b U ow kd P U' ow' kd' P' t x) (e3 : so t = 3) : ∃ k : Nat, (so x = 3 ∧ va t = ((vn t : Nat) : Int) ∧ vn t + 2 + k ≤ U ∧ va x = ((vn x : Nat) : Int) ∧ vn x + 2 + k ≤ U') ∧ va (h (vn t + 1)) = ((k : Nat) : Int) ∧ va (h' (vn x + 1)) = ((k : Nat) : Int) ∧ PLR (h (vn t)) (h' (vn x)) ∧ (Fv (h (vn t)) (h (vn t + 1)) ∧ Fv' (h' (vn x)) (h' (vn x + 1))) ∧ ∀ i, i < k → RTb b (h (vn t + 2 + i)) (h' (vn x + 2 + i)) := by
  obtain ⟨r, gt, gt'⟩ := q
  have ex : so x = 3 := by rw [RTb_so r]; exact e3
  have zt : isH t := by unfold isH; omega
  have zx : isH x := by unfold isH; omega
  obtain ⟨bk, cl⟩ := HP_bkc g zt gt
  obtain ⟨bk', cl'⟩ := HP_bk g' zx gt'
  have hd := bk.2.2.1 e3
  have hd' := bk'.2.2.1 ex
  have b1 := bk.2.2.2.1
  have b1' := bk'.2.2.2.1
  have bl : blk h t = 2 + vn (h (vn t + 1)) := by unfold blk; rw [if_neg (by omega), if_neg (by omega), if_pos e3]
  have bl' : blk h' x = 2 + vn (h' (vn x + 1)) := by unfold blk; rw [if_neg (by omega), if_neg (by omega), if_pos ex]
  obtain ⟨⟨eb, -, -⟩, cs, pl⟩ := is.1 t x zt r
  have pr : prt t = 2 := by unfold prt; rw [e3]; rfl
  have hv : va (h (vn t + 1)) = ((vn (h (vn t + 1)) : Nat) : Int) := by
    have h0 := hd.1
    generalize h (vn t + 1) = z at h0 ⊢
    unfold vn; omega
  have hv' : va (h' (vn x + 1)) = ((vn (h' (vn x + 1)) : Nat) : Int) := by
    have h0 := hd'.1
    generalize h' (vn x + 1) = z at h0 ⊢
    unfold vn; omega
  have vt : va t = ((vn t : Nat) : Int) := by have := bk.1; unfold vn; omega
  have vx : va x = ((vn x : Nat) : Int) := by have := bk'.1; unfold vn; omega
  rw [bl, bl'] at eb
  rw [bl] at b1
  rw [bl'] at b1'
  rw [bl, pr] at cs
  have ek : vn (h' (vn x + 1)) = vn (h (vn t + 1)) := by omega
  refine ⟨vn (h (vn t + 1)), ⟨ex, vt, by omega, vx, by omega⟩, hv, by rw [hv', ek], pl e3, ⟨hd.2, hd'.2⟩, fun i hi => ?_⟩
  rw [show vn t + 2 + i = vn t + (2 + i) by omega, show vn x + 2 + i = vn x + (2 + i) by omega]
  exact cs (2 + i) (by omega) (by omega)
end
section
variable {α β : Type} {N p ar a n P0 l v cc j ee ee' B : Nat} {m w : MS} {t : Int64} {lne : Int} {tl : Int32} {Q : MS → α → MS → β → Prop} {D : Option (MS × α)} {K : MS → Unit → Option (MS × β)}
/-- a FUN is applied up to the CALL's beginning, there -/
theorem apB_m (hpc : F m 1105 = ((a : Nat) : Int)) (ha : a + 2 < 24000) (h26 : F m (pq p 26) = ((P0 + 1 + ar : Nat) : Int)) (hl : F m (pq p 45) = ((l : Nat) : Int)) (hl2 : P0 + 1 + ar ≤ l ∧ l ≤ 1000000) (ht : m.2.2.2 (pq p 35) P0 = t) (st : so t = 3) (hv : va t = ((v : Nat) : Int)) (hv2 : v < 512) (hc0 : va (m.2.2.2 (pq p 2) v) = ((cc : Nat) : Int)) (tk : hm_Co_takes N m (I ((cc : Nat) : Int)) = some (m, I ((ar : Nat) : Int))) {m2 : MS} (be0 : hm_Ma_begins N m p tl (I (A m 23 (a + 2))) = some (m2, 0)) : hm_Ma_apply N m p (I ((ar : Nat) : Int)) tl = some (m2, ()) := by
  have be : hm_Fr_below N m p (I ((ar : Nat) : Int)) = some (m, t) := by
    have := below_e (N := N) (x := ((ar : Nat) : Int)) (k := ar) (W := P0 + 1 + ar) (l := l) h26 hl hl2.1 hl2.2 rfl (by omega)
    rw [show P0 + 1 + ar - 1 - ar = P0 by omega, ht] at this
    exact this
  unfold hm_Ma_apply hb_Ma_apply_0
  rw [be, bnd_so, e_tag, bnd_so, st, show decide (I 3 = 3) = true from rfl, br_t, valI, hv, tnI (n := v) rfl (by omega), (I_inb (by omega) (by omega)).mpr ⟨by omega, by omega⟩, ck_t, valI, hc0, tk, bnd_so, show decide (I ((ar : Nat) : Int) = I ((ar : Nat) : Int)) = true from decide_eq_true rfl, br_t, I_F' hpc, show I ((a : Nat) : Int) + 2 = I ((a + 2 : Nat) : Int) from addN, Co_e (k := a + 2) rfl (by omega), bnd_so, be0, bnd_so, show decide ((0 : Int32) = 0) = true from rfl, br_t]
/-- no CALL is left -/
theorem begS_m (hge : F m 1107 ≤ F m 1106) : hm_Ma_begins N m p tl (I lne) = some (wi (wi m 1108 1) (pq p 29) lne, 0) := by
  have r6 := F_r m 1106
  have r7 := F_r m 1107
  have c0 : decide (m.1 1106 < m.1 1107) = false := decide_eq_false (by
    rw [I_F (k := 1106), I_F (k := 1107), I_lt r6.1 r6.2 r7.1 r7.2]
    omega)
  unfold hm_Ma_begins hb_Ma_begins_0
  rw [c0, br_f]
  rfl
/-- no FRAME is left -/
theorem begE_m {z : Int32} (hlt : F m 1106 < F m 1107) (h21 : F m (pq p 21) = ((59 + 1 : Nat) : Int)) (h9 : F m (pq p 9) ≠ 3) (hee : F m 955 = ((ee : Nat) : Int) ∧ ee < 24) : hm_Ma_begins N m p 0 z = some (enS m p (mk 1 21) p ee, 0) := by
  have r06 := F_r m 1106
  have r07 := F_r m 1107
  have c0 : decide (m.1 1106 < m.1 1107) = true := decide_eq_true (by
    rw [I_F (k := 1106), I_F (k := 1107), I_lt r06.1 r06.2 r07.1 r07.2]
    exact hlt)
  unfold hm_Ma_begins hb_Ma_begins_0
  rw [c0, br_t, show decide ((0 : Int32) = 0) = true from rfl, br_t, I_F' h21, show decide (I ((59 + 1 : Nat) : Int) < 60) = false from rfl, br_f, show (21 : Int32) = I 21 from rfl, endsBy_e h9 hee, bnd_so]
  rfl
/-- no FRAME is left, here -/
theorem callE_r {fv v5 : Int32} (hpp : p < 24) (hn : n < 100000) (hne : w.1 165 ≠ w.1 164) (h133 : F w 133 = ((p : Nat) : Int)) (h30 : A w 30 n = 0) (h95 : A w 95 p = ((59 + 1 : Nat) : Int)) (h109 : A w 109 p ≠ 3) (hee' : F w 150 = ((ee' : Nat) : Int) ∧ ee' < 4000) (h : PP Q D (K (wi (enR w p 0 ((p : Nat) : Int) (mk 1 21) ee') 151 1) ())) : PP Q D (bnd (fb_M_callRun_213 N () w (I ((n : Nat) : Int)) (I ((ar : Nat) : Int)) fv v5) K) := by
  unfold fb_M_callRun_213
  rw [decide_eq_false hne, br_f]
  refine rb_ck (fun _ => ?_)
  rw [tnI (n := n) rfl (by omega), I_A' h30, show decide (I 0 = 0) = true from rfl, br_t]
  refine rb_ck (fun _ => ?_)
  rw [I_F' h133, tnI (n := p) rfl (by omega), I_A' h95, show decide (I ((59 + 1 : Nat) : Int) = 60) = true from rfl, br_t, show (1 : Int32) = I 1 from rfl, show (21 : Int32) = I 21 from rfl, term_e, rb_bnd_so, lit0, ends_e hpp h133 h109 hee'.1 hee'.2, rb_bnd_so, bnd_so]
  exact h
end
