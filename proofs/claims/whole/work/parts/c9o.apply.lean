/-! a FUN is applied: pieces -/
set_option maxRecDepth 100000
/-- what waits at one place is taken out, there -/
def toS (m : MS) (p P0 ar : Nat) : MS := wi (upJ m (pq p 35) (va_cpy (m.2.2.2 (pq p 35)) (m.2.2.2 (pq p 35)) (P0 + 1) P0 ar)) (pq p 26) ((P0 + ar : Nat) : Int)
section
variable {N p P0 ar l : Nat} {m : MS}
theorem tout_e (hW : F m (pq p 26) = ((P0 + 1 + ar : Nat) : Int)) (hl : F m (pq p 45) = ((l : Nat) : Int)) (hl2 : P0 + 1 + ar ≤ l ∧ l ≤ 1000000) : hm_Fr_takeOut N m p (I ((ar : Nat) : Int)) = some (toS m p P0 ar, ()) := by
  unfold hm_Fr_takeOut hb_Fr_takeOut_0 hb_Fr_takeOut_39 toS
  have s1 : I ((P0 + 1 + ar : Nat) : Int) - I ((ar : Nat) : Int) - 1 = I ((P0 : Nat) : Int) := by
    rw [lit1, I_sub, I_sub]
    congr 1
    omega
  have lq : lnQ m p 45 = l := by
    unfold lnQ
    rw [I_F' hl]
    exact tnI (n := l) rfl (by omega)
  have ok : cpOk (I ((P0 + 1 : Nat) : Int)) (I ((P0 : Nat) : Int)) (I ((ar : Nat) : Int)) (lnQ m p 45) (lnQ m p 45) = true := by
    unfold cpOk
    rw [tnI (n := P0 + 1) rfl (by omega), tnI (n := P0) rfl (by omega), tnI (n := ar) rfl (by omega), lq]
    refine decide_eq_true ⟨?_, ?_, ?_, by omega, by omega⟩
    · rw [lit0, I_lt (by omega) (by omega) (by omega) (by omega)]; omega
    · rw [lit0, I_lt (by omega) (by omega) (by omega) (by omega)]; omega
    · rw [lit0, I_lt (by omega) (by omega) (by omega) (by omega)]; omega
  rw [I_F' hW, s1, show decide (I ((P0 : Nat) : Int) < 0) = false from decide_eq_false (by rw [lit0, I_lt (by omega) (by omega) (by omega) (by omega)]; omega), br_f, show I ((P0 : Nat) : Int) + 1 = I ((P0 + 1 : Nat) : Int) from addN, ok, ck_t, tnI (n := P0 + 1) rfl (by omega), tnI (n := P0) rfl (by omega), tnI (n := ar) rfl (by omega), lt_e]
  have e26 : F (upJ m (pq p 35) (va_cpy (m.2.2.2 (pq p 35)) (m.2.2.2 (pq p 35)) (P0 + 1) P0 ar)) (pq p 26) = ((P0 + 1 + ar : Nat) : Int) := hW
  rw [I_F' e26, show I ((P0 + 1 + ar : Nat) : Int) - 1 = I ((P0 + ar : Nat) : Int) from by rw [lit1, I_sub]; congr 1; omega, wi_e, lt_e]
theorem toS_35 {i : Nat} (h : i < P0 + ar) : (toS m p P0 ar).2.2.2 (pq p 35) i = if i < P0 then m.2.2.2 (pq p 35) i else m.2.2.2 (pq p 35) (i + 1) := by
  have e : (toS m p P0 ar).2.2.2 (pq p 35) = va_cpy (m.2.2.2 (pq p 35)) (m.2.2.2 (pq p 35)) (P0 + 1) P0 ar := by
    unfold toS wi upI upJ
    show (if pq p 35 = pq p 35 then _ else _) = _
    rw [if_pos rfl]
  rw [e]
  by_cases c : i < P0
  · rw [if_pos c, cpy_out (by omega)]
  · rw [if_neg c]
    obtain ⟨k, rfl⟩ : ∃ k, i = P0 + k := ⟨i - P0, by omega⟩
    rw [cpy_in (by omega), show P0 + 1 + k = P0 + k + 1 by omega]
end
section
variable {α β : Type} {N p jj ar P0 src nbn v L : Nat} {w0 : MS} {f : Int} {t7 : Int64} {Q : MS → α → MS → β → Prop} {D : Option (MS × α)} {K : MS → Unit → Option (MS × β)}
/-- names that a FUN holds, here -/
theorem hl_lp (hpp : p < 24) (h133 : F w0 133 = ((p : Nat) : Int)) (hj : jj < 60) (hn : nbn + L ≤ 2500) (hv : va t7 = ((v : Nat) : Int)) (hv2 : v + 2 + L ≤ 500) (h101 : A w0 101 (60 * p + jj) = ((L : Nat) : Int)) (kk : ∀ u, FR [] [] [] [93] w0 u → (∀ q, u.2.2.2 93 q = if 2500 * p + nbn ≤ q ∧ q < 2500 * p + nbn + L then hp w0 p (v + 2 + (q - (2500 * p + nbn))) else w0.2.2.2 93 q) → PP Q D (K (wa u 94 p ((nbn + L : Nat) : Int)) ())) : ∀ (d M : Nat) (u : MS) (i : Nat), i + d = L → FR [] [] [] [93] w0 u → (∀ q, u.2.2.2 93 q = if 2500 * p + nbn ≤ q ∧ q < 2500 * p + nbn + i then hp w0 p (v + 2 + (q - (2500 * p + nbn))) else w0.2.2.2 93 q) → PP Q D (bnd ((gg_M_frameOf N M).2 u t7 (I ((nbn : Nat) : Int)) (I ((60 * p + jj : Nat) : Int)) (I ((i : Nat) : Int))) K) := by
  intro d
  induction d with
  | zero =>
    intro M u i hi fr r
    have : i = L := by omega
    subst this
    cases M with
    | zero => exact pp_nr
    | succ M =>
    show PP Q D (bnd (fb_M_frameOf_285 N (gg_M_frameOf N M) u t7 (I ((nbn : Nat) : Int)) (I ((60 * p + jj : Nat) : Int)) (I ((i : Nat) : Int))) K)
    unfold fb_M_frameOf_285 fb_M_frameOf_359
    have x3 : F u 133 = ((p : Nat) : Int) := by rw [FR.F fr (by simp)]; exact h133
    have x1 : A u 101 (60 * p + jj) = ((i : Nat) : Int) := by rw [FR.A fr (by simp)]; exact h101
    refine rb_ck (fun _ => ?_)
    rw [tnI (n := 60 * p + jj) rfl (by omega), I_A' x1, show decide (I ((i : Nat) : Int) ≤ I ((i : Nat) : Int)) = true from decide_eq_true (Int32.le_refl _), br_t]
    refine rb_ck (fun _ => rb_ck (fun _ => ?_))
    rw [I_F' x3, tnI (n := p) rfl (by omega), addN, wa_e, lt_e]
    exact kk u fr r
  | succ d ih =>
    intro M u i hi fr r
    cases M with
    | zero => exact pp_nr
    | succ M =>
    show PP Q D (bnd (fb_M_frameOf_285 N (gg_M_frameOf N M) u t7 (I ((nbn : Nat) : Int)) (I ((60 * p + jj : Nat) : Int)) (I ((i : Nat) : Int))) K)
    unfold fb_M_frameOf_285
    have x3 : F u 133 = ((p : Nat) : Int) := by rw [FR.F fr (by simp)]; exact h133
    have x1 : A u 101 (60 * p + jj) = ((L : Nat) : Int) := by rw [FR.A fr (by simp)]; exact h101
    refine rb_ck (fun _ => ?_)
    rw [tnI (n := 60 * p + jj) rfl (by omega), I_A' x1, decI (by omega) (by omega) (by omega) (by omega), show decide (((L : Nat) : Int) ≤ ((i : Nat) : Int)) = false from decide_eq_false (by omega), br_f, valueOf_e, bnd_so, hv, I_F' x3, show I ((v : Nat) : Int) + 2 + I ((i : Nat) : Int) = I ((v + 2 + i : Nat) : Int) from by rw [show (2 : Int32) = I 2 from rfl, I_add, I_add]; congr 1, cell_e (by omega) (by omega), bnd_so]
    refine rb_ck (fun _ => ?_)
    have ix : (I ((p : Nat) : Int) * 2500 + I ((nbn : Nat) : Int) + I ((i : Nat) : Int)).toNatClampNeg = 2500 * p + nbn + i := by
      rw [show (2500 : Int32) = I 2500 from rfl, I_mul, I_add, I_add]
      exact tnI (n := 2500 * p + nbn + i) (by omega) (by omega)
    have hpu : hp u p (v + 2 + i) = hp w0 p (v + 2 + i) := by unfold hp; rw [fr.2.2.2 88 (by simp)]
    rw [ix, hpu, wj_e, lt_e, show I ((i : Nat) : Int) + 1 = I ((i + 1 : Nat) : Int) from addN]
    refine ih M _ (i + 1) (by omega) (FR.wj fr (by simp)) (fun q => ?_)
    rw [wj_row]
    by_cases c : q = 2500 * p + nbn + i
    · subst c
      rw [if_pos rfl, if_pos (by omega), show 2500 * p + nbn + i - (2500 * p + nbn) = i by omega]
    · rw [if_neg c, r q]
      by_cases c2 : 2500 * p + nbn ≤ q ∧ q < 2500 * p + nbn + i
      · rw [if_pos c2, if_pos (by omega)]
      · rw [if_neg c2, if_neg (by omega)]
/-- the ARGUMENTS of a FUN come to their place, here -/
theorem frH_lp (hpp : p < 24) (h133 : F w0 133 = ((p : Nat) : Int)) (h95 : A w0 95 p = ((jj + 1 : Nat) : Int)) (hj : jj < 60) (hd : P0 ≤ src) (hb : src + ar ≤ 46000) (hn : nbn + L ≤ 2500) (hv : va t7 = ((v : Nat) : Int)) (hv2 : v + 2 + L ≤ 500) (hc : va (hp w0 p (v + 1)) = ((L : Nat) : Int)) (kk : ∀ u u2, FR [] [] [] [91] w0 u → (∀ i, u.2.2.2 91 i = if 46000 * p + P0 ≤ i ∧ i < 46000 * p + P0 + ar then w0.2.2.2 91 (i + (src - P0)) else w0.2.2.2 91 i) → FR [] [] [] [93] (wa (frmW u p jj f P0 nbn (P0 + ar)) 101 (60 * p + jj) ((L : Nat) : Int)) u2 → (∀ q, u2.2.2.2 93 q = if 2500 * p + nbn ≤ q ∧ q < 2500 * p + nbn + L then hp w0 p (v + 2 + (q - (2500 * p + nbn))) else w0.2.2.2 93 q) → PP Q D (K (wa u2 94 p ((nbn + L : Nat) : Int)) ())) : ∀ (d M : Nat) (u : MS) (i : Nat), i + d = ar → FR [] [] [] [91] w0 u → (∀ q, u.2.2.2 91 q = if 46000 * p + P0 ≤ q ∧ q < 46000 * p + P0 + i then w0.2.2.2 91 (q + (src - P0)) else w0.2.2.2 91 q) → PP Q D (bnd ((gg_M_frameOf N M).1 u (I f) (I ((ar : Nat) : Int)) 1 t7 (I ((46000 * p : Nat) : Int)) (I ((P0 : Nat) : Int)) (I ((nbn : Nat) : Int)) (I ((src : Nat) : Int)) (I ((i : Nat) : Int))) K) := by
  intro d
  induction d with
  | zero =>
    intro M u i hi fr r
    have : i = ar := by omega
    subst this
    cases M with
    | zero => exact pp_nr
    | succ M =>
    show PP Q D (bnd (fb_M_frameOf_144 N (gg_M_frameOf N M) u (I f) (I ((i : Nat) : Int)) 1 t7 (I ((46000 * p : Nat) : Int)) (I ((P0 : Nat) : Int)) (I ((nbn : Nat) : Int)) (I ((src : Nat) : Int)) (I ((i : Nat) : Int))) K)
    unfold fb_M_frameOf_144 fb_M_frameOf_359
    have x3 : F u 133 = ((p : Nat) : Int) := by rw [FR.F fr (by simp)]; exact h133
    have x95 : A u 95 p = ((jj + 1 : Nat) : Int) := by rw [FR.A fr (by simp)]; exact h95
    have ix : I ((p : Nat) : Int) * 60 + I ((jj + 1 : Nat) : Int) - 1 = I ((60 * p + jj : Nat) : Int) := by
      rw [show (60 : Int32) = I 60 from rfl, lit1, I_mul, I_add, I_sub]
      congr 1
      omega
    rw [decI (by omega) (by omega) (by omega) (by omega), decide_eq_true (by omega), br_t]
    refine rb_ck (fun _ => ?_)
    rw [I_F' x3, tnI (n := p) rfl (by omega), addN, wa_e, lt_e]
    unfold fm_M_frame0 fb_M_frame0_0
    have y3 : F (wa u 92 p ((P0 + i : Nat) : Int)) 133 = ((p : Nat) : Int) := x3
    have y95 : A (wa u 92 p ((P0 + i : Nat) : Int)) 95 p = ((jj + 1 : Nat) : Int) := by rw [wa_rne (by omega)]; exact x95
    rw [I_F' y3, tnI (n := p) rfl (by omega), I_A' y95]
    refine rb_bnd (pk_ck (fun _ => pk_some ?_))
    refine rb_ck (fun _ => ?_)
    rw [ix, tnI (n := 60 * p + jj) rfl (by omega), wa_e, lt_e]
    refine rb_ck (fun _ => ?_)
    rw [show (-1 : Int32) = I (-1) from rfl, wa_e, lt_e]
    refine rb_ck (fun _ => ?_)
    rw [wa_e, lt_e]
    refine rb_ck (fun _ => ?_)
    rw [wa_e, lt_e]
    refine rb_ck (fun _ => ?_)
    have z3 : F (wa (wa (wa (wa (wa u 92 p ((P0 + i : Nat) : Int)) 96 (60 * p + jj) f) 97 (60 * p + jj) (-1)) 100 (60 * p + jj) ((P0 : Nat) : Int)) 99 (60 * p + jj) ((nbn : Nat) : Int)) 133 = ((p : Nat) : Int) := x3
    rw [I_F' z3, tnI (n := p) rfl (by omega), wa_e, lt_e]
    refine rb_ck (fun _ => ?_)
    rw [show decide ((1 : Int32) = 0) = false from rfl, lit0, wa_e, lt_e, br_f]
    show PP Q D (bnd (bnd (fm_M_valueOf N (frmW u p jj f P0 nbn (P0 + i)) t7) (fun u13 r13 => bnd (fm_M_cell N u13 ((frmW u p jj f P0 nbn (P0 + i)).1 133) (r13 + 1)) (fun u14 r14 => ck (inb (I ((60 * p + jj : Nat) : Int)) (ln 101)) (lt (upA u14 101 (upd (u14.2.2.1 101) (60 * p + jj) (r14.toInt32))) (fun w15 => (gg_M_frameOf N M).2 w15 t7 (I ((nbn : Nat) : Int)) (I ((60 * p + jj : Nat) : Int)) 0))))) K)
    have q3 : F (frmW u p jj f P0 nbn (P0 + i)) 133 = ((p : Nat) : Int) := x3
    have hpu : hp (frmW u p jj f P0 nbn (P0 + i)) p = hp w0 p := by
      funext k
      show u.2.2.2 88 (500 * p + k) = _
      rw [fr.2.2.2 88 (by simp)]
      rfl
    rw [valueOf_e, bnd_so, hv, I_F' q3, show I ((v : Nat) : Int) + 1 = I ((v + 1 : Nat) : Int) from addN, cell_e (by omega) (by omega), bnd_so, hpu, valI, hc]
    refine rb_ck (fun _ => ?_)
    rw [wa_e, lt_e, lit0, show (0 : Int) = ((0 : Nat) : Int) from rfl]
    refine hl_lp (w0 := wa (frmW u p jj f P0 nbn (P0 + i)) 101 (60 * p + jj) ((L : Nat) : Int)) (L := L) (v := v) hpp q3 hj hn hv hv2 (wa_sm (by omega) (by omega)) (fun u2 f2 r2 => kk u u2 fr r f2 (fun q => ?_)) L M _ 0 (by omega) FR.rf (fun q => by rw [if_neg (by omega)])
    rw [r2 q]
    show (if _ then hp (frmW u p jj f P0 nbn (P0 + i)) p _ else u.2.2.2 93 q) = _
    rw [hpu, fr.2.2.2 93 (by simp)]
  | succ d ih =>
    intro M u i hi fr r
    cases M with
    | zero => exact pp_nr
    | succ M =>
    show PP Q D (bnd (fb_M_frameOf_144 N (gg_M_frameOf N M) u (I f) (I ((ar : Nat) : Int)) 1 t7 (I ((46000 * p : Nat) : Int)) (I ((P0 : Nat) : Int)) (I ((nbn : Nat) : Int)) (I ((src : Nat) : Int)) (I ((i : Nat) : Int))) K)
    unfold fb_M_frameOf_144
    rw [decI (by omega) (by omega) (by omega) (by omega), decide_eq_false (by omega), br_f]
    refine rb_ck (fun _ => rb_ck (fun _ => ?_))
    rw [addN, addN, addN, addN, tnI (n := 46000 * p + P0 + i) rfl (by omega), tnI (n := 46000 * p + src + i) rfl (by omega), wj_e, lt_e, show I ((i : Nat) : Int) + 1 = I ((i + 1 : Nat) : Int) from addN]
    refine ih M _ (i + 1) (by omega) (FR.wj fr (by simp)) (fun q => ?_)
    rw [wj_row]
    by_cases c : q = 46000 * p + P0 + i
    · subst c
      rw [if_pos rfl, r _, if_neg (by omega), if_pos (by omega), show 46000 * p + P0 + i + (src - P0) = 46000 * p + src + i by omega]
    · rw [if_neg c, r q]
      by_cases c2 : 46000 * p + P0 ≤ q ∧ q < 46000 * p + P0 + i
      · rw [if_pos c2, if_pos (by omega)]
      · rw [if_neg c2, if_neg (by omega)]
end
section
variable {N p v B L ad uu : Nat} {m m0 : MS} {t : Int64}
/-- names that a FUN holds, there -/
theorem hold_lpy (hv : va t = ((v : Nat) : Int)) (hv2 : v + 2 + L ≤ 512) (had : ad + 1 + L < 24000) (hL : A m0 23 ad = ((L : Nat) : Int)) (hL2 : L < 100000) : ∀ (d M : Nat) (m : MS) (i : Nat), i + d = L → FIx p m0 m → m.2.2.2 44 = m0.2.2.2 44 → F m (pq p 24) = ((B + i : Nat) : Int) → (((B + i : Nat) : Int) ≤ F m (pq p 43) ∧ ((B + i : Nat) : Int) ≤ F m (pq p 42)) → (∀ k, k < B + i → m.2.2.1 (pq p 32) k = if k < B then m0.2.2.1 (pq p 32) k else I (A m0 23 (ad + 1 + (k - B)))) → (∀ k, k < B + i → m.2.2.2 (pq p 33) k = if k < B then m0.2.2.2 (pq p 33) k else m0.2.2.2 (pq p 2) (v + 2 + (k - B))) → PK (fun m2 (_ : Unit) => FIx p m0 m2 ∧ m2.2.2.2 44 = m0.2.2.2 44 ∧ F m2 (pq p 24) = ((B + L : Nat) : Int) ∧ (((B + L : Nat) : Int) ≤ F m2 (pq p 43) ∧ ((B + L : Nat) : Int) ≤ F m2 (pq p 42)) ∧ (∀ k, k < B + L → m2.2.2.1 (pq p 32) k = if k < B then m0.2.2.1 (pq p 32) k else I (A m0 23 (ad + 1 + (k - B)))) ∧ ∀ k, k < B + L → m2.2.2.2 (pq p 33) k = if k < B then m0.2.2.2 (pq p 33) k else m0.2.2.2 (pq p 2) (v + 2 + (k - B))) (hg_Ma_hold N M m p p (pq p 2) t (I ((ad : Nat) : Int)) (I ((i : Nat) : Int))) := by
  intro d
  induction d with
  | zero =>
    intro M m i hi fx h44 h24 h43 h32 h33
    have : i = L := by omega
    subst this
    cases M with
    | zero => exact pk_none
    | succ M =>
    show PK _ (hb_Ma_hold_40 N (hg_Ma_hold N M) m p p (pq p 2) t (I ((ad : Nat) : Int)) (I ((i : Nat) : Int)))
    unfold hb_Ma_hold_40
    have e23 : A m 23 ad = ((i : Nat) : Int) := by
      show (m.2.2.1 23 ad).toInt = _
      rw [fx.2.2.1 23 (by omega) (by simp)]
      exact hL
    rw [Co_e (k := ad) rfl (by omega), bnd_so, e23, show decide (I ((i : Nat) : Int) ≤ I ((i : Nat) : Int)) = true from decide_eq_true (Int32.le_refl _), br_t]
    exact pk_some ⟨fx, h44, h24, h43, h32, h33⟩
  | succ d ih =>
    intro M m i hi fx h44 h24 h43 h32 h33
    cases M with
    | zero => exact pk_none
    | succ M =>
    show PK _ (hb_Ma_hold_40 N (hg_Ma_hold N M) m p p (pq p 2) t (I ((ad : Nat) : Int)) (I ((i : Nat) : Int)))
    unfold hb_Ma_hold_40
    have r23 : ∀ k, A m 23 k = A m0 23 k := fun k => by
      show (m.2.2.1 23 k).toInt = _
      rw [fx.2.2.1 23 (by omega) (by simp)]
      rfl
    rw [Co_e (k := ad) rfl (by omega), bnd_so, r23, hL, decI (by omega) (by omega) (by omega) (by omega), show decide (((L : Nat) : Int) ≤ ((i : Nat) : Int)) = false from decide_eq_false (by omega), br_f, show I ((ad : Nat) : Int) + 1 + I ((i : Nat) : Int) = I ((ad + 1 + i : Nat) : Int) from by rw [lit1, I_add, I_add]; congr 1, Co_e (k := ad + 1 + i) rfl (by omega), bnd_so, r23, valI, hv, show I ((v : Nat) : Int) + 2 + I ((i : Nat) : Int) = I ((v + 2 + i : Nat) : Int) from by rw [show (2 : Int32) = I 2 from rfl, I_add, I_add]; congr 1, tnI (n := v + 2 + i) rfl (by omega)]
    refine pk_ck (fun _ => ?_)
    refine pk_bnd (pk_mo (bindc_m (N := N) (B := B + i) h24 h43.1 h43.2) (fun m5 _ h => ?_))
    obtain ⟨f5, j44, k24, k43, k32, k33⟩ := h
    rw [show I ((i : Nat) : Int) + 1 = I ((i + 1 : Nat) : Int) from addN]
    have j2 : m.2.2.2 (pq p 2) = m0.2.2.2 (pq p 2) := fx.2.2.2.2.2.2.2 p 2 (by omega) (by simp)
    refine ih M m5 (i + 1) (by omega) (FIx.tr fx f5) (j44.trans h44) k24 k43 (fun k hk => ?_) (fun k hk => ?_)
    · rw [k32 k (by omega)]
      by_cases c : k = B + i
      · subst c
        rw [if_pos rfl, if_neg (by omega), show B + i - B = i by omega]
      · rw [if_neg c]
        exact h32 k (by omega)
    · rw [k33 k (by omega)]
      by_cases c : k = B + i
      · subst c
        rw [if_pos rfl, if_neg (by omega), show B + i - B = i by omega, j2]
      · rw [if_neg c]
        exact h33 k (by omega)
end
section
variable {N p v B L ad uu : Nat} {m : MS} {t : Int64}
/-- a FUN holds names: they are bound, there -/
theorem hold_m (hv : va t = ((v : Nat) : Int)) (hv2 : v + 2 + L ≤ 512) (hc0 : va (m.2.2.2 (pq p 2) v) = ((uu : Nat) : Int)) (h449 : ((uu : Nat) : Int) < F m 449) (hu : uu < 400) (h32 : A m 32 uu = ((ad : Nat) : Int)) (had : ad + 1 + L < 24000) (hL : A m 23 ad = ((L : Nat) : Int)) (h24 : F m (pq p 24) = ((B : Nat) : Int)) (h43 : ((B : Nat) : Int) ≤ F m (pq p 43) ∧ ((B : Nat) : Int) ≤ F m (pq p 42)) : PK (fun m2 (_ : Unit) => FIx p m m2 ∧ m2.2.2.2 44 = m.2.2.2 44 ∧ F m2 (pq p 24) = ((B + L : Nat) : Int) ∧ (((B + L : Nat) : Int) ≤ F m2 (pq p 43) ∧ ((B + L : Nat) : Int) ≤ F m2 (pq p 42)) ∧ (∀ k, k < B + L → m2.2.2.1 (pq p 32) k = if k < B then m.2.2.1 (pq p 32) k else I (A m 23 (ad + 1 + (k - B)))) ∧ ∀ k, k < B + L → m2.2.2.2 (pq p 33) k = if k < B then m.2.2.2 (pq p 33) k else m.2.2.2 (pq p 2) (v + 2 + (k - B))) (hm_Ma_hold N m p p (pq p 2) t) := by
  have r449 := F_r m 449
  unfold hm_Ma_hold hb_Ma_hold_0
  rw [valI, hv, tnI (n := v) rfl (by omega), valI, hc0]
  refine pk_ck (fun _ => ?_)
  rw [d_lt0 (by omega), br_f, I_F (w := m) (k := 449), show decide (I ((uu : Nat) : Int) < I (F m 449)) = true from decide_eq_true (by rw [I_lt (by omega) (by omega) r449.1 r449.2]; omega), br_t]
  refine pk_ck (fun _ => ?_)
  rw [tnI (n := uu) rfl (by omega), I_A' h32, lit0, show (0 : Int) = ((0 : Nat) : Int) from rfl]
  exact hold_lpy (N := N) (p := p) (B := B) hv hv2 had hL (by omega) L N m 0 (by omega) FIx.rf rfl h24 h43 (fun k hk => by rw [if_pos (by omega)]) (fun k hk => by rw [if_pos (by omega)])
/-- a FUN of a FUNCTION holds none -/
theorem hold_0 (hv : va t = ((v : Nat) : Int)) (hv2 : v < 512) (hc0 : va (m.2.2.2 (pq p 2) v) = ((1000000 + uu : Nat) : Int)) (hu : uu < 100000) (h449 : F m 449 ≤ 400) : PK (fun m2 (_ : Unit) => m2 = m) (hm_Ma_hold N m p p (pq p 2) t) := by
  have r449 := F_r m 449
  unfold hm_Ma_hold hb_Ma_hold_0 hb_Ma_hold_24
  rw [valI, hv, tnI (n := v) rfl (by omega), valI, hc0]
  refine pk_ck (fun _ => ?_)
  rw [show decide (I ((1000000 + uu : Nat) : Int) < 0) = false from decide_eq_false (by rw [lit0, I_lt (by omega) (by omega) (by omega) (by omega)]; omega), br_f, I_F (w := m) (k := 449), show decide (I ((1000000 + uu : Nat) : Int) < I (F m 449)) = false from decide_eq_false (by rw [I_lt (by omega) (by omega) r449.1 r449.2]; omega), br_f]
  exact pk_some rfl
/-- the entry of a FUN -/
theorem entry_u (h449 : ((uu : Nat) : Int) < F m 449) (hu : uu < 400) : hm_Ma_entryOf N m p (I ((uu : Nat) : Int)) = some (m, I (A m 31 uu)) ∧ hm_Ma_functionOf N m (I ((uu : Nat) : Int)) = some (m, I (-1)) := by
  have r449 := F_r m 449
  have fo : hm_Ma_functionOf N m (I ((uu : Nat) : Int)) = some (m, I (-1)) := by
    unfold hm_Ma_functionOf hb_Ma_functionOf_0 hb_Ma_functionOf_14
    rw [show decide (I ((uu : Nat) : Int) < 1000000) = true from decide_eq_true (by rw [show (1000000 : Int32) = I 1000000 from rfl, I_lt (by omega) (by omega) (by omega) (by omega)]; omega), br_t]
    rfl
  refine ⟨?_, fo⟩
  unfold hm_Ma_entryOf hb_Ma_entryOf_0 hb_Ma_entryOf_61 hb_Ma_entryOf_62
  rw [fo, bnd_so, show decide (I (-1) < 0) = true from rfl, br_t, d_lt0 (by omega), br_f, I_F (w := m) (k := 449), decI r449.1 r449.2 (by omega) (by omega), show decide (F m 449 ≤ ((uu : Nat) : Int)) = false from decide_eq_false (by omega), br_f, (I_inb (by omega) (by omega)).mpr ⟨by omega, by omega⟩, ck_t, tnI (n := uu) rfl (by omega), I_A (w := m) (k := 31) (i := uu)]
theorem entry_f (h442 : ((uu : Nat) : Int) < F m 442) (hu : uu < 666) : hm_Ma_entryOf N m p (I ((1000000 + uu : Nat) : Int)) = some (m, I (A m 29 uu)) ∧ hm_Ma_functionOf N m (I ((1000000 + uu : Nat) : Int)) = some (m, I ((uu : Nat) : Int)) := by
  have r442 := F_r m 442
  have fo : hm_Ma_functionOf N m (I ((1000000 + uu : Nat) : Int)) = some (m, I ((uu : Nat) : Int)) := by
    unfold hm_Ma_functionOf hb_Ma_functionOf_0 hb_Ma_functionOf_14
    rw [show decide (I ((1000000 + uu : Nat) : Int) < 1000000) = false from decide_eq_false (by rw [show (1000000 : Int32) = I 1000000 from rfl, I_lt (by omega) (by omega) (by omega) (by omega)]; omega), br_f, show I ((1000000 + uu : Nat) : Int) - 1000000 = I ((uu : Nat) : Int) from by rw [show (1000000 : Int32) = I 1000000 from rfl, I_sub]; congr 1; omega]
  refine ⟨?_, fo⟩
  unfold hm_Ma_entryOf hb_Ma_entryOf_0 hb_Ma_entryOf_33
  rw [fo, bnd_so, d_lt0 (by omega), br_f, I_F (w := m) (k := 442), decI r442.1 r442.2 (by omega) (by omega), show decide (F m 442 ≤ ((uu : Nat) : Int)) = false from decide_eq_false (by omega), br_f, (I_inb (by omega) (by omega)).mpr ⟨by omega, by omega⟩, ck_t, tnI (n := uu) rfl (by omega), I_A (w := m) (k := 29) (i := uu)]
end
