/-! a FRAME is opened or replaced -/
set_option maxRecDepth 100000
/-- a FRAME more, there -/
def opS (m : MS) (p j B P0 : Nat) (fn en : Int32) : MS := s30 (s30 (s30 (s30 (s30 (wi m (pq p 21) ((j + 1 : Nat) : Int)) p (5 * j + 2) (I ((B : Nat) : Int))) p (5 * j + 3) (I ((P0 : Nat) : Int))) p (5 * j) fn) p (5 * j + 1) 0) p (5 * j + 4) en
/-- the FRAME is used anew, there -/
def rpS (m : MS) (p j B P0 src ar : Nat) (fn en : Int32) : MS := s30 (s30 (s30 (wi (wi (upJ m (pq p 35) (va_cpy (m.2.2.2 (pq p 35)) (m.2.2.2 (pq p 35)) src P0 ar)) (pq p 26) ((P0 + ar : Nat) : Int)) (pq p 24) ((B : Nat) : Int)) p (5 * j) fn) p (5 * j + 1) 0) p (5 * j + 4) en
/-- the numbers of a FRAME, here -/
def frmW (u : MS) (p jj : Nat) (f : Int) (P0 nbn Wn : Nat) : MS := wa (wa (wa (wa (wa (wa (wa u 92 p ((Wn : Nat) : Int)) 96 (60 * p + jj) f) 97 (60 * p + jj) (-1)) 100 (60 * p + jj) ((P0 : Nat) : Int)) 99 (60 * p + jj) ((nbn : Nat) : Int)) 94 p ((nbn : Nat) : Int)) 101 (60 * p + jj) 0
section
variable {N p j B W P0 ar src : Nat} {m : MS} {fn en : Int32}
theorem open_e (h21 : F m (pq p 21) = ((j : Nat) : Int)) (hj : j < 60) (hB : F m (pq p 24) = ((B : Nat) : Int)) (hW : F m (pq p 26) = ((P0 + ar : Nat) : Int)) : hm_Fr_open N m p fn en (I ((ar : Nat) : Int)) = some (opS m p j B P0 fn en, ()) := by
  unfold hm_Fr_open hb_Fr_open_0
  have rW := F_r m (pq p 26)
  rw [hW] at rW
  have c : decide (I ((j : Nat) : Int) < 60) = true := decide_eq_true (by
    rw [show (60 : Int32) = I 60 from rfl, I_lt (by omega) (by omega) (by omega) (by omega)]
    omega)
  rw [I_F' h21, c, br_t, show I ((j : Nat) : Int) + 1 = I ((j + 1 : Nat) : Int) from addN, wi_e, lt_e]
  generalize hm1 : wi m (pq p 21) ((j + 1 : Nat) : Int) = m1
  have e21 : F m1 (pq p 21) = ((j + 1 : Nat) : Int) := by rw [← hm1, wi_sm (by omega) (by omega)]
  have e24 : F m1 (pq p 24) = ((B : Nat) : Int) := by rw [← hm1, wi_ne (pq_inj (by omega))]; exact hB
  have e26 : F m1 (pq p 26) = ((P0 + ar : Nat) : Int) := by rw [← hm1, wi_ne (pq_inj (by omega))]; exact hW
  rw [I_F' e24, show (2 : Int32) = I 2 from rfl, set_s (y := 2) (k := 2) (j := j) e21 hj rfl (by omega), bnd_so]
  have e26' : F (s30 m1 p (5 * j + 2) (I ((B : Nat) : Int))) (pq p 26) = ((P0 + ar : Nat) : Int) := e26
  rw [I_F' e26', show I ((P0 + ar : Nat) : Int) - I ((ar : Nat) : Int) = I ((P0 : Nat) : Int) by rw [I_sub]; congr 1; omega, show (3 : Int32) = I 3 from rfl, set_s (u := s30 m1 p (5 * j + 2) (I ((B : Nat) : Int))) (y := 3) (k := 3) (j := j) e21 hj rfl (by omega), bnd_so]
  rw [show hm_Fr_set N (s30 (s30 m1 p (5 * j + 2) (I ((B : Nat) : Int))) p (5 * j + 3) (I ((P0 : Nat) : Int))) p 0 fn = some (s30 (s30 (s30 m1 p (5 * j + 2) (I ((B : Nat) : Int))) p (5 * j + 3) (I ((P0 : Nat) : Int))) p (5 * j) fn, ()) from set_s (y := 0) (k := 0) (j := j) e21 hj rfl (by omega), bnd_so]
  rw [show hm_Fr_set N (s30 (s30 (s30 m1 p (5 * j + 2) (I ((B : Nat) : Int))) p (5 * j + 3) (I ((P0 : Nat) : Int))) p (5 * j) fn) p 1 0 = some (s30 (s30 (s30 (s30 m1 p (5 * j + 2) (I ((B : Nat) : Int))) p (5 * j + 3) (I ((P0 : Nat) : Int))) p (5 * j) fn) p (5 * j + 1) 0, ()) from set_s (y := 1) (k := 1) (j := j) e21 hj rfl (by omega), bnd_so]
  rw [show (4 : Int32) = I 4 from rfl, set_s (u := s30 (s30 (s30 (s30 m1 p (5 * j + 2) (I ((B : Nat) : Int))) p (5 * j + 3) (I ((P0 : Nat) : Int))) p (5 * j) fn) p (5 * j + 1) 0) (y := 4) (k := 4) (j := j) e21 hj rfl (by omega), bnd_so, ← hm1]
  rfl
theorem repl_e {l : Nat} (h21 : F m (pq p 21) = ((j + 1 : Nat) : Int)) (hj : j < 60) (h3 : A m (pq p 30) (5 * j + 3) = ((P0 : Nat) : Int)) (h2 : A m (pq p 30) (5 * j + 2) = ((B : Nat) : Int)) (hW : F m (pq p 26) = ((src + ar : Nat) : Int)) (hP : P0 ≤ src) (hl : F m (pq p 45) = ((l : Nat) : Int)) (hl2 : src + ar ≤ l ∧ l ≤ 1000000) : hm_Fr_replace N m p fn en (I ((ar : Nat) : Int)) = some (rpS m p j B P0 src ar fn en, ()) := by
  unfold hm_Fr_replace hb_Fr_replace_0
  have s : I ((j + 1 : Nat) : Int) - 1 = I ((j : Nat) : Int) := by rw [lit1, I_sub]; congr 1; omega
  rw [I_F' h21, s, show (3 : Int32) = I 3 from rfl, of_e (y := ((j : Nat) : Int)) (a := j) (z := 3) (k := 3) (j := j) h21 hj rfl (Nat.le_refl _) rfl (by omega), bnd_so, h3, I_F' hW, show I ((src + ar : Nat) : Int) - I ((ar : Nat) : Int) = I ((src : Nat) : Int) by rw [I_sub]; congr 1; omega]
  have lq : lnQ m p 45 = l := by
    unfold lnQ
    rw [I_F' hl]
    exact tnI (n := l) rfl (by omega)
  have ok : cpOk (I ((src : Nat) : Int)) (I ((P0 : Nat) : Int)) (I ((ar : Nat) : Int)) (lnQ m p 45) (lnQ m p 45) = true := by
    unfold cpOk
    rw [tnI (n := src) rfl (by omega), tnI (n := P0) rfl (by omega), tnI (n := ar) rfl (by omega), lq]
    refine decide_eq_true ⟨?_, ?_, ?_, by omega, by omega⟩
    · rw [lit0, I_lt (by omega) (by omega) (by omega) (by omega)]; omega
    · rw [lit0, I_lt (by omega) (by omega) (by omega) (by omega)]; omega
    · rw [lit0, I_lt (by omega) (by omega) (by omega) (by omega)]; omega
  rw [ok, ck_t, tnI (n := src) rfl (by omega), tnI (n := P0) rfl (by omega), tnI (n := ar) rfl (by omega), lt_e, addN, wi_e, lt_e]
  generalize hm1 : wi (upJ m (pq p 35) (va_cpy (m.2.2.2 (pq p 35)) (m.2.2.2 (pq p 35)) src P0 ar)) (pq p 26) ((P0 + ar : Nat) : Int) = m1
  have e21 : F m1 (pq p 21) = ((j + 1 : Nat) : Int) := by rw [← hm1, wi_ne (pq_inj (by omega))]; exact h21
  have e2 : A m1 (pq p 30) (5 * j + 2) = ((B : Nat) : Int) := by rw [← hm1]; exact h2
  rw [I_F' e21, s, show (2 : Int32) = I 2 from rfl, of_e (y := ((j : Nat) : Int)) (a := j) (z := 2) (k := 2) (j := j) e21 hj rfl (Nat.le_refl _) rfl (by omega), bnd_so, e2, wi_e, lt_e]
  have e21' : F (wi m1 (pq p 24) ((B : Nat) : Int)) (pq p 21) = ((j + 1 : Nat) : Int) := by rw [wi_ne (pq_inj (by omega))]; exact e21
  rw [show hm_Fr_set N (wi m1 (pq p 24) ((B : Nat) : Int)) p 0 fn = some (s30 (wi m1 (pq p 24) ((B : Nat) : Int)) p (5 * j) fn, ()) from set_s (y := 0) (k := 0) (j := j) e21' hj rfl (by omega), bnd_so]
  rw [show hm_Fr_set N (s30 (wi m1 (pq p 24) ((B : Nat) : Int)) p (5 * j) fn) p 1 0 = some (s30 (s30 (wi m1 (pq p 24) ((B : Nat) : Int)) p (5 * j) fn) p (5 * j + 1) 0, ()) from set_s (y := 1) (k := 1) (j := j) e21' hj rfl (by omega), bnd_so]
  rw [show (4 : Int32) = I 4 from rfl, set_s (u := s30 (s30 (wi m1 (pq p 24) ((B : Nat) : Int)) p (5 * j) fn) p (5 * j + 1) 0) (y := 4) (k := 4) (j := j) e21' hj rfl (by omega), bnd_so, ← hm1]
  rfl
/-- what stands in it -/
theorem opS_30 {i : Nat} (hB : B < 2147483648) (hP : P0 < 2147483648) : A (opS m p j B P0 fn en) (pq p 30) i = if i = 5 * j + 4 then en.toInt else if i = 5 * j + 1 then 0 else if i = 5 * j then fn.toInt else if i = 5 * j + 3 then ((P0 : Nat) : Int) else if i = 5 * j + 2 then ((B : Nat) : Int) else A m (pq p 30) i := by
  unfold opS
  rw [s30_a, s30_a, s30_a, s30_a, s30_a, I_ti (by omega) (by omega), I_ti (by omega) (by omega)]
  rfl
theorem rpS_30 {i : Nat} : A (rpS m p j B P0 src ar fn en) (pq p 30) i = if i = 5 * j + 4 then en.toInt else if i = 5 * j + 1 then 0 else if i = 5 * j then fn.toInt else A m (pq p 30) i := by
  unfold rpS
  rw [s30_a, s30_a, s30_a]
  rfl
theorem GGm_opS : GGm p m (opS m p j B P0 fn en) := GGm.tr (GGm.tr (GGm.tr (GGm.tr (GGm.tr (GGm_own (by omega)) GGm_s30) GGm_s30) GGm_s30) GGm_s30) GGm_s30
theorem GGm_rpS : GGm p m (rpS m p j B P0 src ar fn en) := GGm.tr (GGm.tr (GGm.tr (GGm.tr (GGm.tr (GGm_j (by omega)) (GGm_own (by omega))) (GGm_own (by omega))) GGm_s30) GGm_s30) GGm_s30
end
section
variable {α β : Type} {N p jj ar P0 src nbn : Nat} {w0 : MS} {f : Int} {t7 : Int64} {Q : MS → α → MS → β → Prop} {D : Option (MS × α)} {K : MS → Unit → Option (MS × β)}
/-- the ARGUMENTS come to their place, here -/
theorem fr_lp (hpp : p < 24) (h133 : F w0 133 = ((p : Nat) : Int)) (h95 : A w0 95 p = ((jj + 1 : Nat) : Int)) (hj : jj < 60) (hd : P0 ≤ src) (hb : src + ar ≤ 46000) (hn : nbn ≤ 100000) (kk : ∀ u, FR [] [] [] [91] w0 u → (∀ i, u.2.2.2 91 i = if 46000 * p + P0 ≤ i ∧ i < 46000 * p + P0 + ar then w0.2.2.2 91 (i + (src - P0)) else w0.2.2.2 91 i) → PP Q D (K (frmW u p jj f P0 nbn (P0 + ar)) ())) : ∀ (d M : Nat) (u : MS) (i : Nat), i + d = ar → FR [] [] [] [91] w0 u → (∀ q, u.2.2.2 91 q = if 46000 * p + P0 ≤ q ∧ q < 46000 * p + P0 + i then w0.2.2.2 91 (q + (src - P0)) else w0.2.2.2 91 q) → PP Q D (bnd ((gg_M_frameOf N M).1 u (I f) (I ((ar : Nat) : Int)) 0 t7 (I ((46000 * p : Nat) : Int)) (I ((P0 : Nat) : Int)) (I ((nbn : Nat) : Int)) (I ((src : Nat) : Int)) (I ((i : Nat) : Int))) K) := by
  intro d
  induction d with
  | zero =>
    intro M u i hi fr r
    have : i = ar := by omega
    subst this
    cases M with
    | zero => exact pp_nr
    | succ M =>
    show PP Q D (bnd (fb_M_frameOf_144 N (gg_M_frameOf N M) u (I f) (I ((i : Nat) : Int)) 0 t7 (I ((46000 * p : Nat) : Int)) (I ((P0 : Nat) : Int)) (I ((nbn : Nat) : Int)) (I ((src : Nat) : Int)) (I ((i : Nat) : Int))) K)
    unfold fb_M_frameOf_144 fb_M_frameOf_359
    have x3 : F u 133 = ((p : Nat) : Int) := by rw [FR.F fr (by simp)]; exact h133
    have x95 : A u 95 p = ((jj + 1 : Nat) : Int) := by rw [FR.A fr (by simp)]; exact h95
    have ix : (I ((p : Nat) : Int) * 60 + I ((jj + 1 : Nat) : Int) - 1).toNatClampNeg = 60 * p + jj := by
      rw [show (60 : Int32) = I 60 from rfl, lit1, I_mul, I_add, I_sub]
      exact tnI (n := 60 * p + jj) (by omega) (by omega)
    rw [decI (by omega) (by omega) (by omega) (by omega), decide_eq_true (by omega), br_t]
    refine rb_ck (fun _ => ?_)
    rw [I_F' x3, tnI (n := p) rfl (by omega), addN, wa_e, lt_e]
    unfold fm_M_frame0 fb_M_frame0_0
    have y3 : F (wa u 92 p ((P0 + i : Nat) : Int)) 133 = ((p : Nat) : Int) := x3
    have y95 : A (wa u 92 p ((P0 + i : Nat) : Int)) 95 p = ((jj + 1 : Nat) : Int) := by rw [wa_rne (by omega)]; exact x95
    rw [I_F' y3, tnI (n := p) rfl (by omega), I_A' y95]
    refine rb_bnd (pk_ck (fun _ => pk_some ?_))
    refine rb_ck (fun _ => ?_)
    rw [ix, wa_e, lt_e]
    refine rb_ck (fun _ => ?_)
    rw [show (-1 : Int32) = I (-1) from rfl, wa_e, lt_e]
    refine rb_ck (fun _ => ?_)
    rw [wa_e, lt_e]
    refine rb_ck (fun _ => ?_)
    rw [wa_e, lt_e]
    refine rb_ck (fun _ => ?_)
    have z3 : F (wa (wa (wa (wa (wa u 92 p ((P0 + i : Nat) : Int)) 96 (60 * p + jj) f) 97 (60 * p + jj) (-1)) 100 (60 * p + jj) ((P0 : Nat) : Int)) 99 (60 * p + jj) ((nbn : Nat) : Int)) 133 = ((p : Nat) : Int) := x3
    rw [I_F' z3, tnI (n := p) rfl (by omega), wa_e, lt_e]
    refine rb_ck (fun _ => ?_)
    rw [show decide ((0 : Int32) = 0) = true from rfl, lit0, wa_e, lt_e, br_t]
    exact kk u fr r
  | succ d ih =>
    intro M u i hi fr r
    cases M with
    | zero => exact pp_nr
    | succ M =>
    show PP Q D (bnd (fb_M_frameOf_144 N (gg_M_frameOf N M) u (I f) (I ((ar : Nat) : Int)) 0 t7 (I ((46000 * p : Nat) : Int)) (I ((P0 : Nat) : Int)) (I ((nbn : Nat) : Int)) (I ((src : Nat) : Int)) (I ((i : Nat) : Int))) K)
    unfold fb_M_frameOf_144
    rw [decI (by omega) (by omega) (by omega) (by omega), decide_eq_false (by omega), br_f]
    refine rb_ck (fun _ => rb_ck (fun _ => ?_))
    rw [addN, addN, addN, addN, tnI (n := 46000 * p + P0 + i) rfl (by omega), tnI (n := 46000 * p + src + i) rfl (by omega), wj_e, lt_e, show I ((i : Nat) : Int) + 1 = I ((i + 1 : Nat) : Int) from addN]
    refine ih M _ (i + 1) (by omega) (FR.wj fr (by simp)) (fun q => ?_)
    rw [wj_row]
    by_cases c : q = 46000 * p + P0 + i
    · subst c
      rw [if_pos rfl, r _, if_neg (by omega), if_pos (by omega), show 46000 * p + P0 + i + (src - P0) = 46000 * p + src + i by omega]
    · rw [if_neg c, r q]
      by_cases c2 : 46000 * p + P0 ≤ q ∧ q < 46000 * p + P0 + i
      · rw [if_pos c2, if_pos (by omega)]
      · rw [if_neg c2, if_neg (by omega)]
end
