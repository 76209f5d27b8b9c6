/-! a FUNCTION is called: what both sides do up to the FRAME -/
set_option maxRecDepth 100000
/-- FUNCTIONS of the text: there, here -/
def FTs (m w : MS) : Prop := ∀ f : Nat, ((f : Nat) : Int) < F m 442 → f < 666 ∧ ∃ e c : Nat, A m 29 f = ((e : Nat) : Int) ∧ A w 50 f = ((c : Nat) : Int) ∧ ∃ g g2, ZRs (A m 23) (ROs w) (w.2.2.2 34) (CRs (A m 23) (ROs w) (w.2.2.2 34) g) 0 0 [] [] g2 e ((c : Nat) : Int)
/-- a CALL begins: it is counted, there -/
def cnM (m : MS) (p : Nat) : MS := wi (wi (wi m 1106 (F m 1106 + 1)) (pq p 13) (F m (pq p 13) + 1)) 946 (F m 946 + 1)
/-- and here -/
def cnR (w : MS) (p : Nat) : MS := wa (wi (wi (wi w 166 0) 165 (F w 165 + 1)) 119 (F w 119 + 1)) 114 p (A w 114 p + 1)
section
variable {α β : Type} {N p n ar f j a W B c P0 ee : Nat} {m w : MS} {tl v : Int} {Q : MS → α → MS → β → Prop} {D : Option (MS × α)} {K : MS → Unit → Option (MS × β)}
theorem one_12 : fm_M_one N w (I v) (I 12) = bnd (fm_M_callRun N w (I v) (I 12)) (fun u6 _ => some (u6, ())) := rfl
/-- a FUNCTION by its name, here -/
theorem call_12 (hn : n < 100000) (h26 : A w 26 n = ((ar : Nat) : Int)) (h27 : A w 27 n = ((f : Nat) : Int)) (hf : f < 2000) (h : PP Q D (bnd (fb_M_callRun_213 N () (wi w 166 0) (I ((n : Nat) : Int)) (I ((ar : Nat) : Int)) (I ((f : Nat) : Int)) (-1)) K)) : PP Q D (bnd (fm_M_callRun N w (I ((n : Nat) : Int)) (I 12)) K) := by
  unfold fm_M_callRun fb_M_callRun_0
  refine rb_ck (fun _ => ?_)
  rw [show decide (I 12 = 12) = true from rfl, br_t]
  refine rb_ck (fun _ => ?_)
  rw [tnI (n := n) rfl (by omega), I_A' h27, show decide (I ((f : Nat) : Int) < 2000) = true from decide_eq_true (by rw [show (2000 : Int32) = I 2000 from rfl, I_lt (by omega) (by omega) (by omega) (by omega)]; omega), br_t, I_A' h26]
  unfold fb_M_callRun_47 fb_M_callRun_63 fb_M_callRun_80
  rw [show decide (I 12 = 12) = true from rfl, br_t]
  refine rb_ck (fun _ => ?_)
  rw [tnI (n := n) rfl (by omega), I_A' h27, show decide (I 12 = 13) = false from rfl, br_f]
  refine rb_ck (fun _ => ?_)
  rw [show upI w 166 0 = wi w 166 0 from rfl, lt_e, br_f]
  exact h
/-- the CALL is counted, here -/
theorem call_go {j1 : Nat} {fv v5 : Int32} (hpp : p < 24) (hn : n < 100000) (h133 : F w 133 = ((p : Nat) : Int)) (h95 : A w 95 p = ((j1 + 1 : Nat) : Int)) (hj : j1 < 60) (hne : w.1 165 ≠ w.1 164) (h30 : A w 30 n = tl) (ht : tl = 1 ∨ (tl = 0 ∧ j1 + 1 < 60)) (h : PP Q D (bnd (fm_M_frameOf N (wa (wa (wi (wi w 165 (F w 165 + 1)) 119 (F w 119 + 1)) 114 p (A w 114 p + 1)) 98 (60 * p + j1) ((n + 1 : Nat) : Int)) fv v5 (I ((ar : Nat) : Int)) (I tl)) (fun u6 _ => bnd (br (decide (fv = (-1))) (ck (inb v5 (ln 53)) (fb_M_callRun_364 N () u6 (u6.2.2.1 53 v5.toNatClampNeg))) (ck (inb fv (ln 50)) (fb_M_callRun_364 N () u6 (u6.2.2.1 50 fv.toNatClampNeg)))) K))) : PP Q D (bnd (fb_M_callRun_213 N () w (I ((n : Nat) : Int)) (I ((ar : Nat) : Int)) fv v5) K) := by
  unfold fb_M_callRun_213
  rw [decide_eq_false hne, br_f]
  have go : PP Q D (bnd (fb_M_callRun_285 N () w (I ((n : Nat) : Int)) (I ((ar : Nat) : Int)) fv v5) K) := by
    unfold fb_M_callRun_285
    have i1 : ∀ u : MS, ∀ k, u.1 k + 1 = I (F u k + 1) := fun u k => by rw [I_F (k := k), lit1, I_add]
    rw [i1 w 165, wi_e, lt_e]
    have e119 : F (wi w 165 (F w 165 + 1)) 119 = F w 119 := wi_ne (by omega)
    rw [i1 (wi w 165 (F w 165 + 1)) 119, e119, wi_e, lt_e]
    have e133 : F (wi (wi w 165 (F w 165 + 1)) 119 (F w 119 + 1)) 133 = ((p : Nat) : Int) := by rw [wi_ne (by omega), wi_ne (by omega)]; exact h133
    refine rb_ck (fun _ => rb_ck (fun _ => ?_))
    rw [I_F' e133, tnI (n := p) rfl (by omega), I_A (k := 114), show A (wi (wi w 165 (F w 165 + 1)) 119 (F w 119 + 1)) 114 p = A w 114 p from rfl, lit1, I_add, wa_e, lt_e]
    have e133' : F (wa (wi (wi w 165 (F w 165 + 1)) 119 (F w 119 + 1)) 114 p (A w 114 p + 1)) 133 = ((p : Nat) : Int) := e133
    rw [show I ((n : Nat) : Int) + I 1 = I ((n + 1 : Nat) : Int) from addN]
    refine rb_bnd (pk_mo (goto_r (N := N) (n := ((n + 1 : Nat) : Int)) hpp e133' (by rw [wa_rne (by omega)]; exact h95) hj) (fun w2 _ e => ?_))
    subst e
    refine rb_ck (fun _ => ?_)
    have e30 : A (wa (wa (wi (wi w 165 (F w 165 + 1)) 119 (F w 119 + 1)) 114 p (A w 114 p + 1)) 98 (60 * p + j1) ((n + 1 : Nat) : Int)) 30 n = tl := by rw [wa_rne (by omega), wa_rne (by omega)]; exact h30
    rw [tnI (n := n) rfl (by omega), I_A' e30]
    exact r_bb h
  refine rb_ck (fun _ => ?_)
  rw [tnI (n := n) rfl (by omega), I_A' h30]
  rcases ht with rfl | ⟨rfl, ht⟩
  · rw [show decide (I 1 = 0) = false from rfl, br_f]
    exact go
  · rw [show decide (I 0 = 0) = true from rfl, br_t]
    refine rb_ck (fun _ => ?_)
    rw [I_F' h133, tnI (n := p) rfl (by omega), I_A' h95, show (60 : Int32) = I 60 from rfl, decE (by omega) (by omega) (by omega) (by omega), decide_eq_false (by omega), br_f]
    exact go
/-- a FRAME without held names, here: a new one -/
theorem frN_r {fv : Int32} {f : Int} (hpp : p < 24) (hfv : fv = I f) (h133 : F w 133 = ((p : Nat) : Int)) (h166 : F w 166 = 0) (h92 : A w 92 p = ((P0 + ar : Nat) : Int)) (hW : P0 + ar ≤ 46000) (h94 : A w 94 p = ((B : Nat) : Int)) (hB : B ≤ 100000) (h95 : A w 95 p = ((j + 1 : Nat) : Int)) (hj : j + 1 < 60)
    (kk : ∀ u, FR [] [] [] [91] (wa w 95 p ((j + 1 + 1 : Nat) : Int)) u → (∀ i, u.2.2.2 91 i = w.2.2.2 91 i) → PP Q D (K (frmW u p (j + 1) f P0 B (P0 + ar)) ())) : PP Q D (bnd (fm_M_frameOf N w fv (-1) (I ((ar : Nat) : Int)) (I 0)) K) := by
  unfold fm_M_frameOf fb_M_frameOf_0 fb_M_frameOf_10 fb_M_frameOf_24 fb_M_frameOf_46 fb_M_frameOf_128
  rw [show decide ((-1 : Int32) = -1) = true from rfl, br_t, I_F' h166, show decide (I 0 = 0) = true from rfl, br_t, show decide ((0 : Int32) = 1) = false from rfl, br_f, show fm_M_term N w 6 0 = some (w, mk 6 0) from rfl, rb_bnd_so]
  have s1 : I ((P0 + ar : Nat) : Int) - I ((ar : Nat) : Int) = I ((P0 : Nat) : Int) := by rw [I_sub]; congr 1; omega
  have s0 : I ((P0 : Nat) : Int) - 0 = I ((P0 : Nat) : Int) := by rw [lit0, I_sub]; congr 1
  have sp : I ((p : Nat) : Int) * 46000 = I ((46000 * p : Nat) : Int) := by
    rw [show (46000 : Int32) = I 46000 from rfl, I_mul]
    congr 1
    omega
  refine rb_ck (fun _ => ?_)
  rw [lt_e]
  refine rb_ck (fun _ => ?_)
  rw [lt_e, br_t]
  refine rb_ck (fun _ => rb_ck (fun _ => ?_))
  rw [I_F' h133, tnI (n := p) rfl (by omega), I_A' h95, I_A' h92, I_A' h94, s1, s0, sp, show I ((j + 1 : Nat) : Int) + 1 = I ((j + 1 + 1 : Nat) : Int) from addN, wa_e, lt_e]
  have x33 : F (wa w 95 p ((j + 1 + 1 : Nat) : Int)) 133 = ((p : Nat) : Int) := h133
  have x92 : A (wa w 95 p ((j + 1 + 1 : Nat) : Int)) 92 p = ((P0 + ar : Nat) : Int) := by rw [wa_rne (by omega)]; exact h92
  refine rb_ck (fun _ => ?_)
  rw [I_F' x33, tnI (n := p) rfl (by omega), I_A' x92, s1, lt_e, hfv]
  refine fr_lp (w0 := wa w 95 p ((j + 1 + 1 : Nat) : Int)) (jj := j + 1) (src := P0) hpp x33 (wa_sm (by omega) (by omega)) hj (Nat.le_refl _) hW hB (fun u fr r => kk u fr (fun i => ?_)) ar N _ 0 (by omega) FR.rf (fun q => by rw [if_neg (by omega)])
  rw [r i, show P0 - P0 = 0 by omega]
  by_cases c : 46000 * p + P0 ≤ i ∧ i < 46000 * p + P0 + ar
  · rw [if_pos c]; rfl
  · rw [if_neg c]; rfl
/-- the FRAME is used anew, here -/
theorem frT_r {fv : Int32} {f : Int} {src nbj : Nat} (hpp : p < 24) (hfv : fv = I f) (h133 : F w 133 = ((p : Nat) : Int)) (h166 : F w 166 = 0) (h92 : A w 92 p = ((src + ar : Nat) : Int)) (hW : src + ar ≤ 46000) (hP : P0 ≤ src) (h95 : A w 95 p = ((j + 1 : Nat) : Int)) (hj : j < 60) (h100 : A w 100 (60 * p + j) = ((P0 : Nat) : Int)) (h99 : A w 99 (60 * p + j) = ((nbj : Nat) : Int)) (hB : nbj ≤ 100000)
    (kk : ∀ u, FR [] [] [] [91] w u → (∀ i, u.2.2.2 91 i = if 46000 * p + P0 ≤ i ∧ i < 46000 * p + P0 + ar then w.2.2.2 91 (i + (src - P0)) else w.2.2.2 91 i) → PP Q D (K (frmW u p j f P0 nbj (P0 + ar)) ())) : PP Q D (bnd (fm_M_frameOf N w fv (-1) (I ((ar : Nat) : Int)) (I 1)) K) := by
  unfold fm_M_frameOf fb_M_frameOf_0 fb_M_frameOf_10 fb_M_frameOf_24 fb_M_frameOf_46 fb_M_frameOf_128
  rw [show decide ((-1 : Int32) = -1) = true from rfl, br_t, I_F' h166, show decide (I 0 = 0) = true from rfl, br_t, show decide ((0 : Int32) = 1) = false from rfl, br_f, show fm_M_term N w 6 0 = some (w, mk 6 0) from rfl, rb_bnd_so]
  have s1 : I ((src + ar : Nat) : Int) - I ((ar : Nat) : Int) = I ((src : Nat) : Int) := by rw [I_sub]; congr 1; omega
  have sp : I ((p : Nat) : Int) * 46000 = I ((46000 * p : Nat) : Int) := by
    rw [show (46000 : Int32) = I 46000 from rfl, I_mul]
    congr 1
    omega
  have ix : (I ((p : Nat) : Int) * 60 + I ((j + 1 : Nat) : Int) - 1).toNatClampNeg = 60 * p + j := by
    rw [show (60 : Int32) = I 60 from rfl, lit1, I_mul, I_add, I_sub]
    exact tnI (n := 60 * p + j) (by omega) (by omega)
  refine rb_ck (fun _ => ?_)
  rw [lt_e]
  refine rb_ck (fun _ => ?_)
  rw [lt_e, show decide (I 1 = 0) = false from rfl, br_f]
  unfold fm_M_frame0 fb_M_frame0_0
  rw [I_F' h133, tnI (n := p) rfl (by omega), I_A' h95]
  refine rb_bnd (pk_ck (fun _ => pk_some ?_))
  refine rb_ck (fun _ => ?_)
  rw [lt_e]
  refine rb_bnd (pk_ck (fun _ => pk_some ?_))
  refine rb_ck (fun _ => ?_)
  rw [lt_e]
  refine rb_ck (fun _ => ?_)
  rw [I_F' h133, tnI (n := p) rfl (by omega), I_A' h95, ix, I_A' h92, I_A' h100, I_A' h99, s1, sp, lt_e, hfv]
  exact fr_lp (w0 := w) (jj := j) (src := src) hpp h133 h95 hj hP hW hB kk ar N _ 0 (by omega) FR.rf (fun q => by rw [if_neg (by omega)])
/-- the CLAUSES of a FUNCTION are tried, here -/
theorem clof_r {nbn : Nat} (hpp : p < 24) (h133 : F w 133 = ((p : Nat) : Int)) (h95 : A w 95 p = ((j + 1 : Nat) : Int)) (hj : j < 60) (h99 : A w 99 (60 * p + j) = ((nbn : Nat) : Int)) (h101 : A w 101 (60 * p + j) = ((a : Nat) : Int)) (h : PP Q D (bnd (gg_M_choose N (rc_M_error N 19) N (wi (wi (wi (wi w 153 0) 155 ((c : Nat) : Int)) 154 ((c : Nat) : Int)) 156 ((nbn + a : Nat) : Int)) 1) K)) : PP Q D (bnd (fb_M_callRun_364 N () w (I ((c : Nat) : Int))) K) := by
  unfold fb_M_callRun_364 fm_M_clausesOf fb_M_clausesOf_0
  have ix : (I ((p : Nat) : Int) * 60 + I ((j + 1 : Nat) : Int) - 1).toNatClampNeg = 60 * p + j := by
    rw [show (60 : Int32) = I 60 from rfl, lit1, I_mul, I_add, I_sub]
    exact tnI (n := 60 * p + j) (by omega) (by omega)
  refine r_bb ?_
  unfold fm_M_frame0 fb_M_frame0_0
  rw [I_F' h133, tnI (n := p) rfl (by omega), I_A' h95]
  refine rb_bnd (pk_ck (fun _ => pk_some ?_))
  refine rb_ck (fun _ => rb_ck (fun _ => ?_))
  rw [ix, I_A' h99, I_A' h101, addN]
  refine r_bb ?_
  unfold fm_M_tryFrom fb_M_tryFrom_0
  rw [lit0, wi_e, lt_e, wi_e, lt_e, wi_e, lt_e, wi_e, lt_e]
  refine r_bb ?_
  exact h
end
