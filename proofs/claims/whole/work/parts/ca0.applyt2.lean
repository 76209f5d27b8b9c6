/-! a FUN of a FUNCTION is applied, tail: the FRAME, here -/
set_option maxRecDepth 100000
section
variable {α β : Type} {N p ar j P0 src nbj : Nat} {w : MS} {f : Int} {fv : Int32} {Q : MS → α → MS → β → Prop} {D : Option (MS × α)} {K : MS → Unit → Option (MS × β)}
theorem frTF_r (hpp : p < 24) (hfv : fv = I f) (h133 : F w 133 = ((p : Nat) : Int)) (h166 : F w 166 = 1) (h92 : A w 92 p = ((src + 1 + ar : Nat) : Int)) (hW : src + 1 + ar ≤ 46000) (hP : P0 ≤ src) (h95 : A w 95 p = ((j + 1 : Nat) : Int)) (hj : j < 60) (h100 : A w 100 (60 * p + j) = ((P0 : Nat) : Int)) (h99 : A w 99 (60 * p + j) = ((nbj : Nat) : Int)) (hB : nbj ≤ 100000)
    (kk : ∀ u, FR [] [] [] [91] w u → (∀ i, u.2.2.2 91 i = if 46000 * p + P0 ≤ i ∧ i < 46000 * p + P0 + ar then w.2.2.2 91 (i + (src + 1 - P0)) else w.2.2.2 91 i) → PP Q D (K (frmW u p j f P0 nbj (P0 + ar)) ())) : PP Q D (bnd (fm_M_frameOf N w fv (-1) (I ((ar : Nat) : Int)) (I 1)) K) := by
  unfold fm_M_frameOf fb_M_frameOf_0 fb_M_frameOf_10 fb_M_frameOf_24 fb_M_frameOf_46 fb_M_frameOf_128
  rw [show decide ((-1 : Int32) = -1) = true from rfl, br_t, I_F' h166, show decide (I 1 = 0) = false from rfl, br_f, show decide ((1 : Int32) = 1) = true from rfl, br_t]
  refine rb_bnd (pk_mo (top_r (N := N) (k := ar) (W := src + 1 + ar) hpp h133 h92 hW (by omega)) (fun w4 r e => ?_))
  obtain ⟨rfl, rfl⟩ := e
  have s1 : I ((src + 1 + ar : Nat) : Int) - I ((ar : Nat) : Int) = I ((src + 1 : Nat) : Int) := by rw [I_sub]; congr 1; omega
  have sp : I ((p : Nat) : Int) * 46000 = I ((46000 * p : Nat) : Int) := by
    rw [show (46000 : Int32) = I 46000 from rfl, I_mul]
    congr 1
    omega
  have ix : (I ((p : Nat) : Int) * 60 + I ((j + 1 : Nat) : Int) - 1).toNatClampNeg = 60 * p + j := by
    rw [show (60 : Int32) = I 60 from rfl, lit1, I_mul, I_add, I_sub]
    exact tnI (n := 60 * p + j) (by omega) (by omega)
  refine rb_ck (fun _ => ?_)
  rw [lt_e]
  refine rb_ck (fun _ => ?_)
  rw [lt_e, br_f]
  unfold fm_M_frame0 fb_M_frame0_0
  rw [I_F' h133, tnI (n := p) rfl (by omega), I_A' h95]
  refine rb_bnd (pk_ck (fun _ => pk_some ?_))
  refine rb_ck (fun _ => ?_)
  rw [lt_e]
  refine rb_bnd (pk_ck (fun _ => pk_some ?_))
  refine rb_ck (fun _ => ?_)
  rw [lt_e]
  refine rb_ck (fun _ => ?_)
  rw [I_F' h133, tnI (n := p) rfl (by omega), I_A' h95, ix, I_A' h92, I_A' h100, I_A' h99, s1, sp, lt_e, hfv]
  exact fr_lp (w0 := w4) (jj := j) (src := src + 1) hpp h133 h95 hj (by omega) hW hB kk ar N _ 0 (by omega) FR.rf (fun q => by rw [if_neg (by omega)])
end
