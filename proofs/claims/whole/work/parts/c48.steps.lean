/-! one step: which word, which node -/
set_option maxRecDepth 100000
section
variable {Sf : MS → Int32 → Prop} {b : Int → Nat → Nat → Prop} {N p k l U B W Y j a n M M2 : Nat} {m w m2 w2 : MS} {t x : Int64} {nb : Nat → Nat} {Hs Os : Nat → List Nat} {y : Option (Nat × Nat × Nat)} {v : Int} {G : MS → Nat → Int32 → Option (MS × Int32)} {α : Type} {Q : MS → α → MS → Int32 → Prop} {Z : Option (MS × α)}
/-- up to the word that is met -/
theorem go_67 (h9 : F m (pq p 9) = 0) (h8 : F m 1108 = 0) (hk : k < 1000000000) (ha : F m 1105 = ((a : Nat) : Int)) (ha2 : a < 24000) (hv : A m 23 a = v) : q67 Sf N G m p (I ((k : Nat) : Int)) = br (decide (I v = 39)) (bnd (hm_Co_at N m (I ((a : Nat) : Int) + 1)) (fun u29 r29 => bnd (hm_Ma_predefined N u29 p r29) (fun u31 r31 => q195 Sf N G u31 p (I ((k : Nat) : Int))))) (br (decide (I v = 40)) (bnd (hm_Co_at N m (I ((a : Nat) : Int) + 1)) (fun u24 r24 => bnd (hm_Ma_toward N u24 p r24) (fun u26 r26 => q195 Sf N G u26 p (I ((k : Nat) : Int))))) (br (decide (8 ≤ I v)) (br (decide (18 ≤ I v)) (bnd (hm_Ma_flow N m p (I v)) (fun u19 r19 => q195 Sf N G u19 p (I ((k : Nat) : Int)))) (bnd (hm_Ma_value N m p (I v)) (fun u20 r20 => q195 Sf N G u20 p (I ((k : Nat) : Int))))) (bnd (hm_Ma_making N m p (I v)) (fun u21 r21 => q195 Sf N G u21 p (I ((k : Nat) : Int)))))) := by
  unfold q67
  rw [show (1000000000 : Int32) = I 1000000000 from rfl, decI (by omega) (by omega) (by omega) (by omega), decide_eq_false (by omega), br_f, I_F' h9, show decide (I 0 = 0) = true from rfl, br_t, I_F' h8, show decide (I 0 = 0) = true from rfl, br_t, I_F' ha, Co_e (k := a) rfl ha2, bnd_so, hv, I_F' ha]
theorem go_mk (h9 : F m (pq p 9) = 0) (h8 : F m 1108 = 0) (hk : k < 1000000000) (ha : F m 1105 = ((a : Nat) : Int)) (ha2 : a < 24000) (hv : A m 23 a = v) (h : 0 ≤ v ∧ v < 8) : q67 Sf N G m p (I ((k : Nat) : Int)) = bnd (hm_Ma_making N m p (I v)) (fun u21 _ => q195 Sf N G u21 p (I ((k : Nat) : Int))) := by
  rw [go_67 h9 h8 hk ha ha2 hv, show (39 : Int32) = I 39 from rfl, decE (by omega) (by omega) (by omega) (by omega), decide_eq_false (by omega), br_f, show (40 : Int32) = I 40 from rfl, decE (by omega) (by omega) (by omega) (by omega), decide_eq_false (by omega), br_f, show (8 : Int32) = I 8 from rfl, decI (by omega) (by omega) (by omega) (by omega), decide_eq_false (by omega), br_f]
theorem go_vl (h9 : F m (pq p 9) = 0) (h8 : F m 1108 = 0) (hk : k < 1000000000) (ha : F m 1105 = ((a : Nat) : Int)) (ha2 : a < 24000) (hv : A m 23 a = v) (h : 8 ≤ v ∧ v < 18) : q67 Sf N G m p (I ((k : Nat) : Int)) = bnd (hm_Ma_value N m p (I v)) (fun u21 _ => q195 Sf N G u21 p (I ((k : Nat) : Int))) := by
  rw [go_67 h9 h8 hk ha ha2 hv, show (39 : Int32) = I 39 from rfl, decE (by omega) (by omega) (by omega) (by omega), decide_eq_false (by omega), br_f, show (40 : Int32) = I 40 from rfl, decE (by omega) (by omega) (by omega) (by omega), decide_eq_false (by omega), br_f, show (8 : Int32) = I 8 from rfl, decI (by omega) (by omega) (by omega) (by omega), decide_eq_true (by omega), br_t, show (18 : Int32) = I 18 from rfl, decI (by omega) (by omega) (by omega) (by omega), decide_eq_false (by omega), br_f]
theorem go_fl (h9 : F m (pq p 9) = 0) (h8 : F m 1108 = 0) (hk : k < 1000000000) (ha : F m 1105 = ((a : Nat) : Int)) (ha2 : a < 24000) (hv : A m 23 a = v) (h : 18 ≤ v ∧ v < 39) : q67 Sf N G m p (I ((k : Nat) : Int)) = bnd (hm_Ma_flow N m p (I v)) (fun u21 _ => q195 Sf N G u21 p (I ((k : Nat) : Int))) := by
  rw [go_67 h9 h8 hk ha ha2 hv, show (39 : Int32) = I 39 from rfl, decE (by omega) (by omega) (by omega) (by omega), decide_eq_false (by omega), br_f, show (40 : Int32) = I 40 from rfl, decE (by omega) (by omega) (by omega) (by omega), decide_eq_false (by omega), br_f, show (8 : Int32) = I 8 from rfl, decI (by omega) (by omega) (by omega) (by omega), decide_eq_true (by omega), br_t, show (18 : Int32) = I 18 from rfl, decI (by omega) (by omega) (by omega) (by omega), decide_eq_true (by omega), br_t]
/-- up to the node that is met -/
theorem go_r (hp : p < 24) (h1 : F w 151 = 0) (h9 : A w 109 p = 0) (h3 : F w 133 = ((p : Nat) : Int)) (h95 : A w 95 p = ((j + 1 : Nat) : Int)) (hj : j < 60) (h98 : A w 98 (60 * p + j) = ((n : Nat) : Int)) (hn : n < 100000) (k : PP Q Z (bnd (fm_M_one N w (I ((n : Nat) : Int)) (I (A w 23 n))) (fun u3 _ => bnd (fm_M_allEnds N u3) (fun u4 _ => gg_M_go N M2 u4 (I ((p : Nat) : Int)))))) : PP Q Z (gg_M_go N (M2 + 1) w (I ((p : Nat) : Int))) := by
  show PP Q Z (fb_M_go_199 N (gg_M_go N M2) w (I ((p : Nat) : Int)))
  unfold fb_M_go_199 fm_M_frame0 fb_M_frame0_0
  have ix : (I ((p : Nat) : Int) * 60 + I ((j + 1 : Nat) : Int) - 1).toNatClampNeg = 60 * p + j := by
    rw [show (60 : Int32) = I 60 from rfl, lit1, I_mul, I_add, I_sub]
    exact tnI (n := 60 * p + j) (by omega) (by omega)
  rw [I_F' h1, show decide (I 0 = 0) = true from rfl, br_t]
  refine r_ck (fun _ => ?_)
  rw [tnI (n := p) rfl (by omega), I_A' h9, show decide (I 0 = 0) = true from rfl, br_t, I_F' h3, tnI (n := p) rfl (by omega), I_A' h95]
  refine r_bnd (pk_ck (fun _ => pk_some ?_))
  refine r_ck (fun _ => r_ck (fun _ => ?_))
  rw [ix, I_A' h98, tnI (n := n) rfl (by omega), I_A (k := 23)]
  exact k
theorem one_1 : fm_M_one N w (I v) (I 1) = bnd (fm_M_goTo N w (I v + 1)) (fun u7 _ => ck (inb (I v) (ln 25)) (ck (inb (I v) (ln 26)) (bnd (fm_M_term N u7 (u7.2.2.1 25 (I v).toNatClampNeg) (u7.2.2.1 26 (I v).toNatClampNeg)) (fun u27 r27 => bnd (fm_M_put N u27 r27) (fun u28 _ => some (u28, ())))))) := rfl
/-- a literal -/
theorem lit_b (h : v = 0 ∨ v = 1 ∨ v = 6) {z : Int} (hz : v = 6 → z = 0) (hr : RG z) : RTb b (mk v z) (mk v z) := by
  have so1 : so (mk v z) = v := so_mk (by omega) (by omega)
  refine RTb_lit (nh_mk (by omega)) (fun e => ?_)
  rw [so1] at e
  rw [va_mk hr.1 hr.2]
  exact hz e
end
