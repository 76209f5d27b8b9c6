/-! exit, toward another that does not trap: both runs up to the copies -/
set_option maxRecDepth 100000
section
variable {α β : Type} {N p q : Nat} {m w : MS} {t x : Int64} {Q : MS → α → MS → β → Prop} {D : Option (MS × α)} {K : MS → Unit → Option (MS × β)}
theorem dec_ne {a b : Int64} (h : a ≠ b) : decide (lg_cmp a b = 0) = false := decide_eq_false (fun c => h ((lgc_eq _ _).mp c))
/-- there -/
theorem sig_c (h9 : F m (pq q 9) ≠ 3) (h11 : F m (pq q 11) = 0) (h9p : F m (pq p 9) ≠ 3) (hpq : p ≠ q) (h4 : t ≠ mk 1 4) : hm_Wl_signal N m (I ((p : Nat) : Int)) q t (some p) = bnd (hm_Pr_copyIn N (wi m (pq q 4) 0) q (pq p 2) t) (fun u8 r8 => bnd (hm_Wl_endsWith N u8 q r8 q) (fun u10 _ => some (u10, ()))) := by
  have r9 := F_r m (pq q 9)
  have r9p := F_r m (pq p 9)
  unfold hm_Wl_signal hb_Wl_signal_0 hb_Wl_signal_43 hb_Wl_signal_59 hb_Wl_signal_121
  rw [I_F (k := pq q 9), show decide (I (F m (pq q 9)) = 3) = false from by rw [show (3 : Int32) = I 3 from rfl, decE r9.1 r9.2 (by omega) (by omega)]; exact decide_eq_false h9, br_f, I_F (k := pq q 11), h11, show decide (I 0 = 0) = true from rfl, br_t, show hm_Te_make N m 1 4 = some (m, mk 1 4) from rfl, bnd_so, dec_ne h4, br_f, show decide ((0 : Int32) = 0) = true from rfl, br_t, show decide ((some p : Option Nat) = none) = false from rfl, br_f, show decide ((some p : Option Nat) = some q) = false from decide_eq_false (fun c => hpq (by injection c)), br_f, bo_s, I_F (k := pq p 9), show decide (I (F m (pq p 9)) = 3) = false from by rw [show (3 : Int32) = I 3 from rfl, decE r9p.1 r9p.2 (by omega) (by omega)]; exact decide_eq_false h9p, br_f]
  rfl
/-- here -/
theorem exr_c (hq : q < 24) (h9 : A w 109 q ≠ 3) (h112 : A w 112 q = 0) (x33 : F w 133 = ((p : Nat) : Int)) (hp1 : p < 24) (hpq : p ≠ q) (h5 : x ≠ mk 1 5) (h4 : x ≠ mk 1 4) (h : PP Q D (bnd (bnd (fm_M_copy N (wa w 89 24 0) (I ((p : Nat) : Int)) x (I ((24 : Nat) : Int))) (fun u2 r2 => bnd (fm_M_willEnd N u2 (I ((q : Nat) : Int)) (I 0) (I ((24 : Nat) : Int)) r2) (fun u3 _ => some (u3, ())))) K)) : PP Q D (bnd (fm_M_exitRun N w (I ((q : Nat) : Int)) x) K) := by
  have r9 := A_r w 109 q
  unfold fm_M_exitRun fb_M_exitRun_0 fb_M_exitRun_84 fb_M_exitRun_111
  refine rb_ck (fun _ => ?_)
  rw [tnI (n := q) rfl (by omega), I_A (k := 109), show decide (I (A w 109 q) = 3) = false from by rw [show (3 : Int32) = I 3 from rfl, decE r9.1 r9.2 (by omega) (by omega)]; exact decide_eq_false h9, br_f, show fm_M_term N w 1 5 = some (w, mk 1 5) from rfl, rb_bnd_so, dec_ne h5, br_f]
  refine rb_ck (fun _ => ?_)
  rw [I_A (k := 112), h112, show decide (I 0 = 0) = true from rfl, br_t, I_F' x33, show decide (I ((q : Nat) : Int) = I ((p : Nat) : Int)) = false from by rw [decE (by omega) (by omega) (by omega) (by omega)]; exact decide_eq_false (by omega), br_f, show fm_M_term N w 1 4 = some (w, mk 1 4) from rfl, rb_bnd_so, dec_ne h4, br_f]
  refine rb_ck (fun _ => ?_)
  have e33 : F (wa w 89 24 0) 133 = ((p : Nat) : Int) := x33
  rw [show upA w 89 (upd (w.2.2.1 89) (24 : Int32).toNatClampNeg 0) = wa w 89 24 0 from rfl, lt_e, I_F' e33]
  exact h
end
