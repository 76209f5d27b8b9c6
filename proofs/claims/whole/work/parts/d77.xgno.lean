/-! parts without a PATTERN, without a GUARD -/
set_option maxRecDepth 100000
section
variable {α β : Type} {m0 w0 m w : MS} {K nm Nk : Nat → Nat} {N T D d n p k kf : Nat} {Q : Nat → Nat} {sc : SCT} {v1 v3 v4 : Int32} {fc : MS → Int32 → Option (MS × α)} {RR : MS → α → MS → β → Prop} {F : MS → Int32 → Option (MS × β)} {B : Option (MS × β)} {A' : Option (MS × α)}
/-- no PATTERN, there -/
theorem hd_no (fr : FRC m0 m) (hn : n ≤ 8015) (h18 : A m0 18 n = 0) (h : PP RR (bnd (jb_Cm_tries_111 N (jrc_Cm_fun N D) (jg_Cm_tries N (jrc_Cm_fun N D) N) m (I (n : Nat)) (m.1 706) 0) fc) B) : PP RR (bnd (jm_Cm_tries N (jrc_Cm_fun N D) m v1 (I (n : Nat))) fc) B := by
  unfold jm_Cm_tries jb_Cm_tries_0
  rw [bnd_ck, i_nt2 (show n ≤ 100000 by omega), tre fr (by decide) h18, show decide (I 0 = (0 : Int32)) = true from rfl, br_t]
  exact l_ck (fun _ => h)
/-- no GUARD, there -/
theorem gd_no (fr : FRC m0 m) (hn : n ≤ 8015) (h19 : A m0 19 n = 0) (h : PP RR (fc m v4) B) : PP RR (bnd (jb_Cm_tries_111 N (jrc_Cm_fun N D) (jg_Cm_tries N (jrc_Cm_fun N D) kf) m (I (n : Nat)) v3 v4) fc) B := by
  unfold jb_Cm_tries_111
  rw [bnd_ck, i_nt2 (show n ≤ 100000 by omega), tre fr (by decide) h19, show decide (I 0 = (0 : Int32)) = true from rfl, br_t, bnd_s]
  exact l_ck (fun _ => h)
/-- a GUARD or none, here -/
theorem gd_w (c : CTZ m0 w0 K T nm Nk) (hR : XRS w0 T w p Q sc) (h1 : K p ≠ 19 → PP RR A' (F w (-1))) (h2 : K p = 19 → PP RR A' (bnd ((krc_M_behind N d).2.2.2.2.2.2.2.2.2.2.2.2.2.2.1 (adv w p)) F)) : PP RR A' (bnd (km_M_guard N (krc_M_behind N d) w) F) := by
  unfold km_M_guard kb_M_guard_0
  rw [tkW_e (k := 19) (s := 14) (XRS_wp c hR) hR.1.2.2.1 (by decide) rfl]
  by_cases z : K p = 19
  · rw [if_pos z, bnd_s, show decide ((1 : Int32) = 0) = false from rfl, br_f, show ∀ X : Option (MS × Int32), bnd X (fun u2 r2 => some (u2, r2)) = X from fun X => by cases X <;> rfl]
    exact h2 z
  · rw [if_neg z, bnd_s, show decide ((0 : Int32) = 0) = true from rfl, br_t, bnd_s]
    exact h1 z
end
