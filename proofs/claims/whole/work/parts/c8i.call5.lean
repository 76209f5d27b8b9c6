/-! a FUNCTION is not called: no CALL is left, or no FRAME -/
set_option maxRecDepth 100000
section
variable {α β : Type} {b : Int → Nat → Nat → Prop} {N p PR U B W Y j a n ar f t ee ee' : Nat} {m w : MS} {nb : Nat → Nat} {Hs Os : Nat → List Nat} {lne wd tl : Int} {Q : MS → α → MS → β → Prop} {K1 : MS → Option (MS × α)} {K2 : MS → Option (MS × β)} {D : Option (MS × α)} {K : MS → Unit → Option (MS × β)} {Fv Fv' : Int64 → Int64 → Prop} {P P' : Int64 → Prop} {t1 fv v5 : Int32}
/-- no CALL is left, there -/
theorem callS_m {fw : Int32} (hge : F m 1107 ≤ F m 1106) (hpc : F m 1105 = ((a : Nat) : Int)) (ha : a + 3 < 24000) (c3 : A m 23 (a + 3) = lne) : hm_Ma_call N m p fw t1 = some (wi (wi m 1108 1) (pq p 29) lne, ()) := by
  unfold hm_Ma_call hb_Ma_call_0 hb_Ma_call_70
  rw [I_F' hpc, show I ((a : Nat) : Int) + 3 = I ((a + 3 : Nat) : Int) from addN, Co_e (k := a + 3) rfl ha, bnd_so, c3]
  have r6 := F_r m 1106
  have r7 := F_r m 1107
  have c0 : decide (m.1 1106 < m.1 1107) = false := decide_eq_false (by
    rw [I_F (k := 1106), I_F (k := 1107), I_lt r6.1 r6.2 r7.1 r7.2]
    omega)
  have e : hm_Ma_begins N m p t1 (I lne) = some (wi (wi m 1108 1) (pq p 29) lne, 0) := by
    unfold hm_Ma_begins hb_Ma_begins_0
    rw [c0, br_f]
    rfl
  rw [e, bnd_so, show decide ((0 : Int32) = 0) = true from rfl, br_t]
/-- here -/
theorem callS_r (hpp : p < 24) (hn : n < 100000) (heq : w.1 165 = w.1 164) (h133 : F w 133 = ((p : Nat) : Int)) (h24 : A w 24 n = ((t : Nat) : Int)) (ht : t < 100000) (h8 : A w 8 t = lne) (h : PP Q D (K (wa (wi w 151 1) 115 p lne) ())) : PP Q D (bnd (fb_M_callRun_213 N () w (I ((n : Nat) : Int)) (I ((ar : Nat) : Int)) fv v5) K) := by
  unfold fb_M_callRun_213
  rw [decide_eq_true heq, br_t, show upI w 151 1 = wi w 151 1 from rfl, lt_e]
  refine rb_ck (fun _ => rb_ck (fun _ => rb_ck (fun _ => ?_)))
  have e33 : F (wi w 151 1) 133 = ((p : Nat) : Int) := by rw [wi_ne (by omega)]; exact h133
  have e24 : A (wi w 151 1) 24 n = ((t : Nat) : Int) := h24
  have e8 : A (wi w 151 1) 8 t = lne := h8
  rw [I_F' e33, tnI (n := p) rfl (by omega), tnI (n := n) rfl (by omega), I_A' e24, tnI (n := t) rfl (by omega), I_A' e8, wa_e, lt_e]
  exact h
/-- both -/
theorem op_callS (hpp : p < 24) (ru : RUs m w p j nb Hs Os none a n) (hge : F m 1107 ≤ F m 1106) (heq : m.1 1106 = m.1 1107) (ha : a + 3 < 24000) (hwd : wd = 25 ∨ wd = 26) (h26 : A w 26 n = ((ar : Nat) : Int)) (h27 : A w 27 n = ((f : Nat) : Int)) (hf : f < 2000) (h24 : A w 24 n = ((t : Nat) : Int)) (ht : t < 100000) (c3 : A m 23 (a + 3) = A w 8 t) (k : PP Q (K1 (wi (wi m 1108 1) (pq p 29) (A w 8 t))) (K2 (wa (wi (wi w 166 0) 151 1) 115 p (A w 8 t)))) : PP Q (bnd (hm_Ma_flow N m p (I wd)) (fun u _ => K1 u)) (bnd (fm_M_one N w (I ((n : Nat) : Int)) (I 12)) (fun u _ => K2 u)) := by
  obtain ⟨-, ⟨r2, r3⟩, ⟨f0, cr0⟩, -, -, -, r11, r12, r13⟩ := id ru
  have cb := CR_b cr0
  have el : bnd (hm_Ma_flow N m p (I wd)) (fun u _ => K1 u) = K1 (wi (wi m 1108 1) (pq p 29) (A w 8 t)) := by
    rcases hwd with rfl | rfl
    · rw [flo25, I_F' r2, show I ((a : Nat) : Int) + 1 = I ((a + 1 : Nat) : Int) from addN, Co_e (k := a + 1) rfl (by omega), bnd_so, callS_m hge r2 ha c3, bnd_so, bnd_so]
    · rw [flo26, I_F' r2, show I ((a : Nat) : Int) + 1 = I ((a + 1 : Nat) : Int) from addN, Co_e (k := a + 1) rfl (by omega), bnd_so, callS_m hge r2 ha c3, bnd_so, bnd_so]
  rw [el, one_12]
  refine r_bb ?_
  refine call_12 (by omega) h26 h27 hf ?_
  refine callS_r (t := t) (lne := A w 8 t) hpp (by omega) ?_ (by rw [wi_ne (by omega)]; exact r11) h24 ht rfl k
  rw [wi_1 (by omega), wi_1 (by omega), ← r12, ← r13]
  exact heq
/-- no FRAME is left: it ENDS -/
theorem op_callE (hpp : p < 24) (hpr : p < PR) (pl : PLs b p m w U B W Y) (ru : RUs m w p 59 nb Hs Os none a n) (hlt : F m 1106 < F m 1107) (ha : a + 3 < 24000) (h26 : A w 26 n = ((ar : Nat) : Int)) (h27 : A w 27 n = ((f : Nat) : Int)) (hf : f < 2000) (h30 : A w 30 n = 0) (hee : F m 955 = ((ee : Nat) : Int) ∧ ee < 24) (hee' : F w 150 = ((ee' : Nat) : Int) ∧ ee' < 4000) (p21 : P (mk 1 21)) (p21' : P' (mk 1 21))
    (ke : ∀ w3, GGw p w w3 → (SCs p m w → SCs p m w3) → m.1 (pq p 5) = w3.2.2.1 90 p → RQs Fv P Fv' P' PR (enS m p (mk 1 21) p ee) (enR w3 p 0 ((p : Nat) : Int) (mk 1 21) ee') p 0 p (mk 1 21) → PP Q (K1 (enS m p (mk 1 21) p ee)) (K2 (wi (enR w3 p 0 ((p : Nat) : Int) (mk 1 21) ee') 151 1))) : PP Q (bnd (hm_Ma_flow N m p (I 25)) (fun u _ => K1 u)) (bnd (fm_M_one N w (I ((n : Nat) : Int)) (I 12)) (fun u _ => K2 u)) := by
  obtain ⟨⟨fa, ct⟩, ⟨r2, r3⟩, ⟨f0, cr0⟩, ⟨r5, r6⟩, -, -, r11, r12, r13⟩ := id ru
  have cb := CR_b cr0
  have r06 := F_r m 1106
  have r07 := F_r m 1107
  have c0 : decide (m.1 1106 < m.1 1107) = true := decide_eq_true (by
    rw [I_F (k := 1106), I_F (k := 1107), I_lt r06.1 r06.2 r07.1 r07.2]
    exact hlt)
  have be : ∀ z : Int32, hm_Ma_begins N m p 0 z = some (enS m p (mk 1 21) p ee, 0) := fun z => by
    unfold hm_Ma_begins hb_Ma_begins_0
    rw [c0, br_t, show decide ((0 : Int32) = 0) = true from rfl, br_t, I_F' fa.1.1, show decide (I ((59 + 1 : Nat) : Int) < 60) = false from rfl, br_f, show (21 : Int32) = I 21 from rfl, endsBy_e (by rw [r5]; omega) hee, bnd_so]
    rfl
  have hne : (wi w 166 0).1 165 ≠ (wi w 166 0).1 164 := by
    rw [wi_1 (by omega), wi_1 (by omega), ← r12, ← r13]
    intro c
    have := congrArg Int32.toInt c
    have h1 : F m 1106 = (m.1 1106).toInt := rfl
    have h2 : F m 1107 = (m.1 1107).toInt := rfl
    omega
  rw [flo25, I_F' r2, show I ((a : Nat) : Int) + 1 = I ((a + 1 : Nat) : Int) from addN, Co_e (k := a + 1) rfl (by omega), bnd_so]
  unfold hm_Ma_call hb_Ma_call_0 hb_Ma_call_70
  rw [I_F' r2, show I ((a : Nat) : Int) + 3 = I ((a + 3 : Nat) : Int) from addN, Co_e (k := a + 3) rfl ha, bnd_so, be, bnd_so, show decide ((0 : Int32) = 0) = true from rfl, br_t, bnd_so, bnd_so, one_12]
  refine r_bb ?_
  refine call_12 (by omega) h26 h27 hf ?_
  unfold fb_M_callRun_213
  rw [decide_eq_false hne, br_f]
  have e30 : A (wi w 166 0) 30 n = 0 := h30
  have e33 : F (wi w 166 0) 133 = ((p : Nat) : Int) := by rw [wi_ne (by omega)]; exact r11
  have e95 : A (wi w 166 0) 95 p = ((59 + 1 : Nat) : Int) := fa.1.2.1
  have e109 : A (wi w 166 0) 109 p ≠ 3 := by
    show A w 109 p ≠ 3
    rw [r6]; omega
  have e150 : F (wi w 166 0) 150 = ((ee' : Nat) : Int) := by rw [wi_ne (by omega)]; exact hee'.1
  refine rb_ck (fun _ => ?_)
  rw [tnI (n := n) rfl (by omega), I_A' e30, show decide (I 0 = 0) = true from rfl, br_t]
  refine rb_ck (fun _ => ?_)
  rw [I_F' e33, tnI (n := p) rfl (by omega), I_A' e95, show decide (I ((59 + 1 : Nat) : Int) = 60) = true from rfl, br_t, show (1 : Int32) = I 1 from rfl, show (21 : Int32) = I 21 from rfl, term_e, rb_bnd_so, lit0, ends_e hpp e33 e109 e150 hee'.2, rb_bnd_so, bnd_so]
  exact ke (wi w 166 0) (GGw_reg (by omega) (by omega)) id pl.1.2.2 (RQ_lit hpr hpp (nh_mk (by omega)) (fun c => by rw [so_mk (by omega) (by omega)] at c; omega) p21 p21')
end
