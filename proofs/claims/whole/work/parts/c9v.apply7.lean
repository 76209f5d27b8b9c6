/-! a FUN is not applied: no CALL is left, or no FRAME -/
set_option maxRecDepth 100000
section
variable {α β : Type} {b : Int → Nat → Nat → Prop} {N p PR U B W Y j a n ar P0 l v cc t0 ee ee' : Nat} {m w : MS} {t : Int64} {nb : Nat → Nat} {Hs Os : Nat → List Nat} {wd : Int} {Q : MS → α → MS → β → Prop} {K1 : MS → Option (MS × α)} {K2 : MS → Option (MS × β)} {Fv Fv' : Int64 → Int64 → Prop} {P P' : Int64 → Prop} {fv v5 : Int32}
theorem op_applyS (hpp : p < 24) (ru : RUs m w p j nb Hs Os none a n) (hge : F m 1107 ≤ F m 1106) (heq : m.1 1106 = m.1 1107) (ha : a + 2 < 24000) (hwd : wd = 27 ∨ wd = 28) (c1 : A m 23 (a + 1) = ((ar : Nat) : Int)) (h26 : F m (pq p 26) = ((P0 + 1 + ar : Nat) : Int)) (hl : F m (pq p 45) = ((l : Nat) : Int)) (hl2 : P0 + 1 + ar ≤ l ∧ l ≤ 1000000) (ht : m.2.2.2 (pq p 35) P0 = t) (st : so t = 3) (hv : va t = ((v : Nat) : Int)) (hv2 : v < 512) (hc0 : va (m.2.2.2 (pq p 2) v) = ((cc : Nat) : Int)) (tk : hm_Co_takes N m (I ((cc : Nat) : Int)) = some (m, I ((ar : Nat) : Int))) (h24 : A w 24 n = ((t0 : Nat) : Int)) (ht0 : t0 < 100000) (c2 : A m 23 (a + 2) = A w 8 t0)
    (kd : ∀ (D : Option (MS × α)) (K : MS → Unit → Option (MS × β)), PP Q D (bnd (fb_M_callRun_213 N () (wi w 166 1) (I ((n : Nat) : Int)) (I ((ar : Nat) : Int)) fv v5) K) → PP Q D (bnd (fm_M_callRun N w (I ((n : Nat) : Int)) (I 13)) K))
    (k : PP Q (K1 (wi (wi m 1108 1) (pq p 29) (A w 8 t0))) (K2 (wa (wi (wi w 166 1) 151 1) 115 p (A w 8 t0)))) : PP Q (bnd (hm_Ma_flow N m p (I wd)) (fun u _ => K1 u)) (bnd (fm_M_one N w (I ((n : Nat) : Int)) (I 13)) (fun u _ => K2 u)) := by
  obtain ⟨-, ⟨r2, r3⟩, ⟨f0, cr0⟩, -, -, -, r11, r12, r13⟩ := id ru
  have cb := CR_b cr0
  have bg : ∀ z : Int32, hm_Ma_apply N m p (I ((ar : Nat) : Int)) z = some (wi (wi m 1108 1) (pq p 29) (A w 8 t0), ()) := fun z => apB_m r2 ha h26 hl hl2 ht st hv hv2 hc0 tk (by rw [c2]; exact begS_m hge)
  have el : bnd (hm_Ma_flow N m p (I wd)) (fun u _ => K1 u) = K1 (wi (wi m 1108 1) (pq p 29) (A w 8 t0)) := by
    rcases hwd with rfl | rfl
    · rw [apl_27, I_F' r2, show I ((a : Nat) : Int) + 1 = I ((a + 1 : Nat) : Int) from addN, Co_e (k := a + 1) rfl (by omega), bnd_so, c1, bg, bnd_so, bnd_so]
    · rw [apl_28, I_F' r2, show I ((a : Nat) : Int) + 1 = I ((a + 1 : Nat) : Int) from addN, Co_e (k := a + 1) rfl (by omega), bnd_so, c1, bg, bnd_so, bnd_so]
  rw [el, one_13]
  refine r_bb ?_
  refine kd _ _ ?_
  refine callS_r (t := t0) (lne := A w 8 t0) hpp (by omega) ?_ (by rw [wi_ne (by omega)]; exact r11) h24 ht0 rfl k
  rw [wi_1 (by omega), wi_1 (by omega), ← r12, ← r13]
  exact heq
/-- no FRAME is left: it ENDS -/
theorem op_applyE (hpp : p < 24) (hpr : p < PR) (pl : PLs b p m w U B (P0 + 1 + ar) Y) (ru : RUs m w p 59 nb Hs Os none a n) (hlt : F m 1106 < F m 1107) (ha : a + 2 < 24000) (c1 : A m 23 (a + 1) = ((ar : Nat) : Int)) (hl : F m (pq p 45) = ((l : Nat) : Int)) (hl2 : P0 + 1 + ar ≤ l ∧ l ≤ 1000000) (ht : m.2.2.2 (pq p 35) P0 = t) (st : so t = 3) (hv : va t = ((v : Nat) : Int)) (hv2 : v < 512) (hc0 : va (m.2.2.2 (pq p 2) v) = ((cc : Nat) : Int)) (tk : hm_Co_takes N m (I ((cc : Nat) : Int)) = some (m, I ((ar : Nat) : Int))) (h30 : A w 30 n = 0) (hee : F m 955 = ((ee : Nat) : Int) ∧ ee < 24) (hee' : F w 150 = ((ee' : Nat) : Int) ∧ ee' < 4000) (p21 : P (mk 1 21)) (p21' : P' (mk 1 21))
    (kd : ∀ (D : Option (MS × α)) (K : MS → Unit → Option (MS × β)), PP Q D (bnd (fb_M_callRun_213 N () (wi w 166 1) (I ((n : Nat) : Int)) (I ((ar : Nat) : Int)) fv v5) K) → PP Q D (bnd (fm_M_callRun N w (I ((n : Nat) : Int)) (I 13)) K))
    (ke : ∀ w3, GGw p w w3 → (SCs p m w → SCs p m w3) → m.1 (pq p 5) = w3.2.2.1 90 p → RQs Fv P Fv' P' PR (enS m p (mk 1 21) p ee) (enR w3 p 0 ((p : Nat) : Int) (mk 1 21) ee') p 0 p (mk 1 21) → PP Q (K1 (enS m p (mk 1 21) p ee)) (K2 (wi (enR w3 p 0 ((p : Nat) : Int) (mk 1 21) ee') 151 1))) : PP Q (bnd (hm_Ma_flow N m p (I 27)) (fun u _ => K1 u)) (bnd (fm_M_one N w (I ((n : Nat) : Int)) (I 13)) (fun u _ => K2 u)) := by
  obtain ⟨⟨fa, ct⟩, ⟨r2, r3⟩, ⟨f0, cr0⟩, ⟨r5, r6⟩, -, -, r11, r12, r13⟩ := id ru
  have cb := CR_b cr0
  have hne : (wi w 166 1).1 165 ≠ (wi w 166 1).1 164 := by
    rw [wi_1 (by omega), wi_1 (by omega), ← r12, ← r13]
    intro c
    have := congrArg Int32.toInt c
    have h1 : F m 1106 = (m.1 1106).toInt := rfl
    have h2 : F m 1107 = (m.1 1107).toInt := rfl
    omega
  have bg : hm_Ma_apply N m p (I ((ar : Nat) : Int)) 0 = some (enS m p (mk 1 21) p ee, ()) := apB_m r2 ha pl.2.2.1.1 hl hl2 ht st hv hv2 hc0 tk (begE_m hlt fa.1.1 (by rw [r5]; omega) hee)
  rw [apl_27, I_F' r2, show I ((a : Nat) : Int) + 1 = I ((a + 1 : Nat) : Int) from addN, Co_e (k := a + 1) rfl (by omega), bnd_so, c1, bg, bnd_so, bnd_so, one_13]
  refine r_bb ?_
  refine kd _ _ ?_
  refine callE_r (ee' := ee') hpp (by omega) hne (by rw [wi_ne (by omega)]; exact r11) h30 fa.1.2.1 (by show A w 109 p ≠ 3; rw [r6]; omega) ⟨by rw [wi_ne (by omega)]; exact hee'.1, hee'.2⟩ ?_
  exact ke (wi w 166 1) (GGw_reg (by omega) (by omega)) id pl.1.2.2 (RQ_lit hpr hpp (nh_mk (by omega)) (fun c => by rw [so_mk (by omega) (by omega)] at c; omega) p21 p21')
end
