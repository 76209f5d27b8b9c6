set_option maxRecDepth 100000
def FRC (m v : MS) : Prop := (∀ k, k < 440 ∨ k = 442 ∨ (720 ≤ k ∧ k < 740) → v.1 k = m.1 k) ∧ ∀ k, k < 22 ∨ k = 24 ∨ k = 25 ∨ (36 ≤ k ∧ k ≤ 38) → v.2.2.1 k = m.2.2.1 k
def C11 (Zf : Bool) (m v : MS) : Prop := m.1 441 ≤ v.1 441 ∧ (v.1 441 < 24000 → (v.1 711 = 0 ↔ Zf = false ∧ m.1 711 = 0)) ∧ (Zf = false → m.1 711 = 0 → v.1 711 = 0)
def NPE (nm : Nat → Nat) (s : Nat) (sc2 : SCT) (cm2 : Nat) (g : Nat → Int32) (Zf : Bool) (m v : MS) : Prop := CNs v nm sc2 ∧ v.2.2.1 41 s = I (cm2 : Nat) ∧ (∀ j, j < s → v.2.2.1 41 j = m.2.2.1 41 j) ∧ v.2.2.1 42 = g ∧ C11 Zf m v ∧ v.1 714 = m.1 714 ∧ v.1 712 = m.1 712 ∧ v.1 713 = m.1 713 ∧ FRC m v
def CPR (nm : Nat → Nat) (gd : Bool) (p p2 : Nat) (sc : SCT) (cm : Nat) (m : MS) : Prop := m.1 714 = 1000000000 ∧ CNs m nm sc ∧ m.2.2.1 41 (sc.length - 1) = I (cm : Nat) ∧ cm ≤ 4000 ∧ m.1 713 = 0 ∧ decide (m.1 712 = 0) = !gd ∧ tot sc + (p2 - p) ≤ 4000
def CPO (K nm : Nat → Nat) (p p2 : Nat) (sc sc2 : SCT) (X : Nat) (W : Nat → Nat) (Rf Zf : Bool) (BC : MS → Prop) (cm : Nat) (m v : MS) : Prop := ((Rf = true ∨ BC m) ∧ v.1 714 < 1000000000 ∧ FRC m v) ∨ ((Rf = false ∧ ¬ BC m) ∧ NPE nm (sc.length - 1) sc2 (max cm X) (wup (m.2.2.1 42) K W p p2) Zf m v)
def EXN (N : Nat) (K nm : Nat → Nat) (gd : Bool) (m2 : MS) (lo n2 ν p p2 : Nat) (sc sc2 : SCT) (X : Nat) (W : Nat → Nat) (Rf Zf : Bool) (BC : MS → Prop) : Prop := ∀ (d : Nat) (m3 : MS) (cm : Nat) (last : Int32), KPX lo n2 ν m2 m3 → CPR nm gd p p2 sc cm m3 → PK (fun m4 _ => CPO K nm p p2 sc sc2 X W Rf Zf BC cm m3 m4) ((hrc_Cm_fun N d).2.2.2.2.2.2.2.2.2.2.1 m3 (I (ν : Nat)) last)
section
variable {m v u m2 m3 : MS} {K nm W : Nat → Nat} {sc sc2 t : SCT} {e : List Nat × List Nat × Nat} {s x y N i f tok cm cm2 p p2 n2 ν lo X : Nat} {gd Zf Rf : Bool} {g g2 : Nat → Int32} {last : Int32}
theorem FRC_rf : FRC m m := ⟨fun _ _ => rfl, fun _ _ => rfl⟩
theorem FRC_tr (h : FRC m v) (k : FRC v u) : FRC m u := ⟨fun j hj => (k.1 j hj).trans (h.1 j hj), fun j hj => (k.2 j hj).trans (h.2 j hj)⟩
theorem C11_e {x : MS} (h : C11 Zf m v) (h1 : x.1 441 = v.1 441) (h2 : x.1 711 = v.1 711) : C11 Zf m x := by
  unfold C11 at h ⊢
  rw [h1, h2]
  exact h
theorem C11_b {x : MS} (h : C11 Zf x v) (h1 : m.1 441 ≤ x.1 441) (h2 : x.1 711 = m.1 711) : C11 Zf m v := by
  unfold C11 at h ⊢
  rw [← h2]
  exact ⟨Int32.le_trans h1 h.1, h.2⟩
theorem C11_rf : C11 false m m := ⟨Int32.le_refl _, fun _ => ⟨fun h => ⟨rfl, h⟩, fun h => h.2⟩, fun _ h => h⟩
theorem C11_u (h : C11 Zf m v) (k : Kuc v u) : C11 Zf m u := by
  have e : u.1 711 = v.1 711 := k.1 711 (by decide)
  unfold C11 at h ⊢
  rw [e]
  exact ⟨Int32.le_trans h.1 k.2.2, fun z => h.2.1 (Int32.lt_of_le_of_lt k.2.2 z), h.2.2⟩
theorem C11_m (h1 : m.1 441 ≤ v.1 441) (h2 : v.1 711 = m.1 711) : C11 false m v := ⟨h1, fun _ => by rw [h2]; exact ⟨fun h => ⟨rfl, h⟩, fun h => h.2⟩, fun _ h => by rw [h2]; exact h⟩
theorem C11_tr {Z2 : Bool} (h : C11 Zf m v) (k : C11 Z2 v u) : C11 (Zf || Z2) m u := by
  have e : ((Zf || Z2) = false) ↔ (Zf = false ∧ Z2 = false) := by cases Zf <;> cases Z2 <;> decide
  refine ⟨Int32.le_trans h.1 k.1, fun z => ?_, fun z z0 => ?_⟩
  · rw [k.2.1 z, h.2.1 (Int32.lt_of_le_of_lt k.1 z), e]
    constructor
    · rintro ⟨a, b, c⟩; exact ⟨⟨b, a⟩, c⟩
    · rintro ⟨⟨b, a⟩, c⟩; exact ⟨a, b, c⟩
  · have z := e.mp z
    exact k.2.2 z.2 (h.2.2 z.1 z0)
theorem CPR_0 (c : CPR nm gd p p2 sc cm m) : NPE nm (sc.length - 1) sc cm (m.2.2.1 42) false m m := ⟨c.2.1, c.2.2.1, fun _ _ => rfl, rfl, C11_rf, rfl, rfl, rfl, FRC_rf⟩
theorem NPE_u (h : NPE nm s sc2 cm g Zf m v) (k : Kuc v u) : NPE nm s sc2 cm g Zf m u := by
  obtain ⟨h1, h2, h3, h4, h5, h6, h7, h8, h9⟩ := h
  refine ⟨⟨by rw [k.1 _ (by decide)]; exact h1.1, h1.2.1, by rw [k.1 _ (by decide)]; exact h1.2.2.1, h1.2.2.2.1, CNl_fr h1.2.2.2.2 (k.2.1 _ (by decide)) (fun j _ => by rw [k.2.1 _ (by decide)])⟩, by rw [k.2.1 _ (by decide)]; exact h2, fun j hj => by rw [k.2.1 _ (by decide)]; exact h3 j hj, by rw [k.2.1 _ (by decide)]; exact h4, C11_u h5 k, by rw [k.1 _ (by decide)]; exact h6, by rw [k.1 _ (by decide)]; exact h7, by rw [k.1 _ (by decide)]; exact h8, FRC_tr h9 ⟨fun j hj => k.1 j (by omega), fun j hj => k.2.1 j (by omega)⟩⟩
theorem CPO_ok {BC : MS → Prop} (hR : Rf = false ∧ ¬ BC m) (h : NPE nm (sc.length - 1) sc2 (max cm X) (wup (m.2.2.1 42) K W p p2) Zf m v) : CPO K nm p p2 sc sc2 X W Rf Zf BC cm m v := Or.inr ⟨hR, h⟩
theorem exn_lit {k : Nat} {a b c g : Int32} (hn : nod m2 ν = (I (k : Nat), a, b, c, g)) (hlo : lo < ν) (hν : ν ≤ n2) (hl : n2 ≤ 8015) (hk : k = 1 ∨ k = 2) (h3 : ∀ j, p ≤ j → j < p2 → K j ≠ 3) : EXN N K nm gd m2 lo n2 ν p p2 sc sc 0 W false false (fun _ => False) := by
  intro d m3 cm last kx cp
  cases d with
  | zero => exact pk_none
  | succ d =>
    have e0 := KPX_nod kx hlo hν
    rw [hn] at e0
    have e1 : m3.2.2.1 16 ν = I (k : Nat) := (Prod.mk.inj e0).1
    show PK _ (hm_Cm_expression N (hrc_Cm_fun N d) m3 (I (ν : Nat)) last)
    unfold hm_Cm_expression hb_Cm_expression_0 hb_Cm_expression_359
    rw [tnI (n := ν) rfl (by omega), e1]
    refine pk_ck (fun _ => pk_ck (fun _ => ?_))
    have q0 := CPR_0 cp
    have fin : ∀ {v : MS}, NPE nm (sc.length - 1) sc cm (m3.2.2.1 42) false m3 v → CPO K nm p p2 sc sc 0 W false false (fun _ => False) cm m3 v := fun q => by
      refine CPO_ok ⟨rfl, fun z => z⟩ ?_
      rw [wup_0 h3, Nat.max_eq_left (Nat.zero_le cm)]
      exact q
    rcases hk with rfl | rfl
    · rw [show decide (I ((1 : Nat) : Int) = 1) = true from rfl, br_tq]
      refine pk_bnd (fun w1 r1 x1 => pk_ck (fun _ => pk_bnd (fun w2 r2 x2 => pk_some (fin ?_))))
      exact NPE_u (NPE_u q0 (yu_hm_Co_put (u0 := m3) Ku_rf w1 r1 x1)) (yu_hm_Cm_term (u0 := w1) Ku_rf w2 r2 x2)
    · rw [show decide (I ((2 : Nat) : Int) = 1) = false from rfl, br_fq, show decide (I ((2 : Nat) : Int) = 2) = true from rfl, br_tq]
      refine pk_bnd (fun w1 r1 x1 => pk_ck (fun _ => pk_bnd (fun w2 r2 x2 => pk_some (fin ?_))))
      exact NPE_u (NPE_u q0 (yu_hm_Co_put (u0 := m3) Ku_rf w1 r1 x1)) (yu_hm_Cm_term (u0 := w1) Ku_rf w2 r2 x2)
theorem fault_p {tk nb : Nat} (ht : tk ≤ 4002) (hn : nb ≤ 15) : PK (fun v _ => v.1 714 < 1000000000 ∧ (∀ k, k ≠ 714 → v.1 k = m.1 k) ∧ v.2.2.1 = m.2.2.1) (hm_Cm_fault N m (I (tk : Nat)) (I (nb : Nat))) := fun v r e => by
  have h1 := fault_s (u0 := m) (N := N) (u := m) (v1 := I (tk : Nat)) (v2 := I (nb : Nat)) (by
    rw [show (16 : Int32) = I 16 from rfl, I_mul, I_add, show (1000000000 : Int32) = I 1000000000 from rfl]
    exact (I_lt (by omega) (by omega) (by omega) (by omega)).mpr (by omega)) v r e
  refine ⟨h1, ?_⟩
  unfold hm_Cm_fault hb_Cm_fault_0 at e
  have e : some (upI m 714 (if I (tk : Nat) * 16 + I (nb : Nat) < m.1 714 then I (tk : Nat) * 16 + I (nb : Nat) else m.1 714), ()) = some (v, r) := e
  injection e with e
  injection e with e1 e2
  rw [← e1]
  exact ⟨fun k hk => upI_ne hk, rfl⟩
theorem FRC_u (h : Kuc m v) : FRC m v := ⟨fun k hk => h.1 k (by omega), fun k hk => h.2.1 k (by omega)⟩
theorem Ku_s (h : m.1 714 < 1000000000) (k : Kuc m v) : v.1 714 < 1000000000 := by rw [k.1 714 (by decide)]; exact h
theorem exn_str {b c g : Int32} (hn : nod m2 ν = (I ((4 : Nat) : Int), I (p : Nat), b, c, g)) (hlo : lo < ν) (hν : ν ≤ n2) (hl : n2 ≤ 8015) (hp : p ≤ 4000) (h3 : ∀ j, p ≤ j → j < p2 → K j ≠ 3) : EXN N K nm gd m2 lo n2 ν p p2 sc sc 0 W gd false (fun _ => False) := by
  intro d m3 cm last kx cp
  cases d with
  | zero => exact pk_none
  | succ d =>
    have e0 := KPX_nod kx hlo hν
    rw [hn] at e0
    have e1 : m3.2.2.1 16 ν = I ((4 : Nat) : Int) := (Prod.mk.inj e0).1
    have e2 : m3.2.2.1 17 ν = I (p : Nat) := (Prod.mk.inj (Prod.mk.inj e0).2).1
    show PK _ (hm_Cm_expression N (hrc_Cm_fun N d) m3 (I (ν : Nat)) last)
    unfold hm_Cm_expression hb_Cm_expression_0 hb_Cm_expression_359 hm_Cm_notInGuard hb_Cm_notInGuard_0 hb_Cm_notInGuard_14
    rw [tnI (n := ν) rfl (by omega), e1, e2]
    refine pk_ck (fun _ => pk_ck (fun _ => ?_))
    rw [show decide (I ((4 : Nat) : Int) = 1) = false from rfl, br_fq, show decide (I ((4 : Nat) : Int) = 2) = false from rfl, br_fq, show decide (I ((4 : Nat) : Int) = 3) = false from rfl, br_fq, show decide (I ((4 : Nat) : Int) = 4) = true from rfl, br_tq, cp.2.2.2.2.2.1]
    cases gd with
    | false =>
      rw [show (!false) = true from rfl, br_tq]
      refine pk_bnd (fun w1 r1 x1 => pk_bnd (fun w2 r2 x2 => pk_bnd (fun w3 r3 x3 => pk_some ?_)))
      have e : w1 = m3 := by
        have x1 : some (m3, ()) = some (w1, r1) := x1
        injection x1 with x1
        injection x1 with x1 _
        exact x1.symm
      subst e
      refine CPO_ok ⟨rfl, fun z => z⟩ ?_
      rw [wup_0 h3, Nat.max_eq_left (Nat.zero_le cm)]
      exact NPE_u (NPE_u (CPR_0 cp) (yu_hm_Co_put (u0 := w1) Ku_rf w2 r2 x2)) (yu_hm_Cm_string (u0 := w2) Ku_rf w3 r3 x3)
    | true =>
      refine pk_bnd ?_
      rw [show (!true) = false from rfl, br_fq]
      refine pk_bnd (pk_mo (fault_p (N := N) (tk := p) (nb := 7) (by omega) (by omega)) (fun v r q => pk_some ?_))
      refine pk_bnd (fun w2 r2 x2 => pk_bnd (fun w3 r3 x3 => pk_some ?_))
      have f2 := yu_hm_Co_put (u0 := v) Ku_rf w2 r2 x2
      have f3 := yu_hm_Cm_string (u0 := w2) Ku_rf w3 r3 x3
      refine Or.inl ⟨Or.inl rfl, Ku_s (Ku_s q.1 f2) f3, FRC_tr (FRC_tr ⟨fun k hk => q.2.1 k (by omega), fun k _ => by rw [q.2.2]⟩ (FRC_u f2)) (FRC_u f3)⟩
def nmL (x : Nat) (sc : SCT) : Nat := if fnb x sc then lvx x sc else 32
theorem exn_name {c g : Int32} (hnm : NMJ nm) (hn : nod m2 ν = (I ((3 : Nat) : Int), I (p : Nat), I (nm x : Nat), c, g)) (hlo : lo < ν) (hν : ν ≤ n2) (hl : n2 ≤ 8015) (hp : p ≤ 4000) (ok : SOK sc) (hx : x < 1400) (hK : K p = 3) (hW : nm x ≠ 0 → fnb x sc = true → W p = lvx x sc) : EXN N K nm gd m2 lo n2 ν p (p + 1) sc (if nm x ≠ 0 ∧ fnb x sc = true then hld x sc else sc) 0 W (!(decide (nm x ≠ 0) && fnb x sc)) false (fun _ => False) := by
  intro d m3 cm last kx cp
  cases d with
  | zero => exact pk_none
  | succ d =>
    have e0 := KPX_nod kx hlo hν
    rw [hn] at e0
    have e1 : m3.2.2.1 16 ν = I ((3 : Nat) : Int) := (Prod.mk.inj e0).1
    have e2 : m3.2.2.1 17 ν = I (p : Nat) := (Prod.mk.inj (Prod.mk.inj e0).2).1
    have e3 : m3.2.2.1 18 ν = I (nm x : Nat) := (Prod.mk.inj (Prod.mk.inj (Prod.mk.inj e0).2).2).1
    show PK _ (hm_Cm_expression N (hrc_Cm_fun N d) m3 (I (ν : Nat)) last)
    unfold hm_Cm_expression hb_Cm_expression_0
    rw [tnI (n := ν) rfl (by omega), e1, e2, e3]
    refine pk_ck (fun _ => pk_ck (fun _ => ?_))
    rw [show decide (I ((3 : Nat) : Int) = 1) = false from rfl, br_fq, show decide (I ((3 : Nat) : Int) = 2) = false from rfl, br_fq, show decide (I ((3 : Nat) : Int) = 3) = true from rfl, br_tq]
    refine pk_ck (fun _ => ?_)
    have bad : ∀ {sc2 : SCT} {Rf : Bool}, Rf = true → PK (fun m4 _ => CPO K nm p (p + 1) sc sc2 0 W Rf false (fun _ => False) cm m3 m4) (hb_Cm_expression_221 N (hrc_Cm_fun N d) () m3 (I (ν : Nat)) (I (p : Nat))) := fun {sc2 Rf} hRf => by
      unfold hb_Cm_expression_221 hb_Cm_expression_227 hb_Cm_expression_359
      refine pk_bnd (pk_mo (fault_p (N := N) (tk := p) (nb := 5) (by omega) (by omega)) (fun v r q => ?_))
      refine pk_bnd (fun w2 r2 x2 => pk_ck (fun _ => pk_bnd (fun w3 r3 x3 => pk_some ?_)))
      have f2 := yu_hm_Co_put (u0 := v) Ku_rf w2 r2 x2
      have f3 := yu_hm_Co_put (u0 := w2) Ku_rf w3 r3 x3
      exact Or.inl ⟨Or.inl hRf, Ku_s (Ku_s q.1 f2) f3, FRC_tr (FRC_tr ⟨fun k hk => q.2.1 k (by omega), fun k _ => by rw [q.2.2]⟩ (FRC_u f2)) (FRC_u f3)⟩
    by_cases hx0 : nm x = 0
    · rw [hx0, show decide (I ((0 : Nat) : Int) = 0) = true from rfl, br_tq]
      exact bad (by simp)
    · rw [decide_eq_false (p := I (nm x : Nat) = 0) (fun z => hx0 (i_inj (b := 0) (by have := hnm.2 x; omega) (by omega) z)), br_fq]
      refine pk_ck (fun _ => pk_bnd (pk_mo (isB_all (N := N) hnm cp.2.1 ok hx (by omega)) (fun v r q => ?_)))
      rcases q with ⟨q1, q2, q3⟩ | ⟨q1, q2, q3⟩
      · rw [decide_eq_true q1, br_tq, q2]
        exact bad (by rw [q3]; simp)
      · rw [q1, show decide ((1 : Int32) = 0) = false from rfl, br_fq, q3]
        unfold hb_Cm_expression_227 hb_Cm_expression_359
        refine pk_bnd (fun w2 r2 x2 => pk_ck (fun _ => pk_bnd (fun w3 r3 x3 => pk_some ?_)))
        have qq : NPE nm (sc.length - 1) (hld x sc) cm (upd (m3.2.2.1 42) p (I (lvx x sc : Nat))) false m3 (upA m3 42 (upd (m3.2.2.1 42) p (I (lvx x sc : Nat)))) := ⟨CNs_hld (CNs_42 cp.2.1), by rw [upA_no (by decide)]; exact cp.2.2.1, fun j _ => by rw [upA_no (by decide)], upA_at, C11_rf, rfl, rfl, rfl, ⟨fun _ _ => rfl, fun k hk => upA_no (by omega)⟩⟩
        refine CPO_ok ⟨by rw [q2]; simp [hx0], fun z => z⟩ ?_
        rw [if_pos ⟨hx0, q2⟩, wup_1 hK, hW hx0 q2, Nat.max_eq_left (Nat.zero_le cm)]
        exact NPE_u (NPE_u qq (yu_hm_Co_put Ku_rf w2 r2 x2)) (yu_hm_Co_put Ku_rf w3 r3 x3)
end
