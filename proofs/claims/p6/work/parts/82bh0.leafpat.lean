set_option maxRecDepth 100000
def wup (g : Nat → Int32) (K W : Nat → Nat) (p p2 : Nat) : Nat → Int32 := fun j => if p ≤ j ∧ j < p2 ∧ K j = 3 then I (W j : Nat) else g j
def PTN (N : Nat) (K nm : Nat → Nat) (m2 : MS) (lo n2 ν : Nat) (own : Bool) (p p2 : Nat) (sc sc2 : SCT) (X : Nat) (W : Nat → Nat) : Prop := ∀ (d : Nat) (m3 : MS) (cm : Nat), KPX lo n2 ν m2 m3 → CNs m3 nm sc → m3.2.2.1 41 (sc.length - 1) = I (cm : Nat) → cm ≤ 4000 → decide (m3.1 713 = 0) = !own → tot sc + (p2 - p) ≤ 4000 → PK (fun m4 _ => NPQ nm (sc.length - 1) sc2 (max cm X) (wup (m3.2.2.1 42) K W p p2) m3 m4) ((hrc_Cm_listPattern N d).2 m3 (I (ν : Nat)))
section
variable {m v u m2 m3 : MS} {K nm W : Nat → Nat} {sc t : SCT} {e : List Nat × List Nat × Nat} {s x y N i f tok cm p p2 n2 ν lo : Nat} {own : Bool}
theorem wup_0 {g : Nat → Int32} (h : ∀ j, p ≤ j → j < p2 → K j ≠ 3) : wup g K W p p2 = g := by
  funext j
  unfold wup
  rw [if_neg (fun z => h j z.1 z.2.1 z.2.2)]
theorem wup_1 {g : Nat → Int32} (h : K p = 3) : wup g K W p (p + 1) = upd g p (I (W p : Nat)) := by
  funext j
  unfold wup
  by_cases z : j = p
  · rw [z, if_pos ⟨Nat.le_refl _, by omega, h⟩, upd_at]
  · rw [if_neg (fun y => z (by omega)), upd_no z]
theorem wup_tr {g : Nat → Int32} {q : Nat} (h1 : p ≤ q) (h2 : q ≤ p2) : wup (wup g K W p q) K W q p2 = wup g K W p p2 := by
  funext j
  unfold wup
  by_cases a : q ≤ j ∧ j < p2 ∧ K j = 3
  · rw [if_pos a, if_pos ⟨by omega, a.2⟩]
  · rw [if_neg a]
    by_cases b : p ≤ j ∧ j < q ∧ K j = 3
    · rw [if_pos b, if_pos ⟨b.1, by omega, b.2.2⟩]
    · rw [if_neg b, if_neg (fun z => by
        by_cases y : j < q
        · exact b ⟨z.1, y, z.2.2⟩
        · exact a ⟨by omega, z.2⟩)]
theorem wup_w {g : Nat → Int32} {W2 : Nat → Nat} (h : ∀ j, p ≤ j → j < p2 → W2 j = W j) : wup g K W2 p p2 = wup g K W p p2 := by
  funext j
  unfold wup
  by_cases a : p ≤ j ∧ j < p2 ∧ K j = 3
  · rw [if_pos a, if_pos a, h j a.1 a.2.1]
  · rw [if_neg a, if_neg a]
theorem NPQ_rf (c : CNs m nm sc) (hm : m.2.2.1 41 s = I (cm : Nat)) : NPQ nm s sc cm (m.2.2.1 42) m m := ⟨c, (upd_id hm).symm, rfl, NFR_rf⟩
theorem NPQ_tr {sc2 sc3 : SCT} {cm2 cm3 : Nat} {g g2 : Nat → Int32} (a : NPQ nm s sc2 cm2 g m v) (b : NPQ nm s sc3 cm3 g2 v u) : NPQ nm s sc3 cm3 g2 m u := ⟨b.1, by rw [b.2.1, a.2.1, upd_tw], b.2.2.1, NFR_tr a.2.2.2 b.2.2.2⟩
theorem KPX_n (h : KPX lo n2 ν m2 m3) (f : NFR m3 v) : KPX lo n2 ν m2 v := by
  refine ⟨fun j h0 hj => ?_, ⟨fun k hk => ?_, fun k hk => ?_⟩⟩
  · have a := h.1 j h0 hj
    have r : ∀ k, 16 ≤ k → k ≤ 21 → v.2.2.1 k = m3.2.2.1 k := fun k h1 h2 => f.2 k (by omega) (by omega) (by omega) (by omega)
    unfold nod at a ⊢
    rw [r 16 (by decide) (by decide), r 17 (by decide) (by decide), r 18 (by decide) (by decide), r 19 (by decide) (by decide), r 20 (by decide) (by decide), r 21 (by decide) (by decide)]
    exact a
  · rw [f.1 k (by omega) (by omega)]; exact h.2.1 k hk
  · rw [f.2 k (by omega) (by omega) (by omega) (by omega)]; exact h.2.2 k hk
theorem I_dn {a b : Nat} {s : Int32} (ha : a < 100) (hb : b < 100) (hs : s = I (b : Nat)) : decide (I (a : Nat) = s) = decide (a = b) := by
  rw [hs]
  by_cases z : a = b
  · rw [decide_eq_true z, decide_eq_true (by rw [z])]
  · rw [decide_eq_false z, decide_eq_false (fun y => z ((I_ne ha hb).mp y))]
theorem ptn_leaf {k : Nat} {a b c g : Int32} (hn : nod m2 ν = (I (k : Nat), a, b, c, g)) (hlo : lo < ν) (hν : ν ≤ n2) (hl : n2 ≤ 8015) (hk : k = 1 ∨ k = 2 ∨ k = 4) (h3 : ∀ j, p ≤ j → j < p2 → K j ≠ 3) : PTN N K nm m2 lo n2 ν own p p2 sc sc 0 W := by
  intro d m3 cm kx cn hm hc ho ht
  cases d with
  | zero => exact pk_none
  | succ d =>
    have e0 := KPX_nod kx hlo hν
    rw [hn] at e0
    have e1 : m3.2.2.1 16 ν = I (k : Nat) := (Prod.mk.inj e0).1
    show PK _ (hm_Cm_pattern N (hrc_Cm_listPattern N d) m3 (I (ν : Nat)))
    unfold hm_Cm_pattern hb_Cm_pattern_0 hb_Cm_pattern_298
    rw [tnI (n := ν) rfl (by omega), e1, wup_0 h3, Nat.max_eq_left (Nat.zero_le cm)]
    refine pk_ck (fun _ => ?_)
    have q0 := NPQ_rf cn hm
    rcases hk with rfl | rfl | rfl
    · rw [show decide (I ((1 : Nat) : Int) = 1) = true from rfl, br_tq]
      refine pk_bnd (fun w1 r1 e1 => pk_ck (fun _ => pk_bnd (fun w2 r2 e2 => pk_some ?_)))
      exact NPQ_kn (NPQ_kn q0 (yn_hm_Co_put (u0 := m3) Kn_rf w1 r1 e1)) (yn_hm_Cm_term (u0 := w1) Kn_rf w2 r2 e2)
    · rw [show decide (I ((2 : Nat) : Int) = 1) = false from rfl, br_fq, show decide (I ((2 : Nat) : Int) = 2) = true from rfl, br_tq]
      refine pk_bnd (fun w1 r1 e1 => pk_ck (fun _ => pk_bnd (fun w2 r2 e2 => pk_some ?_)))
      exact NPQ_kn (NPQ_kn q0 (yn_hm_Co_put (u0 := m3) Kn_rf w1 r1 e1)) (yn_hm_Cm_term (u0 := w1) Kn_rf w2 r2 e2)
    · rw [show decide (I ((4 : Nat) : Int) = 1) = false from rfl, br_fq, show decide (I ((4 : Nat) : Int) = 2) = false from rfl, br_fq, show decide (I ((4 : Nat) : Int) = 3) = false from rfl, br_fq, show decide (I ((4 : Nat) : Int) = 4) = true from rfl, br_tq]
      refine pk_bnd (fun w1 r1 e1 => pk_bnd (fun w2 r2 e2 => pk_some ?_))
      exact NPQ_kn (NPQ_kn q0 (yn_hm_Co_put (u0 := m3) Kn_rf w1 r1 e1)) (yn_hm_Cm_string (u0 := w1) Kn_rf w2 r2 e2)
theorem ptn_name {c g : Int32} (hnm : NMJ nm) (hn : nod m2 ν = (I ((3 : Nat) : Int), I (p : Nat), I (nm x : Nat), c, g)) (hlo : lo < ν) (hν : ν ≤ n2) (hl : n2 ≤ 8015) (ok : SOK (e :: t)) (hx : x < 1400) (hx0 : nm x ≠ 0) (hp : p ≤ 4000) (hK : K p = 3) (hW : W p = rfL own x (e :: t)) : PTN N K nm m2 lo n2 ν own p (p + 1) (e :: t) (rfP own x (e :: t)) (rfX own x (e :: t)) W := by
  intro d m3 cm kx cn hm hc ho ht
  cases d with
  | zero => exact pk_none
  | succ d =>
    have e0 := KPX_nod kx hlo hν
    rw [hn] at e0
    have e1 : m3.2.2.1 16 ν = I ((3 : Nat) : Int) := (Prod.mk.inj e0).1
    have e2 : m3.2.2.1 17 ν = I (p : Nat) := (Prod.mk.inj (Prod.mk.inj e0).2).1
    have e3 : m3.2.2.1 18 ν = I (nm x : Nat) := (Prod.mk.inj (Prod.mk.inj (Prod.mk.inj e0).2).2).1
    show PK _ (hm_Cm_pattern N (hrc_Cm_listPattern N d) m3 (I (ν : Nat)))
    unfold hm_Cm_pattern hb_Cm_pattern_0 hb_Cm_pattern_298
    rw [tnI (n := ν) rfl (by omega), e1, e2, e3, wup_1 hK, hW]
    refine pk_ck (fun _ => ?_)
    rw [show decide (I ((3 : Nat) : Int) = 1) = false from rfl, br_fq, show decide (I ((3 : Nat) : Int) = 2) = false from rfl, br_fq, show decide (I ((3 : Nat) : Int) = 3) = true from rfl, br_tq]
    refine pk_ck (fun _ => pk_ck (fun _ => pk_bnd ?_))
    exact pk_mo (nIP_c (N := N) hnm cn ok hx hx0 (by omega) (by omega) hm hc ho) (fun v _ q => pk_some q)
end
