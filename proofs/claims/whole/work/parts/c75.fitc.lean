/-! patterns are tried, there alone: frames; what cannot fit does not -/
set_option maxRecDepth 100000
/-- while patterns are tried: B0 names were bound at first -/
def NFx (p B0 : Nat) (m0 m : MS) : Prop := FIx p m0 m ∧ (∃ B1 : Nat, B0 ≤ B1 ∧ F m (pq p 24) = ((B1 : Nat) : Int) ∧ ((B1 : Nat) : Int) ≤ F m (pq p 43) ∧ ((B1 : Nat) : Int) ≤ F m (pq p 42)) ∧ ∀ i, i < B0 → m.2.2.1 (pq p 32) i = m0.2.2.1 (pq p 32) i ∧ m.2.2.2 (pq p 33) i = m0.2.2.2 (pq p 33) i
section
variable {N p i j f top cnt B0 B : Nat} {m m0 m2 m3 u : MS} {t x : Int64}
theorem NFx.c (h : NFx p B0 m0 m) : A m 23 = A m0 23 := by funext i; exact h.1.ag (by omega) (by simp)
theorem NFx.h (h : NFx p B0 m0 m) : m.2.2.2 (pq p 2) = m0.2.2.2 (pq p 2) := h.1.jq (by omega) (by simp)
theorem NFx.uj {k : Nat} {g : Nat → Int64} (h : NFx p B0 m0 m) (hk : k ∈ [44, 45, 46]) : NFx p B0 m0 (upJ m k g) := by
  have hk2 : k < 100 := by simp at hk; omega
  refine ⟨FC.J_g h.1 hk, h.2.1, fun i hi => ⟨(h.2.2 i hi).1, ?_⟩⟩
  rw [show (upJ m k g).2.2.2 (pq p 33) = m.2.2.2 (pq p 33) from if_neg (fun c => pq_n (by omega) c.symm)]
  exact (h.2.2 i hi).2
theorem kf_wo {M : Nat} : ∀ {m : MS} {v0 : Nat} {a b c d e : Int32}, PK (fun m2 _ => m2 = m) (hg_Wo_order N M m v0 a b c d e) := by
  induction M with
  | zero => intro m v0 a b c d e; exact pk_none
  | succ M ih =>
    intro m v0 a b c d e
    show PK _ (hb_Wo_order_36 N (hg_Wo_order N M) m v0 a b c d e)
    unfold hb_Wo_order_36 hb_Wo_order_94
    exact pk_br (fun _ => pk_some rfl) (fun _ => pk_br (fun _ => pk_some rfl) (fun _ => pk_ck (fun _ => pk_ck (fun _ => pk_ck (fun _ => pk_ck (fun _ => pk_br (fun _ => ih) (fun _ => pk_some rfl)))))))
theorem kf_cmp {a b : Int32} : PK (fun m2 _ => m2 = m) (hm_JI_compare N m a b) := by
  unfold hm_JI_compare hb_JI_compare_0 hb_JI_compare_19
  exact pk_br (fun _ => pk_br (fun _ => pk_some rfl) (fun _ => pk_some rfl)) (fun _ => pk_some rfl)
theorem kf_alone {v : Nat} : PK (fun m2 _ => m2 = m) (hm_Te_orderAlone N m v t x) := by
  unfold hm_Te_orderAlone hb_Te_orderAlone_0 hb_Te_orderAlone_62 hb_Te_orderAlone_75 hb_Te_orderAlone_107
  have tg : ∀ (u : MS) (z : Int64), hm_Te_tag N u z = some (u, (z >>> ((32 : Int32).toInt64 &&& 63)).toInt32) := fun _ _ => rfl
  rw [tg, bnd_so, tg, bnd_so]
  refine pk_br (fun _ => ?_) (fun _ => ?_)
  · refine pk_br (fun _ => pk_br (fun _ => pk_some rfl) (fun _ => ?_)) (fun _ => pk_br (fun _ => ?_) (fun _ => pk_br (fun _ => ?_) (fun _ => pk_br (fun _ => pk_some rfl) (fun _ => ?_))))
    · unfold hm_Wo_order hb_Wo_order_0
      refine pk_bnd (pk_ck (fun _ => pk_ck (fun _ => pk_ck (fun _ => pk_ck (fun _ => pk_mo kf_wo (fun w r h => ?_))))))
      exact pk_some h
    · exact pk_ck (fun _ => pk_ck (fun _ => pk_bnd (pk_mo kf_cmp (fun w r h => pk_some h))))
    · exact pk_ck (fun _ => pk_ck (fun _ => pk_bnd (pk_mo kf_cmp (fun w r h => pk_some h))))
    · exact pk_bnd (pk_mo kf_cmp (fun w r h => pk_some h))
  · rw [tg, bnd_so]
    exact pk_some rfl
theorem kf_cells {v : Nat} : PK (fun m2 _ => m2 = m) (hm_Te_cellsAt N m v t) := by
  unfold hm_Te_cellsAt hb_Te_cellsAt_0 hb_Te_cellsAt_49
  exact pk_lt (pk_br (fun _ => pk_some rfl) (fun _ => pk_br (fun _ => pk_ck (fun _ => pk_some rfl)) (fun _ => pk_br (fun _ => pk_ck (fun _ => pk_some rfl)) (fun _ => pk_some rfl))))
theorem kf_parts {a : Int32} : PK (fun m2 _ => m2 = m) (hm_Te_partsOf N m t a) := by
  unfold hm_Te_partsOf hb_Te_partsOf_0 hb_Te_partsOf_28
  rw [show hm_Te_tag N m t = some (m, (t >>> ((32 : Int32).toInt64 &&& 63)).toInt32) from rfl, bnd_so]
  exact pk_br (fun _ => pk_some rfl) (fun _ => pk_br (fun _ => pk_some rfl) (fun _ => pk_some rfl))
theorem kf_orderL {M : Nat} {s : Nat → Int64} : (∀ (u : MS) (v : Nat) (a b : Int32), NFx p B0 m0 u ∧ u.2.2.2 44 = s → PK (fun m2 _ => NFx p B0 m0 m2 ∧ m2.2.2.2 44 = s) ((hg_Te_order N M).1 u v a b)) ∧ ∀ (u : MS) (v : Nat) (a b c d e g : Int32), NFx p B0 m0 u ∧ u.2.2.2 44 = s → PK (fun m2 _ => NFx p B0 m0 m2 ∧ m2.2.2.2 44 = s) ((hg_Te_order N M).2 u v a b c d e g) := by
  induction M with
  | zero => exact ⟨fun _ _ _ _ _ => pk_none, fun _ _ _ _ _ _ _ _ _ => pk_none⟩
  | succ M ih =>
    refine ⟨fun u v a b h => ?_, fun u v a b c d e g h => ?_⟩
    · show PK _ (hb_Te_order_21 N (hg_Te_order N M) u v a b)
      unfold hb_Te_order_21 hb_Te_order_179
      refine pk_br (fun _ => pk_some h) (fun _ => pk_br (fun _ => pk_some h) (fun _ => pk_ck (fun _ => pk_ck (fun _ => pk_bnd (pk_mo kf_alone (fun w r e => ?_))))))
      subst e
      refine pk_br (fun _ => pk_ck (fun _ => pk_ck (fun _ => pk_ck (fun _ => pk_bnd (pk_mo kf_cells (fun w2 r2 e => ?_)))))) (fun _ => pk_some h)
      subst e
      refine pk_ck (fun _ => pk_bnd (pk_mo kf_parts (fun w3 r3 e => ?_)))
      subst e
      exact ih.2 _ _ _ _ _ _ _ _ h
    · show PK _ (hb_Te_order_121 N (hg_Te_order N M) u v a b c d e g)
      unfold hb_Te_order_121 hb_Te_order_173
      refine pk_br (fun _ => ih.1 _ _ _ _ h) (fun _ => pk_br (fun _ => ih.1 _ _ _ _ h) (fun _ => pk_ck (fun _ => pk_ck (fun _ => pk_lt (pk_ck (fun _ => pk_ck (fun _ => pk_lt ?_)))))))
      exact ih.2 _ _ _ _ _ _ _ _ ⟨(h.1.uj (by simp)).uj (by simp), h.2⟩
theorem kf_order {v : Nat} (h : NFx p B0 m0 m) : PK (fun m2 _ => NFx p B0 m0 m2 ∧ m2.2.2.2 44 = m.2.2.2 44) (hm_Te_order N m v t x) := by
  unfold hm_Te_order hb_Te_order_0
  refine pk_ck (fun _ => pk_lt (pk_ck (fun _ => pk_lt ?_)))
  exact kf_orderL.1 _ _ _ _ ⟨(h.uj (by simp)).uj (by simp), rfl⟩
theorem kf_termL {M : Nat} : ∀ (a b : Int32), PK (fun m2 _ => m2 = m) (hg_Fr_termOf N M m p a b) := by
  induction M with
  | zero => intro _ _; exact pk_none
  | succ M ih =>
    intro a b
    show PK _ (hb_Fr_termOf_7 N (hg_Fr_termOf N M) m p a b)
    unfold hb_Fr_termOf_7
    exact pk_br (fun _ => pk_some rfl) (fun _ => pk_ck (fun _ => pk_br (fun _ => pk_ck (fun _ => pk_some rfl)) (fun _ => ih _ _)))
theorem kf_term {a : Int32} : PK (fun m2 _ => m2 = m) (hm_Fr_termOf N m p a) := by
  unfold hm_Fr_termOf hb_Fr_termOf_0
  exact kf_termL _ _
theorem Co_u {a : Int32} : PK (fun m2 _ => m2 = m) (hm_Co_at N m a) := by
  obtain ⟨r, hr⟩ := Co_any (N := N) (u := m) a
  rw [hr]
  exact pk_some rfl
theorem kf_strL {M : Nat} : ∀ (a b c : Int32) (z : Int64), PK (fun m2 _ => m2 = m) (hg_Ma_fitsString N M m p a z b c) := by
  induction M with
  | zero => intro _ _ _ _; exact pk_none
  | succ M ih =>
    intro a b c z
    show PK _ (hb_Ma_fitsString_18 N (hg_Ma_fitsString N M) m p a z b c)
    unfold hb_Ma_fitsString_18 hb_Ma_fitsString_107
    have tg : ∀ (u : MS) (z : Int64), hm_Te_tag N u z = some (u, (z >>> ((32 : Int32).toInt64 &&& 63)).toInt32) := fun _ _ => rfl
    rw [tg, bnd_so, bnd_so]
    refine pk_br (fun _ => pk_br (fun _ => pk_ck (fun _ => pk_some rfl)) (fun _ => pk_ck (fun _ => pk_some rfl))) (fun _ => pk_br (fun _ => pk_ck (fun _ => pk_bnd (pk_mo Co_u (fun w r e => ?_)))) (fun _ => pk_ck (fun _ => pk_some rfl)))
    subst e
    rw [I_of r, lit0, e_make, bnd_so]
    exact pk_br (fun _ => pk_ck (fun _ => ih _ _ _ _)) (fun _ => pk_ck (fun _ => pk_some rfl))
theorem kf_str {a : Int32} : PK (fun m2 _ => m2 = m) (hm_Ma_fitsString N m p a t) := by
  unfold hm_Ma_fitsString hb_Ma_fitsString_0
  refine pk_bnd (pk_mo Co_u (fun w r e => ?_))
  subst e
  exact kf_strL _ _ _ _
/-- one more name -/
theorem bindc_m {a : Int32} (hB : F m (pq p 24) = ((B : Nat) : Int)) (h43 : ((B : Nat) : Int) ≤ F m (pq p 43)) (h42 : ((B : Nat) : Int) ≤ F m (pq p 42)) : PK (fun m2 (_ : Unit) => FIx p m m2 ∧ m2.2.2.2 44 = m.2.2.2 44 ∧ F m2 (pq p 24) = ((B + 1 : Nat) : Int) ∧ (((B + 1 : Nat) : Int) ≤ F m2 (pq p 43) ∧ ((B + 1 : Nat) : Int) ≤ F m2 (pq p 42)) ∧ (∀ i, i ≤ B → m2.2.2.1 (pq p 32) i = if i = B then a else m.2.2.1 (pq p 32) i) ∧ ∀ i, i ≤ B → m2.2.2.2 (pq p 33) i = if i = B then t else m.2.2.2 (pq p 33) i) (hm_Fr_bind N m p a t) := by
  have rB := F_r m (pq p 24)
  rw [hB] at rB
  unfold hm_Fr_bind hb_Fr_bind_0
  have core : ∀ u : MS, FIx p m u → u.2.2.2 44 = m.2.2.2 44 → F u (pq p 24) = ((B : Nat) : Int) → (∀ i, i < B → u.2.2.1 (pq p 32) i = m.2.2.1 (pq p 32) i) → (∀ i, i < B → u.2.2.2 (pq p 33) i = m.2.2.2 (pq p 33) i) → PK (fun m2 (_ : Unit) => FIx p m m2 ∧ m2.2.2.2 44 = m.2.2.2 44 ∧ F m2 (pq p 24) = ((B + 1 : Nat) : Int) ∧ (((B + 1 : Nat) : Int) ≤ F m2 (pq p 43) ∧ ((B + 1 : Nat) : Int) ≤ F m2 (pq p 42)) ∧ (∀ i, i ≤ B → m2.2.2.1 (pq p 32) i = if i = B then a else m.2.2.1 (pq p 32) i) ∧ ∀ i, i ≤ B → m2.2.2.2 (pq p 33) i = if i = B then t else m.2.2.2 (pq p 33) i) (hb_Fr_bind_48 N () u p a t) := fun u f s4 hu r1 r2 => by
    unfold hb_Fr_bind_48
    refine pk_ck (fun c1 => pk_lt (pk_ck (fun c2 => pk_lt (pk_lt (pk_some ?_)))))
    have e24 : u.1 (pq p 24) = I ((B : Nat) : Int) := I_F' hu
    have tB : (I ((B : Nat) : Int)).toNatClampNeg = B := tnI rfl (by omega)
    have c1' : B < lnQ u p 42 := by
      have := inb_lt c1
      rw [e24, tB] at this
      exact this
    have c2' : B < lnQ u p 43 := by
      have := inb_lt c2
      rw [show (upA u (pq p 32) (upd (u.2.2.1 (pq p 32)) (u.1 (pq p 24)).toNatClampNeg a)).1 (pq p 24) = u.1 (pq p 24) from rfl, e24, tB] at this
      exact this
    have ln : ∀ k, B < lnQ u p k → ((B + 1 : Nat) : Int) ≤ F u (pq p k) := fun k h => by
      have r := F_r u (pq p k)
      unfold lnQ at h
      rw [I_F (k := pq p k), I_tn r.1 r.2] at h
      omega
    have b42 := ln 42 c1'
    have b43 := ln 43 c2'
    have r42 := F_r u (pq p 42)
    have e25 : (upJ (upA u (pq p 32) (upd (u.2.2.1 (pq p 32)) (u.1 (pq p 24)).toNatClampNeg a)) (pq p 33) (vp_updL ((upA u (pq p 32) (upd (u.2.2.1 (pq p 32)) (u.1 (pq p 24)).toNatClampNeg a)).2.2.2 (pq p 33)) ((upA u (pq p 32) (upd (u.2.2.1 (pq p 32)) (u.1 (pq p 24)).toNatClampNeg a)).1 (pq p 24)).toNatClampNeg t)).1 (pq p 24) = I ((B : Nat) : Int) := e24
    rw [e25, show I ((B : Nat) : Int) + 1 = I ((B + 1 : Nat) : Int) from addN, wi_e]
    refine ⟨FC.wi_q (FC.J_q (FC.A_q f (by omega) (by simp)) (by omega) (by simp)) (by omega) (by simp), ?_, wi_sm (by omega) (by omega), ⟨?_, ?_⟩, fun i hi => ?_, fun i hi => ?_⟩
    · show (if (44 : Nat) = pq p 33 then _ else u.2.2.2 44) = _
      rw [if_neg (pq_n (by omega))]
      exact s4
    · rw [wi_ne (pq_inj (by omega))]
      exact b43
    · rw [wi_ne (pq_inj (by omega))]
      exact b42
    · show (if pq p 32 = pq p 32 then upd (u.2.2.1 (pq p 32)) (u.1 (pq p 24)).toNatClampNeg a else _) i = _
      rw [if_pos rfl, e24, tB]
      show (if i = B then a else u.2.2.1 (pq p 32) i) = _
      by_cases c : i = B
      · rw [if_pos c, if_pos c]
      · rw [if_neg c, if_neg c]
        exact r1 i (by omega)
    · show (if pq p 33 = pq p 33 then vp_updL (u.2.2.2 (pq p 33)) (u.1 (pq p 24)).toNatClampNeg t else _) i = _
      rw [if_pos rfl, e24, tB]
      show (if i = B then t else u.2.2.2 (pq p 33) i) = _
      by_cases c : i = B
      · rw [if_pos c, if_pos c]
      · rw [if_neg c, if_neg c]
        exact r2 i (by omega)
  refine pk_br (fun _ => core m FC.rf rfl hB (fun _ _ => rfl) (fun _ _ => rfl)) (fun _ => pk_ck (fun g1 => pk_lt (pk_ck (fun g2 => pk_lt ?_))))
  have gr : ∀ {v : Int32}, grw v = true → 32 ≤ v.toInt ∧ v.toInt ≤ 33554432 := fun {v} h => by
    have := of_decide_eq_true h
    rw [Int32.le_iff_toInt_le, Int32.le_iff_toInt_le] at this
    exact this
  have q43 := gr g1
  obtain ⟨k, hk⟩ : ∃ k : Nat, F m (pq p 43) = ((k : Nat) : Int) := ⟨(F m (pq p 43)).toNat, by have : 32 ≤ F m (pq p 43) := q43.1; omega⟩
  have kb : k < 1000000000 := by have : F m (pq p 43) ≤ 33554432 := q43.2; omega
  obtain ⟨g, eg, gg⟩ := gJ_e (u := m) (q := p) (l := 43) (k := k) (j := 33) hk kb
  have e42 : (gJm m p 33 43).1 (pq p 42) = m.1 (pq p 42) := by
    rw [eg, wi_1 (pq_inj (by omega))]
    rfl
  rw [e42] at g2
  have q42 := gr g2
  obtain ⟨l, hl⟩ : ∃ l : Nat, F m (pq p 42) = ((l : Nat) : Int) := ⟨(F m (pq p 42)).toNat, by have : 32 ≤ F m (pq p 42) := q42.1; omega⟩
  have lb : l < 1000000000 := by have : F m (pq p 42) ≤ 33554432 := q42.2; omega
  have hl2 : F (gJm m p 33 43) (pq p 42) = ((l : Nat) : Int) := (congrArg Int32.toInt e42).trans hl
  obtain ⟨g', eg', gg'⟩ := gI_e (u := gJm m p 33 43) (q := p) (l := 42) (k := l) (j := 32) hl2 lb
  rw [eg', eg]
  refine core _ (FC.wi_q (FC.A_q (FC.wi_q (FC.J_q FC.rf (by omega) (by simp)) (by omega) (by simp)) (by omega) (by simp)) (by omega) (by simp)) ?_ ?_ (fun i hi => ?_) (fun i hi => ?_)
  · show (if (44 : Nat) = pq p 33 then g else m.2.2.2 44) = _
    exact if_neg (pq_n (by omega))
  · rw [wi_ne (pq_inj (by omega))]
    show F (wi (upJ m (pq p 33) g) (pq p 43) ((2 * k : Nat) : Int)) (pq p 24) = _
    rw [wi_ne (pq_inj (by omega))]
    exact hB
  · show (if pq p 32 = pq p 32 then g' else _) i = _
    rw [if_pos rfl, gg' i (by omega), eg]
    rfl
  · show (if pq p 33 = pq p 33 then g else _) i = _
    rw [if_pos rfl]
    exact gg i (by omega)
theorem kf_bind {a : Int32} (h : NFx p B0 m0 m) : PK (fun m2 (_ : Unit) => NFx p B0 m0 m2 ∧ m2.2.2.2 44 = m.2.2.2 44) (hm_Fr_bind N m p a t) := by
  obtain ⟨h1, ⟨B1, b1, b2, b3, b4⟩, h3⟩ := h
  refine pk_mo (bindc_m b2 b3 b4) (fun m2 _ z => ?_)
  obtain ⟨z1, z2, z3, z4, z5, z6⟩ := z
  refine ⟨⟨FIx.tr h1 z1, ⟨B1 + 1, by omega, z3, z4.1, z4.2⟩, fun i hi => ⟨?_, ?_⟩⟩, z2⟩
  · rw [z5 i (by omega), if_neg (by omega)]; exact (h3 i hi).1
  · rw [z6 i (by omega), if_neg (by omega)]; exact (h3 i hi).2
end
section
variable {N p B0 : Nat} {m0 : MS} {Q : MS → Int32 → Prop}
/-- what stays while patterns are tried: the stack below -/
def KFb (p B0 : Nat) (m0 : MS) (s : Nat → Int64) (top : Nat) (m : MS) : Prop := NFx p B0 m0 m ∧ ∀ k, k < top → m.2.2.2 44 k = s k
theorem KFb_k {s : Nat → Int64} {top top2 : Nat} {m m2 : MS} (a : KFb p B0 m0 s top m) (k : NFx p B0 m0 m2 ∧ m2.2.2.2 44 = m.2.2.2 44) (ht : top2 ≤ top) : KFb p B0 m0 s top2 m2 := ⟨k.1, fun i hi => by rw [k.2]; exact a.2 i (by omega)⟩
theorem KFb_l {s : Nat → Int64} {top top2 : Nat} {m : MS} (a : KFb p B0 m0 s top m) (ht : top2 ≤ top) : KFb p B0 m0 s top2 m := KFb_k a ⟨a.1, rfl⟩ ht
theorem KFb_w {s : Nat → Int64} {top : Nat} {m : MS} {z : Int64} (a : KFb p B0 m0 s top m) : KFb p B0 m0 (fun k => if k = top then z else s k) (top + 1) (upJ m 44 (vp_updL (m.2.2.2 44) top z)) := by
  refine ⟨a.1.uj (by simp), fun k hk => ?_⟩
  rw [show (upJ m 44 (vp_updL (m.2.2.2 44) top z)).2.2.2 44 k = if k = top then z else m.2.2.2 44 k from wj_row]
  by_cases c : k = top
  · rw [if_pos c]
    exact (if_pos c).symm
  · rw [if_neg c]
    show m.2.2.2 44 k = (if k = top then z else s k)
    rw [if_neg c]
    exact a.2 k (by omega)
/-- parts of a TUPLE come on the stack -/
theorem tup_push {v4 v6 : Int32} {z : Int64} {nn : Nat} (hv : va z = ((vn z : Nat) : Int)) (hv2 : vn z + nn < 100000) (hn : nn ≤ 8) : ∀ (d M top : Nat) (s : Nat → Int64) (m : MS), d ≤ nn → top + d < 200000 → KFb p B0 m0 s top m → (∀ (M2 : Nat) (m2 : MS), KFb p B0 m0 (fun k => if top ≤ k then m0.2.2.2 (pq p 2) (vn z + (d - (k - top))) else s k) (top + d) m2 → PK Q ((hg_Ma_fit N M2).1 m2 p (v4 + 2) (I ((top + d : Nat) : Int)) (v6 + 1))) → PK Q ((hg_Ma_fit N M).2 m p v4 (I ((top : Nat) : Int)) v6 z (I ((d : Nat) : Int))) := by
  intro d
  induction d with
  | zero =>
    intro M top s m _ ht kb k
    cases M with
    | zero => exact pk_none
    | succ M =>
      show PK Q (hb_Ma_fit_268 N (hg_Ma_fit N M) m p v4 (I ((top : Nat) : Int)) v6 z (I ((0 : Nat) : Int)))
      unfold hb_Ma_fit_268 hb_Ma_fit_364
      rw [show decide (I ((0 : Nat) : Int) ≤ 0) = true from rfl, br_t]
      refine k M m ⟨kb.1, fun i hi => ?_⟩
      show m.2.2.2 44 i = (if top ≤ i then m0.2.2.2 (pq p 2) (vn z + (0 - (i - top))) else s i)
      rw [if_neg (by omega)]
      exact kb.2 i (by omega)
  | succ d ih =>
    intro M top s m hd ht kb k
    cases M with
    | zero => exact pk_none
    | succ M =>
      show PK Q (hb_Ma_fit_268 N (hg_Ma_fit N M) m p v4 (I ((top : Nat) : Int)) v6 z (I ((d + 1 : Nat) : Int)))
      unfold hb_Ma_fit_268
      rw [lit0, decI (by omega) (by omega) (by omega) (by omega), decide_eq_false (by omega), br_f]
      refine pk_ck (fun _ => pk_ck (fun _ => pk_lt ?_))
      rw [valI, hv, addN, tnI (n := vn z + (d + 1)) rfl (by omega), tnI (n := top) rfl (by omega), show I ((top : Nat) : Int) + 1 = I ((top + 1 : Nat) : Int) from addN, show I ((d + 1 : Nat) : Int) + (-1) = I ((d : Nat) : Int) by rw [m1I, I_add]; congr 1; omega, kb.1.h]
      refine ih M (top + 1) _ _ (by omega) (by omega) (KFb_w kb) (fun M2 m2 kb2 => ?_)
      rw [show top + 1 + d = top + (d + 1) by omega] at kb2 ⊢
      refine k M2 m2 ⟨kb2.1, fun i hi => ?_⟩
      rw [kb2.2 i hi]
      dsimp only
      by_cases c : top + 1 ≤ i
      · rw [if_pos c]
        rw [show (if top ≤ i then m0.2.2.2 (pq p 2) (vn z + (d + 1 - (i - top))) else s i) = m0.2.2.2 (pq p 2) (vn z + (d + 1 - (i - top))) from if_pos (by omega)]
        rw [show d - (i - (top + 1)) = d + 1 - (i - top) by omega]
      · rw [if_neg c]
        by_cases c2 : i = top
        · rw [show (if i = top then m0.2.2.2 (pq p 2) (vn z + (d + 1)) else s i) = m0.2.2.2 (pq p 2) (vn z + (d + 1)) from if_pos c2]
          rw [show (if top ≤ i then m0.2.2.2 (pq p 2) (vn z + (d + 1 - (i - top))) else s i) = m0.2.2.2 (pq p 2) (vn z + (d + 1 - (i - top))) from if_pos (by omega)]
          rw [show d + 1 - (i - top) = d + 1 by omega]
        · rw [show (if i = top then m0.2.2.2 (pq p 2) (vn z + (d + 1)) else s i) = s i from if_neg c2]
          rw [show (if top ≤ i then m0.2.2.2 (pq p 2) (vn z + (d + 1 - (i - top))) else s i) = s i from if_neg (by omega)]
end
