set_option maxRecDepth 100000
def ND (w : MS) : Prop := ∃ a : Nat, w.1 32 = I (a : Nat) ∧ a ≤ 100000
def SMI : List Nat := [5, 9, 10, 11, 14, 17, 20, 65, 66, 67, 70, 72, 73, 75, 77, 83]
def SMX (k : Nat) : Prop := k < 23 ∨ (59 ≤ k ∧ k ≤ 64) ∨ k = 74 ∨ k = 76 ∨ (79 ≤ k ∧ k ≤ 82)
def SMS (w v : MS) : Prop := (∀ k, k ∈ SMI → v.1 k = w.1 k) ∧ (∀ k, SMX k → v.2.2.1 k = w.2.2.1 k) ∧ ∀ a : Nat, w.1 32 = I (a : Nat) → a ≤ 100000 → ∃ b : Nat, (v.1 32 = I (b : Nat) ∧ a ≤ b ∧ b ≤ 100000) ∧ NKP a w v ∧ ∀ j, a ≤ j → j < b → v.2.2.1 23 j ≠ 12 ∧ v.2.2.1 23 j ≠ 15
section
variable {α : Type} {Nk K W W2 : Nat → Nat} {p p2 p3 q q2 X Y a b c N k : Nat} {sc sc2 sc3 : SCT} {Rf Zf Rg Zg : Bool} {CL CM : Int32 × Int32 × Int32 → Prop} {w v u : MS} {x y : Int32} {g : Nat → Int32}
theorem SMS_rf : SMS w w := ⟨fun _ _ => rfl, fun _ _ => rfl, fun a h1 h2 => ⟨a, ⟨h1, Nat.le_refl _, h2⟩, NKP_rf, fun j h3 h4 => by omega⟩⟩
theorem SMS_nd (h : SMS w v) (n : ND w) : ND v := by
  obtain ⟨a, h1, h2⟩ := n
  obtain ⟨b, h3, -⟩ := h.2.2 a h1 h2
  exact ⟨b, h3.1, h3.2.2⟩
theorem SMS_tr (h : SMS w v) (k : SMS v u) : SMS w u := by
  refine ⟨fun j hj => (k.1 j hj).trans (h.1 j hj), fun j hj => (k.2.1 j hj).trans (h.2.1 j hj), fun a h1 h2 => ?_⟩
  obtain ⟨b, h3, h4, h5⟩ := h.2.2 a h1 h2
  obtain ⟨c, k3, k4, k5⟩ := k.2.2 b h3.1 h3.2.2
  refine ⟨c, ⟨k3.1, by omega, k3.2.2⟩, NKP_tr h4 k4 h3.2.1, fun j hj1 hj2 => ?_⟩
  by_cases z : j < b
  · rw [(k4 j z).1]; exact h5 j hj1 z
  · exact k5 j (by omega) hj2
theorem SMS_I (h : SMS w v) (hk : k ∉ SMI) (hk2 : k ≠ 32) : SMS w (upI v k x) := by
  refine ⟨fun j hj => ?_, fun j hj => h.2.1 j hj, fun a h1 h2 => ?_⟩
  · rw [upI_ne (by rintro rfl; exact hk hj)]; exact h.1 j hj
  · obtain ⟨b, h3, h4, h5⟩ := h.2.2 a h1 h2
    exact ⟨b, ⟨by rw [upI_ne (Ne.symm hk2)]; exact h3.1, h3.2⟩, h4, h5⟩
theorem SMS_A (h : SMS w v) (hk : ¬ SMX k) (hk2 : k ≠ 23 ∧ k ≠ 25 ∧ k ≠ 26 ∧ k ≠ 27) : SMS w (upA v k g) := by
  refine ⟨fun j hj => h.1 j hj, fun j hj => ?_, fun a h1 h2 => ?_⟩
  · rw [upA_no (by rintro rfl; exact hk hj)]; exact h.2.1 j hj
  · obtain ⟨b, h3, h4, h5⟩ := h.2.2 a h1 h2
    refine ⟨b, h3, fun j hj => ?_, fun j hj1 hj2 => ?_⟩
    · rw [upA_no (Ne.symm hk2.1), upA_no (Ne.symm hk2.2.1), upA_no (Ne.symm hk2.2.2.1), upA_no (Ne.symm hk2.2.2.2)]; exact h4 j hj
    · rw [upA_no (Ne.symm hk2.1)]; exact h5 j hj1 hj2
theorem SMS_J {gj : Nat → Int64} (h : SMS w v) : SMS w (upJ v k gj) := ⟨h.1, h.2.1, h.2.2⟩
theorem SMS_B (h : SMS w v) (hk : k = 25 ∨ k = 26 ∨ k = 27) (hc : v.2.2.1 23 a ≠ 12 ∧ v.2.2.1 23 a ≠ 15) : SMS w (upA v k (upd (v.2.2.1 k) a x)) := by
  have n23 : (upA v k (upd (v.2.2.1 k) a x)).2.2.1 23 = v.2.2.1 23 := upA_no (by omega)
  have oth : ∀ i, ∀ j, j ≠ a → (upA v k (upd (v.2.2.1 k) a x)).2.2.1 i j = v.2.2.1 i j := fun i j hj => by
    by_cases e : i = k
    · subst e; rw [upA_at, upd_no hj]
    · rw [upA_no e]
  refine ⟨fun j hj => h.1 j hj, fun j hj => ?_, fun a' h1 h2 => ?_⟩
  · rw [upA_no (by unfold SMX at hj; omega)]; exact h.2.1 j hj
  · obtain ⟨b, h3, h4, h5⟩ := h.2.2 a' h1 h2
    refine ⟨b, h3, fun j hj => ?_, fun j hj1 hj2 => by rw [n23]; exact h5 j hj1 hj2⟩
    rw [n23]
    refine ⟨(h4 j hj).1, fun z => ?_⟩
    have ne : j ≠ a := by
      intro e; subst e
      rw [← (h4 j hj).1] at z
      rcases z with z | z
      · exact hc.1 z
      · exact hc.2 z
    rw [oth 25 j ne, oth 26 j ne, oth 27 j ne]
    exact (h4 j hj).2 z
def NDI (w : MS) (a : Nat) (s : MS) : Prop := s.1 = w.1 ∧ (∀ k j, j ≠ a → s.2.2.1 k j = w.2.2.1 k j) ∧ ∀ k, k < 23 ∨ 30 < k → s.2.2.1 k = w.2.2.1 k
theorem nd_st {Q : MS → Int32 → Prop} {f : MS → Option (MS × Int32)} {n : Nat} {s : MS} (tn : (w.1 32).toNatClampNeg = a) (hk : 23 ≤ k ∧ k ≤ 30) (h : NDI w a s) (h2 : ∀ s', NDI w a s' → (k ≠ 23 → s'.2.2.1 23 = s.2.2.1 23) → s'.2.2.1 k a = y → PK Q (f s')) : PK Q (ck (inb (s.1 32) n) (lt (upA s k (upd (s.2.2.1 k) (s.1 32).toNatClampNeg y)) f)) := by
  refine pk_ck (fun _ => pk_lt ?_)
  have e : (s.1 32).toNatClampNeg = a := by rw [h.1]; exact tn
  rw [e]
  refine h2 _ ⟨h.1, fun i j hj => ?_, fun i hi => ?_⟩ (fun z => upA_no (Ne.symm z)) (by rw [upA_at, upd_at])
  · by_cases z : i = k
    · subst z; rw [upA_at, upd_no hj]; exact h.2.1 i j hj
    · rw [upA_no z]; exact h.2.1 i j hj
  · rw [upA_no (by omega)]; exact h.2.2 i hi
theorem node_p {kd tk : Int32} : PK (fun v r => ∃ a : Nat, (w.1 32 = I (a : Nat) ∧ a < 16000 ∧ r = I (a : Nat) ∧ v.1 32 = I ((a + 1 : Nat) : Int)) ∧ v.2.2.1 23 a = vp_nar .byte (kd.toInt8.toInt32) ∧ (∀ k j, j ≠ a → v.2.2.1 k j = w.2.2.1 k j) ∧ (∀ k, k ≠ 32 → v.1 k = w.1 k) ∧ ∀ k, k < 23 ∨ 30 < k → v.2.2.1 k = w.2.2.1 k) (fm_M_node N w kd tk) := by
  show PK _ (fb_M_node_0 N () w kd tk)
  unfold fb_M_node_0
  by_cases z : inb (w.1 32) (ln 23) = true
  · have z2 : inb (I (F w 32)) (ln 23) = true := by rw [← I_F]; exact z
    have z3 := (I_inb (n := ln 23) (x := F w 32) (by unfold F; exact Int32.le_toInt _) (by unfold F; exact Int32.toInt_lt _)).mp z2
    have l23 : ln 23 = 16000 := rfl
    rw [l23] at z3
    obtain ⟨a, ea, ha⟩ : ∃ a : Nat, w.1 32 = I (a : Nat) ∧ a < 16000 := ⟨(F w 32).toNat, by rw [show (((F w 32).toNat : Nat) : Int) = F w 32 by omega]; exact I_F, by omega⟩
    have tn : (w.1 32).toNatClampNeg = a := by rw [ea]; exact tnI rfl (by omega)
    refine nd_st (a := a) tn (by decide) ⟨rfl, fun _ _ _ => rfl, fun _ _ => rfl⟩ (fun s1 q1 _ y1 => ?_)
    refine nd_st (a := a) tn (by decide) q1 (fun s2 q2 k2 _ => ?_)
    refine nd_st (a := a) tn (by decide) q2 (fun s3 q3 k3 _ => ?_)
    refine nd_st (a := a) tn (by decide) q3 (fun s4 q4 k4 _ => ?_)
    refine nd_st (a := a) tn (by decide) q4 (fun s5 q5 k5 _ => ?_)
    refine nd_st (a := a) tn (by decide) q5 (fun s6 q6 k6 _ => ?_)
    refine nd_st (a := a) tn (by decide) q6 (fun s7 q7 k7 _ => ?_)
    refine nd_st (a := a) tn (by decide) q7 (fun s8 q8 k8 _ => ?_)
    refine pk_lt (pk_some ⟨a, ⟨ea, ha, ?_, ?_⟩, ?_, q8.2.1, fun k hk => ?_, q8.2.2⟩)
    · show (upI s8 32 (s8.1 32 + 1)).1 32 - 1 = _
      rw [upI_at, q8.1, ea]; exact Int32.add_sub_cancel _ _
    · rw [upI_at, q8.1, ea]; exact i_suc
    · show s8.2.2.1 23 a = _
      rw [k8 (by decide), k7 (by decide), k6 (by decide), k5 (by decide), k4 (by decide), k3 (by decide), k2 (by decide)]
      exact y1
    · rw [upI_ne hk, q8.1]
  · exact pk_ck (fun y => absurd y z)
theorem node_s {kd tk : Int32} (hk : vp_nar .byte (kd.toInt8.toInt32) ≠ 12 ∧ vp_nar .byte (kd.toInt8.toInt32) ≠ 15) : PK (fun v r => SMS w v ∧ v.1 69 = w.1 69 ∧ v.1 84 = w.1 84 ∧ ∃ a : Nat, (w.1 32 = I (a : Nat) ∧ a < 16000) ∧ r = I (a : Nat) ∧ v.1 32 = I ((a + 1 : Nat) : Int) ∧ v.2.2.1 23 a = vp_nar .byte (kd.toInt8.toInt32) ∧ r.toNatClampNeg = a) (fm_M_node N w kd tk) := by
  refine pk_mo node_p ?_
  rintro v r ⟨a, ⟨h1, h2, h3, h4⟩, h5, h6, h7, h8⟩
  refine ⟨⟨fun k hk => h7 k (by rintro rfl; revert hk; decide), fun k hk => h8 k (by unfold SMX at hk; omega), fun a' e1 _ => ?_⟩, h7 69 (by decide), h7 84 (by decide), a, ⟨h1, h2⟩, h3, h4, h5, by rw [h3]; exact tnI rfl (by omega)⟩
  have e : a' = a := by
    have := e1.symm.trans h1
    have := (I_eq (x := (a' : Nat)) (y := (a : Nat)) (by omega) (by omega) (by omega) (by omega)).mp this
    omega
  subst e
  refine ⟨a' + 1, ⟨h4, by omega, by omega⟩, fun j hj => ⟨h6 23 j (by omega), fun _ => ⟨h6 25 j (by omega), h6 26 j (by omega), h6 27 j (by omega)⟩⟩, fun j j1 j2 => ?_⟩
  have : j = a' := by omega
  subst this
  rw [h5]; exact hk
theorem STW_s (h : STW Nk K p p2 sc sc2 X W Rf Zf CL w v) (k : SMS v u) : STW Nk K p p2 sc sc2 X W Rf Zf CL w u := by
  obtain ⟨a1, a2, a3, a4, a5, a6, a7, a, b, a8, a9, a10⟩ := h
  obtain ⟨c, k3, k4, k5⟩ := k.2.2 b a8.2.1 a8.2.2.2
  refine ⟨RNs_e a1 (k.1 65 (by decide)) (fun j j1 j2 => k.2.1 j (by unfold SMX; omega)), a2, a3, a4, by rw [k.1 66 (by decide)]; exact a5, by rw [k.1 72 (by decide)]; exact a6, ?_, a, c, ⟨a8.1, k3.1, by omega, k3.2.2⟩, fun x => ?_, NKP_tr a10 k4 a8.2.2.1⟩
  · refine WFE_tr a7 ⟨fun j hj => k.1 j ?_, fun j hj => k.2.1 j (Or.inl hj), fun j _ => by rw [k.2.1 74 (by unfold SMX; omega)], fun j _ => by rw [k.2.1 76 (by unfold SMX; omega)], fun i i1 i2 j _ => by rw [k.2.1 i (by unfold SMX; omega)]⟩
    unfold SMI; simp only [List.mem_cons, List.not_mem_nil, or_false] at hj ⊢; omega
  · rw [CSY_split a8.2.2.1 k3.2.1, CSY_k k4, a9]
    constructor
    · rintro (z | ⟨j, j1, j2, -⟩)
      · exact z
      · exfalso
        rcases j2 with j2 | j2
        · exact (k5 j j1.1 j1.2).1 j2.1
        · exact (k5 j j1.1 j1.2).2 j2.1
    · exact Or.inl
theorem s_STW (n : ND w) (k : SMS w v) (h : STW Nk K p p2 sc sc2 X W Rf Zf CL v u) : STW Nk K p p2 sc sc2 X W Rf Zf CL w u := by
  obtain ⟨a1, a2, a3, a4, a5, a6, a7, a, b, a8, a9, a10⟩ := h
  obtain ⟨a0, n1, n2⟩ := n
  obtain ⟨c, k3, k4, k5⟩ := k.2.2 a0 n1 n2
  have e : c = a := by
    have := k3.1.symm.trans a8.1
    have := (I_eq (x := (c : Nat)) (y := (a : Nat)) (by omega) (by omega) (by omega) (by omega)).mp this
    omega
  subst e
  refine ⟨a1, a2, a3, a4, by rw [← k.1 66 (by decide)]; exact a5, by rw [← k.1 72 (by decide)]; exact a6, ?_, a0, b, ⟨n1, a8.2.1, by omega, a8.2.2.2⟩, fun x => ?_, NKP_tr k4 a10 k3.2.1⟩
  · refine WFE_tr ⟨fun j hj => k.1 j ?_, fun j hj => k.2.1 j (Or.inl hj), fun j _ => by rw [k.2.1 74 (by unfold SMX; omega)], fun j _ => by rw [k.2.1 76 (by unfold SMX; omega)], fun i i1 i2 j _ => by rw [k.2.1 i (by unfold SMX; omega)]⟩ a7
    unfold SMI; simp only [List.mem_cons, List.not_mem_nil, or_false] at hj ⊢; omega
  · rw [CSY_split k3.2.1 a8.2.2.1, a9]
    constructor
    · rintro (⟨j, j1, j2, -⟩ | z)
      · exfalso
        have := (a10 j j1.2).1
        rcases j2 with j2 | j2
        · exact (k5 j j1.1 j1.2).1 (this ▸ j2.1)
        · exact (k5 j j1.1 j1.2).2 (this ▸ j2.1)
      · exact z
    · exact Or.inr
theorem STW_nd (h : STW Nk K p p2 sc sc2 X W Rf Zf CL w v) : ND v := by
  obtain ⟨a1, a2, a3, a4, a5, a6, a7, a, b, a8, a9, a10⟩ := h
  exact ⟨b, a8.2.1, a8.2.2.2⟩
theorem STW_0 (hr : RNs w sc) (n : ND w) : STW Nk K p p sc sc 0 W false false (fun _ => False) w w := by
  obtain ⟨a, n1, n2⟩ := n
  refine ⟨hr, SCX_0 hr, HDs_no (fun j h1 h2 _ => by omega), ⟨by omega, by omega⟩, ?_, by simp, WFE_rf, a, a, ⟨n1, n1, Nat.le_refl _, n2⟩, fun x => ?_, NKP_rf⟩
  · show w.1 66 = 0 ↔ lgS sc 0 (w.1 66) = 0
    rw [lgS_0]
  · constructor
    · rintro ⟨j, j1, -⟩; omega
    · exact False.elim
theorem STW_gap (h : STW Nk K q q2 sc sc2 X W Rf Zf CL w v) (hq : p ≤ q ∧ q2 ≤ p2) (g1 : ∀ j, p ≤ j → j < q → K j ≠ 3) (g2 : ∀ j, q2 ≤ j → j < p2 → K j ≠ 3) : STW Nk K p p2 sc sc2 X W Rf Zf CL w v := by
  obtain ⟨a1, a2, a3, a4, a5, a6, a7, a8⟩ := h
  exact ⟨a1, a2, HDs_ext hq.1 hq.2 g1 g2 a3, ⟨by omega, a4.2⟩, a5, a6, a7, a8⟩
theorem STW_w (hw : ∀ j, p ≤ j → j < p2 → W2 j = W j) (h : STW Nk K p p2 sc sc2 X W Rf Zf CL w v) : STW Nk K p p2 sc sc2 X W2 Rf Zf CL w v := by
  obtain ⟨a1, a2, a3, a4, a5, a6, a7, a8⟩ := h
  exact ⟨a1, a2, HDs_w hw a3, a4, a5, a6, a7, a8⟩
theorem STW_cl (hc : ∀ x, CL x ↔ CM x) (h : STW Nk K p p2 sc sc2 X W Rf Zf CL w v) : STW Nk K p p2 sc sc2 X W Rf Zf CM w v := by
  obtain ⟨a1, a2, a3, a4, a5, a6, a7, a, b, a8, a9, a10⟩ := h
  exact ⟨a1, a2, a3, a4, a5, a6, a7, a, b, a8, fun x => (a9 x).trans (hc x), a10⟩
theorem rule_p {rn tk : Int32} (hr : rn ≠ 0) : PK (fun v (_ : Unit) => v.1 72 ≠ 0 ∧ (∀ k, k ≠ 71 → k ≠ 72 → v.1 k = w.1 k) ∧ v.2.2.1 = w.2.2.1) (fm_M_rule N w rn tk) := by
  show PK _ (fb_M_rule_0 N () w rn tk)
  unfold fb_M_rule_0
  have h31 : PK (fun v (_ : Unit) => v.1 72 ≠ 0 ∧ (∀ k, k ≠ 71 → k ≠ 72 → v.1 k = w.1 k) ∧ v.2.2.1 = w.2.2.1) (fb_M_rule_31 N () w rn tk) := by
    unfold fb_M_rule_31 fb_M_rule_41
    refine pk_lt (pk_lt (pk_some ⟨hr, fun k h1 h2 => ?_, rfl⟩))
    rw [upI_ne h1, upI_ne h2]
  refine pk_br (fun _ => h31) (fun z => ?_)
  have z := of_decide_eq_false z
  have h41 : PK (fun v (_ : Unit) => v.1 72 ≠ 0 ∧ (∀ k, k ≠ 71 → k ≠ 72 → v.1 k = w.1 k) ∧ v.2.2.1 = w.2.2.1) (fb_M_rule_41 N () w) := pk_some ⟨z, fun _ _ _ => rfl, rfl⟩
  exact pk_br (fun _ => h31) (fun _ => pk_br (fun _ => pk_br (fun _ => h41) (fun _ => h31)) (fun _ => h41))
theorem STW_rule (h : STW Nk K p p2 sc sc2 X W Rf Zf CL w v) (h72 : u.1 72 ≠ 0) (hi : ∀ k, k ≠ 71 → k ≠ 72 → u.1 k = v.1 k) (hr : u.2.2.1 = v.2.2.1) : STW Nk K p p2 sc sc2 X W true Zf CL w u := by
  obtain ⟨a1, a2, a3, a4, a5, a6, a7, a, b, a8, a9, a10⟩ := h
  refine ⟨RNs_e a1 (hi 65 (by decide) (by decide)) (fun k _ _ => by rw [hr]), a2, a3, a4, by rw [hi 66 (by decide) (by decide)]; exact a5, ⟨fun z => absurd z h72, fun z => absurd z.2 (by decide)⟩, ?_, a, b, ⟨a8.1, by rw [hi 32 (by decide) (by decide)]; exact a8.2.1, a8.2.2⟩, fun x => ?_, ?_⟩
  · refine WFE_tr a7 ⟨fun j hj => hi j (by rintro rfl; revert hj; decide) (by rintro rfl; revert hj; decide), fun j hj => by rw [hr], fun j _ => by rw [hr], fun j _ => by rw [hr], fun i i1 i2 j _ => by rw [hr]⟩
  · rw [← a9]; unfold CSY; rw [hr]
  · unfold NKP; rw [hr]; exact a10
theorem STW_k (hk : k = 70 ∨ k = 73) (h : STW Nk K p p2 sc sc2 X W Rf Zf CL (upI w k x) v) (hy : y = w.1 k) : STW Nk K p p2 sc sc2 X W Rf Zf CL w (upI v k y) := by
  obtain ⟨a1, a2, a3, a4, a5, a6, a7, a, b, a8, a9, a10⟩ := h
  have e66 : (upI w k x).1 66 = w.1 66 := upI_ne (by omega)
  have e72 : (upI w k x).1 72 = w.1 72 := upI_ne (by omega)
  have e32 : (upI w k x).1 32 = w.1 32 := upI_ne (by omega)
  rw [e66] at a5
  rw [e72] at a6
  rw [e32] at a8
  refine ⟨RNs_e a1 (upI_ne (by omega)) (fun _ _ _ => rfl), a2, a3, a4, by rw [upI_ne (by omega)]; exact a5, by rw [upI_ne (by omega)]; exact a6, ⟨fun j hj => ?_, fun j hj => a7.2.1 j hj, fun j hj => a7.2.2.1 j ?_, fun j hj => a7.2.2.2.1 j ?_, fun i i1 i2 j hj => a7.2.2.2.2 i i1 i2 j ?_⟩, a, b, ⟨a8.1, by rw [upI_ne (by omega)]; exact a8.2.1, a8.2.2⟩, fun x => a9 x, a10⟩
  · by_cases e : j = k
    · subst e; rw [upI_at]; exact hy
    · rw [upI_ne e, a7.1 j hj, upI_ne e]
  · rw [upI_ne (by omega)]; exact hj
  · rw [upI_ne (by omega)]; exact hj
  · rw [upI_ne (by omega)]; exact hj
end
