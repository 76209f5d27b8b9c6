section
set_option maxRecDepth 100000
def WFE (w v : MS) : Prop := (∀ k, k ∈ [5, 9, 10, 11, 14, 17, 20, 65, 67, 70, 73, 75, 77, 83] → v.1 k = w.1 k) ∧ (∀ k, k < 23 → v.2.2.1 k = w.2.2.1 k) ∧ (∀ j, j < (w.1 75).toNatClampNeg → v.2.2.1 74 j = w.2.2.1 74 j) ∧ (∀ j, j < (w.1 77).toNatClampNeg → v.2.2.1 76 j = w.2.2.1 76 j) ∧ ∀ k, 79 ≤ k → k ≤ 82 → ∀ j, j < (w.1 83).toNatClampNeg → v.2.2.1 k j = w.2.2.1 k j
def CSY (w : MS) (a b : Nat) (x : Int32 × Int32 × Int32) : Prop := ∃ j, (a ≤ j ∧ j < b) ∧ ((w.2.2.1 23 j = 12 ∧ x.2.2 = if w.2.2.1 27 j = 1 then 1 else 0) ∨ (w.2.2.1 23 j = 15 ∧ x.2.2 = 2)) ∧ w.2.2.1 25 j = x.1 ∧ w.2.2.1 26 j = x.2.1
def NKP (a : Nat) (w v : MS) : Prop := ∀ j, j < a → v.2.2.1 23 j = w.2.2.1 23 j ∧ (w.2.2.1 23 j = 12 ∨ w.2.2.1 23 j = 15 → v.2.2.1 25 j = w.2.2.1 25 j ∧ v.2.2.1 26 j = w.2.2.1 26 j ∧ v.2.2.1 27 j = w.2.2.1 27 j)
def lgZ (sc : SCT) (X : Nat) (Zf : Bool) (g : Int32) : Int32 := if Zf then 1 else lgS sc X g
def STW (Nk K : Nat → Nat) (p p2 : Nat) (sc sc2 : SCT) (X : Nat) (W : Nat → Nat) (Rf Zf : Bool) (CL : Int32 × Int32 × Int32 → Prop) (w v : MS) : Prop := RNs v sc2 ∧ SCX sc sc2 X ∧ HDs Nk K W p p2 sc sc2 ∧ (tot sc2 ≤ tot sc + (p2 - p) ∧ X ≤ 1400) ∧ (v.1 66 = 0 ↔ lgZ sc X Zf (w.1 66) = 0) ∧ (v.1 72 = 0 ↔ w.1 72 = 0 ∧ Rf = false) ∧ WFE w v ∧ ∃ a b : Nat, (w.1 32 = I (a : Nat) ∧ v.1 32 = I (b : Nat) ∧ a ≤ b ∧ b ≤ 100000) ∧ (∀ x, CSY v a b x ↔ CL x) ∧ NKP a w v
section
variable {Nk K W W2 : Nat → Nat} {p p2 p3 X Y a b c : Nat} {sc sc2 sc3 : SCT} {Rf Zf Rg Zg : Bool} {CL CM : Int32 × Int32 × Int32 → Prop} {w v u : MS}
theorem WFE_rf : WFE w w := ⟨fun _ _ => rfl, fun _ _ => rfl, fun _ _ => rfl, fun _ _ => rfl, fun _ _ _ _ _ => rfl⟩
theorem WFE_tr (h : WFE w v) (k : WFE v u) : WFE w u := by
  obtain ⟨h1, h2, h3, h4, h5⟩ := h
  obtain ⟨k1, k2, k3, k4, k5⟩ := k
  refine ⟨fun j hj => (k1 j hj).trans (h1 j hj), fun j hj => (k2 j hj).trans (h2 j hj), fun j hj => (k3 j ?_).trans (h3 j hj), fun j hj => (k4 j ?_).trans (h4 j hj), fun q a b j hj => (k5 q a b j ?_).trans (h5 q a b j hj)⟩
  · rw [h1 75 (by decide)]; exact hj
  · rw [h1 77 (by decide)]; exact hj
  · rw [h1 83 (by decide)]; exact hj
theorem WFE_k (h : WFE w v) : Ktc w v := ⟨fun k hk => h.1 k (by unfold TIN at hk; simp only [List.mem_cons, List.not_mem_nil, or_false] at hk ⊢; omega), fun k hk => h.2.1 k (by unfold TRW at hk; simp only [List.mem_cons, List.not_mem_nil, or_false] at hk; omega)⟩
theorem NKP_rf : NKP a w w := fun _ _ => ⟨rfl, fun _ => ⟨rfl, rfl, rfl⟩⟩
theorem NKP_tr (h : NKP a w v) (k : NKP b v u) (hab : a ≤ b) : NKP a w u := fun j hj => by
  obtain ⟨h1, h2⟩ := h j hj
  obtain ⟨k1, k2⟩ := k j (by omega)
  refine ⟨k1.trans h1, fun z => ?_⟩
  obtain ⟨a1, a2, a3⟩ := h2 z
  obtain ⟨b1, b2, b3⟩ := k2 (by rw [h1]; exact z)
  exact ⟨b1.trans a1, b2.trans a2, b3.trans a3⟩
theorem CSY_k {x : Int32 × Int32 × Int32} (h : NKP b v u) : CSY u a b x ↔ CSY v a b x := by
  constructor
  · rintro ⟨j, hj, hk, h1, h2⟩
    obtain ⟨e, f⟩ := h j hj.2
    have z : v.2.2.1 23 j = 12 ∨ v.2.2.1 23 j = 15 := by
      rcases hk with hk | hk
      · exact Or.inl (by rw [← e]; exact hk.1)
      · exact Or.inr (by rw [← e]; exact hk.1)
    obtain ⟨f1, f2, f3⟩ := f z
    rw [f1] at h1
    rw [f2] at h2
    refine ⟨j, hj, ?_, h1, h2⟩
    rcases hk with hk | hk
    · exact Or.inl ⟨by rw [← e]; exact hk.1, by rw [hk.2, f3]⟩
    · exact Or.inr ⟨by rw [← e]; exact hk.1, hk.2⟩
  · rintro ⟨j, hj, hk, h1, h2⟩
    obtain ⟨e, f⟩ := h j hj.2
    have z : v.2.2.1 23 j = 12 ∨ v.2.2.1 23 j = 15 := by
      rcases hk with hk | hk
      · exact Or.inl hk.1
      · exact Or.inr hk.1
    obtain ⟨f1, f2, f3⟩ := f z
    refine ⟨j, hj, ?_, by rw [f1]; exact h1, by rw [f2]; exact h2⟩
    rcases hk with hk | hk
    · exact Or.inl ⟨by rw [e]; exact hk.1, by rw [hk.2, f3]⟩
    · exact Or.inr ⟨by rw [e]; exact hk.1, hk.2⟩
theorem CSY_split {x : Int32 × Int32 × Int32} (h1 : a ≤ b) (h2 : b ≤ c) : CSY u a c x ↔ CSY u a b x ∨ CSY u b c x := by
  constructor
  · rintro ⟨j, hj, h⟩
    by_cases z : j < b
    · exact Or.inl ⟨j, ⟨hj.1, z⟩, h⟩
    · exact Or.inr ⟨j, ⟨by omega, hj.2⟩, h⟩
  · rintro (⟨j, hj, h⟩ | ⟨j, hj, h⟩)
    · exact ⟨j, ⟨hj.1, by omega⟩, h⟩
    · exact ⟨j, ⟨by omega, hj.2⟩, h⟩
theorem lgZ_tr {g : Int32} (h : SCX sc sc2 X) : lgZ sc2 Y Zg (lgZ sc X Zf g) = lgZ sc (max X Y) (Zf || Zg) g := by
  unfold lgZ
  cases Zg
  · cases Zf
    · exact lgS_tr h
    · show lgS sc2 Y 1 = 1
      cases sc2 with
      | nil => rfl
      | cons e t =>
        show lgX e Y 1 = 1
        unfold lgX
        split <;> rfl
  · cases Zf <;> rfl
theorem lgZ_0 {g h : Int32} (e : g = 0 ↔ h = 0) : lgZ sc X Zf g = 0 ↔ lgZ sc X Zf h = 0 := by
  unfold lgZ
  cases Zf
  · cases sc with
    | nil => exact e
    | cons a b =>
      show lgX a X g = 0 ↔ lgX a X h = 0
      unfold lgX
      split
      · exact Iff.rfl
      · exact e
  · exact Iff.rfl
theorem STW_tr (h1 : p ≤ p2) (h2 : p2 ≤ p3) (h : STW Nk K p p2 sc sc2 X W Rf Zf CL w v) (k : STW Nk K p2 p3 sc2 sc3 Y W Rg Zg CM v u) : STW Nk K p p3 sc sc3 (max X Y) W (Rf || Rg) (Zf || Zg) (fun x => CL x ∨ CM x) w u := by
  obtain ⟨a1, a2, a3, a4, a5, a6, a7, a, b, a8, a9, a10⟩ := h
  obtain ⟨b1, b2, b3, b4, b5, b6, b7, b', c, b8, b9, b10⟩ := k
  have e : b' = b := by
    have := b8.1.symm.trans a8.2.1
    have := (I_eq (x := (b' : Nat)) (y := (b : Nat)) (by omega) (by omega) (by omega) (by omega)).mp this
    omega
  subst e
  refine ⟨b1, SCX_tr a2 b2, HDs_tr h1 h2 a3 b3, ⟨by omega, by omega⟩, by rw [b5, lgZ_0 a5, lgZ_tr a2], ?_, WFE_tr a7 b7, a, c, ⟨a8.1, b8.2.1, by omega, b8.2.2.2⟩, fun x => ?_, NKP_tr a10 b10 a8.2.2.1⟩
  · rw [b6, a6]
    cases Rf <;> cases Rg <;> simp
  · rw [CSY_split a8.2.2.1 b8.2.2.1, b9, CSY_k b10, a9]
end
end
section
set_option maxRecDepth 100000
def Kuc (u w : MS) : Prop := (∀ k, k ≠ 441 → w.1 k = u.1 k) ∧ (∀ k, k ≠ 23 → w.2.2.1 k = u.2.2.1 k) ∧ u.1 441 ≤ w.1 441
def KuE {α : Type} (u : MS) (o : Option (MS × α)) : Prop := ∀ w r, o = some (w, r) → Kuc u w
section
variable {α β : Type} {u0 u w : MS} {k : Nat}
theorem Ku_none : KuE u0 (none : Option (MS × α)) := fun _ _ e => by cases e
theorem Ku_some {r : α} (h : Kuc u0 w) : KuE u0 (some (w, r)) := fun _ _ e => by injection e with e; injection e with e1 _; exact e1 ▸ h
theorem Ku_br {b : Bool} {p q : Option (MS × α)} (h1 : KuE u0 p) (h2 : KuE u0 q) : KuE u0 (br b p q) := by cases b <;> assumption
theorem Ku_ck {b : Bool} {p : Option (MS × α)} (h1 : KuE u0 p) : KuE u0 (ck b p) := by
  cases b
  · exact Ku_none
  · exact h1
theorem Ku_bo {o : Option β} {f : β → Option (MS × α)} (h : ∀ j, KuE u0 (f j)) : KuE u0 (bo o f) := by
  cases o with
  | none => exact Ku_none
  | some j => exact h j
theorem Ku_bnd {o : Option (MS × β)} {f : MS → β → Option (MS × α)} (h1 : KuE u0 o) (h2 : ∀ w r, Kuc u0 w → KuE u0 (f w r)) : KuE u0 (bnd o f) := by
  cases o with
  | none => exact Ku_none
  | some x => exact h2 x.1 x.2 (h1 x.1 x.2 rfl)
theorem Ku_T {o : Option (MS × (β ⊕ Nat))} {f : MS → β → Option (MS × (α ⊕ Nat))} (h1 : KuE u0 o) (h2 : ∀ w r, Kuc u0 w → KuE u0 (f w r)) : KuE u0 (bTm o f) := by
  cases o with
  | none => exact Ku_none
  | some x =>
    obtain ⟨x, z⟩ := x
    cases z with
    | inl v => exact h2 x v (h1 x _ rfl)
    | inr k => exact Ku_some (h1 x _ rfl)
theorem Ku_H {o : Option (MS × (β ⊕ Nat))} {f : MS → β → Option (MS × α)} {g : MS → Option (MS × α)} (h1 : KuE u0 o) (h2 : ∀ w r, Kuc u0 w → KuE u0 (f w r)) (h3 : ∀ w, Kuc u0 w → KuE u0 (g w)) : KuE u0 (bHm o f g) := by
  cases o with
  | none => exact Ku_none
  | some x =>
    obtain ⟨x, z⟩ := x
    cases z with
    | inl v => exact h2 x v (h1 x _ rfl)
    | inr k =>
      show KuE u0 (if k = 3 then g x else none)
      split
      · exact h3 x (h1 x _ rfl)
      · exact Ku_none
theorem Ku_ltm {x : MS} {f : MS → Option (MS × α)} (h1 : Kuc u0 x) (h2 : ∀ w, Kuc u0 w → KuE u0 (f w)) : KuE u0 (lt x f) := h2 x h1
theorem Ku_ltv {x : β} {f : β → Option (MS × α)} (h2 : ∀ y, KuE u0 (f y)) : KuE u0 (lt x f) := h2 x
theorem Ku_L {v : Int64} (h : Kuc u0 u) : Kuc u0 (upL u k v) := h
theorem Ku_J {v : Nat → Int64} (h : Kuc u0 u) : Kuc u0 (upJ u k v) := h
theorem Ku_I {v : Int32} (h : Kuc u0 u) (hk : k = 441) (hv : u.1 441 ≤ v) : Kuc u0 (upI u k v) := ⟨fun j hj => (if_neg (by omega)).trans (h.1 j hj), h.2.1, by rw [hk, upI_at]; exact Int32.le_trans h.2.2 hv⟩
theorem Ku_A {v : Nat → Int32} (h : Kuc u0 u) (hk : k = 23) : Kuc u0 (upA u k v) := ⟨h.1, fun j hj => (if_neg (by omega)).trans (h.2.1 j hj), h.2.2⟩
theorem Ku_rf : Kuc u u := ⟨fun _ _ => rfl, fun _ _ => rfl, Int32.le_refl _⟩
end
section
variable {u0 u : MS} {N : Nat}
theorem yu_hb_Co_put_0 {G : Unit} {v1 : Int32} (h : Kuc u0 u) : KuE u0 (hb_Co_put_0 N G u v1) := by
  unfold hb_Co_put_0 hb_Co_put_30
  refine Ku_br (Ku_some h) ?_
  cases hb : inb (u.1 441) 24000 with
  | false => exact Ku_none
  | true =>
    refine Ku_some (Ku_I (Ku_A h rfl) rfl ?_)
    have f := F_r u 441
    have e : u.1 441 = I (F u 441) := I_F
    rw [e] at hb
    have hb := (I_inb f.1 f.2).mp hb
    show u.1 441 ≤ u.1 441 + 1
    rw [e, lit1q, I_add]
    exact (I_le f.1 f.2 (by omega) (by omega)).mpr (by omega)
theorem yu_hb_To_signAt_26 {G : Unit} {t0 : Int32} (h : Kuc u0 u)  : KuE u0 (hb_To_signAt_26 N G u t0) := by
  unfold hb_To_signAt_26
  repeat' (first | with_reducible assumption | with_reducible refine Ku_br ?_ ?_ | with_reducible refine Ku_bnd ?_ (fun _ _ _ => ?_) | with_reducible refine Ku_ck ?_ | with_reducible refine Ku_ltm ?_ (fun _ _ => ?_) | with_reducible refine Ku_some ?_ | with_reducible refine Ku_bo (fun _ => ?_) | with_reducible refine Ku_T ?_ (fun _ _ _ => ?_) | with_reducible refine Ku_H ?_ (fun _ _ _ => ?_) (fun _ _ => ?_) | with_reducible refine Ku_ltv (fun _ => ?_) | with_reducible refine Ku_I ?_ (by decide) | with_reducible refine Ku_A ?_ (by decide) | with_reducible refine Ku_J ?_ | with_reducible refine Ku_L ?_)
theorem yu_hb_To_signAt_12 {G : Unit} (h : Kuc u0 u)  : KuE u0 (hb_To_signAt_12 N G u) := by
  unfold hb_To_signAt_12
  repeat' (first | with_reducible assumption | with_reducible refine Ku_br ?_ ?_ | with_reducible refine Ku_bnd ?_ (fun _ _ _ => ?_) | with_reducible refine Ku_ck ?_ | with_reducible refine Ku_ltm ?_ (fun _ _ => ?_) | with_reducible refine Ku_some ?_ | with_reducible refine Ku_bo (fun _ => ?_) | with_reducible refine Ku_T ?_ (fun _ _ _ => ?_) | with_reducible refine Ku_H ?_ (fun _ _ _ => ?_) (fun _ _ => ?_) | with_reducible exact yu_hb_To_signAt_26 (by assumption) | with_reducible refine Ku_ltv (fun _ => ?_) | with_reducible refine Ku_I ?_ (by decide) | with_reducible refine Ku_A ?_ (by decide) | with_reducible refine Ku_J ?_ | with_reducible refine Ku_L ?_)
theorem yu_hb_To_signAt_0 {G : Unit} {v1 : Int32} (h : Kuc u0 u)  : KuE u0 (hb_To_signAt_0 N G u v1) := by
  unfold hb_To_signAt_0
  repeat' (first | with_reducible assumption | with_reducible refine Ku_br ?_ ?_ | with_reducible refine Ku_bnd ?_ (fun _ _ _ => ?_) | with_reducible refine Ku_ck ?_ | with_reducible refine Ku_ltm ?_ (fun _ _ => ?_) | with_reducible refine Ku_some ?_ | with_reducible refine Ku_bo (fun _ => ?_) | with_reducible refine Ku_T ?_ (fun _ _ _ => ?_) | with_reducible refine Ku_H ?_ (fun _ _ _ => ?_) (fun _ _ => ?_) | with_reducible exact yu_hb_To_signAt_12 (by assumption) | with_reducible exact yu_hb_To_signAt_26 (by assumption) | with_reducible refine Ku_ltv (fun _ => ?_) | with_reducible refine Ku_I ?_ (by decide) | with_reducible refine Ku_A ?_ (by decide) | with_reducible refine Ku_J ?_ | with_reducible refine Ku_L ?_)
theorem yu_hm_To_signAt {v1 : Int32} (h : Kuc u0 u)  : KuE u0 (hm_To_signAt N u v1) := by
  unfold hm_To_signAt
  exact yu_hb_To_signAt_0 h
theorem yu_hm_Co_put {v1 : Int32} (h : Kuc u0 u)  : KuE u0 (hm_Co_put N u v1) := by
  unfold hm_Co_put
  exact yu_hb_Co_put_0 h
theorem yu_hb_Co_hook_0 {G : Unit} {v1 : Int32} (h : Kuc u0 u)  : KuE u0 (hb_Co_hook_0 N G u v1) := by
  unfold hb_Co_hook_0
  repeat' (first | with_reducible assumption | with_reducible refine Ku_br ?_ ?_ | with_reducible refine Ku_bnd ?_ (fun _ _ _ => ?_) | with_reducible refine Ku_ck ?_ | with_reducible refine Ku_ltm ?_ (fun _ _ => ?_) | with_reducible refine Ku_some ?_ | with_reducible refine Ku_bo (fun _ => ?_) | with_reducible refine Ku_T ?_ (fun _ _ _ => ?_) | with_reducible refine Ku_H ?_ (fun _ _ _ => ?_) (fun _ _ => ?_) | with_reducible exact yu_hm_Co_put (by assumption) | with_reducible refine Ku_ltv (fun _ => ?_) | with_reducible refine Ku_I ?_ (by decide) | with_reducible refine Ku_A ?_ (by decide) | with_reducible refine Ku_J ?_ | with_reducible refine Ku_L ?_)
theorem yu_hm_Co_hook {v1 : Int32} (h : Kuc u0 u)  : KuE u0 (hm_Co_hook N u v1) := by
  unfold hm_Co_hook
  exact yu_hb_Co_hook_0 h
theorem yu_hb_Cm_term_0 {G : Unit} {v1 : Int32} {v2 : Int32} (h : Kuc u0 u)  : KuE u0 (hb_Cm_term_0 N G u v1 v2) := by
  unfold hb_Cm_term_0
  repeat' (first | with_reducible assumption | with_reducible refine Ku_br ?_ ?_ | with_reducible refine Ku_bnd ?_ (fun _ _ _ => ?_) | with_reducible refine Ku_ck ?_ | with_reducible refine Ku_ltm ?_ (fun _ _ => ?_) | with_reducible refine Ku_some ?_ | with_reducible refine Ku_bo (fun _ => ?_) | with_reducible refine Ku_T ?_ (fun _ _ _ => ?_) | with_reducible refine Ku_H ?_ (fun _ _ _ => ?_) (fun _ _ => ?_) | with_reducible exact yu_hm_Co_put (by assumption) | with_reducible refine Ku_ltv (fun _ => ?_) | with_reducible refine Ku_I ?_ (by decide) | with_reducible refine Ku_A ?_ (by decide) | with_reducible refine Ku_J ?_ | with_reducible refine Ku_L ?_)
theorem yu_hm_Cm_term {v1 : Int32} {v2 : Int32} (h : Kuc u0 u)  : KuE u0 (hm_Cm_term N u v1 v2) := by
  unfold hm_Cm_term
  exact yu_hb_Cm_term_0 h
theorem yu_hb_Cm_string_50 {G : (MS → Int32 → Int32 → Option (MS × Unit)) × (MS → Int32 → Int32 → Int32 → Option (MS × Unit))} {v2 : Int32} {v3 : Int32} {v4 : Int32} (h : Kuc u0 u) (hG0 : ∀ (u : MS) a0 a1, Kuc u0 u → KuE u0 (G.1 u a0 a1)) (hG1 : ∀ (u : MS) a0 a1 a2, Kuc u0 u → KuE u0 (G.2 u a0 a1 a2)) : KuE u0 (hb_Cm_string_50 N G u v2 v3 v4) := by
  unfold hb_Cm_string_50
  repeat' (first | with_reducible assumption | with_reducible refine Ku_br ?_ ?_ | with_reducible refine Ku_bnd ?_ (fun _ _ _ => ?_) | with_reducible refine Ku_ck ?_ | with_reducible refine Ku_ltm ?_ (fun _ _ => ?_) | with_reducible refine Ku_some ?_ | with_reducible refine Ku_bo (fun _ => ?_) | with_reducible refine Ku_T ?_ (fun _ _ _ => ?_) | with_reducible refine Ku_H ?_ (fun _ _ _ => ?_) (fun _ _ => ?_) | with_reducible exact yu_hm_To_signAt (by assumption) | with_reducible exact yu_hm_Co_put (by assumption) | with_reducible exact hG0 _ _ _ (by assumption) | with_reducible exact hG1 _ _ _ _ (by assumption) | with_reducible refine Ku_ltv (fun _ => ?_) | with_reducible refine Ku_I ?_ (by decide) | with_reducible refine Ku_A ?_ (by decide) | with_reducible refine Ku_J ?_ | with_reducible refine Ku_L ?_)
theorem yu_hb_Cm_string_39 {G : (MS → Int32 → Int32 → Option (MS × Unit)) × (MS → Int32 → Int32 → Int32 → Option (MS × Unit))} {v2 : Int32} {v3 : Int32} (h : Kuc u0 u) (hG0 : ∀ (u : MS) a0 a1, Kuc u0 u → KuE u0 (G.1 u a0 a1)) (hG1 : ∀ (u : MS) a0 a1 a2, Kuc u0 u → KuE u0 (G.2 u a0 a1 a2)) : KuE u0 (hb_Cm_string_39 N G u v2 v3) := by
  unfold hb_Cm_string_39
  repeat' (first | with_reducible assumption | with_reducible refine Ku_br ?_ ?_ | with_reducible refine Ku_bnd ?_ (fun _ _ _ => ?_) | with_reducible refine Ku_ck ?_ | with_reducible refine Ku_ltm ?_ (fun _ _ => ?_) | with_reducible refine Ku_some ?_ | with_reducible refine Ku_bo (fun _ => ?_) | with_reducible refine Ku_T ?_ (fun _ _ _ => ?_) | with_reducible refine Ku_H ?_ (fun _ _ _ => ?_) (fun _ _ => ?_) | with_reducible exact yu_hm_Co_put (by assumption) | with_reducible exact hG0 _ _ _ (by assumption) | with_reducible exact hG1 _ _ _ _ (by assumption) | with_reducible refine Ku_ltv (fun _ => ?_) | with_reducible refine Ku_I ?_ (by decide) | with_reducible refine Ku_A ?_ (by decide) | with_reducible refine Ku_J ?_ | with_reducible refine Ku_L ?_)
theorem yu_hb_Cm_string_12 {G : (MS → Int32 → Int32 → Option (MS × Unit)) × (MS → Int32 → Int32 → Int32 → Option (MS × Unit))} {v2 : Int32} {v3 : Int32} (h : Kuc u0 u) (hG0 : ∀ (u : MS) a0 a1, Kuc u0 u → KuE u0 (G.1 u a0 a1)) (hG1 : ∀ (u : MS) a0 a1 a2, Kuc u0 u → KuE u0 (G.2 u a0 a1 a2)) : KuE u0 (hb_Cm_string_12 N G u v2 v3) := by
  unfold hb_Cm_string_12
  repeat' (first | with_reducible assumption | with_reducible refine Ku_br ?_ ?_ | with_reducible refine Ku_bnd ?_ (fun _ _ _ => ?_) | with_reducible refine Ku_ck ?_ | with_reducible refine Ku_ltm ?_ (fun _ _ => ?_) | with_reducible refine Ku_some ?_ | with_reducible refine Ku_bo (fun _ => ?_) | with_reducible refine Ku_T ?_ (fun _ _ _ => ?_) | with_reducible refine Ku_H ?_ (fun _ _ _ => ?_) (fun _ _ => ?_) | with_reducible exact yu_hb_Cm_string_39 (by assumption) hG0 hG1 | with_reducible exact yu_hm_To_signAt (by assumption) | with_reducible exact hG0 _ _ _ (by assumption) | with_reducible exact hG1 _ _ _ _ (by assumption) | with_reducible refine Ku_ltv (fun _ => ?_) | with_reducible refine Ku_I ?_ (by decide) | with_reducible refine Ku_A ?_ (by decide) | with_reducible refine Ku_J ?_ | with_reducible refine Ku_L ?_)
theorem yu_hb_Cm_string_0 {G : (MS → Int32 → Int32 → Option (MS × Unit)) × (MS → Int32 → Int32 → Int32 → Option (MS × Unit))} {v1 : Int32} (h : Kuc u0 u) (hG0 : ∀ (u : MS) a0 a1, Kuc u0 u → KuE u0 (G.1 u a0 a1)) (hG1 : ∀ (u : MS) a0 a1 a2, Kuc u0 u → KuE u0 (G.2 u a0 a1 a2)) : KuE u0 (hb_Cm_string_0 N G u v1) := by
  unfold hb_Cm_string_0
  repeat' (first | with_reducible assumption | with_reducible refine Ku_br ?_ ?_ | with_reducible refine Ku_bnd ?_ (fun _ _ _ => ?_) | with_reducible refine Ku_ck ?_ | with_reducible refine Ku_ltm ?_ (fun _ _ => ?_) | with_reducible refine Ku_some ?_ | with_reducible refine Ku_bo (fun _ => ?_) | with_reducible refine Ku_T ?_ (fun _ _ _ => ?_) | with_reducible refine Ku_H ?_ (fun _ _ _ => ?_) (fun _ _ => ?_) | with_reducible exact hG0 _ _ _ (by assumption) | with_reducible exact hG1 _ _ _ _ (by assumption) | with_reducible refine Ku_ltv (fun _ => ?_) | with_reducible refine Ku_I ?_ (by decide) | with_reducible refine Ku_A ?_ (by decide) | with_reducible refine Ku_J ?_ | with_reducible refine Ku_L ?_)
theorem yu_hg_Cm_string  (n : Nat) : (∀ (u : MS) a0 a1, Kuc u0 u → KuE u0 ((hg_Cm_string N n).1 u a0 a1)) ∧ (∀ (u : MS) a0 a1 a2, Kuc u0 u → KuE u0 ((hg_Cm_string N n).2 u a0 a1 a2)) := by
  induction n with
  | zero => exact ⟨fun _ _ _ _ => Ku_none, fun _ _ _ _ _ => Ku_none⟩
  | succ n ih => exact ⟨fun _ _ _ h => yu_hb_Cm_string_12 (N := N) h ih.1 ih.2, fun _ _ _ _ h => yu_hb_Cm_string_50 (N := N) h ih.1 ih.2⟩
theorem yu_hm_Cm_string {v1 : Int32} (h : Kuc u0 u)  : KuE u0 (hm_Cm_string N u v1) := by
  unfold hm_Cm_string
  exact yu_hb_Cm_string_0 h ((yu_hg_Cm_string N).1) ((yu_hg_Cm_string N).2)
theorem yu_hb_Co_at_21 {G : Unit} {t0 : Int32} (h : Kuc u0 u)  : KuE u0 (hb_Co_at_21 N G u t0) := by
  unfold hb_Co_at_21
  repeat' (first | with_reducible assumption | with_reducible refine Ku_br ?_ ?_ | with_reducible refine Ku_bnd ?_ (fun _ _ _ => ?_) | with_reducible refine Ku_ck ?_ | with_reducible refine Ku_ltm ?_ (fun _ _ => ?_) | with_reducible refine Ku_some ?_ | with_reducible refine Ku_bo (fun _ => ?_) | with_reducible refine Ku_T ?_ (fun _ _ _ => ?_) | with_reducible refine Ku_H ?_ (fun _ _ _ => ?_) (fun _ _ => ?_) | with_reducible refine Ku_ltv (fun _ => ?_) | with_reducible refine Ku_I ?_ (by decide) | with_reducible refine Ku_A ?_ (by decide) | with_reducible refine Ku_J ?_ | with_reducible refine Ku_L ?_)
theorem yu_hb_Co_at_11 {G : Unit} (h : Kuc u0 u)  : KuE u0 (hb_Co_at_11 N G u) := by
  unfold hb_Co_at_11
  repeat' (first | with_reducible assumption | with_reducible refine Ku_br ?_ ?_ | with_reducible refine Ku_bnd ?_ (fun _ _ _ => ?_) | with_reducible refine Ku_ck ?_ | with_reducible refine Ku_ltm ?_ (fun _ _ => ?_) | with_reducible refine Ku_some ?_ | with_reducible refine Ku_bo (fun _ => ?_) | with_reducible refine Ku_T ?_ (fun _ _ _ => ?_) | with_reducible refine Ku_H ?_ (fun _ _ _ => ?_) (fun _ _ => ?_) | with_reducible exact yu_hb_Co_at_21 (by assumption) | with_reducible refine Ku_ltv (fun _ => ?_) | with_reducible refine Ku_I ?_ (by decide) | with_reducible refine Ku_A ?_ (by decide) | with_reducible refine Ku_J ?_ | with_reducible refine Ku_L ?_)
theorem yu_hb_Co_at_0 {G : Unit} {v1 : Int32} (h : Kuc u0 u)  : KuE u0 (hb_Co_at_0 N G u v1) := by
  unfold hb_Co_at_0
  repeat' (first | with_reducible assumption | with_reducible refine Ku_br ?_ ?_ | with_reducible refine Ku_bnd ?_ (fun _ _ _ => ?_) | with_reducible refine Ku_ck ?_ | with_reducible refine Ku_ltm ?_ (fun _ _ => ?_) | with_reducible refine Ku_some ?_ | with_reducible refine Ku_bo (fun _ => ?_) | with_reducible refine Ku_T ?_ (fun _ _ _ => ?_) | with_reducible refine Ku_H ?_ (fun _ _ _ => ?_) (fun _ _ => ?_) | with_reducible exact yu_hb_Co_at_11 (by assumption) | with_reducible exact yu_hb_Co_at_21 (by assumption) | with_reducible refine Ku_ltv (fun _ => ?_) | with_reducible refine Ku_I ?_ (by decide) | with_reducible refine Ku_A ?_ (by decide) | with_reducible refine Ku_J ?_ | with_reducible refine Ku_L ?_)
theorem yu_hm_Co_at {v1 : Int32} (h : Kuc u0 u)  : KuE u0 (hm_Co_at N u v1) := by
  unfold hm_Co_at
  exact yu_hb_Co_at_0 h
theorem yu_hb_Co_set_18 {G : Unit} (h : Kuc u0 u)  : KuE u0 (hb_Co_set_18 N G u) := by
  unfold hb_Co_set_18
  repeat' (first | with_reducible assumption | with_reducible refine Ku_br ?_ ?_ | with_reducible refine Ku_bnd ?_ (fun _ _ _ => ?_) | with_reducible refine Ku_ck ?_ | with_reducible refine Ku_ltm ?_ (fun _ _ => ?_) | with_reducible refine Ku_some ?_ | with_reducible refine Ku_bo (fun _ => ?_) | with_reducible refine Ku_T ?_ (fun _ _ _ => ?_) | with_reducible refine Ku_H ?_ (fun _ _ _ => ?_) (fun _ _ => ?_) | with_reducible refine Ku_ltv (fun _ => ?_) | with_reducible refine Ku_I ?_ (by decide) | with_reducible refine Ku_A ?_ (by decide) | with_reducible refine Ku_J ?_ | with_reducible refine Ku_L ?_)
theorem yu_hb_Co_set_0 {G : Unit} {v1 : Int32} {v2 : Int32} (h : Kuc u0 u)  : KuE u0 (hb_Co_set_0 N G u v1 v2) := by
  unfold hb_Co_set_0
  repeat' (first | with_reducible assumption | with_reducible refine Ku_br ?_ ?_ | with_reducible refine Ku_bnd ?_ (fun _ _ _ => ?_) | with_reducible refine Ku_ck ?_ | with_reducible refine Ku_ltm ?_ (fun _ _ => ?_) | with_reducible refine Ku_some ?_ | with_reducible refine Ku_bo (fun _ => ?_) | with_reducible refine Ku_T ?_ (fun _ _ _ => ?_) | with_reducible refine Ku_H ?_ (fun _ _ _ => ?_) (fun _ _ => ?_) | with_reducible exact yu_hb_Co_set_18 (by assumption) | with_reducible refine Ku_ltv (fun _ => ?_) | with_reducible refine Ku_I ?_ (by decide) | with_reducible refine Ku_A ?_ (by decide) | with_reducible refine Ku_J ?_ | with_reducible refine Ku_L ?_)
theorem yu_hm_Co_set {v1 : Int32} {v2 : Int32} (h : Kuc u0 u)  : KuE u0 (hm_Co_set N u v1 v2) := by
  unfold hm_Co_set
  exact yu_hb_Co_set_0 h
theorem yu_hb_Co_arrive_40 {G : (MS → Int32 → Int32 → Option (MS × Unit))} (h : Kuc u0 u) (hG0 : ∀ (u : MS) a0 a1, Kuc u0 u → KuE u0 (G u a0 a1)) : KuE u0 (hb_Co_arrive_40 N G u) := by
  unfold hb_Co_arrive_40
  repeat' (first | with_reducible assumption | with_reducible refine Ku_br ?_ ?_ | with_reducible refine Ku_bnd ?_ (fun _ _ _ => ?_) | with_reducible refine Ku_ck ?_ | with_reducible refine Ku_ltm ?_ (fun _ _ => ?_) | with_reducible refine Ku_some ?_ | with_reducible refine Ku_bo (fun _ => ?_) | with_reducible refine Ku_T ?_ (fun _ _ _ => ?_) | with_reducible refine Ku_H ?_ (fun _ _ _ => ?_) (fun _ _ => ?_) | with_reducible exact hG0 _ _ _ (by assumption) | with_reducible refine Ku_ltv (fun _ => ?_) | with_reducible refine Ku_I ?_ (by decide) | with_reducible refine Ku_A ?_ (by decide) | with_reducible refine Ku_J ?_ | with_reducible refine Ku_L ?_)
theorem yu_hb_Co_arrive_4 {G : (MS → Int32 → Int32 → Option (MS × Unit))} {v2 : Int32} {v3 : Int32} (h : Kuc u0 u) (hG0 : ∀ (u : MS) a0 a1, Kuc u0 u → KuE u0 (G u a0 a1)) : KuE u0 (hb_Co_arrive_4 N G u v2 v3) := by
  unfold hb_Co_arrive_4
  repeat' (first | with_reducible assumption | with_reducible refine Ku_br ?_ ?_ | with_reducible refine Ku_bnd ?_ (fun _ _ _ => ?_) | with_reducible refine Ku_ck ?_ | with_reducible refine Ku_ltm ?_ (fun _ _ => ?_) | with_reducible refine Ku_some ?_ | with_reducible refine Ku_bo (fun _ => ?_) | with_reducible refine Ku_T ?_ (fun _ _ _ => ?_) | with_reducible refine Ku_H ?_ (fun _ _ _ => ?_) (fun _ _ => ?_) | with_reducible exact yu_hb_Co_arrive_40 (by assumption) hG0 | with_reducible exact yu_hm_Co_set (by assumption) | with_reducible exact yu_hm_Co_at (by assumption) | with_reducible exact hG0 _ _ _ (by assumption) | with_reducible refine Ku_ltv (fun _ => ?_) | with_reducible refine Ku_I ?_ (by decide) | with_reducible refine Ku_A ?_ (by decide) | with_reducible refine Ku_J ?_ | with_reducible refine Ku_L ?_)
theorem yu_hb_Co_arrive_0 {G : (MS → Int32 → Int32 → Option (MS × Unit))} {v1 : Int32} (h : Kuc u0 u) (hG0 : ∀ (u : MS) a0 a1, Kuc u0 u → KuE u0 (G u a0 a1)) : KuE u0 (hb_Co_arrive_0 N G u v1) := by
  unfold hb_Co_arrive_0
  repeat' (first | with_reducible assumption | with_reducible refine Ku_br ?_ ?_ | with_reducible refine Ku_bnd ?_ (fun _ _ _ => ?_) | with_reducible refine Ku_ck ?_ | with_reducible refine Ku_ltm ?_ (fun _ _ => ?_) | with_reducible refine Ku_some ?_ | with_reducible refine Ku_bo (fun _ => ?_) | with_reducible refine Ku_T ?_ (fun _ _ _ => ?_) | with_reducible refine Ku_H ?_ (fun _ _ _ => ?_) (fun _ _ => ?_) | with_reducible exact hG0 _ _ _ (by assumption) | with_reducible refine Ku_ltv (fun _ => ?_) | with_reducible refine Ku_I ?_ (by decide) | with_reducible refine Ku_A ?_ (by decide) | with_reducible refine Ku_J ?_ | with_reducible refine Ku_L ?_)
theorem yu_hg_Co_arrive  (n : Nat) : (∀ (u : MS) a0 a1, Kuc u0 u → KuE u0 ((hg_Co_arrive N n) u a0 a1)) := by
  induction n with
  | zero => exact fun _ _ _ _ => Ku_none
  | succ n ih => exact fun _ _ _ h => yu_hb_Co_arrive_4 (N := N) h ih
theorem yu_hm_Co_arrive {v1 : Int32} (h : Kuc u0 u)  : KuE u0 (hm_Co_arrive N u v1) := by
  unfold hm_Co_arrive
  exact yu_hb_Co_arrive_0 h ((yu_hg_Co_arrive N))
end
end
section
set_option maxRecDepth 100000
def Kwc (u w : MS) : Prop := u.1 441 ≤ w.1 441
def KwE {α : Type} (u : MS) (o : Option (MS × α)) : Prop := ∀ w r, o = some (w, r) → Kwc u w
section
variable {α β : Type} {u0 u w : MS} {k : Nat}
theorem Kw_none : KwE u0 (none : Option (MS × α)) := fun _ _ e => by cases e
theorem Kw_some {r : α} (h : Kwc u0 w) : KwE u0 (some (w, r)) := fun _ _ e => by injection e with e; injection e with e1 _; exact e1 ▸ h
theorem Kw_br {b : Bool} {p q : Option (MS × α)} (h1 : KwE u0 p) (h2 : KwE u0 q) : KwE u0 (br b p q) := by cases b <;> assumption
theorem Kw_ck {b : Bool} {p : Option (MS × α)} (h1 : KwE u0 p) : KwE u0 (ck b p) := by
  cases b
  · exact Kw_none
  · exact h1
theorem Kw_bo {o : Option β} {f : β → Option (MS × α)} (h : ∀ j, KwE u0 (f j)) : KwE u0 (bo o f) := by
  cases o with
  | none => exact Kw_none
  | some j => exact h j
theorem Kw_bnd {o : Option (MS × β)} {f : MS → β → Option (MS × α)} (h1 : KwE u0 o) (h2 : ∀ w r, Kwc u0 w → KwE u0 (f w r)) : KwE u0 (bnd o f) := by
  cases o with
  | none => exact Kw_none
  | some x => exact h2 x.1 x.2 (h1 x.1 x.2 rfl)
theorem Kw_T {o : Option (MS × (β ⊕ Nat))} {f : MS → β → Option (MS × (α ⊕ Nat))} (h1 : KwE u0 o) (h2 : ∀ w r, Kwc u0 w → KwE u0 (f w r)) : KwE u0 (bTm o f) := by
  cases o with
  | none => exact Kw_none
  | some x =>
    obtain ⟨x, z⟩ := x
    cases z with
    | inl v => exact h2 x v (h1 x _ rfl)
    | inr k => exact Kw_some (h1 x _ rfl)
theorem Kw_H {o : Option (MS × (β ⊕ Nat))} {f : MS → β → Option (MS × α)} {g : MS → Option (MS × α)} (h1 : KwE u0 o) (h2 : ∀ w r, Kwc u0 w → KwE u0 (f w r)) (h3 : ∀ w, Kwc u0 w → KwE u0 (g w)) : KwE u0 (bHm o f g) := by
  cases o with
  | none => exact Kw_none
  | some x =>
    obtain ⟨x, z⟩ := x
    cases z with
    | inl v => exact h2 x v (h1 x _ rfl)
    | inr k =>
      show KwE u0 (if k = 3 then g x else none)
      split
      · exact h3 x (h1 x _ rfl)
      · exact Kw_none
theorem Kw_ltm {x : MS} {f : MS → Option (MS × α)} (h1 : Kwc u0 x) (h2 : ∀ w, Kwc u0 w → KwE u0 (f w)) : KwE u0 (lt x f) := h2 x h1
theorem Kw_ltv {x : β} {f : β → Option (MS × α)} (h2 : ∀ y, KwE u0 (f y)) : KwE u0 (lt x f) := h2 x
theorem Kw_I {v : Int32} (h : Kwc u0 u) (hk : k ≠ 441) : Kwc u0 (upI u k v) := by
  unfold Kwc at h ⊢
  rw [upI_ne (Ne.symm hk)]
  exact h
theorem Kw_L {v : Int64} (h : Kwc u0 u) : Kwc u0 (upL u k v) := h
theorem Kw_J {v : Nat → Int64} (h : Kwc u0 u) : Kwc u0 (upJ u k v) := h
theorem Kw_A {v : Nat → Int32} (h : Kwc u0 u) (_ : True) : Kwc u0 (upA u k v) := h
end
section
variable {u0 u : MS} {N : Nat}
theorem yw_hb_Co_put_0 {G : Unit} {v1 : Int32} (h : Kwc u0 u) : KwE u0 (hb_Co_put_0 N G u v1) := fun w r e => Int32.le_trans h (yu_hb_Co_put_0 (u0 := u) Ku_rf w r e).2.2
theorem yw_hb_To_signAt_26 {G : Unit} {t0 : Int32} (h : Kwc u0 u)  : KwE u0 (hb_To_signAt_26 N G u t0) := by
  unfold hb_To_signAt_26
  repeat' (first | with_reducible assumption | with_reducible refine Kw_br ?_ ?_ | with_reducible refine Kw_bnd ?_ (fun _ _ _ => ?_) | with_reducible refine Kw_ck ?_ | with_reducible refine Kw_ltm ?_ (fun _ _ => ?_) | with_reducible refine Kw_some ?_ | with_reducible refine Kw_bo (fun _ => ?_) | with_reducible refine Kw_T ?_ (fun _ _ _ => ?_) | with_reducible refine Kw_H ?_ (fun _ _ _ => ?_) (fun _ _ => ?_) | with_reducible refine Kw_ltv (fun _ => ?_) | with_reducible refine Kw_I ?_ (by decide) | with_reducible refine Kw_A ?_ (by decide) | with_reducible refine Kw_J ?_ | with_reducible refine Kw_L ?_)
theorem yw_hb_To_signAt_12 {G : Unit} (h : Kwc u0 u)  : KwE u0 (hb_To_signAt_12 N G u) := by
  unfold hb_To_signAt_12
  repeat' (first | with_reducible assumption | with_reducible refine Kw_br ?_ ?_ | with_reducible refine Kw_bnd ?_ (fun _ _ _ => ?_) | with_reducible refine Kw_ck ?_ | with_reducible refine Kw_ltm ?_ (fun _ _ => ?_) | with_reducible refine Kw_some ?_ | with_reducible refine Kw_bo (fun _ => ?_) | with_reducible refine Kw_T ?_ (fun _ _ _ => ?_) | with_reducible refine Kw_H ?_ (fun _ _ _ => ?_) (fun _ _ => ?_) | with_reducible exact yw_hb_To_signAt_26 (by assumption) | with_reducible refine Kw_ltv (fun _ => ?_) | with_reducible refine Kw_I ?_ (by decide) | with_reducible refine Kw_A ?_ (by decide) | with_reducible refine Kw_J ?_ | with_reducible refine Kw_L ?_)
theorem yw_hb_To_signAt_0 {G : Unit} {v1 : Int32} (h : Kwc u0 u)  : KwE u0 (hb_To_signAt_0 N G u v1) := by
  unfold hb_To_signAt_0
  repeat' (first | with_reducible assumption | with_reducible refine Kw_br ?_ ?_ | with_reducible refine Kw_bnd ?_ (fun _ _ _ => ?_) | with_reducible refine Kw_ck ?_ | with_reducible refine Kw_ltm ?_ (fun _ _ => ?_) | with_reducible refine Kw_some ?_ | with_reducible refine Kw_bo (fun _ => ?_) | with_reducible refine Kw_T ?_ (fun _ _ _ => ?_) | with_reducible refine Kw_H ?_ (fun _ _ _ => ?_) (fun _ _ => ?_) | with_reducible exact yw_hb_To_signAt_12 (by assumption) | with_reducible exact yw_hb_To_signAt_26 (by assumption) | with_reducible refine Kw_ltv (fun _ => ?_) | with_reducible refine Kw_I ?_ (by decide) | with_reducible refine Kw_A ?_ (by decide) | with_reducible refine Kw_J ?_ | with_reducible refine Kw_L ?_)
theorem yw_hm_To_signAt {v1 : Int32} (h : Kwc u0 u)  : KwE u0 (hm_To_signAt N u v1) := by
  unfold hm_To_signAt
  exact yw_hb_To_signAt_0 h
theorem yw_hm_Co_put {v1 : Int32} (h : Kwc u0 u)  : KwE u0 (hm_Co_put N u v1) := by
  unfold hm_Co_put
  exact yw_hb_Co_put_0 h
theorem yw_hb_Cm_term_0 {G : Unit} {v1 : Int32} {v2 : Int32} (h : Kwc u0 u)  : KwE u0 (hb_Cm_term_0 N G u v1 v2) := by
  unfold hb_Cm_term_0
  repeat' (first | with_reducible assumption | with_reducible refine Kw_br ?_ ?_ | with_reducible refine Kw_bnd ?_ (fun _ _ _ => ?_) | with_reducible refine Kw_ck ?_ | with_reducible refine Kw_ltm ?_ (fun _ _ => ?_) | with_reducible refine Kw_some ?_ | with_reducible refine Kw_bo (fun _ => ?_) | with_reducible refine Kw_T ?_ (fun _ _ _ => ?_) | with_reducible refine Kw_H ?_ (fun _ _ _ => ?_) (fun _ _ => ?_) | with_reducible exact yw_hm_Co_put (by assumption) | with_reducible refine Kw_ltv (fun _ => ?_) | with_reducible refine Kw_I ?_ (by decide) | with_reducible refine Kw_A ?_ (by decide) | with_reducible refine Kw_J ?_ | with_reducible refine Kw_L ?_)
theorem yw_hm_Cm_term {v1 : Int32} {v2 : Int32} (h : Kwc u0 u)  : KwE u0 (hm_Cm_term N u v1 v2) := by
  unfold hm_Cm_term
  exact yw_hb_Cm_term_0 h
theorem yw_hb_Cm_string_50 {G : (MS → Int32 → Int32 → Option (MS × Unit)) × (MS → Int32 → Int32 → Int32 → Option (MS × Unit))} {v2 : Int32} {v3 : Int32} {v4 : Int32} (h : Kwc u0 u) (hG0 : ∀ (u : MS) a0 a1, Kwc u0 u → KwE u0 (G.1 u a0 a1)) (hG1 : ∀ (u : MS) a0 a1 a2, Kwc u0 u → KwE u0 (G.2 u a0 a1 a2)) : KwE u0 (hb_Cm_string_50 N G u v2 v3 v4) := by
  unfold hb_Cm_string_50
  repeat' (first | with_reducible assumption | with_reducible refine Kw_br ?_ ?_ | with_reducible refine Kw_bnd ?_ (fun _ _ _ => ?_) | with_reducible refine Kw_ck ?_ | with_reducible refine Kw_ltm ?_ (fun _ _ => ?_) | with_reducible refine Kw_some ?_ | with_reducible refine Kw_bo (fun _ => ?_) | with_reducible refine Kw_T ?_ (fun _ _ _ => ?_) | with_reducible refine Kw_H ?_ (fun _ _ _ => ?_) (fun _ _ => ?_) | with_reducible exact yw_hm_To_signAt (by assumption) | with_reducible exact yw_hm_Co_put (by assumption) | with_reducible exact hG0 _ _ _ (by assumption) | with_reducible exact hG1 _ _ _ _ (by assumption) | with_reducible refine Kw_ltv (fun _ => ?_) | with_reducible refine Kw_I ?_ (by decide) | with_reducible refine Kw_A ?_ (by decide) | with_reducible refine Kw_J ?_ | with_reducible refine Kw_L ?_)
theorem yw_hb_Cm_string_39 {G : (MS → Int32 → Int32 → Option (MS × Unit)) × (MS → Int32 → Int32 → Int32 → Option (MS × Unit))} {v2 : Int32} {v3 : Int32} (h : Kwc u0 u) (hG0 : ∀ (u : MS) a0 a1, Kwc u0 u → KwE u0 (G.1 u a0 a1)) (hG1 : ∀ (u : MS) a0 a1 a2, Kwc u0 u → KwE u0 (G.2 u a0 a1 a2)) : KwE u0 (hb_Cm_string_39 N G u v2 v3) := by
  unfold hb_Cm_string_39
  repeat' (first | with_reducible assumption | with_reducible refine Kw_br ?_ ?_ | with_reducible refine Kw_bnd ?_ (fun _ _ _ => ?_) | with_reducible refine Kw_ck ?_ | with_reducible refine Kw_ltm ?_ (fun _ _ => ?_) | with_reducible refine Kw_some ?_ | with_reducible refine Kw_bo (fun _ => ?_) | with_reducible refine Kw_T ?_ (fun _ _ _ => ?_) | with_reducible refine Kw_H ?_ (fun _ _ _ => ?_) (fun _ _ => ?_) | with_reducible exact yw_hm_Co_put (by assumption) | with_reducible exact hG0 _ _ _ (by assumption) | with_reducible exact hG1 _ _ _ _ (by assumption) | with_reducible refine Kw_ltv (fun _ => ?_) | with_reducible refine Kw_I ?_ (by decide) | with_reducible refine Kw_A ?_ (by decide) | with_reducible refine Kw_J ?_ | with_reducible refine Kw_L ?_)
theorem yw_hb_Cm_string_12 {G : (MS → Int32 → Int32 → Option (MS × Unit)) × (MS → Int32 → Int32 → Int32 → Option (MS × Unit))} {v2 : Int32} {v3 : Int32} (h : Kwc u0 u) (hG0 : ∀ (u : MS) a0 a1, Kwc u0 u → KwE u0 (G.1 u a0 a1)) (hG1 : ∀ (u : MS) a0 a1 a2, Kwc u0 u → KwE u0 (G.2 u a0 a1 a2)) : KwE u0 (hb_Cm_string_12 N G u v2 v3) := by
  unfold hb_Cm_string_12
  repeat' (first | with_reducible assumption | with_reducible refine Kw_br ?_ ?_ | with_reducible refine Kw_bnd ?_ (fun _ _ _ => ?_) | with_reducible refine Kw_ck ?_ | with_reducible refine Kw_ltm ?_ (fun _ _ => ?_) | with_reducible refine Kw_some ?_ | with_reducible refine Kw_bo (fun _ => ?_) | with_reducible refine Kw_T ?_ (fun _ _ _ => ?_) | with_reducible refine Kw_H ?_ (fun _ _ _ => ?_) (fun _ _ => ?_) | with_reducible exact yw_hb_Cm_string_39 (by assumption) hG0 hG1 | with_reducible exact yw_hm_To_signAt (by assumption) | with_reducible exact hG0 _ _ _ (by assumption) | with_reducible exact hG1 _ _ _ _ (by assumption) | with_reducible refine Kw_ltv (fun _ => ?_) | with_reducible refine Kw_I ?_ (by decide) | with_reducible refine Kw_A ?_ (by decide) | with_reducible refine Kw_J ?_ | with_reducible refine Kw_L ?_)
theorem yw_hb_Cm_string_0 {G : (MS → Int32 → Int32 → Option (MS × Unit)) × (MS → Int32 → Int32 → Int32 → Option (MS × Unit))} {v1 : Int32} (h : Kwc u0 u) (hG0 : ∀ (u : MS) a0 a1, Kwc u0 u → KwE u0 (G.1 u a0 a1)) (hG1 : ∀ (u : MS) a0 a1 a2, Kwc u0 u → KwE u0 (G.2 u a0 a1 a2)) : KwE u0 (hb_Cm_string_0 N G u v1) := by
  unfold hb_Cm_string_0
  repeat' (first | with_reducible assumption | with_reducible refine Kw_br ?_ ?_ | with_reducible refine Kw_bnd ?_ (fun _ _ _ => ?_) | with_reducible refine Kw_ck ?_ | with_reducible refine Kw_ltm ?_ (fun _ _ => ?_) | with_reducible refine Kw_some ?_ | with_reducible refine Kw_bo (fun _ => ?_) | with_reducible refine Kw_T ?_ (fun _ _ _ => ?_) | with_reducible refine Kw_H ?_ (fun _ _ _ => ?_) (fun _ _ => ?_) | with_reducible exact hG0 _ _ _ (by assumption) | with_reducible exact hG1 _ _ _ _ (by assumption) | with_reducible refine Kw_ltv (fun _ => ?_) | with_reducible refine Kw_I ?_ (by decide) | with_reducible refine Kw_A ?_ (by decide) | with_reducible refine Kw_J ?_ | with_reducible refine Kw_L ?_)
theorem yw_hg_Cm_string  (n : Nat) : (∀ (u : MS) a0 a1, Kwc u0 u → KwE u0 ((hg_Cm_string N n).1 u a0 a1)) ∧ (∀ (u : MS) a0 a1 a2, Kwc u0 u → KwE u0 ((hg_Cm_string N n).2 u a0 a1 a2)) := by
  induction n with
  | zero => exact ⟨fun _ _ _ _ => Kw_none, fun _ _ _ _ _ => Kw_none⟩
  | succ n ih => exact ⟨fun _ _ _ h => yw_hb_Cm_string_12 (N := N) h ih.1 ih.2, fun _ _ _ _ h => yw_hb_Cm_string_50 (N := N) h ih.1 ih.2⟩
theorem yw_hm_Cm_string {v1 : Int32} (h : Kwc u0 u)  : KwE u0 (hm_Cm_string N u v1) := by
  unfold hm_Cm_string
  exact yw_hb_Cm_string_0 h ((yw_hg_Cm_string N).1) ((yw_hg_Cm_string N).2)
theorem yw_hb_Cm_isBound_54 {G : (MS → Int32 → Int32 → Int32 → Int32 → Option (MS × Int32)) × (MS → Int32 → Int32 → Int32 → Option (MS × Int32))} {v2 : Int32} {v5 : Int32} (h : Kwc u0 u) (hG0 : ∀ (u : MS) a0 a1 a2 a3, Kwc u0 u → KwE u0 (G.1 u a0 a1 a2 a3)) (hG1 : ∀ (u : MS) a0 a1 a2, Kwc u0 u → KwE u0 (G.2 u a0 a1 a2)) : KwE u0 (hb_Cm_isBound_54 N G u v2 v5) := by
  unfold hb_Cm_isBound_54
  repeat' (first | with_reducible assumption | with_reducible refine Kw_br ?_ ?_ | with_reducible refine Kw_bnd ?_ (fun _ _ _ => ?_) | with_reducible refine Kw_ck ?_ | with_reducible refine Kw_ltm ?_ (fun _ _ => ?_) | with_reducible refine Kw_some ?_ | with_reducible refine Kw_bo (fun _ => ?_) | with_reducible refine Kw_T ?_ (fun _ _ _ => ?_) | with_reducible refine Kw_H ?_ (fun _ _ _ => ?_) (fun _ _ => ?_) | with_reducible exact hG0 _ _ _ _ _ (by assumption) | with_reducible exact hG1 _ _ _ _ (by assumption) | with_reducible refine Kw_ltv (fun _ => ?_) | with_reducible refine Kw_I ?_ (by decide) | with_reducible refine Kw_A ?_ (by decide) | with_reducible refine Kw_J ?_ | with_reducible refine Kw_L ?_)
theorem yw_hb_Cm_isBound_31 {G : (MS → Int32 → Int32 → Int32 → Int32 → Option (MS × Int32)) × (MS → Int32 → Int32 → Int32 → Option (MS × Int32))} {v2 : Int32} {v4 : Int32} {v5 : Int32} (h : Kwc u0 u) (hG0 : ∀ (u : MS) a0 a1 a2 a3, Kwc u0 u → KwE u0 (G.1 u a0 a1 a2 a3)) (hG1 : ∀ (u : MS) a0 a1 a2, Kwc u0 u → KwE u0 (G.2 u a0 a1 a2)) : KwE u0 (hb_Cm_isBound_31 N G u v2 v4 v5) := by
  unfold hb_Cm_isBound_31
  repeat' (first | with_reducible assumption | with_reducible refine Kw_br ?_ ?_ | with_reducible refine Kw_bnd ?_ (fun _ _ _ => ?_) | with_reducible refine Kw_ck ?_ | with_reducible refine Kw_ltm ?_ (fun _ _ => ?_) | with_reducible refine Kw_some ?_ | with_reducible refine Kw_bo (fun _ => ?_) | with_reducible refine Kw_T ?_ (fun _ _ _ => ?_) | with_reducible refine Kw_H ?_ (fun _ _ _ => ?_) (fun _ _ => ?_) | with_reducible exact yw_hb_Cm_isBound_54 (by assumption) hG0 hG1 | with_reducible exact hG0 _ _ _ _ _ (by assumption) | with_reducible exact hG1 _ _ _ _ (by assumption) | with_reducible refine Kw_ltv (fun _ => ?_) | with_reducible refine Kw_I ?_ (by decide) | with_reducible refine Kw_A ?_ (by decide) | with_reducible refine Kw_J ?_ | with_reducible refine Kw_L ?_)
theorem yw_hb_Cm_isBound_8 {G : (MS → Int32 → Int32 → Int32 → Int32 → Option (MS × Int32)) × (MS → Int32 → Int32 → Int32 → Option (MS × Int32))} {v1 : Int32} {v2 : Int32} {v3 : Int32} {v4 : Int32} (h : Kwc u0 u) (hG0 : ∀ (u : MS) a0 a1 a2 a3, Kwc u0 u → KwE u0 (G.1 u a0 a1 a2 a3)) (hG1 : ∀ (u : MS) a0 a1 a2, Kwc u0 u → KwE u0 (G.2 u a0 a1 a2)) : KwE u0 (hb_Cm_isBound_8 N G u v1 v2 v3 v4) := by
  unfold hb_Cm_isBound_8
  repeat' (first | with_reducible assumption | with_reducible refine Kw_br ?_ ?_ | with_reducible refine Kw_bnd ?_ (fun _ _ _ => ?_) | with_reducible refine Kw_ck ?_ | with_reducible refine Kw_ltm ?_ (fun _ _ => ?_) | with_reducible refine Kw_some ?_ | with_reducible refine Kw_bo (fun _ => ?_) | with_reducible refine Kw_T ?_ (fun _ _ _ => ?_) | with_reducible refine Kw_H ?_ (fun _ _ _ => ?_) (fun _ _ => ?_) | with_reducible exact hG0 _ _ _ _ _ (by assumption) | with_reducible exact hG1 _ _ _ _ (by assumption) | with_reducible refine Kw_ltv (fun _ => ?_) | with_reducible refine Kw_I ?_ (by decide) | with_reducible refine Kw_A ?_ (by decide) | with_reducible refine Kw_J ?_ | with_reducible refine Kw_L ?_)
theorem yw_hb_Cm_isBound_0 {G : (MS → Int32 → Int32 → Int32 → Int32 → Option (MS × Int32)) × (MS → Int32 → Int32 → Int32 → Option (MS × Int32))} {v1 : Int32} {v2 : Int32} {v3 : Int32} (h : Kwc u0 u) (hG0 : ∀ (u : MS) a0 a1 a2 a3, Kwc u0 u → KwE u0 (G.1 u a0 a1 a2 a3)) (hG1 : ∀ (u : MS) a0 a1 a2, Kwc u0 u → KwE u0 (G.2 u a0 a1 a2)) : KwE u0 (hb_Cm_isBound_0 N G u v1 v2 v3) := by
  unfold hb_Cm_isBound_0
  repeat' (first | with_reducible assumption | with_reducible refine Kw_br ?_ ?_ | with_reducible refine Kw_bnd ?_ (fun _ _ _ => ?_) | with_reducible refine Kw_ck ?_ | with_reducible refine Kw_ltm ?_ (fun _ _ => ?_) | with_reducible refine Kw_some ?_ | with_reducible refine Kw_bo (fun _ => ?_) | with_reducible refine Kw_T ?_ (fun _ _ _ => ?_) | with_reducible refine Kw_H ?_ (fun _ _ _ => ?_) (fun _ _ => ?_) | with_reducible exact hG0 _ _ _ _ _ (by assumption) | with_reducible exact hG1 _ _ _ _ (by assumption) | with_reducible refine Kw_ltv (fun _ => ?_) | with_reducible refine Kw_I ?_ (by decide) | with_reducible refine Kw_A ?_ (by decide) | with_reducible refine Kw_J ?_ | with_reducible refine Kw_L ?_)
theorem yw_hg_Cm_isBound  (n : Nat) : (∀ (u : MS) a0 a1 a2 a3, Kwc u0 u → KwE u0 ((hg_Cm_isBound N n).1 u a0 a1 a2 a3)) ∧ (∀ (u : MS) a0 a1 a2, Kwc u0 u → KwE u0 ((hg_Cm_isBound N n).2 u a0 a1 a2)) := by
  induction n with
  | zero => exact ⟨fun _ _ _ _ _ _ => Kw_none, fun _ _ _ _ _ => Kw_none⟩
  | succ n ih => exact ⟨fun _ _ _ _ _ h => yw_hb_Cm_isBound_8 (N := N) h ih.1 ih.2, fun _ _ _ _ h => yw_hb_Cm_isBound_31 (N := N) h ih.1 ih.2⟩
theorem yw_hm_Cm_isBound {v1 : Int32} {v2 : Int32} {v3 : Int32} (h : Kwc u0 u)  : KwE u0 (hm_Cm_isBound N u v1 v2 v3) := by
  unfold hm_Cm_isBound
  exact yw_hb_Cm_isBound_0 h ((yw_hg_Cm_isBound N).1) ((yw_hg_Cm_isBound N).2)
theorem yw_hb_Cm_bind_32 {G : Unit} (h : Kwc u0 u)  : KwE u0 (hb_Cm_bind_32 N G u) := by
  unfold hb_Cm_bind_32
  repeat' (first | with_reducible assumption | with_reducible refine Kw_br ?_ ?_ | with_reducible refine Kw_bnd ?_ (fun _ _ _ => ?_) | with_reducible refine Kw_ck ?_ | with_reducible refine Kw_ltm ?_ (fun _ _ => ?_) | with_reducible refine Kw_some ?_ | with_reducible refine Kw_bo (fun _ => ?_) | with_reducible refine Kw_T ?_ (fun _ _ _ => ?_) | with_reducible refine Kw_H ?_ (fun _ _ _ => ?_) (fun _ _ => ?_) | with_reducible refine Kw_ltv (fun _ => ?_) | with_reducible refine Kw_I ?_ (by decide) | with_reducible refine Kw_A ?_ (by decide) | with_reducible refine Kw_J ?_ | with_reducible refine Kw_L ?_)
theorem yw_hb_Cm_bind_0 {G : Unit} {v1 : Int32} (h : Kwc u0 u)  : KwE u0 (hb_Cm_bind_0 N G u v1) := by
  unfold hb_Cm_bind_0
  repeat' (first | with_reducible assumption | with_reducible refine Kw_br ?_ ?_ | with_reducible refine Kw_bnd ?_ (fun _ _ _ => ?_) | with_reducible refine Kw_ck ?_ | with_reducible refine Kw_ltm ?_ (fun _ _ => ?_) | with_reducible refine Kw_some ?_ | with_reducible refine Kw_bo (fun _ => ?_) | with_reducible refine Kw_T ?_ (fun _ _ _ => ?_) | with_reducible refine Kw_H ?_ (fun _ _ _ => ?_) (fun _ _ => ?_) | with_reducible exact yw_hb_Cm_bind_32 (by assumption) | with_reducible refine Kw_ltv (fun _ => ?_) | with_reducible refine Kw_I ?_ (by decide) | with_reducible refine Kw_A ?_ (by decide) | with_reducible refine Kw_J ?_ | with_reducible refine Kw_L ?_)
theorem yw_hm_Cm_bind {v1 : Int32} (h : Kwc u0 u)  : KwE u0 (hm_Cm_bind N u v1) := by
  unfold hm_Cm_bind
  exact yw_hb_Cm_bind_0 h
theorem yw_hb_Cm_nameInPattern_92 {G : Unit} (h : Kwc u0 u)  : KwE u0 (hb_Cm_nameInPattern_92 N G u) := by
  unfold hb_Cm_nameInPattern_92
  repeat' (first | with_reducible assumption | with_reducible refine Kw_br ?_ ?_ | with_reducible refine Kw_bnd ?_ (fun _ _ _ => ?_) | with_reducible refine Kw_ck ?_ | with_reducible refine Kw_ltm ?_ (fun _ _ => ?_) | with_reducible refine Kw_some ?_ | with_reducible refine Kw_bo (fun _ => ?_) | with_reducible refine Kw_T ?_ (fun _ _ _ => ?_) | with_reducible refine Kw_H ?_ (fun _ _ _ => ?_) (fun _ _ => ?_) | with_reducible refine Kw_ltv (fun _ => ?_) | with_reducible refine Kw_I ?_ (by decide) | with_reducible refine Kw_A ?_ (by decide) | with_reducible refine Kw_J ?_ | with_reducible refine Kw_L ?_)
theorem yw_hb_Cm_nameInPattern_46 {G : Unit} {v1 : Int32} {t1 : Int32} {t2 : Int32} {t3 : Int32} (h : Kwc u0 u)  : KwE u0 (hb_Cm_nameInPattern_46 N G u v1 t1 t2 t3) := by
  unfold hb_Cm_nameInPattern_46
  repeat' (first | with_reducible assumption | with_reducible refine Kw_br ?_ ?_ | with_reducible refine Kw_bnd ?_ (fun _ _ _ => ?_) | with_reducible refine Kw_ck ?_ | with_reducible refine Kw_ltm ?_ (fun _ _ => ?_) | with_reducible refine Kw_some ?_ | with_reducible refine Kw_bo (fun _ => ?_) | with_reducible refine Kw_T ?_ (fun _ _ _ => ?_) | with_reducible refine Kw_H ?_ (fun _ _ _ => ?_) (fun _ _ => ?_) | with_reducible exact yw_hb_Cm_nameInPattern_92 (by assumption) | with_reducible exact yw_hm_Cm_isBound (by assumption) | with_reducible exact yw_hm_Cm_bind (by assumption) | with_reducible exact yw_hm_Co_put (by assumption) | with_reducible refine Kw_ltv (fun _ => ?_) | with_reducible refine Kw_I ?_ (by decide) | with_reducible refine Kw_A ?_ (by decide) | with_reducible refine Kw_J ?_ | with_reducible refine Kw_L ?_)
theorem yw_hb_Cm_nameInPattern_0 {G : Unit} {v1 : Int32} {v2 : Int32} (h : Kwc u0 u)  : KwE u0 (hb_Cm_nameInPattern_0 N G u v1 v2) := by
  unfold hb_Cm_nameInPattern_0
  repeat' (first | with_reducible assumption | with_reducible refine Kw_br ?_ ?_ | with_reducible refine Kw_bnd ?_ (fun _ _ _ => ?_) | with_reducible refine Kw_ck ?_ | with_reducible refine Kw_ltm ?_ (fun _ _ => ?_) | with_reducible refine Kw_some ?_ | with_reducible refine Kw_bo (fun _ => ?_) | with_reducible refine Kw_T ?_ (fun _ _ _ => ?_) | with_reducible refine Kw_H ?_ (fun _ _ _ => ?_) (fun _ _ => ?_) | with_reducible exact yw_hb_Cm_nameInPattern_46 (by assumption) | with_reducible exact yw_hb_Cm_nameInPattern_92 (by assumption) | with_reducible exact yw_hm_Co_put (by assumption) | with_reducible refine Kw_ltv (fun _ => ?_) | with_reducible refine Kw_I ?_ (by decide) | with_reducible refine Kw_A ?_ (by decide) | with_reducible refine Kw_J ?_ | with_reducible refine Kw_L ?_)
theorem yw_hm_Cm_nameInPattern {v1 : Int32} {v2 : Int32} (h : Kwc u0 u)  : KwE u0 (hm_Cm_nameInPattern N u v1 v2) := by
  unfold hm_Cm_nameInPattern
  exact yw_hb_Cm_nameInPattern_0 h
theorem yw_hb_Cm_listPattern_84 {S : SF_Cm_listPattern} {G : (MS → Int32 → Int32 → Option (MS × Unit))} (h : Kwc u0 u) (hS0 : ∀ (u : MS) a0, Kwc u0 u → KwE u0 (S.1 u a0)) (hS1 : ∀ (u : MS) a0, Kwc u0 u → KwE u0 (S.2 u a0)) (hG0 : ∀ (u : MS) a0 a1, Kwc u0 u → KwE u0 (G u a0 a1)) : KwE u0 (hb_Cm_listPattern_84 N S G u) := by
  unfold hb_Cm_listPattern_84
  repeat' (first | with_reducible assumption | with_reducible refine Kw_br ?_ ?_ | with_reducible refine Kw_bnd ?_ (fun _ _ _ => ?_) | with_reducible refine Kw_ck ?_ | with_reducible refine Kw_ltm ?_ (fun _ _ => ?_) | with_reducible refine Kw_some ?_ | with_reducible refine Kw_bo (fun _ => ?_) | with_reducible refine Kw_T ?_ (fun _ _ _ => ?_) | with_reducible refine Kw_H ?_ (fun _ _ _ => ?_) (fun _ _ => ?_) | with_reducible exact hS0 _ _ (by assumption) | with_reducible exact hS1 _ _ (by assumption) | with_reducible exact hG0 _ _ _ (by assumption) | with_reducible refine Kw_ltv (fun _ => ?_) | with_reducible refine Kw_I ?_ (by decide) | with_reducible refine Kw_A ?_ (by decide) | with_reducible refine Kw_J ?_ | with_reducible refine Kw_L ?_)
theorem yw_hb_Cm_listPattern_10 {S : SF_Cm_listPattern} {G : (MS → Int32 → Int32 → Option (MS × Unit))} {v1 : Int32} {v2 : Int32} (h : Kwc u0 u) (hS0 : ∀ (u : MS) a0, Kwc u0 u → KwE u0 (S.1 u a0)) (hS1 : ∀ (u : MS) a0, Kwc u0 u → KwE u0 (S.2 u a0)) (hG0 : ∀ (u : MS) a0 a1, Kwc u0 u → KwE u0 (G u a0 a1)) : KwE u0 (hb_Cm_listPattern_10 N S G u v1 v2) := by
  unfold hb_Cm_listPattern_10
  repeat' (first | with_reducible assumption | with_reducible refine Kw_br ?_ ?_ | with_reducible refine Kw_bnd ?_ (fun _ _ _ => ?_) | with_reducible refine Kw_ck ?_ | with_reducible refine Kw_ltm ?_ (fun _ _ => ?_) | with_reducible refine Kw_some ?_ | with_reducible refine Kw_bo (fun _ => ?_) | with_reducible refine Kw_T ?_ (fun _ _ _ => ?_) | with_reducible refine Kw_H ?_ (fun _ _ _ => ?_) (fun _ _ => ?_) | with_reducible exact yw_hb_Cm_listPattern_84 (by assumption) hS0 hS1 hG0 | with_reducible exact yw_hm_Cm_term (by assumption) | with_reducible exact yw_hm_Co_put (by assumption) | with_reducible exact hS0 _ _ (by assumption) | with_reducible exact hS1 _ _ (by assumption) | with_reducible exact hG0 _ _ _ (by assumption) | with_reducible refine Kw_ltv (fun _ => ?_) | with_reducible refine Kw_I ?_ (by decide) | with_reducible refine Kw_A ?_ (by decide) | with_reducible refine Kw_J ?_ | with_reducible refine Kw_L ?_)
theorem yw_hb_Cm_listPattern_0 {S : SF_Cm_listPattern} {G : (MS → Int32 → Int32 → Option (MS × Unit))} {v1 : Int32} (h : Kwc u0 u) (hS0 : ∀ (u : MS) a0, Kwc u0 u → KwE u0 (S.1 u a0)) (hS1 : ∀ (u : MS) a0, Kwc u0 u → KwE u0 (S.2 u a0)) (hG0 : ∀ (u : MS) a0 a1, Kwc u0 u → KwE u0 (G u a0 a1)) : KwE u0 (hb_Cm_listPattern_0 N S G u v1) := by
  unfold hb_Cm_listPattern_0
  repeat' (first | with_reducible assumption | with_reducible refine Kw_br ?_ ?_ | with_reducible refine Kw_bnd ?_ (fun _ _ _ => ?_) | with_reducible refine Kw_ck ?_ | with_reducible refine Kw_ltm ?_ (fun _ _ => ?_) | with_reducible refine Kw_some ?_ | with_reducible refine Kw_bo (fun _ => ?_) | with_reducible refine Kw_T ?_ (fun _ _ _ => ?_) | with_reducible refine Kw_H ?_ (fun _ _ _ => ?_) (fun _ _ => ?_) | with_reducible exact hS0 _ _ (by assumption) | with_reducible exact hS1 _ _ (by assumption) | with_reducible exact hG0 _ _ _ (by assumption) | with_reducible refine Kw_ltv (fun _ => ?_) | with_reducible refine Kw_I ?_ (by decide) | with_reducible refine Kw_A ?_ (by decide) | with_reducible refine Kw_J ?_ | with_reducible refine Kw_L ?_)
theorem yw_hg_Cm_listPattern {S : SF_Cm_listPattern} (hS0 : ∀ (u : MS) a0, Kwc u0 u → KwE u0 (S.1 u a0)) (hS1 : ∀ (u : MS) a0, Kwc u0 u → KwE u0 (S.2 u a0)) (n : Nat) : (∀ (u : MS) a0 a1, Kwc u0 u → KwE u0 ((hg_Cm_listPattern N S n) u a0 a1)) := by
  induction n with
  | zero => exact fun _ _ _ _ => Kw_none
  | succ n ih => exact fun _ _ _ h => yw_hb_Cm_listPattern_10 (N := N) h hS0 hS1 ih
theorem yw_hm_Cm_listPattern {S : SF_Cm_listPattern} {v1 : Int32} (h : Kwc u0 u) (hS0 : ∀ (u : MS) a0, Kwc u0 u → KwE u0 (S.1 u a0)) (hS1 : ∀ (u : MS) a0, Kwc u0 u → KwE u0 (S.2 u a0)) : KwE u0 (hm_Cm_listPattern N S u v1) := by
  unfold hm_Cm_listPattern
  exact yw_hb_Cm_listPattern_0 h hS0 hS1 ((yw_hg_Cm_listPattern (N := N) hS0 hS1 N))
theorem yw_hb_Cm_pattern_298 {S : SF_Cm_listPattern} {G : (MS → Int32 → Option (MS × Unit))} (h : Kwc u0 u) (hS0 : ∀ (u : MS) a0, Kwc u0 u → KwE u0 (S.1 u a0)) (hS1 : ∀ (u : MS) a0, Kwc u0 u → KwE u0 (S.2 u a0)) (hG0 : ∀ (u : MS) a0, Kwc u0 u → KwE u0 (G u a0)) : KwE u0 (hb_Cm_pattern_298 N S G u) := by
  unfold hb_Cm_pattern_298
  repeat' (first | with_reducible assumption | with_reducible refine Kw_br ?_ ?_ | with_reducible refine Kw_bnd ?_ (fun _ _ _ => ?_) | with_reducible refine Kw_ck ?_ | with_reducible refine Kw_ltm ?_ (fun _ _ => ?_) | with_reducible refine Kw_some ?_ | with_reducible refine Kw_bo (fun _ => ?_) | with_reducible refine Kw_T ?_ (fun _ _ _ => ?_) | with_reducible refine Kw_H ?_ (fun _ _ _ => ?_) (fun _ _ => ?_) | with_reducible exact hS0 _ _ (by assumption) | with_reducible exact hS1 _ _ (by assumption) | with_reducible exact hG0 _ _ (by assumption) | with_reducible refine Kw_ltv (fun _ => ?_) | with_reducible refine Kw_I ?_ (by decide) | with_reducible refine Kw_A ?_ (by decide) | with_reducible refine Kw_J ?_ | with_reducible refine Kw_L ?_)
theorem yw_hb_Cm_pattern_268 {S : SF_Cm_listPattern} {G : (MS → Int32 → Option (MS × Unit))} {v2 : Int32} (h : Kwc u0 u) (hS0 : ∀ (u : MS) a0, Kwc u0 u → KwE u0 (S.1 u a0)) (hS1 : ∀ (u : MS) a0, Kwc u0 u → KwE u0 (S.2 u a0)) (hG0 : ∀ (u : MS) a0, Kwc u0 u → KwE u0 (G u a0)) : KwE u0 (hb_Cm_pattern_268 N S G u v2) := by
  unfold hb_Cm_pattern_268
  repeat' (first | with_reducible assumption | with_reducible refine Kw_br ?_ ?_ | with_reducible refine Kw_bnd ?_ (fun _ _ _ => ?_) | with_reducible refine Kw_ck ?_ | with_reducible refine Kw_ltm ?_ (fun _ _ => ?_) | with_reducible refine Kw_some ?_ | with_reducible refine Kw_bo (fun _ => ?_) | with_reducible refine Kw_T ?_ (fun _ _ _ => ?_) | with_reducible refine Kw_H ?_ (fun _ _ _ => ?_) (fun _ _ => ?_) | with_reducible exact yw_hb_Cm_pattern_298 (by assumption) hS0 hS1 hG0 | with_reducible exact hS0 _ _ (by assumption) | with_reducible exact hS1 _ _ (by assumption) | with_reducible exact hG0 _ _ (by assumption) | with_reducible refine Kw_ltv (fun _ => ?_) | with_reducible refine Kw_I ?_ (by decide) | with_reducible refine Kw_A ?_ (by decide) | with_reducible refine Kw_J ?_ | with_reducible refine Kw_L ?_)
theorem yw_hb_Cm_pattern_0 {S : SF_Cm_listPattern} {G : (MS → Int32 → Option (MS × Unit))} {v1 : Int32} (h : Kwc u0 u) (hS0 : ∀ (u : MS) a0, Kwc u0 u → KwE u0 (S.1 u a0)) (hS1 : ∀ (u : MS) a0, Kwc u0 u → KwE u0 (S.2 u a0)) (hG0 : ∀ (u : MS) a0, Kwc u0 u → KwE u0 (G u a0)) : KwE u0 (hb_Cm_pattern_0 N S G u v1) := by
  unfold hb_Cm_pattern_0
  repeat' (first | with_reducible assumption | with_reducible refine Kw_br ?_ ?_ | with_reducible refine Kw_bnd ?_ (fun _ _ _ => ?_) | with_reducible refine Kw_ck ?_ | with_reducible refine Kw_ltm ?_ (fun _ _ => ?_) | with_reducible refine Kw_some ?_ | with_reducible refine Kw_bo (fun _ => ?_) | with_reducible refine Kw_T ?_ (fun _ _ _ => ?_) | with_reducible refine Kw_H ?_ (fun _ _ _ => ?_) (fun _ _ => ?_) | with_reducible exact yw_hb_Cm_pattern_298 (by assumption) hS0 hS1 hG0 | with_reducible exact yw_hm_Cm_nameInPattern (by assumption) | with_reducible exact yw_hm_Cm_string (by assumption) | with_reducible exact yw_hm_Cm_term (by assumption) | with_reducible exact yw_hm_Co_put (by assumption) | with_reducible exact hS0 _ _ (by assumption) | with_reducible exact hS1 _ _ (by assumption) | with_reducible exact hG0 _ _ (by assumption) | with_reducible refine Kw_ltv (fun _ => ?_) | with_reducible refine Kw_I ?_ (by decide) | with_reducible refine Kw_A ?_ (by decide) | with_reducible refine Kw_J ?_ | with_reducible refine Kw_L ?_)
theorem yw_hg_Cm_pattern {S : SF_Cm_listPattern} (hS0 : ∀ (u : MS) a0, Kwc u0 u → KwE u0 (S.1 u a0)) (hS1 : ∀ (u : MS) a0, Kwc u0 u → KwE u0 (S.2 u a0)) (n : Nat) : (∀ (u : MS) a0, Kwc u0 u → KwE u0 ((hg_Cm_pattern N S n) u a0)) := by
  induction n with
  | zero => exact fun _ _ _ => Kw_none
  | succ n ih => exact fun _ _ h => yw_hb_Cm_pattern_268 (N := N) h hS0 hS1 ih
theorem yw_hm_Cm_pattern {S : SF_Cm_listPattern} {v1 : Int32} (h : Kwc u0 u) (hS0 : ∀ (u : MS) a0, Kwc u0 u → KwE u0 (S.1 u a0)) (hS1 : ∀ (u : MS) a0, Kwc u0 u → KwE u0 (S.2 u a0)) : KwE u0 (hm_Cm_pattern N S u v1) := by
  unfold hm_Cm_pattern
  exact yw_hb_Cm_pattern_0 h hS0 hS1 ((yw_hg_Cm_pattern (N := N) hS0 hS1 N))
theorem yw_hrc_Cm_listPattern  (n : Nat) : (∀ (u : MS) a0, Kwc u0 u → KwE u0 ((hrc_Cm_listPattern N n).1 u a0)) ∧ (∀ (u : MS) a0, Kwc u0 u → KwE u0 ((hrc_Cm_listPattern N n).2 u a0)) := by
  induction n with
  | zero => exact ⟨fun _ _ _ => Kw_none, fun _ _ _ => Kw_none⟩
  | succ n ih => exact ⟨fun _ _ h => yw_hm_Cm_listPattern (N := N) h ih.1 ih.2, fun _ _ h => yw_hm_Cm_pattern (N := N) h ih.1 ih.2⟩
theorem yw_hr_Cm_pattern {v1 : Int32} (h : Kwc u0 u) : KwE u0 (hr_Cm_pattern N u v1) := by
  unfold hr_Cm_pattern
  exact (yw_hrc_Cm_listPattern (N := N) 300).2 _ _ h
end
end
section
set_option maxRecDepth 100000
def FRC (m v : MS) : Prop := (∀ k, k < 440 ∨ k = 442 ∨ (720 ≤ k ∧ k < 740) → v.1 k = m.1 k) ∧ ∀ k, k < 22 ∨ k = 24 ∨ k = 25 ∨ (36 ≤ k ∧ k ≤ 38) → v.2.2.1 k = m.2.2.1 k
def C11 (Zf : Bool) (m v : MS) : Prop := m.1 441 ≤ v.1 441 ∧ (v.1 441 < 24000 → (v.1 711 = 0 ↔ Zf = false ∧ m.1 711 = 0)) ∧ (Zf = false → m.1 711 = 0 → v.1 711 = 0)
def NPE (nm : Nat → Nat) (s : Nat) (sc2 : SCT) (cm2 : Nat) (g : Nat → Int32) (Zf : Bool) (m v : MS) : Prop := CNs v nm sc2 ∧ v.2.2.1 41 s = I (cm2 : Nat) ∧ (∀ j, j < s → v.2.2.1 41 j = m.2.2.1 41 j) ∧ v.2.2.1 42 = g ∧ C11 Zf m v ∧ v.1 714 = m.1 714 ∧ v.1 712 = m.1 712 ∧ v.1 713 = m.1 713 ∧ FRC m v
def CPR (nm : Nat → Nat) (gd : Bool) (p p2 : Nat) (sc : SCT) (cm : Nat) (m : MS) : Prop := m.1 714 = 1000000000 ∧ CNs m nm sc ∧ m.2.2.1 41 (sc.length - 1) = I (cm : Nat) ∧ cm ≤ 4000 ∧ m.1 713 = 0 ∧ decide (m.1 712 = 0) = !gd ∧ tot sc + (p2 - p) ≤ 4000
def CPO (K nm : Nat → Nat) (p p2 : Nat) (sc sc2 : SCT) (X : Nat) (W : Nat → Nat) (Rf Zf : Bool) (BC : MS → Prop) (cm : Nat) (m v : MS) : Prop := ((Rf = true ∨ BC m) ∧ v.1 714 < 1000000000 ∧ FRC m v) ∨ ((Rf = false ∧ ¬ BC m) ∧ NPE nm (sc.length - 1) sc2 (max cm X) (wup (m.2.2.1 42) K W p p2) Zf m v)
def EXN (N : Nat) (K nm : Nat → Nat) (gd : Bool) (m2 : MS) (lo n2 ν p p2 : Nat) (sc sc2 : SCT) (X : Nat) (W : Nat → Nat) (Rf Zf : Bool) (BC : MS → Prop) : Prop := ∀ (d : Nat) (m3 : MS) (cm : Nat) (last : Int32), KPX lo n2 ν m2 m3 → CPR nm gd p p2 sc cm m3 → PK (fun m4 _ => CPO K nm p p2 sc sc2 X W Rf Zf BC cm m3 m4) ((hrc_Cm_fun N d).2.2.2.2.2.2.2.2.2.2.1 m3 (I (ν : Nat)) last)
section
variable {m v u m2 m3 : MS} {K nm W : Nat → Nat} {sc sc2 t : SCT} {e : List Nat × List Nat × Nat} {s x y N i f tok cm cm2 p p2 n2 ν lo X : Nat} {gd Zf Rf : Bool} {g g2 : Nat → Int32} {last : Int32}
theorem FRC_rf : FRC m m := ⟨fun _ _ => rfl, fun _ _ => rfl⟩
theorem FRC_tr (h : FRC m v) (k : FRC v u) : FRC m u := ⟨fun j hj => (k.1 j hj).trans (h.1 j hj), fun j hj => (k.2 j hj).trans (h.2 j hj)⟩
theorem C11_e {x : MS} (h : C11 Zf m v) (h1 : x.1 441 = v.1 441) (h2 : x.1 711 = v.1 711) : C11 Zf m x := by
  unfold C11 at h ⊢
  rw [h1, h2]
  exact h
theorem C11_b {x : MS} (h : C11 Zf x v) (h1 : m.1 441 ≤ x.1 441) (h2 : x.1 711 = m.1 711) : C11 Zf m v := by
  unfold C11 at h ⊢
  rw [← h2]
  exact ⟨Int32.le_trans h1 h.1, h.2⟩
theorem C11_rf : C11 false m m := ⟨Int32.le_refl _, fun _ => ⟨fun h => ⟨rfl, h⟩, fun h => h.2⟩, fun _ h => h⟩
theorem C11_u (h : C11 Zf m v) (k : Kuc v u) : C11 Zf m u := by
  have e : u.1 711 = v.1 711 := k.1 711 (by decide)
  unfold C11 at h ⊢
  rw [e]
  exact ⟨Int32.le_trans h.1 k.2.2, fun z => h.2.1 (Int32.lt_of_le_of_lt k.2.2 z), h.2.2⟩
theorem C11_m (h1 : m.1 441 ≤ v.1 441) (h2 : v.1 711 = m.1 711) : C11 false m v := ⟨h1, fun _ => by rw [h2]; exact ⟨fun h => ⟨rfl, h⟩, fun h => h.2⟩, fun _ h => by rw [h2]; exact h⟩
theorem C11_tr {Z2 : Bool} (h : C11 Zf m v) (k : C11 Z2 v u) : C11 (Zf || Z2) m u := by
  have e : ((Zf || Z2) = false) ↔ (Zf = false ∧ Z2 = false) := by cases Zf <;> cases Z2 <;> decide
  refine ⟨Int32.le_trans h.1 k.1, fun z => ?_, fun z z0 => ?_⟩
  · rw [k.2.1 z, h.2.1 (Int32.lt_of_le_of_lt k.1 z), e]
    constructor
    · rintro ⟨a, b, c⟩; exact ⟨⟨b, a⟩, c⟩
    · rintro ⟨⟨b, a⟩, c⟩; exact ⟨a, b, c⟩
  · have z := e.mp z
    exact k.2.2 z.2 (h.2.2 z.1 z0)
theorem CPR_0 (c : CPR nm gd p p2 sc cm m) : NPE nm (sc.length - 1) sc cm (m.2.2.1 42) false m m := ⟨c.2.1, c.2.2.1, fun _ _ => rfl, rfl, C11_rf, rfl, rfl, rfl, FRC_rf⟩
theorem NPE_u (h : NPE nm s sc2 cm g Zf m v) (k : Kuc v u) : NPE nm s sc2 cm g Zf m u := by
  obtain ⟨h1, h2, h3, h4, h5, h6, h7, h8, h9⟩ := h
  refine ⟨⟨by rw [k.1 _ (by decide)]; exact h1.1, h1.2.1, by rw [k.1 _ (by decide)]; exact h1.2.2.1, h1.2.2.2.1, CNl_fr h1.2.2.2.2 (k.2.1 _ (by decide)) (fun j _ => by rw [k.2.1 _ (by decide)])⟩, by rw [k.2.1 _ (by decide)]; exact h2, fun j hj => by rw [k.2.1 _ (by decide)]; exact h3 j hj, by rw [k.2.1 _ (by decide)]; exact h4, C11_u h5 k, by rw [k.1 _ (by decide)]; exact h6, by rw [k.1 _ (by decide)]; exact h7, by rw [k.1 _ (by decide)]; exact h8, FRC_tr h9 ⟨fun j hj => k.1 j (by omega), fun j hj => k.2.1 j (by omega)⟩⟩
theorem CPO_ok {BC : MS → Prop} (hR : Rf = false ∧ ¬ BC m) (h : NPE nm (sc.length - 1) sc2 (max cm X) (wup (m.2.2.1 42) K W p p2) Zf m v) : CPO K nm p p2 sc sc2 X W Rf Zf BC cm m v := Or.inr ⟨hR, h⟩
theorem exn_lit {k : Nat} {a b c g : Int32} (hn : nod m2 ν = (I (k : Nat), a, b, c, g)) (hlo : lo < ν) (hν : ν ≤ n2) (hl : n2 ≤ 8015) (hk : k = 1 ∨ k = 2) (h3 : ∀ j, p ≤ j → j < p2 → K j ≠ 3) : EXN N K nm gd m2 lo n2 ν p p2 sc sc 0 W false false (fun _ => False) := by
  intro d m3 cm last kx cp
  cases d with
  | zero => exact pk_none
  | succ d =>
    have e0 := KPX_nod kx hlo hν
    rw [hn] at e0
    have e1 : m3.2.2.1 16 ν = I (k : Nat) := (Prod.mk.inj e0).1
    show PK _ (hm_Cm_expression N (hrc_Cm_fun N d) m3 (I (ν : Nat)) last)
    unfold hm_Cm_expression hb_Cm_expression_0 hb_Cm_expression_359
    rw [tnI (n := ν) rfl (by omega), e1]
    refine pk_ck (fun _ => pk_ck (fun _ => ?_))
    have q0 := CPR_0 cp
    have fin : ∀ {v : MS}, NPE nm (sc.length - 1) sc cm (m3.2.2.1 42) false m3 v → CPO K nm p p2 sc sc 0 W false false (fun _ => False) cm m3 v := fun q => by
      refine CPO_ok ⟨rfl, fun z => z⟩ ?_
      rw [wup_0 h3, Nat.max_eq_left (Nat.zero_le cm)]
      exact q
    rcases hk with rfl | rfl
    · rw [show decide (I ((1 : Nat) : Int) = 1) = true from rfl, br_tq]
      refine pk_bnd (fun w1 r1 x1 => pk_ck (fun _ => pk_bnd (fun w2 r2 x2 => pk_some (fin ?_))))
      exact NPE_u (NPE_u q0 (yu_hm_Co_put (u0 := m3) Ku_rf w1 r1 x1)) (yu_hm_Cm_term (u0 := w1) Ku_rf w2 r2 x2)
    · rw [show decide (I ((2 : Nat) : Int) = 1) = false from rfl, br_fq, show decide (I ((2 : Nat) : Int) = 2) = true from rfl, br_tq]
      refine pk_bnd (fun w1 r1 x1 => pk_ck (fun _ => pk_bnd (fun w2 r2 x2 => pk_some (fin ?_))))
      exact NPE_u (NPE_u q0 (yu_hm_Co_put (u0 := m3) Ku_rf w1 r1 x1)) (yu_hm_Cm_term (u0 := w1) Ku_rf w2 r2 x2)
theorem fault_p {tk nb : Nat} (ht : tk ≤ 4002) (hn : nb ≤ 15) : PK (fun v _ => v.1 714 < 1000000000 ∧ (∀ k, k ≠ 714 → v.1 k = m.1 k) ∧ v.2.2.1 = m.2.2.1) (hm_Cm_fault N m (I (tk : Nat)) (I (nb : Nat))) := fun v r e => by
  have h1 := fault_s (u0 := m) (N := N) (u := m) (v1 := I (tk : Nat)) (v2 := I (nb : Nat)) (by
    rw [show (16 : Int32) = I 16 from rfl, I_mul, I_add, show (1000000000 : Int32) = I 1000000000 from rfl]
    exact (I_lt (by omega) (by omega) (by omega) (by omega)).mpr (by omega)) v r e
  refine ⟨h1, ?_⟩
  unfold hm_Cm_fault hb_Cm_fault_0 at e
  have e : some (upI m 714 (if I (tk : Nat) * 16 + I (nb : Nat) < m.1 714 then I (tk : Nat) * 16 + I (nb : Nat) else m.1 714), ()) = some (v, r) := e
  injection e with e
  injection e with e1 e2
  rw [← e1]
  exact ⟨fun k hk => upI_ne hk, rfl⟩
theorem FRC_u (h : Kuc m v) : FRC m v := ⟨fun k hk => h.1 k (by omega), fun k hk => h.2.1 k (by omega)⟩
theorem Ku_s (h : m.1 714 < 1000000000) (k : Kuc m v) : v.1 714 < 1000000000 := by rw [k.1 714 (by decide)]; exact h
theorem exn_str {b c g : Int32} (hn : nod m2 ν = (I ((4 : Nat) : Int), I (p : Nat), b, c, g)) (hlo : lo < ν) (hν : ν ≤ n2) (hl : n2 ≤ 8015) (hp : p ≤ 4000) (h3 : ∀ j, p ≤ j → j < p2 → K j ≠ 3) : EXN N K nm gd m2 lo n2 ν p p2 sc sc 0 W gd false (fun _ => False) := by
  intro d m3 cm last kx cp
  cases d with
  | zero => exact pk_none
  | succ d =>
    have e0 := KPX_nod kx hlo hν
    rw [hn] at e0
    have e1 : m3.2.2.1 16 ν = I ((4 : Nat) : Int) := (Prod.mk.inj e0).1
    have e2 : m3.2.2.1 17 ν = I (p : Nat) := (Prod.mk.inj (Prod.mk.inj e0).2).1
    show PK _ (hm_Cm_expression N (hrc_Cm_fun N d) m3 (I (ν : Nat)) last)
    unfold hm_Cm_expression hb_Cm_expression_0 hb_Cm_expression_359 hm_Cm_notInGuard hb_Cm_notInGuard_0 hb_Cm_notInGuard_14
    rw [tnI (n := ν) rfl (by omega), e1, e2]
    refine pk_ck (fun _ => pk_ck (fun _ => ?_))
    rw [show decide (I ((4 : Nat) : Int) = 1) = false from rfl, br_fq, show decide (I ((4 : Nat) : Int) = 2) = false from rfl, br_fq, show decide (I ((4 : Nat) : Int) = 3) = false from rfl, br_fq, show decide (I ((4 : Nat) : Int) = 4) = true from rfl, br_tq, cp.2.2.2.2.2.1]
    cases gd with
    | false =>
      rw [show (!false) = true from rfl, br_tq]
      refine pk_bnd (fun w1 r1 x1 => pk_bnd (fun w2 r2 x2 => pk_bnd (fun w3 r3 x3 => pk_some ?_)))
      have e : w1 = m3 := by
        have x1 : some (m3, ()) = some (w1, r1) := x1
        injection x1 with x1
        injection x1 with x1 _
        exact x1.symm
      subst e
      refine CPO_ok ⟨rfl, fun z => z⟩ ?_
      rw [wup_0 h3, Nat.max_eq_left (Nat.zero_le cm)]
      exact NPE_u (NPE_u (CPR_0 cp) (yu_hm_Co_put (u0 := w1) Ku_rf w2 r2 x2)) (yu_hm_Cm_string (u0 := w2) Ku_rf w3 r3 x3)
    | true =>
      refine pk_bnd ?_
      rw [show (!true) = false from rfl, br_fq]
      refine pk_bnd (pk_mo (fault_p (N := N) (tk := p) (nb := 7) (by omega) (by omega)) (fun v r q => pk_some ?_))
      refine pk_bnd (fun w2 r2 x2 => pk_bnd (fun w3 r3 x3 => pk_some ?_))
      have f2 := yu_hm_Co_put (u0 := v) Ku_rf w2 r2 x2
      have f3 := yu_hm_Cm_string (u0 := w2) Ku_rf w3 r3 x3
      refine Or.inl ⟨Or.inl rfl, Ku_s (Ku_s q.1 f2) f3, FRC_tr (FRC_tr ⟨fun k hk => q.2.1 k (by omega), fun k _ => by rw [q.2.2]⟩ (FRC_u f2)) (FRC_u f3)⟩
theorem exn_name {c g : Int32} (hnm : NMJ nm) (hn : nod m2 ν = (I ((3 : Nat) : Int), I (p : Nat), I (nm x : Nat), c, g)) (hlo : lo < ν) (hν : ν ≤ n2) (hl : n2 ≤ 8015) (hp : p ≤ 4000) (ok : SOK sc) (hx : x < 1400) (hK : K p = 3) (hW : nm x ≠ 0 → fnb x sc = true → W p = lvx x sc) : EXN N K nm gd m2 lo n2 ν p (p + 1) sc (if nm x ≠ 0 ∧ fnb x sc = true then hld x sc else sc) 0 W (!(decide (nm x ≠ 0) && fnb x sc)) false (fun _ => False) := by
  intro d m3 cm last kx cp
  cases d with
  | zero => exact pk_none
  | succ d =>
    have e0 := KPX_nod kx hlo hν
    rw [hn] at e0
    have e1 : m3.2.2.1 16 ν = I ((3 : Nat) : Int) := (Prod.mk.inj e0).1
    have e2 : m3.2.2.1 17 ν = I (p : Nat) := (Prod.mk.inj (Prod.mk.inj e0).2).1
    have e3 : m3.2.2.1 18 ν = I (nm x : Nat) := (Prod.mk.inj (Prod.mk.inj (Prod.mk.inj e0).2).2).1
    show PK _ (hm_Cm_expression N (hrc_Cm_fun N d) m3 (I (ν : Nat)) last)
    unfold hm_Cm_expression hb_Cm_expression_0
    rw [tnI (n := ν) rfl (by omega), e1, e2, e3]
    refine pk_ck (fun _ => pk_ck (fun _ => ?_))
    rw [show decide (I ((3 : Nat) : Int) = 1) = false from rfl, br_fq, show decide (I ((3 : Nat) : Int) = 2) = false from rfl, br_fq, show decide (I ((3 : Nat) : Int) = 3) = true from rfl, br_tq]
    refine pk_ck (fun _ => ?_)
    have bad : ∀ {sc2 : SCT} {Rf : Bool}, Rf = true → PK (fun m4 _ => CPO K nm p (p + 1) sc sc2 0 W Rf false (fun _ => False) cm m3 m4) (hb_Cm_expression_221 N (hrc_Cm_fun N d) () m3 (I (ν : Nat)) (I (p : Nat))) := fun {sc2 Rf} hRf => by
      unfold hb_Cm_expression_221 hb_Cm_expression_227 hb_Cm_expression_359
      refine pk_bnd (pk_mo (fault_p (N := N) (tk := p) (nb := 5) (by omega) (by omega)) (fun v r q => ?_))
      refine pk_bnd (fun w2 r2 x2 => pk_ck (fun _ => pk_bnd (fun w3 r3 x3 => pk_some ?_)))
      have f2 := yu_hm_Co_put (u0 := v) Ku_rf w2 r2 x2
      have f3 := yu_hm_Co_put (u0 := w2) Ku_rf w3 r3 x3
      exact Or.inl ⟨Or.inl hRf, Ku_s (Ku_s q.1 f2) f3, FRC_tr (FRC_tr ⟨fun k hk => q.2.1 k (by omega), fun k _ => by rw [q.2.2]⟩ (FRC_u f2)) (FRC_u f3)⟩
    by_cases hx0 : nm x = 0
    · rw [hx0, show decide (I ((0 : Nat) : Int) = 0) = true from rfl, br_tq]
      exact bad (by simp)
    · rw [decide_eq_false (p := I (nm x : Nat) = 0) (fun z => hx0 (i_inj (b := 0) (by have := hnm.2 x; omega) (by omega) z)), br_fq]
      refine pk_ck (fun _ => pk_bnd (pk_mo (isB_all (N := N) hnm cp.2.1 ok hx (by omega)) (fun v r q => ?_)))
      rcases q with ⟨q1, q2, q3⟩ | ⟨q1, q2, q3⟩
      · rw [decide_eq_true q1, br_tq, q2]
        exact bad (by rw [q3]; simp)
      · rw [q1, show decide ((1 : Int32) = 0) = false from rfl, br_fq, q3]
        unfold hb_Cm_expression_227 hb_Cm_expression_359
        refine pk_bnd (fun w2 r2 x2 => pk_ck (fun _ => pk_bnd (fun w3 r3 x3 => pk_some ?_)))
        have qq : NPE nm (sc.length - 1) (hld x sc) cm (upd (m3.2.2.1 42) p (I (lvx x sc : Nat))) false m3 (upA m3 42 (upd (m3.2.2.1 42) p (I (lvx x sc : Nat)))) := ⟨CNs_hld (CNs_42 cp.2.1), by rw [upA_no (by decide)]; exact cp.2.2.1, fun j _ => by rw [upA_no (by decide)], upA_at, C11_rf, rfl, rfl, rfl, ⟨fun _ _ => rfl, fun k hk => upA_no (by omega)⟩⟩
        refine CPO_ok ⟨by rw [q2]; simp [hx0], fun z => z⟩ ?_
        rw [if_pos ⟨hx0, q2⟩, wup_1 hK, hW hx0 q2, Nat.max_eq_left (Nat.zero_le cm)]
        exact NPE_u (NPE_u qq (yu_hm_Co_put Ku_rf w2 r2 x2)) (yu_hm_Co_put Ku_rf w3 r3 x3)
end
end
section
set_option maxRecDepth 100000
def Kqc (u w : MS) : Prop := FRC u w
def KqE {α : Type} (u : MS) (o : Option (MS × α)) : Prop := ∀ w r, o = some (w, r) → Kqc u w
section
variable {α β : Type} {u0 u w : MS} {k : Nat}
theorem Kq_none : KqE u0 (none : Option (MS × α)) := fun _ _ e => by cases e
theorem Kq_some {r : α} (h : Kqc u0 w) : KqE u0 (some (w, r)) := fun _ _ e => by injection e with e; injection e with e1 _; exact e1 ▸ h
theorem Kq_br {b : Bool} {p q : Option (MS × α)} (h1 : KqE u0 p) (h2 : KqE u0 q) : KqE u0 (br b p q) := by cases b <;> assumption
theorem Kq_ck {b : Bool} {p : Option (MS × α)} (h1 : KqE u0 p) : KqE u0 (ck b p) := by
  cases b
  · exact Kq_none
  · exact h1
theorem Kq_bo {o : Option β} {f : β → Option (MS × α)} (h : ∀ j, KqE u0 (f j)) : KqE u0 (bo o f) := by
  cases o with
  | none => exact Kq_none
  | some j => exact h j
theorem Kq_bnd {o : Option (MS × β)} {f : MS → β → Option (MS × α)} (h1 : KqE u0 o) (h2 : ∀ w r, Kqc u0 w → KqE u0 (f w r)) : KqE u0 (bnd o f) := by
  cases o with
  | none => exact Kq_none
  | some x => exact h2 x.1 x.2 (h1 x.1 x.2 rfl)
theorem Kq_T {o : Option (MS × (β ⊕ Nat))} {f : MS → β → Option (MS × (α ⊕ Nat))} (h1 : KqE u0 o) (h2 : ∀ w r, Kqc u0 w → KqE u0 (f w r)) : KqE u0 (bTm o f) := by
  cases o with
  | none => exact Kq_none
  | some x =>
    obtain ⟨x, z⟩ := x
    cases z with
    | inl v => exact h2 x v (h1 x _ rfl)
    | inr k => exact Kq_some (h1 x _ rfl)
theorem Kq_H {o : Option (MS × (β ⊕ Nat))} {f : MS → β → Option (MS × α)} {g : MS → Option (MS × α)} (h1 : KqE u0 o) (h2 : ∀ w r, Kqc u0 w → KqE u0 (f w r)) (h3 : ∀ w, Kqc u0 w → KqE u0 (g w)) : KqE u0 (bHm o f g) := by
  cases o with
  | none => exact Kq_none
  | some x =>
    obtain ⟨x, z⟩ := x
    cases z with
    | inl v => exact h2 x v (h1 x _ rfl)
    | inr k =>
      show KqE u0 (if k = 3 then g x else none)
      split
      · exact h3 x (h1 x _ rfl)
      · exact Kq_none
theorem Kq_ltm {x : MS} {f : MS → Option (MS × α)} (h1 : Kqc u0 x) (h2 : ∀ w, Kqc u0 w → KqE u0 (f w)) : KqE u0 (lt x f) := h2 x h1
theorem Kq_ltv {x : β} {f : β → Option (MS × α)} (h2 : ∀ y, KqE u0 (f y)) : KqE u0 (lt x f) := h2 x
theorem Kq_I {v : Int32} (h : Kqc u0 u) (hk : 440 ≤ k ∧ k ≠ 442 ∧ (k < 720 ∨ 740 ≤ k)) : Kqc u0 (upI u k v) := ⟨fun j hj => (upI_ne (by omega)).trans (h.1 j hj), h.2⟩
theorem Kq_L {v : Int64} (h : Kqc u0 u) : Kqc u0 (upL u k v) := h
theorem Kq_J {v : Nat → Int64} (h : Kqc u0 u) : Kqc u0 (upJ u k v) := h
theorem Kq_A {v : Nat → Int32} (h : Kqc u0 u) (hk : 22 ≤ k ∧ k ≠ 24 ∧ k ≠ 25 ∧ (k < 36 ∨ 38 < k)) : Kqc u0 (upA u k v) := ⟨h.1, fun j hj => (upA_no (by omega)).trans (h.2 j hj)⟩
end
section
variable {u0 u : MS} {N : Nat}
theorem yq_hb_To_signAt_26 {G : Unit} {t0 : Int32} (h : Kqc u0 u)  : KqE u0 (hb_To_signAt_26 N G u t0) := by
  unfold hb_To_signAt_26
  repeat' (first | with_reducible assumption | with_reducible refine Kq_br ?_ ?_ | with_reducible refine Kq_bnd ?_ (fun _ _ _ => ?_) | with_reducible refine Kq_ck ?_ | with_reducible refine Kq_ltm ?_ (fun _ _ => ?_) | with_reducible refine Kq_some ?_ | with_reducible refine Kq_bo (fun _ => ?_) | with_reducible refine Kq_T ?_ (fun _ _ _ => ?_) | with_reducible refine Kq_H ?_ (fun _ _ _ => ?_) (fun _ _ => ?_) | with_reducible refine Kq_ltv (fun _ => ?_) | with_reducible refine Kq_I ?_ (by decide) | with_reducible refine Kq_A ?_ (by decide) | with_reducible refine Kq_J ?_ | with_reducible refine Kq_L ?_)
theorem yq_hb_To_signAt_12 {G : Unit} (h : Kqc u0 u)  : KqE u0 (hb_To_signAt_12 N G u) := by
  unfold hb_To_signAt_12
  repeat' (first | with_reducible assumption | with_reducible refine Kq_br ?_ ?_ | with_reducible refine Kq_bnd ?_ (fun _ _ _ => ?_) | with_reducible refine Kq_ck ?_ | with_reducible refine Kq_ltm ?_ (fun _ _ => ?_) | with_reducible refine Kq_some ?_ | with_reducible refine Kq_bo (fun _ => ?_) | with_reducible refine Kq_T ?_ (fun _ _ _ => ?_) | with_reducible refine Kq_H ?_ (fun _ _ _ => ?_) (fun _ _ => ?_) | with_reducible exact yq_hb_To_signAt_26 (by assumption) | with_reducible refine Kq_ltv (fun _ => ?_) | with_reducible refine Kq_I ?_ (by decide) | with_reducible refine Kq_A ?_ (by decide) | with_reducible refine Kq_J ?_ | with_reducible refine Kq_L ?_)
theorem yq_hb_To_signAt_0 {G : Unit} {v1 : Int32} (h : Kqc u0 u)  : KqE u0 (hb_To_signAt_0 N G u v1) := by
  unfold hb_To_signAt_0
  repeat' (first | with_reducible assumption | with_reducible refine Kq_br ?_ ?_ | with_reducible refine Kq_bnd ?_ (fun _ _ _ => ?_) | with_reducible refine Kq_ck ?_ | with_reducible refine Kq_ltm ?_ (fun _ _ => ?_) | with_reducible refine Kq_some ?_ | with_reducible refine Kq_bo (fun _ => ?_) | with_reducible refine Kq_T ?_ (fun _ _ _ => ?_) | with_reducible refine Kq_H ?_ (fun _ _ _ => ?_) (fun _ _ => ?_) | with_reducible exact yq_hb_To_signAt_12 (by assumption) | with_reducible exact yq_hb_To_signAt_26 (by assumption) | with_reducible refine Kq_ltv (fun _ => ?_) | with_reducible refine Kq_I ?_ (by decide) | with_reducible refine Kq_A ?_ (by decide) | with_reducible refine Kq_J ?_ | with_reducible refine Kq_L ?_)
theorem yq_hm_To_signAt {v1 : Int32} (h : Kqc u0 u)  : KqE u0 (hm_To_signAt N u v1) := by
  unfold hm_To_signAt
  exact yq_hb_To_signAt_0 h
theorem yq_hb_Co_put_30 {G : Unit} (h : Kqc u0 u)  : KqE u0 (hb_Co_put_30 N G u) := by
  unfold hb_Co_put_30
  repeat' (first | with_reducible assumption | with_reducible refine Kq_br ?_ ?_ | with_reducible refine Kq_bnd ?_ (fun _ _ _ => ?_) | with_reducible refine Kq_ck ?_ | with_reducible refine Kq_ltm ?_ (fun _ _ => ?_) | with_reducible refine Kq_some ?_ | with_reducible refine Kq_bo (fun _ => ?_) | with_reducible refine Kq_T ?_ (fun _ _ _ => ?_) | with_reducible refine Kq_H ?_ (fun _ _ _ => ?_) (fun _ _ => ?_) | with_reducible refine Kq_ltv (fun _ => ?_) | with_reducible refine Kq_I ?_ (by decide) | with_reducible refine Kq_A ?_ (by decide) | with_reducible refine Kq_J ?_ | with_reducible refine Kq_L ?_)
theorem yq_hb_Co_put_0 {G : Unit} {v1 : Int32} (h : Kqc u0 u)  : KqE u0 (hb_Co_put_0 N G u v1) := by
  unfold hb_Co_put_0
  repeat' (first | with_reducible assumption | with_reducible refine Kq_br ?_ ?_ | with_reducible refine Kq_bnd ?_ (fun _ _ _ => ?_) | with_reducible refine Kq_ck ?_ | with_reducible refine Kq_ltm ?_ (fun _ _ => ?_) | with_reducible refine Kq_some ?_ | with_reducible refine Kq_bo (fun _ => ?_) | with_reducible refine Kq_T ?_ (fun _ _ _ => ?_) | with_reducible refine Kq_H ?_ (fun _ _ _ => ?_) (fun _ _ => ?_) | with_reducible exact yq_hb_Co_put_30 (by assumption) | with_reducible refine Kq_ltv (fun _ => ?_) | with_reducible refine Kq_I ?_ (by decide) | with_reducible refine Kq_A ?_ (by decide) | with_reducible refine Kq_J ?_ | with_reducible refine Kq_L ?_)
theorem yq_hm_Co_put {v1 : Int32} (h : Kqc u0 u)  : KqE u0 (hm_Co_put N u v1) := by
  unfold hm_Co_put
  exact yq_hb_Co_put_0 h
theorem yq_hb_Cm_term_0 {G : Unit} {v1 : Int32} {v2 : Int32} (h : Kqc u0 u)  : KqE u0 (hb_Cm_term_0 N G u v1 v2) := by
  unfold hb_Cm_term_0
  repeat' (first | with_reducible assumption | with_reducible refine Kq_br ?_ ?_ | with_reducible refine Kq_bnd ?_ (fun _ _ _ => ?_) | with_reducible refine Kq_ck ?_ | with_reducible refine Kq_ltm ?_ (fun _ _ => ?_) | with_reducible refine Kq_some ?_ | with_reducible refine Kq_bo (fun _ => ?_) | with_reducible refine Kq_T ?_ (fun _ _ _ => ?_) | with_reducible refine Kq_H ?_ (fun _ _ _ => ?_) (fun _ _ => ?_) | with_reducible exact yq_hm_Co_put (by assumption) | with_reducible refine Kq_ltv (fun _ => ?_) | with_reducible refine Kq_I ?_ (by decide) | with_reducible refine Kq_A ?_ (by decide) | with_reducible refine Kq_J ?_ | with_reducible refine Kq_L ?_)
theorem yq_hm_Cm_term {v1 : Int32} {v2 : Int32} (h : Kqc u0 u)  : KqE u0 (hm_Cm_term N u v1 v2) := by
  unfold hm_Cm_term
  exact yq_hb_Cm_term_0 h
theorem yq_hb_Cm_string_50 {G : (MS → Int32 → Int32 → Option (MS × Unit)) × (MS → Int32 → Int32 → Int32 → Option (MS × Unit))} {v2 : Int32} {v3 : Int32} {v4 : Int32} (h : Kqc u0 u) (hG0 : ∀ (u : MS) a0 a1, Kqc u0 u → KqE u0 (G.1 u a0 a1)) (hG1 : ∀ (u : MS) a0 a1 a2, Kqc u0 u → KqE u0 (G.2 u a0 a1 a2)) : KqE u0 (hb_Cm_string_50 N G u v2 v3 v4) := by
  unfold hb_Cm_string_50
  repeat' (first | with_reducible assumption | with_reducible refine Kq_br ?_ ?_ | with_reducible refine Kq_bnd ?_ (fun _ _ _ => ?_) | with_reducible refine Kq_ck ?_ | with_reducible refine Kq_ltm ?_ (fun _ _ => ?_) | with_reducible refine Kq_some ?_ | with_reducible refine Kq_bo (fun _ => ?_) | with_reducible refine Kq_T ?_ (fun _ _ _ => ?_) | with_reducible refine Kq_H ?_ (fun _ _ _ => ?_) (fun _ _ => ?_) | with_reducible exact yq_hm_To_signAt (by assumption) | with_reducible exact yq_hm_Co_put (by assumption) | with_reducible exact hG0 _ _ _ (by assumption) | with_reducible exact hG1 _ _ _ _ (by assumption) | with_reducible refine Kq_ltv (fun _ => ?_) | with_reducible refine Kq_I ?_ (by decide) | with_reducible refine Kq_A ?_ (by decide) | with_reducible refine Kq_J ?_ | with_reducible refine Kq_L ?_)
theorem yq_hb_Cm_string_39 {G : (MS → Int32 → Int32 → Option (MS × Unit)) × (MS → Int32 → Int32 → Int32 → Option (MS × Unit))} {v2 : Int32} {v3 : Int32} (h : Kqc u0 u) (hG0 : ∀ (u : MS) a0 a1, Kqc u0 u → KqE u0 (G.1 u a0 a1)) (hG1 : ∀ (u : MS) a0 a1 a2, Kqc u0 u → KqE u0 (G.2 u a0 a1 a2)) : KqE u0 (hb_Cm_string_39 N G u v2 v3) := by
  unfold hb_Cm_string_39
  repeat' (first | with_reducible assumption | with_reducible refine Kq_br ?_ ?_ | with_reducible refine Kq_bnd ?_ (fun _ _ _ => ?_) | with_reducible refine Kq_ck ?_ | with_reducible refine Kq_ltm ?_ (fun _ _ => ?_) | with_reducible refine Kq_some ?_ | with_reducible refine Kq_bo (fun _ => ?_) | with_reducible refine Kq_T ?_ (fun _ _ _ => ?_) | with_reducible refine Kq_H ?_ (fun _ _ _ => ?_) (fun _ _ => ?_) | with_reducible exact yq_hm_Co_put (by assumption) | with_reducible exact hG0 _ _ _ (by assumption) | with_reducible exact hG1 _ _ _ _ (by assumption) | with_reducible refine Kq_ltv (fun _ => ?_) | with_reducible refine Kq_I ?_ (by decide) | with_reducible refine Kq_A ?_ (by decide) | with_reducible refine Kq_J ?_ | with_reducible refine Kq_L ?_)
theorem yq_hb_Cm_string_12 {G : (MS → Int32 → Int32 → Option (MS × Unit)) × (MS → Int32 → Int32 → Int32 → Option (MS × Unit))} {v2 : Int32} {v3 : Int32} (h : Kqc u0 u) (hG0 : ∀ (u : MS) a0 a1, Kqc u0 u → KqE u0 (G.1 u a0 a1)) (hG1 : ∀ (u : MS) a0 a1 a2, Kqc u0 u → KqE u0 (G.2 u a0 a1 a2)) : KqE u0 (hb_Cm_string_12 N G u v2 v3) := by
  unfold hb_Cm_string_12
  repeat' (first | with_reducible assumption | with_reducible refine Kq_br ?_ ?_ | with_reducible refine Kq_bnd ?_ (fun _ _ _ => ?_) | with_reducible refine Kq_ck ?_ | with_reducible refine Kq_ltm ?_ (fun _ _ => ?_) | with_reducible refine Kq_some ?_ | with_reducible refine Kq_bo (fun _ => ?_) | with_reducible refine Kq_T ?_ (fun _ _ _ => ?_) | with_reducible refine Kq_H ?_ (fun _ _ _ => ?_) (fun _ _ => ?_) | with_reducible exact yq_hb_Cm_string_39 (by assumption) hG0 hG1 | with_reducible exact yq_hm_To_signAt (by assumption) | with_reducible exact hG0 _ _ _ (by assumption) | with_reducible exact hG1 _ _ _ _ (by assumption) | with_reducible refine Kq_ltv (fun _ => ?_) | with_reducible refine Kq_I ?_ (by decide) | with_reducible refine Kq_A ?_ (by decide) | with_reducible refine Kq_J ?_ | with_reducible refine Kq_L ?_)
theorem yq_hb_Cm_string_0 {G : (MS → Int32 → Int32 → Option (MS × Unit)) × (MS → Int32 → Int32 → Int32 → Option (MS × Unit))} {v1 : Int32} (h : Kqc u0 u) (hG0 : ∀ (u : MS) a0 a1, Kqc u0 u → KqE u0 (G.1 u a0 a1)) (hG1 : ∀ (u : MS) a0 a1 a2, Kqc u0 u → KqE u0 (G.2 u a0 a1 a2)) : KqE u0 (hb_Cm_string_0 N G u v1) := by
  unfold hb_Cm_string_0
  repeat' (first | with_reducible assumption | with_reducible refine Kq_br ?_ ?_ | with_reducible refine Kq_bnd ?_ (fun _ _ _ => ?_) | with_reducible refine Kq_ck ?_ | with_reducible refine Kq_ltm ?_ (fun _ _ => ?_) | with_reducible refine Kq_some ?_ | with_reducible refine Kq_bo (fun _ => ?_) | with_reducible refine Kq_T ?_ (fun _ _ _ => ?_) | with_reducible refine Kq_H ?_ (fun _ _ _ => ?_) (fun _ _ => ?_) | with_reducible exact hG0 _ _ _ (by assumption) | with_reducible exact hG1 _ _ _ _ (by assumption) | with_reducible refine Kq_ltv (fun _ => ?_) | with_reducible refine Kq_I ?_ (by decide) | with_reducible refine Kq_A ?_ (by decide) | with_reducible refine Kq_J ?_ | with_reducible refine Kq_L ?_)
theorem yq_hg_Cm_string  (n : Nat) : (∀ (u : MS) a0 a1, Kqc u0 u → KqE u0 ((hg_Cm_string N n).1 u a0 a1)) ∧ (∀ (u : MS) a0 a1 a2, Kqc u0 u → KqE u0 ((hg_Cm_string N n).2 u a0 a1 a2)) := by
  induction n with
  | zero => exact ⟨fun _ _ _ _ => Kq_none, fun _ _ _ _ _ => Kq_none⟩
  | succ n ih => exact ⟨fun _ _ _ h => yq_hb_Cm_string_12 (N := N) h ih.1 ih.2, fun _ _ _ _ h => yq_hb_Cm_string_50 (N := N) h ih.1 ih.2⟩
theorem yq_hm_Cm_string {v1 : Int32} (h : Kqc u0 u)  : KqE u0 (hm_Cm_string N u v1) := by
  unfold hm_Cm_string
  exact yq_hb_Cm_string_0 h ((yq_hg_Cm_string N).1) ((yq_hg_Cm_string N).2)
theorem yq_hb_Cm_isBound_54 {G : (MS → Int32 → Int32 → Int32 → Int32 → Option (MS × Int32)) × (MS → Int32 → Int32 → Int32 → Option (MS × Int32))} {v2 : Int32} {v5 : Int32} (h : Kqc u0 u) (hG0 : ∀ (u : MS) a0 a1 a2 a3, Kqc u0 u → KqE u0 (G.1 u a0 a1 a2 a3)) (hG1 : ∀ (u : MS) a0 a1 a2, Kqc u0 u → KqE u0 (G.2 u a0 a1 a2)) : KqE u0 (hb_Cm_isBound_54 N G u v2 v5) := by
  unfold hb_Cm_isBound_54
  repeat' (first | with_reducible assumption | with_reducible refine Kq_br ?_ ?_ | with_reducible refine Kq_bnd ?_ (fun _ _ _ => ?_) | with_reducible refine Kq_ck ?_ | with_reducible refine Kq_ltm ?_ (fun _ _ => ?_) | with_reducible refine Kq_some ?_ | with_reducible refine Kq_bo (fun _ => ?_) | with_reducible refine Kq_T ?_ (fun _ _ _ => ?_) | with_reducible refine Kq_H ?_ (fun _ _ _ => ?_) (fun _ _ => ?_) | with_reducible exact hG0 _ _ _ _ _ (by assumption) | with_reducible exact hG1 _ _ _ _ (by assumption) | with_reducible refine Kq_ltv (fun _ => ?_) | with_reducible refine Kq_I ?_ (by decide) | with_reducible refine Kq_A ?_ (by decide) | with_reducible refine Kq_J ?_ | with_reducible refine Kq_L ?_)
theorem yq_hb_Cm_isBound_31 {G : (MS → Int32 → Int32 → Int32 → Int32 → Option (MS × Int32)) × (MS → Int32 → Int32 → Int32 → Option (MS × Int32))} {v2 : Int32} {v4 : Int32} {v5 : Int32} (h : Kqc u0 u) (hG0 : ∀ (u : MS) a0 a1 a2 a3, Kqc u0 u → KqE u0 (G.1 u a0 a1 a2 a3)) (hG1 : ∀ (u : MS) a0 a1 a2, Kqc u0 u → KqE u0 (G.2 u a0 a1 a2)) : KqE u0 (hb_Cm_isBound_31 N G u v2 v4 v5) := by
  unfold hb_Cm_isBound_31
  repeat' (first | with_reducible assumption | with_reducible refine Kq_br ?_ ?_ | with_reducible refine Kq_bnd ?_ (fun _ _ _ => ?_) | with_reducible refine Kq_ck ?_ | with_reducible refine Kq_ltm ?_ (fun _ _ => ?_) | with_reducible refine Kq_some ?_ | with_reducible refine Kq_bo (fun _ => ?_) | with_reducible refine Kq_T ?_ (fun _ _ _ => ?_) | with_reducible refine Kq_H ?_ (fun _ _ _ => ?_) (fun _ _ => ?_) | with_reducible exact yq_hb_Cm_isBound_54 (by assumption) hG0 hG1 | with_reducible exact hG0 _ _ _ _ _ (by assumption) | with_reducible exact hG1 _ _ _ _ (by assumption) | with_reducible refine Kq_ltv (fun _ => ?_) | with_reducible refine Kq_I ?_ (by decide) | with_reducible refine Kq_A ?_ (by decide) | with_reducible refine Kq_J ?_ | with_reducible refine Kq_L ?_)
theorem yq_hb_Cm_isBound_8 {G : (MS → Int32 → Int32 → Int32 → Int32 → Option (MS × Int32)) × (MS → Int32 → Int32 → Int32 → Option (MS × Int32))} {v1 : Int32} {v2 : Int32} {v3 : Int32} {v4 : Int32} (h : Kqc u0 u) (hG0 : ∀ (u : MS) a0 a1 a2 a3, Kqc u0 u → KqE u0 (G.1 u a0 a1 a2 a3)) (hG1 : ∀ (u : MS) a0 a1 a2, Kqc u0 u → KqE u0 (G.2 u a0 a1 a2)) : KqE u0 (hb_Cm_isBound_8 N G u v1 v2 v3 v4) := by
  unfold hb_Cm_isBound_8
  repeat' (first | with_reducible assumption | with_reducible refine Kq_br ?_ ?_ | with_reducible refine Kq_bnd ?_ (fun _ _ _ => ?_) | with_reducible refine Kq_ck ?_ | with_reducible refine Kq_ltm ?_ (fun _ _ => ?_) | with_reducible refine Kq_some ?_ | with_reducible refine Kq_bo (fun _ => ?_) | with_reducible refine Kq_T ?_ (fun _ _ _ => ?_) | with_reducible refine Kq_H ?_ (fun _ _ _ => ?_) (fun _ _ => ?_) | with_reducible exact hG0 _ _ _ _ _ (by assumption) | with_reducible exact hG1 _ _ _ _ (by assumption) | with_reducible refine Kq_ltv (fun _ => ?_) | with_reducible refine Kq_I ?_ (by decide) | with_reducible refine Kq_A ?_ (by decide) | with_reducible refine Kq_J ?_ | with_reducible refine Kq_L ?_)
theorem yq_hb_Cm_isBound_0 {G : (MS → Int32 → Int32 → Int32 → Int32 → Option (MS × Int32)) × (MS → Int32 → Int32 → Int32 → Option (MS × Int32))} {v1 : Int32} {v2 : Int32} {v3 : Int32} (h : Kqc u0 u) (hG0 : ∀ (u : MS) a0 a1 a2 a3, Kqc u0 u → KqE u0 (G.1 u a0 a1 a2 a3)) (hG1 : ∀ (u : MS) a0 a1 a2, Kqc u0 u → KqE u0 (G.2 u a0 a1 a2)) : KqE u0 (hb_Cm_isBound_0 N G u v1 v2 v3) := by
  unfold hb_Cm_isBound_0
  repeat' (first | with_reducible assumption | with_reducible refine Kq_br ?_ ?_ | with_reducible refine Kq_bnd ?_ (fun _ _ _ => ?_) | with_reducible refine Kq_ck ?_ | with_reducible refine Kq_ltm ?_ (fun _ _ => ?_) | with_reducible refine Kq_some ?_ | with_reducible refine Kq_bo (fun _ => ?_) | with_reducible refine Kq_T ?_ (fun _ _ _ => ?_) | with_reducible refine Kq_H ?_ (fun _ _ _ => ?_) (fun _ _ => ?_) | with_reducible exact hG0 _ _ _ _ _ (by assumption) | with_reducible exact hG1 _ _ _ _ (by assumption) | with_reducible refine Kq_ltv (fun _ => ?_) | with_reducible refine Kq_I ?_ (by decide) | with_reducible refine Kq_A ?_ (by decide) | with_reducible refine Kq_J ?_ | with_reducible refine Kq_L ?_)
theorem yq_hg_Cm_isBound  (n : Nat) : (∀ (u : MS) a0 a1 a2 a3, Kqc u0 u → KqE u0 ((hg_Cm_isBound N n).1 u a0 a1 a2 a3)) ∧ (∀ (u : MS) a0 a1 a2, Kqc u0 u → KqE u0 ((hg_Cm_isBound N n).2 u a0 a1 a2)) := by
  induction n with
  | zero => exact ⟨fun _ _ _ _ _ _ => Kq_none, fun _ _ _ _ _ => Kq_none⟩
  | succ n ih => exact ⟨fun _ _ _ _ _ h => yq_hb_Cm_isBound_8 (N := N) h ih.1 ih.2, fun _ _ _ _ h => yq_hb_Cm_isBound_31 (N := N) h ih.1 ih.2⟩
theorem yq_hm_Cm_isBound {v1 : Int32} {v2 : Int32} {v3 : Int32} (h : Kqc u0 u)  : KqE u0 (hm_Cm_isBound N u v1 v2 v3) := by
  unfold hm_Cm_isBound
  exact yq_hb_Cm_isBound_0 h ((yq_hg_Cm_isBound N).1) ((yq_hg_Cm_isBound N).2)
theorem yq_hb_Cm_fault_0 {G : Unit} {v1 : Int32} {v2 : Int32} (h : Kqc u0 u)  : KqE u0 (hb_Cm_fault_0 N G u v1 v2) := by
  unfold hb_Cm_fault_0
  repeat' (first | with_reducible assumption | with_reducible refine Kq_br ?_ ?_ | with_reducible refine Kq_bnd ?_ (fun _ _ _ => ?_) | with_reducible refine Kq_ck ?_ | with_reducible refine Kq_ltm ?_ (fun _ _ => ?_) | with_reducible refine Kq_some ?_ | with_reducible refine Kq_bo (fun _ => ?_) | with_reducible refine Kq_T ?_ (fun _ _ _ => ?_) | with_reducible refine Kq_H ?_ (fun _ _ _ => ?_) (fun _ _ => ?_) | with_reducible refine Kq_ltv (fun _ => ?_) | with_reducible refine Kq_I ?_ (by decide) | with_reducible refine Kq_A ?_ (by decide) | with_reducible refine Kq_J ?_ | with_reducible refine Kq_L ?_)
theorem yq_hm_Cm_fault {v1 : Int32} {v2 : Int32} (h : Kqc u0 u)  : KqE u0 (hm_Cm_fault N u v1 v2) := by
  unfold hm_Cm_fault
  exact yq_hb_Cm_fault_0 h
theorem yq_hb_Cm_bind_32 {G : Unit} (h : Kqc u0 u)  : KqE u0 (hb_Cm_bind_32 N G u) := by
  unfold hb_Cm_bind_32
  repeat' (first | with_reducible assumption | with_reducible refine Kq_br ?_ ?_ | with_reducible refine Kq_bnd ?_ (fun _ _ _ => ?_) | with_reducible refine Kq_ck ?_ | with_reducible refine Kq_ltm ?_ (fun _ _ => ?_) | with_reducible refine Kq_some ?_ | with_reducible refine Kq_bo (fun _ => ?_) | with_reducible refine Kq_T ?_ (fun _ _ _ => ?_) | with_reducible refine Kq_H ?_ (fun _ _ _ => ?_) (fun _ _ => ?_) | with_reducible refine Kq_ltv (fun _ => ?_) | with_reducible refine Kq_I ?_ (by decide) | with_reducible refine Kq_A ?_ (by decide) | with_reducible refine Kq_J ?_ | with_reducible refine Kq_L ?_)
theorem yq_hb_Cm_bind_0 {G : Unit} {v1 : Int32} (h : Kqc u0 u)  : KqE u0 (hb_Cm_bind_0 N G u v1) := by
  unfold hb_Cm_bind_0
  repeat' (first | with_reducible assumption | with_reducible refine Kq_br ?_ ?_ | with_reducible refine Kq_bnd ?_ (fun _ _ _ => ?_) | with_reducible refine Kq_ck ?_ | with_reducible refine Kq_ltm ?_ (fun _ _ => ?_) | with_reducible refine Kq_some ?_ | with_reducible refine Kq_bo (fun _ => ?_) | with_reducible refine Kq_T ?_ (fun _ _ _ => ?_) | with_reducible refine Kq_H ?_ (fun _ _ _ => ?_) (fun _ _ => ?_) | with_reducible exact yq_hb_Cm_bind_32 (by assumption) | with_reducible refine Kq_ltv (fun _ => ?_) | with_reducible refine Kq_I ?_ (by decide) | with_reducible refine Kq_A ?_ (by decide) | with_reducible refine Kq_J ?_ | with_reducible refine Kq_L ?_)
theorem yq_hm_Cm_bind {v1 : Int32} (h : Kqc u0 u)  : KqE u0 (hm_Cm_bind N u v1) := by
  unfold hm_Cm_bind
  exact yq_hb_Cm_bind_0 h
theorem yq_hb_Cm_nameInPattern_92 {G : Unit} (h : Kqc u0 u)  : KqE u0 (hb_Cm_nameInPattern_92 N G u) := by
  unfold hb_Cm_nameInPattern_92
  repeat' (first | with_reducible assumption | with_reducible refine Kq_br ?_ ?_ | with_reducible refine Kq_bnd ?_ (fun _ _ _ => ?_) | with_reducible refine Kq_ck ?_ | with_reducible refine Kq_ltm ?_ (fun _ _ => ?_) | with_reducible refine Kq_some ?_ | with_reducible refine Kq_bo (fun _ => ?_) | with_reducible refine Kq_T ?_ (fun _ _ _ => ?_) | with_reducible refine Kq_H ?_ (fun _ _ _ => ?_) (fun _ _ => ?_) | with_reducible refine Kq_ltv (fun _ => ?_) | with_reducible refine Kq_I ?_ (by decide) | with_reducible refine Kq_A ?_ (by decide) | with_reducible refine Kq_J ?_ | with_reducible refine Kq_L ?_)
theorem yq_hb_Cm_nameInPattern_46 {G : Unit} {v1 : Int32} {t1 : Int32} {t2 : Int32} {t3 : Int32} (h : Kqc u0 u)  : KqE u0 (hb_Cm_nameInPattern_46 N G u v1 t1 t2 t3) := by
  unfold hb_Cm_nameInPattern_46
  repeat' (first | with_reducible assumption | with_reducible refine Kq_br ?_ ?_ | with_reducible refine Kq_bnd ?_ (fun _ _ _ => ?_) | with_reducible refine Kq_ck ?_ | with_reducible refine Kq_ltm ?_ (fun _ _ => ?_) | with_reducible refine Kq_some ?_ | with_reducible refine Kq_bo (fun _ => ?_) | with_reducible refine Kq_T ?_ (fun _ _ _ => ?_) | with_reducible refine Kq_H ?_ (fun _ _ _ => ?_) (fun _ _ => ?_) | with_reducible exact yq_hb_Cm_nameInPattern_92 (by assumption) | with_reducible exact yq_hm_Cm_isBound (by assumption) | with_reducible exact yq_hm_Cm_bind (by assumption) | with_reducible exact yq_hm_Co_put (by assumption) | with_reducible refine Kq_ltv (fun _ => ?_) | with_reducible refine Kq_I ?_ (by decide) | with_reducible refine Kq_A ?_ (by decide) | with_reducible refine Kq_J ?_ | with_reducible refine Kq_L ?_)
theorem yq_hb_Cm_nameInPattern_0 {G : Unit} {v1 : Int32} {v2 : Int32} (h : Kqc u0 u)  : KqE u0 (hb_Cm_nameInPattern_0 N G u v1 v2) := by
  unfold hb_Cm_nameInPattern_0
  repeat' (first | with_reducible assumption | with_reducible refine Kq_br ?_ ?_ | with_reducible refine Kq_bnd ?_ (fun _ _ _ => ?_) | with_reducible refine Kq_ck ?_ | with_reducible refine Kq_ltm ?_ (fun _ _ => ?_) | with_reducible refine Kq_some ?_ | with_reducible refine Kq_bo (fun _ => ?_) | with_reducible refine Kq_T ?_ (fun _ _ _ => ?_) | with_reducible refine Kq_H ?_ (fun _ _ _ => ?_) (fun _ _ => ?_) | with_reducible exact yq_hb_Cm_nameInPattern_46 (by assumption) | with_reducible exact yq_hb_Cm_nameInPattern_92 (by assumption) | with_reducible exact yq_hm_Co_put (by assumption) | with_reducible refine Kq_ltv (fun _ => ?_) | with_reducible refine Kq_I ?_ (by decide) | with_reducible refine Kq_A ?_ (by decide) | with_reducible refine Kq_J ?_ | with_reducible refine Kq_L ?_)
theorem yq_hm_Cm_nameInPattern {v1 : Int32} {v2 : Int32} (h : Kqc u0 u)  : KqE u0 (hm_Cm_nameInPattern N u v1 v2) := by
  unfold hm_Cm_nameInPattern
  exact yq_hb_Cm_nameInPattern_0 h
theorem yq_hb_Cm_listPattern_84 {S : SF_Cm_listPattern} {G : (MS → Int32 → Int32 → Option (MS × Unit))} (h : Kqc u0 u) (hS0 : ∀ (u : MS) a0, Kqc u0 u → KqE u0 (S.1 u a0)) (hS1 : ∀ (u : MS) a0, Kqc u0 u → KqE u0 (S.2 u a0)) (hG0 : ∀ (u : MS) a0 a1, Kqc u0 u → KqE u0 (G u a0 a1)) : KqE u0 (hb_Cm_listPattern_84 N S G u) := by
  unfold hb_Cm_listPattern_84
  repeat' (first | with_reducible assumption | with_reducible refine Kq_br ?_ ?_ | with_reducible refine Kq_bnd ?_ (fun _ _ _ => ?_) | with_reducible refine Kq_ck ?_ | with_reducible refine Kq_ltm ?_ (fun _ _ => ?_) | with_reducible refine Kq_some ?_ | with_reducible refine Kq_bo (fun _ => ?_) | with_reducible refine Kq_T ?_ (fun _ _ _ => ?_) | with_reducible refine Kq_H ?_ (fun _ _ _ => ?_) (fun _ _ => ?_) | with_reducible exact hS0 _ _ (by assumption) | with_reducible exact hS1 _ _ (by assumption) | with_reducible exact hG0 _ _ _ (by assumption) | with_reducible refine Kq_ltv (fun _ => ?_) | with_reducible refine Kq_I ?_ (by decide) | with_reducible refine Kq_A ?_ (by decide) | with_reducible refine Kq_J ?_ | with_reducible refine Kq_L ?_)
theorem yq_hb_Cm_listPattern_10 {S : SF_Cm_listPattern} {G : (MS → Int32 → Int32 → Option (MS × Unit))} {v1 : Int32} {v2 : Int32} (h : Kqc u0 u) (hS0 : ∀ (u : MS) a0, Kqc u0 u → KqE u0 (S.1 u a0)) (hS1 : ∀ (u : MS) a0, Kqc u0 u → KqE u0 (S.2 u a0)) (hG0 : ∀ (u : MS) a0 a1, Kqc u0 u → KqE u0 (G u a0 a1)) : KqE u0 (hb_Cm_listPattern_10 N S G u v1 v2) := by
  unfold hb_Cm_listPattern_10
  repeat' (first | with_reducible assumption | with_reducible refine Kq_br ?_ ?_ | with_reducible refine Kq_bnd ?_ (fun _ _ _ => ?_) | with_reducible refine Kq_ck ?_ | with_reducible refine Kq_ltm ?_ (fun _ _ => ?_) | with_reducible refine Kq_some ?_ | with_reducible refine Kq_bo (fun _ => ?_) | with_reducible refine Kq_T ?_ (fun _ _ _ => ?_) | with_reducible refine Kq_H ?_ (fun _ _ _ => ?_) (fun _ _ => ?_) | with_reducible exact yq_hb_Cm_listPattern_84 (by assumption) hS0 hS1 hG0 | with_reducible exact yq_hm_Cm_term (by assumption) | with_reducible exact yq_hm_Co_put (by assumption) | with_reducible exact hS0 _ _ (by assumption) | with_reducible exact hS1 _ _ (by assumption) | with_reducible exact hG0 _ _ _ (by assumption) | with_reducible refine Kq_ltv (fun _ => ?_) | with_reducible refine Kq_I ?_ (by decide) | with_reducible refine Kq_A ?_ (by decide) | with_reducible refine Kq_J ?_ | with_reducible refine Kq_L ?_)
theorem yq_hb_Cm_listPattern_0 {S : SF_Cm_listPattern} {G : (MS → Int32 → Int32 → Option (MS × Unit))} {v1 : Int32} (h : Kqc u0 u) (hS0 : ∀ (u : MS) a0, Kqc u0 u → KqE u0 (S.1 u a0)) (hS1 : ∀ (u : MS) a0, Kqc u0 u → KqE u0 (S.2 u a0)) (hG0 : ∀ (u : MS) a0 a1, Kqc u0 u → KqE u0 (G u a0 a1)) : KqE u0 (hb_Cm_listPattern_0 N S G u v1) := by
  unfold hb_Cm_listPattern_0
  repeat' (first | with_reducible assumption | with_reducible refine Kq_br ?_ ?_ | with_reducible refine Kq_bnd ?_ (fun _ _ _ => ?_) | with_reducible refine Kq_ck ?_ | with_reducible refine Kq_ltm ?_ (fun _ _ => ?_) | with_reducible refine Kq_some ?_ | with_reducible refine Kq_bo (fun _ => ?_) | with_reducible refine Kq_T ?_ (fun _ _ _ => ?_) | with_reducible refine Kq_H ?_ (fun _ _ _ => ?_) (fun _ _ => ?_) | with_reducible exact hS0 _ _ (by assumption) | with_reducible exact hS1 _ _ (by assumption) | with_reducible exact hG0 _ _ _ (by assumption) | with_reducible refine Kq_ltv (fun _ => ?_) | with_reducible refine Kq_I ?_ (by decide) | with_reducible refine Kq_A ?_ (by decide) | with_reducible refine Kq_J ?_ | with_reducible refine Kq_L ?_)
theorem yq_hg_Cm_listPattern {S : SF_Cm_listPattern} (hS0 : ∀ (u : MS) a0, Kqc u0 u → KqE u0 (S.1 u a0)) (hS1 : ∀ (u : MS) a0, Kqc u0 u → KqE u0 (S.2 u a0)) (n : Nat) : (∀ (u : MS) a0 a1, Kqc u0 u → KqE u0 ((hg_Cm_listPattern N S n) u a0 a1)) := by
  induction n with
  | zero => exact fun _ _ _ _ => Kq_none
  | succ n ih => exact fun _ _ _ h => yq_hb_Cm_listPattern_10 (N := N) h hS0 hS1 ih
theorem yq_hm_Cm_listPattern {S : SF_Cm_listPattern} {v1 : Int32} (h : Kqc u0 u) (hS0 : ∀ (u : MS) a0, Kqc u0 u → KqE u0 (S.1 u a0)) (hS1 : ∀ (u : MS) a0, Kqc u0 u → KqE u0 (S.2 u a0)) : KqE u0 (hm_Cm_listPattern N S u v1) := by
  unfold hm_Cm_listPattern
  exact yq_hb_Cm_listPattern_0 h hS0 hS1 ((yq_hg_Cm_listPattern (N := N) hS0 hS1 N))
theorem yq_hb_Cm_pattern_298 {S : SF_Cm_listPattern} {G : (MS → Int32 → Option (MS × Unit))} (h : Kqc u0 u) (hS0 : ∀ (u : MS) a0, Kqc u0 u → KqE u0 (S.1 u a0)) (hS1 : ∀ (u : MS) a0, Kqc u0 u → KqE u0 (S.2 u a0)) (hG0 : ∀ (u : MS) a0, Kqc u0 u → KqE u0 (G u a0)) : KqE u0 (hb_Cm_pattern_298 N S G u) := by
  unfold hb_Cm_pattern_298
  repeat' (first | with_reducible assumption | with_reducible refine Kq_br ?_ ?_ | with_reducible refine Kq_bnd ?_ (fun _ _ _ => ?_) | with_reducible refine Kq_ck ?_ | with_reducible refine Kq_ltm ?_ (fun _ _ => ?_) | with_reducible refine Kq_some ?_ | with_reducible refine Kq_bo (fun _ => ?_) | with_reducible refine Kq_T ?_ (fun _ _ _ => ?_) | with_reducible refine Kq_H ?_ (fun _ _ _ => ?_) (fun _ _ => ?_) | with_reducible exact hS0 _ _ (by assumption) | with_reducible exact hS1 _ _ (by assumption) | with_reducible exact hG0 _ _ (by assumption) | with_reducible refine Kq_ltv (fun _ => ?_) | with_reducible refine Kq_I ?_ (by decide) | with_reducible refine Kq_A ?_ (by decide) | with_reducible refine Kq_J ?_ | with_reducible refine Kq_L ?_)
theorem yq_hb_Cm_pattern_268 {S : SF_Cm_listPattern} {G : (MS → Int32 → Option (MS × Unit))} {v2 : Int32} (h : Kqc u0 u) (hS0 : ∀ (u : MS) a0, Kqc u0 u → KqE u0 (S.1 u a0)) (hS1 : ∀ (u : MS) a0, Kqc u0 u → KqE u0 (S.2 u a0)) (hG0 : ∀ (u : MS) a0, Kqc u0 u → KqE u0 (G u a0)) : KqE u0 (hb_Cm_pattern_268 N S G u v2) := by
  unfold hb_Cm_pattern_268
  repeat' (first | with_reducible assumption | with_reducible refine Kq_br ?_ ?_ | with_reducible refine Kq_bnd ?_ (fun _ _ _ => ?_) | with_reducible refine Kq_ck ?_ | with_reducible refine Kq_ltm ?_ (fun _ _ => ?_) | with_reducible refine Kq_some ?_ | with_reducible refine Kq_bo (fun _ => ?_) | with_reducible refine Kq_T ?_ (fun _ _ _ => ?_) | with_reducible refine Kq_H ?_ (fun _ _ _ => ?_) (fun _ _ => ?_) | with_reducible exact yq_hb_Cm_pattern_298 (by assumption) hS0 hS1 hG0 | with_reducible exact hS0 _ _ (by assumption) | with_reducible exact hS1 _ _ (by assumption) | with_reducible exact hG0 _ _ (by assumption) | with_reducible refine Kq_ltv (fun _ => ?_) | with_reducible refine Kq_I ?_ (by decide) | with_reducible refine Kq_A ?_ (by decide) | with_reducible refine Kq_J ?_ | with_reducible refine Kq_L ?_)
theorem yq_hb_Cm_pattern_0 {S : SF_Cm_listPattern} {G : (MS → Int32 → Option (MS × Unit))} {v1 : Int32} (h : Kqc u0 u) (hS0 : ∀ (u : MS) a0, Kqc u0 u → KqE u0 (S.1 u a0)) (hS1 : ∀ (u : MS) a0, Kqc u0 u → KqE u0 (S.2 u a0)) (hG0 : ∀ (u : MS) a0, Kqc u0 u → KqE u0 (G u a0)) : KqE u0 (hb_Cm_pattern_0 N S G u v1) := by
  unfold hb_Cm_pattern_0
  repeat' (first | with_reducible assumption | with_reducible refine Kq_br ?_ ?_ | with_reducible refine Kq_bnd ?_ (fun _ _ _ => ?_) | with_reducible refine Kq_ck ?_ | with_reducible refine Kq_ltm ?_ (fun _ _ => ?_) | with_reducible refine Kq_some ?_ | with_reducible refine Kq_bo (fun _ => ?_) | with_reducible refine Kq_T ?_ (fun _ _ _ => ?_) | with_reducible refine Kq_H ?_ (fun _ _ _ => ?_) (fun _ _ => ?_) | with_reducible exact yq_hb_Cm_pattern_298 (by assumption) hS0 hS1 hG0 | with_reducible exact yq_hm_Cm_nameInPattern (by assumption) | with_reducible exact yq_hm_Cm_string (by assumption) | with_reducible exact yq_hm_Cm_term (by assumption) | with_reducible exact yq_hm_Co_put (by assumption) | with_reducible exact hS0 _ _ (by assumption) | with_reducible exact hS1 _ _ (by assumption) | with_reducible exact hG0 _ _ (by assumption) | with_reducible refine Kq_ltv (fun _ => ?_) | with_reducible refine Kq_I ?_ (by decide) | with_reducible refine Kq_A ?_ (by decide) | with_reducible refine Kq_J ?_ | with_reducible refine Kq_L ?_)
theorem yq_hg_Cm_pattern {S : SF_Cm_listPattern} (hS0 : ∀ (u : MS) a0, Kqc u0 u → KqE u0 (S.1 u a0)) (hS1 : ∀ (u : MS) a0, Kqc u0 u → KqE u0 (S.2 u a0)) (n : Nat) : (∀ (u : MS) a0, Kqc u0 u → KqE u0 ((hg_Cm_pattern N S n) u a0)) := by
  induction n with
  | zero => exact fun _ _ _ => Kq_none
  | succ n ih => exact fun _ _ h => yq_hb_Cm_pattern_268 (N := N) h hS0 hS1 ih
theorem yq_hm_Cm_pattern {S : SF_Cm_listPattern} {v1 : Int32} (h : Kqc u0 u) (hS0 : ∀ (u : MS) a0, Kqc u0 u → KqE u0 (S.1 u a0)) (hS1 : ∀ (u : MS) a0, Kqc u0 u → KqE u0 (S.2 u a0)) : KqE u0 (hm_Cm_pattern N S u v1) := by
  unfold hm_Cm_pattern
  exact yq_hb_Cm_pattern_0 h hS0 hS1 ((yq_hg_Cm_pattern (N := N) hS0 hS1 N))
theorem yq_hrc_Cm_listPattern  (n : Nat) : (∀ (u : MS) a0, Kqc u0 u → KqE u0 ((hrc_Cm_listPattern N n).1 u a0)) ∧ (∀ (u : MS) a0, Kqc u0 u → KqE u0 ((hrc_Cm_listPattern N n).2 u a0)) := by
  induction n with
  | zero => exact ⟨fun _ _ _ => Kq_none, fun _ _ _ => Kq_none⟩
  | succ n ih => exact ⟨fun _ _ h => yq_hm_Cm_listPattern (N := N) h ih.1 ih.2, fun _ _ h => yq_hm_Cm_pattern (N := N) h ih.1 ih.2⟩
theorem yq_hr_Cm_pattern {v1 : Int32} (h : Kqc u0 u) : KqE u0 (hr_Cm_pattern N u v1) := by
  unfold hr_Cm_pattern
  exact (yq_hrc_Cm_listPattern (N := N) 300).2 _ _ h
end
end
section
set_option maxRecDepth 100000
def Kzc (u w : MS) : Prop := w.1 714 < 1000000000 ∧ FRC u w
def KzE {α : Type} (u : MS) (o : Option (MS × α)) : Prop := ∀ w r, o = some (w, r) → Kzc u w
section
variable {α β : Type} {u0 u w : MS} {k : Nat}
theorem Kz_none : KzE u0 (none : Option (MS × α)) := fun _ _ e => by cases e
theorem Kz_some {r : α} (h : Kzc u0 w) : KzE u0 (some (w, r)) := fun _ _ e => by injection e with e; injection e with e1 _; exact e1 ▸ h
theorem Kz_br {b : Bool} {p q : Option (MS × α)} (h1 : KzE u0 p) (h2 : KzE u0 q) : KzE u0 (br b p q) := by cases b <;> assumption
theorem Kz_ck {b : Bool} {p : Option (MS × α)} (h1 : KzE u0 p) : KzE u0 (ck b p) := by
  cases b
  · exact Kz_none
  · exact h1
theorem Kz_bo {o : Option β} {f : β → Option (MS × α)} (h : ∀ j, KzE u0 (f j)) : KzE u0 (bo o f) := by
  cases o with
  | none => exact Kz_none
  | some j => exact h j
theorem Kz_bnd {o : Option (MS × β)} {f : MS → β → Option (MS × α)} (h1 : KzE u0 o) (h2 : ∀ w r, Kzc u0 w → KzE u0 (f w r)) : KzE u0 (bnd o f) := by
  cases o with
  | none => exact Kz_none
  | some x => exact h2 x.1 x.2 (h1 x.1 x.2 rfl)
theorem Kz_T {o : Option (MS × (β ⊕ Nat))} {f : MS → β → Option (MS × (α ⊕ Nat))} (h1 : KzE u0 o) (h2 : ∀ w r, Kzc u0 w → KzE u0 (f w r)) : KzE u0 (bTm o f) := by
  cases o with
  | none => exact Kz_none
  | some x =>
    obtain ⟨x, z⟩ := x
    cases z with
    | inl v => exact h2 x v (h1 x _ rfl)
    | inr k => exact Kz_some (h1 x _ rfl)
theorem Kz_H {o : Option (MS × (β ⊕ Nat))} {f : MS → β → Option (MS × α)} {g : MS → Option (MS × α)} (h1 : KzE u0 o) (h2 : ∀ w r, Kzc u0 w → KzE u0 (f w r)) (h3 : ∀ w, Kzc u0 w → KzE u0 (g w)) : KzE u0 (bHm o f g) := by
  cases o with
  | none => exact Kz_none
  | some x =>
    obtain ⟨x, z⟩ := x
    cases z with
    | inl v => exact h2 x v (h1 x _ rfl)
    | inr k =>
      show KzE u0 (if k = 3 then g x else none)
      split
      · exact h3 x (h1 x _ rfl)
      · exact Kz_none
theorem Kz_ltm {x : MS} {f : MS → Option (MS × α)} (h1 : Kzc u0 x) (h2 : ∀ w, Kzc u0 w → KzE u0 (f w)) : KzE u0 (lt x f) := h2 x h1
theorem Kz_ltv {x : β} {f : β → Option (MS × α)} (h2 : ∀ y, KzE u0 (f y)) : KzE u0 (lt x f) := h2 x
theorem Kz_I {v : Int32} (h : Kzc u0 u) (hk : k ≠ 714 ∧ 440 ≤ k ∧ k ≠ 442 ∧ (k < 720 ∨ 740 ≤ k)) : Kzc u0 (upI u k v) := ⟨by rw [upI_ne (by omega)]; exact h.1, fun j hj => (upI_ne (by omega)).trans (h.2.1 j hj), h.2.2⟩
theorem Kz_L {v : Int64} (h : Kzc u0 u) : Kzc u0 (upL u k v) := h
theorem Kz_J {v : Nat → Int64} (h : Kzc u0 u) : Kzc u0 (upJ u k v) := h
theorem Kz_A {v : Nat → Int32} (h : Kzc u0 u) (hk : 22 ≤ k ∧ k ≠ 24 ∧ k ≠ 25 ∧ (k < 36 ∨ 38 < k)) : Kzc u0 (upA u k v) := ⟨h.1, h.2.1, fun j hj => (upA_no (by omega)).trans (h.2.2 j hj)⟩
end
section
variable {u0 u : MS} {N : Nat}
theorem yz_hb_Cm_fault_0 {G : Unit} {v1 v2 : Int32} (h : Kzc u0 u) : KzE u0 (hb_Cm_fault_0 N G u v1 v2) := fun w r e => ⟨ys_hb_Cm_fault_0 (u0 := u0) h.1 w r e, yq_hb_Cm_fault_0 (u0 := u0) h.2 w r e⟩
theorem yz_hb_To_signAt_26 {G : Unit} {t0 : Int32} (h : Kzc u0 u)  : KzE u0 (hb_To_signAt_26 N G u t0) := by
  unfold hb_To_signAt_26
  repeat' (first | with_reducible assumption | with_reducible refine Kz_br ?_ ?_ | with_reducible refine Kz_bnd ?_ (fun _ _ _ => ?_) | with_reducible refine Kz_ck ?_ | with_reducible refine Kz_ltm ?_ (fun _ _ => ?_) | with_reducible refine Kz_some ?_ | with_reducible refine Kz_bo (fun _ => ?_) | with_reducible refine Kz_T ?_ (fun _ _ _ => ?_) | with_reducible refine Kz_H ?_ (fun _ _ _ => ?_) (fun _ _ => ?_) | with_reducible refine Kz_ltv (fun _ => ?_) | with_reducible refine Kz_I ?_ (by decide) | with_reducible refine Kz_A ?_ (by decide) | with_reducible refine Kz_J ?_ | with_reducible refine Kz_L ?_)
theorem yz_hb_To_signAt_12 {G : Unit} (h : Kzc u0 u)  : KzE u0 (hb_To_signAt_12 N G u) := by
  unfold hb_To_signAt_12
  repeat' (first | with_reducible assumption | with_reducible refine Kz_br ?_ ?_ | with_reducible refine Kz_bnd ?_ (fun _ _ _ => ?_) | with_reducible refine Kz_ck ?_ | with_reducible refine Kz_ltm ?_ (fun _ _ => ?_) | with_reducible refine Kz_some ?_ | with_reducible refine Kz_bo (fun _ => ?_) | with_reducible refine Kz_T ?_ (fun _ _ _ => ?_) | with_reducible refine Kz_H ?_ (fun _ _ _ => ?_) (fun _ _ => ?_) | with_reducible exact yz_hb_To_signAt_26 (by assumption) | with_reducible refine Kz_ltv (fun _ => ?_) | with_reducible refine Kz_I ?_ (by decide) | with_reducible refine Kz_A ?_ (by decide) | with_reducible refine Kz_J ?_ | with_reducible refine Kz_L ?_)
theorem yz_hb_To_signAt_0 {G : Unit} {v1 : Int32} (h : Kzc u0 u)  : KzE u0 (hb_To_signAt_0 N G u v1) := by
  unfold hb_To_signAt_0
  repeat' (first | with_reducible assumption | with_reducible refine Kz_br ?_ ?_ | with_reducible refine Kz_bnd ?_ (fun _ _ _ => ?_) | with_reducible refine Kz_ck ?_ | with_reducible refine Kz_ltm ?_ (fun _ _ => ?_) | with_reducible refine Kz_some ?_ | with_reducible refine Kz_bo (fun _ => ?_) | with_reducible refine Kz_T ?_ (fun _ _ _ => ?_) | with_reducible refine Kz_H ?_ (fun _ _ _ => ?_) (fun _ _ => ?_) | with_reducible exact yz_hb_To_signAt_12 (by assumption) | with_reducible exact yz_hb_To_signAt_26 (by assumption) | with_reducible refine Kz_ltv (fun _ => ?_) | with_reducible refine Kz_I ?_ (by decide) | with_reducible refine Kz_A ?_ (by decide) | with_reducible refine Kz_J ?_ | with_reducible refine Kz_L ?_)
theorem yz_hm_To_signAt {v1 : Int32} (h : Kzc u0 u)  : KzE u0 (hm_To_signAt N u v1) := by
  unfold hm_To_signAt
  exact yz_hb_To_signAt_0 h
theorem yz_hb_Wo_isSame_12 {G : (MS → Nat → Int32 → Nat → Int32 → Int32 → Int32 → Option (MS × Int32))} {v0 : Nat} {v1 : Int32} {v2 : Nat} {v3 : Int32} {v4 : Int32} {v5 : Int32} (h : Kzc u0 u) (hG0 : ∀ (u : MS) a0 a1 a2 a3 a4 a5, Kzc u0 u → KzE u0 (G u a0 a1 a2 a3 a4 a5)) : KzE u0 (hb_Wo_isSame_12 N G u v0 v1 v2 v3 v4 v5) := by
  unfold hb_Wo_isSame_12
  repeat' (first | with_reducible assumption | with_reducible refine Kz_br ?_ ?_ | with_reducible refine Kz_bnd ?_ (fun _ _ _ => ?_) | with_reducible refine Kz_ck ?_ | with_reducible refine Kz_ltm ?_ (fun _ _ => ?_) | with_reducible refine Kz_some ?_ | with_reducible refine Kz_bo (fun _ => ?_) | with_reducible refine Kz_T ?_ (fun _ _ _ => ?_) | with_reducible refine Kz_H ?_ (fun _ _ _ => ?_) (fun _ _ => ?_) | with_reducible exact hG0 _ _ _ _ _ _ _ (by assumption) | with_reducible refine Kz_ltv (fun _ => ?_) | with_reducible refine Kz_I ?_ (by decide) | with_reducible refine Kz_A ?_ (by decide) | with_reducible refine Kz_J ?_ | with_reducible refine Kz_L ?_)
theorem yz_hb_Wo_isSame_0 {G : (MS → Nat → Int32 → Nat → Int32 → Int32 → Int32 → Option (MS × Int32))} {v0 : Nat} {v1 : Int32} {v2 : Nat} {v3 : Int32} (h : Kzc u0 u) (hG0 : ∀ (u : MS) a0 a1 a2 a3 a4 a5, Kzc u0 u → KzE u0 (G u a0 a1 a2 a3 a4 a5)) : KzE u0 (hb_Wo_isSame_0 N G u v0 v1 v2 v3) := by
  unfold hb_Wo_isSame_0
  repeat' (first | with_reducible assumption | with_reducible refine Kz_br ?_ ?_ | with_reducible refine Kz_bnd ?_ (fun _ _ _ => ?_) | with_reducible refine Kz_ck ?_ | with_reducible refine Kz_ltm ?_ (fun _ _ => ?_) | with_reducible refine Kz_some ?_ | with_reducible refine Kz_bo (fun _ => ?_) | with_reducible refine Kz_T ?_ (fun _ _ _ => ?_) | with_reducible refine Kz_H ?_ (fun _ _ _ => ?_) (fun _ _ => ?_) | with_reducible exact hG0 _ _ _ _ _ _ _ (by assumption) | with_reducible refine Kz_ltv (fun _ => ?_) | with_reducible refine Kz_I ?_ (by decide) | with_reducible refine Kz_A ?_ (by decide) | with_reducible refine Kz_J ?_ | with_reducible refine Kz_L ?_)
theorem yz_hg_Wo_isSame  (n : Nat) : (∀ (u : MS) a0 a1 a2 a3 a4 a5, Kzc u0 u → KzE u0 ((hg_Wo_isSame N n) u a0 a1 a2 a3 a4 a5)) := by
  induction n with
  | zero => exact fun _ _ _ _ _ _ _ _ => Kz_none
  | succ n ih => exact fun _ _ _ _ _ _ _ h => yz_hb_Wo_isSame_12 (N := N) h ih
theorem yz_hm_Wo_isSame {v0 : Nat} {v1 : Int32} {v2 : Nat} {v3 : Int32} (h : Kzc u0 u)  : KzE u0 (hm_Wo_isSame N u v0 v1 v2 v3) := by
  unfold hm_Wo_isSame
  exact yz_hb_Wo_isSame_0 h ((yz_hg_Wo_isSame N))
theorem yz_hb_Wo_seek_47 {G : (MS → Nat → Nat → Int32 → Int32 → Int32 → Option (MS × Int32))} {v0 : Nat} {v1 : Nat} {v2 : Int32} {v3 : Int32} {v4 : Int32} (h : Kzc u0 u) (hG0 : ∀ (u : MS) a0 a1 a2 a3 a4, Kzc u0 u → KzE u0 (G u a0 a1 a2 a3 a4)) : KzE u0 (hb_Wo_seek_47 N G u v0 v1 v2 v3 v4) := by
  unfold hb_Wo_seek_47
  repeat' (first | with_reducible assumption | with_reducible refine Kz_br ?_ ?_ | with_reducible refine Kz_bnd ?_ (fun _ _ _ => ?_) | with_reducible refine Kz_ck ?_ | with_reducible refine Kz_ltm ?_ (fun _ _ => ?_) | with_reducible refine Kz_some ?_ | with_reducible refine Kz_bo (fun _ => ?_) | with_reducible refine Kz_T ?_ (fun _ _ _ => ?_) | with_reducible refine Kz_H ?_ (fun _ _ _ => ?_) (fun _ _ => ?_) | with_reducible exact hG0 _ _ _ _ _ _ (by assumption) | with_reducible refine Kz_ltv (fun _ => ?_) | with_reducible refine Kz_I ?_ (by decide) | with_reducible refine Kz_A ?_ (by decide) | with_reducible refine Kz_J ?_ | with_reducible refine Kz_L ?_)
theorem yz_hb_Wo_seek_3 {G : (MS → Nat → Nat → Int32 → Int32 → Int32 → Option (MS × Int32))} {v0 : Nat} {v1 : Nat} {v2 : Int32} {v3 : Int32} {v4 : Int32} (h : Kzc u0 u) (hG0 : ∀ (u : MS) a0 a1 a2 a3 a4, Kzc u0 u → KzE u0 (G u a0 a1 a2 a3 a4)) : KzE u0 (hb_Wo_seek_3 N G u v0 v1 v2 v3 v4) := by
  unfold hb_Wo_seek_3
  repeat' (first | with_reducible assumption | with_reducible refine Kz_br ?_ ?_ | with_reducible refine Kz_bnd ?_ (fun _ _ _ => ?_) | with_reducible refine Kz_ck ?_ | with_reducible refine Kz_ltm ?_ (fun _ _ => ?_) | with_reducible refine Kz_some ?_ | with_reducible refine Kz_bo (fun _ => ?_) | with_reducible refine Kz_T ?_ (fun _ _ _ => ?_) | with_reducible refine Kz_H ?_ (fun _ _ _ => ?_) (fun _ _ => ?_) | with_reducible exact yz_hb_Wo_seek_47 (by assumption) hG0 | with_reducible exact yz_hm_Wo_isSame (by assumption) | with_reducible exact hG0 _ _ _ _ _ _ (by assumption) | with_reducible refine Kz_ltv (fun _ => ?_) | with_reducible refine Kz_I ?_ (by decide) | with_reducible refine Kz_A ?_ (by decide) | with_reducible refine Kz_J ?_ | with_reducible refine Kz_L ?_)
theorem yz_hb_Wo_seek_0 {G : (MS → Nat → Nat → Int32 → Int32 → Int32 → Option (MS × Int32))} {v0 : Nat} {v1 : Nat} {v2 : Int32} {v3 : Int32} (h : Kzc u0 u) (hG0 : ∀ (u : MS) a0 a1 a2 a3 a4, Kzc u0 u → KzE u0 (G u a0 a1 a2 a3 a4)) : KzE u0 (hb_Wo_seek_0 N G u v0 v1 v2 v3) := by
  unfold hb_Wo_seek_0
  repeat' (first | with_reducible assumption | with_reducible refine Kz_br ?_ ?_ | with_reducible refine Kz_bnd ?_ (fun _ _ _ => ?_) | with_reducible refine Kz_ck ?_ | with_reducible refine Kz_ltm ?_ (fun _ _ => ?_) | with_reducible refine Kz_some ?_ | with_reducible refine Kz_bo (fun _ => ?_) | with_reducible refine Kz_T ?_ (fun _ _ _ => ?_) | with_reducible refine Kz_H ?_ (fun _ _ _ => ?_) (fun _ _ => ?_) | with_reducible exact hG0 _ _ _ _ _ _ (by assumption) | with_reducible refine Kz_ltv (fun _ => ?_) | with_reducible refine Kz_I ?_ (by decide) | with_reducible refine Kz_A ?_ (by decide) | with_reducible refine Kz_J ?_ | with_reducible refine Kz_L ?_)
theorem yz_hg_Wo_seek  (n : Nat) : (∀ (u : MS) a0 a1 a2 a3 a4, Kzc u0 u → KzE u0 ((hg_Wo_seek N n) u a0 a1 a2 a3 a4)) := by
  induction n with
  | zero => exact fun _ _ _ _ _ _ _ => Kz_none
  | succ n ih => exact fun _ _ _ _ _ _ h => yz_hb_Wo_seek_3 (N := N) h ih
theorem yz_hm_Wo_seek {v0 : Nat} {v1 : Nat} {v2 : Int32} {v3 : Int32} (h : Kzc u0 u)  : KzE u0 (hm_Wo_seek N u v0 v1 v2 v3) := by
  unfold hm_Wo_seek
  exact yz_hb_Wo_seek_0 h ((yz_hg_Wo_seek N))
theorem yz_hb_Tr_length_4 {G : (MS → Int32 → Int32 → Option (MS × Int32))} {v2 : Int32} {v3 : Int32} (h : Kzc u0 u) (hG0 : ∀ (u : MS) a0 a1, Kzc u0 u → KzE u0 (G u a0 a1)) : KzE u0 (hb_Tr_length_4 N G u v2 v3) := by
  unfold hb_Tr_length_4
  repeat' (first | with_reducible assumption | with_reducible refine Kz_br ?_ ?_ | with_reducible refine Kz_bnd ?_ (fun _ _ _ => ?_) | with_reducible refine Kz_ck ?_ | with_reducible refine Kz_ltm ?_ (fun _ _ => ?_) | with_reducible refine Kz_some ?_ | with_reducible refine Kz_bo (fun _ => ?_) | with_reducible refine Kz_T ?_ (fun _ _ _ => ?_) | with_reducible refine Kz_H ?_ (fun _ _ _ => ?_) (fun _ _ => ?_) | with_reducible exact hG0 _ _ _ (by assumption) | with_reducible refine Kz_ltv (fun _ => ?_) | with_reducible refine Kz_I ?_ (by decide) | with_reducible refine Kz_A ?_ (by decide) | with_reducible refine Kz_J ?_ | with_reducible refine Kz_L ?_)
theorem yz_hb_Tr_length_0 {G : (MS → Int32 → Int32 → Option (MS × Int32))} {v1 : Int32} (h : Kzc u0 u) (hG0 : ∀ (u : MS) a0 a1, Kzc u0 u → KzE u0 (G u a0 a1)) : KzE u0 (hb_Tr_length_0 N G u v1) := by
  unfold hb_Tr_length_0
  repeat' (first | with_reducible assumption | with_reducible refine Kz_br ?_ ?_ | with_reducible refine Kz_bnd ?_ (fun _ _ _ => ?_) | with_reducible refine Kz_ck ?_ | with_reducible refine Kz_ltm ?_ (fun _ _ => ?_) | with_reducible refine Kz_some ?_ | with_reducible refine Kz_bo (fun _ => ?_) | with_reducible refine Kz_T ?_ (fun _ _ _ => ?_) | with_reducible refine Kz_H ?_ (fun _ _ _ => ?_) (fun _ _ => ?_) | with_reducible exact hG0 _ _ _ (by assumption) | with_reducible refine Kz_ltv (fun _ => ?_) | with_reducible refine Kz_I ?_ (by decide) | with_reducible refine Kz_A ?_ (by decide) | with_reducible refine Kz_J ?_ | with_reducible refine Kz_L ?_)
theorem yz_hg_Tr_length  (n : Nat) : (∀ (u : MS) a0 a1, Kzc u0 u → KzE u0 ((hg_Tr_length N n) u a0 a1)) := by
  induction n with
  | zero => exact fun _ _ _ _ => Kz_none
  | succ n ih => exact fun _ _ _ h => yz_hb_Tr_length_4 (N := N) h ih
theorem yz_hm_Tr_length {v1 : Int32} (h : Kzc u0 u)  : KzE u0 (hm_Tr_length N u v1) := by
  unfold hm_Tr_length
  exact yz_hb_Tr_length_0 h ((yz_hg_Tr_length N))
theorem yz_hb_Co_seek_32 {G : (MS → Int32 → Int32 → Int32 → Option (MS × Int32))} {v1 : Int32} {v2 : Int32} {v3 : Int32} (h : Kzc u0 u) (hG0 : ∀ (u : MS) a0 a1 a2, Kzc u0 u → KzE u0 (G u a0 a1 a2)) : KzE u0 (hb_Co_seek_32 N G u v1 v2 v3) := by
  unfold hb_Co_seek_32
  repeat' (first | with_reducible assumption | with_reducible refine Kz_br ?_ ?_ | with_reducible refine Kz_bnd ?_ (fun _ _ _ => ?_) | with_reducible refine Kz_ck ?_ | with_reducible refine Kz_ltm ?_ (fun _ _ => ?_) | with_reducible refine Kz_some ?_ | with_reducible refine Kz_bo (fun _ => ?_) | with_reducible refine Kz_T ?_ (fun _ _ _ => ?_) | with_reducible refine Kz_H ?_ (fun _ _ _ => ?_) (fun _ _ => ?_) | with_reducible exact hG0 _ _ _ _ (by assumption) | with_reducible refine Kz_ltv (fun _ => ?_) | with_reducible refine Kz_I ?_ (by decide) | with_reducible refine Kz_A ?_ (by decide) | with_reducible refine Kz_J ?_ | with_reducible refine Kz_L ?_)
theorem yz_hb_Co_seek_2 {G : (MS → Int32 → Int32 → Int32 → Option (MS × Int32))} {v1 : Int32} {v2 : Int32} {v3 : Int32} (h : Kzc u0 u) (hG0 : ∀ (u : MS) a0 a1 a2, Kzc u0 u → KzE u0 (G u a0 a1 a2)) : KzE u0 (hb_Co_seek_2 N G u v1 v2 v3) := by
  unfold hb_Co_seek_2
  repeat' (first | with_reducible assumption | with_reducible refine Kz_br ?_ ?_ | with_reducible refine Kz_bnd ?_ (fun _ _ _ => ?_) | with_reducible refine Kz_ck ?_ | with_reducible refine Kz_ltm ?_ (fun _ _ => ?_) | with_reducible refine Kz_some ?_ | with_reducible refine Kz_bo (fun _ => ?_) | with_reducible refine Kz_T ?_ (fun _ _ _ => ?_) | with_reducible refine Kz_H ?_ (fun _ _ _ => ?_) (fun _ _ => ?_) | with_reducible exact yz_hb_Co_seek_32 (by assumption) hG0 | with_reducible exact hG0 _ _ _ _ (by assumption) | with_reducible refine Kz_ltv (fun _ => ?_) | with_reducible refine Kz_I ?_ (by decide) | with_reducible refine Kz_A ?_ (by decide) | with_reducible refine Kz_J ?_ | with_reducible refine Kz_L ?_)
theorem yz_hb_Co_seek_0 {G : (MS → Int32 → Int32 → Int32 → Option (MS × Int32))} {v1 : Int32} {v2 : Int32} (h : Kzc u0 u) (hG0 : ∀ (u : MS) a0 a1 a2, Kzc u0 u → KzE u0 (G u a0 a1 a2)) : KzE u0 (hb_Co_seek_0 N G u v1 v2) := by
  unfold hb_Co_seek_0
  repeat' (first | with_reducible assumption | with_reducible refine Kz_br ?_ ?_ | with_reducible refine Kz_bnd ?_ (fun _ _ _ => ?_) | with_reducible refine Kz_ck ?_ | with_reducible refine Kz_ltm ?_ (fun _ _ => ?_) | with_reducible refine Kz_some ?_ | with_reducible refine Kz_bo (fun _ => ?_) | with_reducible refine Kz_T ?_ (fun _ _ _ => ?_) | with_reducible refine Kz_H ?_ (fun _ _ _ => ?_) (fun _ _ => ?_) | with_reducible exact hG0 _ _ _ _ (by assumption) | with_reducible refine Kz_ltv (fun _ => ?_) | with_reducible refine Kz_I ?_ (by decide) | with_reducible refine Kz_A ?_ (by decide) | with_reducible refine Kz_J ?_ | with_reducible refine Kz_L ?_)
theorem yz_hg_Co_seek  (n : Nat) : (∀ (u : MS) a0 a1 a2, Kzc u0 u → KzE u0 ((hg_Co_seek N n) u a0 a1 a2)) := by
  induction n with
  | zero => exact fun _ _ _ _ _ => Kz_none
  | succ n ih => exact fun _ _ _ _ h => yz_hb_Co_seek_2 (N := N) h ih
theorem yz_hm_Co_seek {v1 : Int32} {v2 : Int32} (h : Kzc u0 u)  : KzE u0 (hm_Co_seek N u v1 v2) := by
  unfold hm_Co_seek
  exact yz_hb_Co_seek_0 h ((yz_hg_Co_seek N))
theorem yz_hb_Wo_seekIn_45 {G : Unit} {t0 : Int32} (h : Kzc u0 u)  : KzE u0 (hb_Wo_seekIn_45 N G u t0) := by
  unfold hb_Wo_seekIn_45
  repeat' (first | with_reducible assumption | with_reducible refine Kz_br ?_ ?_ | with_reducible refine Kz_bnd ?_ (fun _ _ _ => ?_) | with_reducible refine Kz_ck ?_ | with_reducible refine Kz_ltm ?_ (fun _ _ => ?_) | with_reducible refine Kz_some ?_ | with_reducible refine Kz_bo (fun _ => ?_) | with_reducible refine Kz_T ?_ (fun _ _ _ => ?_) | with_reducible refine Kz_H ?_ (fun _ _ _ => ?_) (fun _ _ => ?_) | with_reducible refine Kz_ltv (fun _ => ?_) | with_reducible refine Kz_I ?_ (by decide) | with_reducible refine Kz_A ?_ (by decide) | with_reducible refine Kz_J ?_ | with_reducible refine Kz_L ?_)
theorem yz_hb_Wo_seekIn_12 {G : Unit} (h : Kzc u0 u)  : KzE u0 (hb_Wo_seekIn_12 N G u) := by
  unfold hb_Wo_seekIn_12
  repeat' (first | with_reducible assumption | with_reducible refine Kz_br ?_ ?_ | with_reducible refine Kz_bnd ?_ (fun _ _ _ => ?_) | with_reducible refine Kz_ck ?_ | with_reducible refine Kz_ltm ?_ (fun _ _ => ?_) | with_reducible refine Kz_some ?_ | with_reducible refine Kz_bo (fun _ => ?_) | with_reducible refine Kz_T ?_ (fun _ _ _ => ?_) | with_reducible refine Kz_H ?_ (fun _ _ _ => ?_) (fun _ _ => ?_) | with_reducible exact yz_hb_Wo_seekIn_45 (by assumption) | with_reducible refine Kz_ltv (fun _ => ?_) | with_reducible refine Kz_I ?_ (by decide) | with_reducible refine Kz_A ?_ (by decide) | with_reducible refine Kz_J ?_ | with_reducible refine Kz_L ?_)
theorem yz_hb_Wo_seekIn_0 {G : Unit} {v0 : Nat} {v1 : Nat} {v2 : Int32} (h : Kzc u0 u)  : KzE u0 (hb_Wo_seekIn_0 N G u v0 v1 v2) := by
  unfold hb_Wo_seekIn_0
  repeat' (first | with_reducible assumption | with_reducible refine Kz_br ?_ ?_ | with_reducible refine Kz_bnd ?_ (fun _ _ _ => ?_) | with_reducible refine Kz_ck ?_ | with_reducible refine Kz_ltm ?_ (fun _ _ => ?_) | with_reducible refine Kz_some ?_ | with_reducible refine Kz_bo (fun _ => ?_) | with_reducible refine Kz_T ?_ (fun _ _ _ => ?_) | with_reducible refine Kz_H ?_ (fun _ _ _ => ?_) (fun _ _ => ?_) | with_reducible exact yz_hb_Wo_seekIn_12 (by assumption) | with_reducible exact yz_hb_Wo_seekIn_45 (by assumption) | with_reducible exact yz_hm_Wo_seek (by assumption) | with_reducible refine Kz_ltv (fun _ => ?_) | with_reducible refine Kz_I ?_ (by decide) | with_reducible refine Kz_A ?_ (by decide) | with_reducible refine Kz_J ?_ | with_reducible refine Kz_L ?_)
theorem yz_hm_Wo_seekIn {v0 : Nat} {v1 : Nat} {v2 : Int32} (h : Kzc u0 u)  : KzE u0 (hm_Wo_seekIn N u v0 v1 v2) := by
  unfold hm_Wo_seekIn
  exact yz_hb_Wo_seekIn_0 h
theorem yz_hb_Co_put_30 {G : Unit} (h : Kzc u0 u)  : KzE u0 (hb_Co_put_30 N G u) := by
  unfold hb_Co_put_30
  repeat' (first | with_reducible assumption | with_reducible refine Kz_br ?_ ?_ | with_reducible refine Kz_bnd ?_ (fun _ _ _ => ?_) | with_reducible refine Kz_ck ?_ | with_reducible refine Kz_ltm ?_ (fun _ _ => ?_) | with_reducible refine Kz_some ?_ | with_reducible refine Kz_bo (fun _ => ?_) | with_reducible refine Kz_T ?_ (fun _ _ _ => ?_) | with_reducible refine Kz_H ?_ (fun _ _ _ => ?_) (fun _ _ => ?_) | with_reducible refine Kz_ltv (fun _ => ?_) | with_reducible refine Kz_I ?_ (by decide) | with_reducible refine Kz_A ?_ (by decide) | with_reducible refine Kz_J ?_ | with_reducible refine Kz_L ?_)
theorem yz_hb_Co_put_0 {G : Unit} {v1 : Int32} (h : Kzc u0 u)  : KzE u0 (hb_Co_put_0 N G u v1) := by
  unfold hb_Co_put_0
  repeat' (first | with_reducible assumption | with_reducible refine Kz_br ?_ ?_ | with_reducible refine Kz_bnd ?_ (fun _ _ _ => ?_) | with_reducible refine Kz_ck ?_ | with_reducible refine Kz_ltm ?_ (fun _ _ => ?_) | with_reducible refine Kz_some ?_ | with_reducible refine Kz_bo (fun _ => ?_) | with_reducible refine Kz_T ?_ (fun _ _ _ => ?_) | with_reducible refine Kz_H ?_ (fun _ _ _ => ?_) (fun _ _ => ?_) | with_reducible exact yz_hb_Co_put_30 (by assumption) | with_reducible refine Kz_ltv (fun _ => ?_) | with_reducible refine Kz_I ?_ (by decide) | with_reducible refine Kz_A ?_ (by decide) | with_reducible refine Kz_J ?_ | with_reducible refine Kz_L ?_)
theorem yz_hm_Co_put {v1 : Int32} (h : Kzc u0 u)  : KzE u0 (hm_Co_put N u v1) := by
  unfold hm_Co_put
  exact yz_hb_Co_put_0 h
theorem yz_hb_Co_hook_0 {G : Unit} {v1 : Int32} (h : Kzc u0 u)  : KzE u0 (hb_Co_hook_0 N G u v1) := by
  unfold hb_Co_hook_0
  repeat' (first | with_reducible assumption | with_reducible refine Kz_br ?_ ?_ | with_reducible refine Kz_bnd ?_ (fun _ _ _ => ?_) | with_reducible refine Kz_ck ?_ | with_reducible refine Kz_ltm ?_ (fun _ _ => ?_) | with_reducible refine Kz_some ?_ | with_reducible refine Kz_bo (fun _ => ?_) | with_reducible refine Kz_T ?_ (fun _ _ _ => ?_) | with_reducible refine Kz_H ?_ (fun _ _ _ => ?_) (fun _ _ => ?_) | with_reducible exact yz_hm_Co_put (by assumption) | with_reducible refine Kz_ltv (fun _ => ?_) | with_reducible refine Kz_I ?_ (by decide) | with_reducible refine Kz_A ?_ (by decide) | with_reducible refine Kz_J ?_ | with_reducible refine Kz_L ?_)
theorem yz_hm_Co_hook {v1 : Int32} (h : Kzc u0 u)  : KzE u0 (hm_Co_hook N u v1) := by
  unfold hm_Co_hook
  exact yz_hb_Co_hook_0 h
theorem yz_hb_Cm_term_0 {G : Unit} {v1 : Int32} {v2 : Int32} (h : Kzc u0 u)  : KzE u0 (hb_Cm_term_0 N G u v1 v2) := by
  unfold hb_Cm_term_0
  repeat' (first | with_reducible assumption | with_reducible refine Kz_br ?_ ?_ | with_reducible refine Kz_bnd ?_ (fun _ _ _ => ?_) | with_reducible refine Kz_ck ?_ | with_reducible refine Kz_ltm ?_ (fun _ _ => ?_) | with_reducible refine Kz_some ?_ | with_reducible refine Kz_bo (fun _ => ?_) | with_reducible refine Kz_T ?_ (fun _ _ _ => ?_) | with_reducible refine Kz_H ?_ (fun _ _ _ => ?_) (fun _ _ => ?_) | with_reducible exact yz_hm_Co_put (by assumption) | with_reducible refine Kz_ltv (fun _ => ?_) | with_reducible refine Kz_I ?_ (by decide) | with_reducible refine Kz_A ?_ (by decide) | with_reducible refine Kz_J ?_ | with_reducible refine Kz_L ?_)
theorem yz_hm_Cm_term {v1 : Int32} {v2 : Int32} (h : Kzc u0 u)  : KzE u0 (hm_Cm_term N u v1 v2) := by
  unfold hm_Cm_term
  exact yz_hb_Cm_term_0 h
theorem yz_hb_Cm_string_50 {G : (MS → Int32 → Int32 → Option (MS × Unit)) × (MS → Int32 → Int32 → Int32 → Option (MS × Unit))} {v2 : Int32} {v3 : Int32} {v4 : Int32} (h : Kzc u0 u) (hG0 : ∀ (u : MS) a0 a1, Kzc u0 u → KzE u0 (G.1 u a0 a1)) (hG1 : ∀ (u : MS) a0 a1 a2, Kzc u0 u → KzE u0 (G.2 u a0 a1 a2)) : KzE u0 (hb_Cm_string_50 N G u v2 v3 v4) := by
  unfold hb_Cm_string_50
  repeat' (first | with_reducible assumption | with_reducible refine Kz_br ?_ ?_ | with_reducible refine Kz_bnd ?_ (fun _ _ _ => ?_) | with_reducible refine Kz_ck ?_ | with_reducible refine Kz_ltm ?_ (fun _ _ => ?_) | with_reducible refine Kz_some ?_ | with_reducible refine Kz_bo (fun _ => ?_) | with_reducible refine Kz_T ?_ (fun _ _ _ => ?_) | with_reducible refine Kz_H ?_ (fun _ _ _ => ?_) (fun _ _ => ?_) | with_reducible exact yz_hm_To_signAt (by assumption) | with_reducible exact yz_hm_Co_put (by assumption) | with_reducible exact hG0 _ _ _ (by assumption) | with_reducible exact hG1 _ _ _ _ (by assumption) | with_reducible refine Kz_ltv (fun _ => ?_) | with_reducible refine Kz_I ?_ (by decide) | with_reducible refine Kz_A ?_ (by decide) | with_reducible refine Kz_J ?_ | with_reducible refine Kz_L ?_)
theorem yz_hb_Cm_string_39 {G : (MS → Int32 → Int32 → Option (MS × Unit)) × (MS → Int32 → Int32 → Int32 → Option (MS × Unit))} {v2 : Int32} {v3 : Int32} (h : Kzc u0 u) (hG0 : ∀ (u : MS) a0 a1, Kzc u0 u → KzE u0 (G.1 u a0 a1)) (hG1 : ∀ (u : MS) a0 a1 a2, Kzc u0 u → KzE u0 (G.2 u a0 a1 a2)) : KzE u0 (hb_Cm_string_39 N G u v2 v3) := by
  unfold hb_Cm_string_39
  repeat' (first | with_reducible assumption | with_reducible refine Kz_br ?_ ?_ | with_reducible refine Kz_bnd ?_ (fun _ _ _ => ?_) | with_reducible refine Kz_ck ?_ | with_reducible refine Kz_ltm ?_ (fun _ _ => ?_) | with_reducible refine Kz_some ?_ | with_reducible refine Kz_bo (fun _ => ?_) | with_reducible refine Kz_T ?_ (fun _ _ _ => ?_) | with_reducible refine Kz_H ?_ (fun _ _ _ => ?_) (fun _ _ => ?_) | with_reducible exact yz_hm_Co_put (by assumption) | with_reducible exact hG0 _ _ _ (by assumption) | with_reducible exact hG1 _ _ _ _ (by assumption) | with_reducible refine Kz_ltv (fun _ => ?_) | with_reducible refine Kz_I ?_ (by decide) | with_reducible refine Kz_A ?_ (by decide) | with_reducible refine Kz_J ?_ | with_reducible refine Kz_L ?_)
theorem yz_hb_Cm_string_12 {G : (MS → Int32 → Int32 → Option (MS × Unit)) × (MS → Int32 → Int32 → Int32 → Option (MS × Unit))} {v2 : Int32} {v3 : Int32} (h : Kzc u0 u) (hG0 : ∀ (u : MS) a0 a1, Kzc u0 u → KzE u0 (G.1 u a0 a1)) (hG1 : ∀ (u : MS) a0 a1 a2, Kzc u0 u → KzE u0 (G.2 u a0 a1 a2)) : KzE u0 (hb_Cm_string_12 N G u v2 v3) := by
  unfold hb_Cm_string_12
  repeat' (first | with_reducible assumption | with_reducible refine Kz_br ?_ ?_ | with_reducible refine Kz_bnd ?_ (fun _ _ _ => ?_) | with_reducible refine Kz_ck ?_ | with_reducible refine Kz_ltm ?_ (fun _ _ => ?_) | with_reducible refine Kz_some ?_ | with_reducible refine Kz_bo (fun _ => ?_) | with_reducible refine Kz_T ?_ (fun _ _ _ => ?_) | with_reducible refine Kz_H ?_ (fun _ _ _ => ?_) (fun _ _ => ?_) | with_reducible exact yz_hb_Cm_string_39 (by assumption) hG0 hG1 | with_reducible exact yz_hm_To_signAt (by assumption) | with_reducible exact hG0 _ _ _ (by assumption) | with_reducible exact hG1 _ _ _ _ (by assumption) | with_reducible refine Kz_ltv (fun _ => ?_) | with_reducible refine Kz_I ?_ (by decide) | with_reducible refine Kz_A ?_ (by decide) | with_reducible refine Kz_J ?_ | with_reducible refine Kz_L ?_)
theorem yz_hb_Cm_string_0 {G : (MS → Int32 → Int32 → Option (MS × Unit)) × (MS → Int32 → Int32 → Int32 → Option (MS × Unit))} {v1 : Int32} (h : Kzc u0 u) (hG0 : ∀ (u : MS) a0 a1, Kzc u0 u → KzE u0 (G.1 u a0 a1)) (hG1 : ∀ (u : MS) a0 a1 a2, Kzc u0 u → KzE u0 (G.2 u a0 a1 a2)) : KzE u0 (hb_Cm_string_0 N G u v1) := by
  unfold hb_Cm_string_0
  repeat' (first | with_reducible assumption | with_reducible refine Kz_br ?_ ?_ | with_reducible refine Kz_bnd ?_ (fun _ _ _ => ?_) | with_reducible refine Kz_ck ?_ | with_reducible refine Kz_ltm ?_ (fun _ _ => ?_) | with_reducible refine Kz_some ?_ | with_reducible refine Kz_bo (fun _ => ?_) | with_reducible refine Kz_T ?_ (fun _ _ _ => ?_) | with_reducible refine Kz_H ?_ (fun _ _ _ => ?_) (fun _ _ => ?_) | with_reducible exact hG0 _ _ _ (by assumption) | with_reducible exact hG1 _ _ _ _ (by assumption) | with_reducible refine Kz_ltv (fun _ => ?_) | with_reducible refine Kz_I ?_ (by decide) | with_reducible refine Kz_A ?_ (by decide) | with_reducible refine Kz_J ?_ | with_reducible refine Kz_L ?_)
theorem yz_hg_Cm_string  (n : Nat) : (∀ (u : MS) a0 a1, Kzc u0 u → KzE u0 ((hg_Cm_string N n).1 u a0 a1)) ∧ (∀ (u : MS) a0 a1 a2, Kzc u0 u → KzE u0 ((hg_Cm_string N n).2 u a0 a1 a2)) := by
  induction n with
  | zero => exact ⟨fun _ _ _ _ => Kz_none, fun _ _ _ _ _ => Kz_none⟩
  | succ n ih => exact ⟨fun _ _ _ h => yz_hb_Cm_string_12 (N := N) h ih.1 ih.2, fun _ _ _ _ h => yz_hb_Cm_string_50 (N := N) h ih.1 ih.2⟩
theorem yz_hm_Cm_string {v1 : Int32} (h : Kzc u0 u)  : KzE u0 (hm_Cm_string N u v1) := by
  unfold hm_Cm_string
  exact yz_hb_Cm_string_0 h ((yz_hg_Cm_string N).1) ((yz_hg_Cm_string N).2)
theorem yz_hb_Cm_isBound_54 {G : (MS → Int32 → Int32 → Int32 → Int32 → Option (MS × Int32)) × (MS → Int32 → Int32 → Int32 → Option (MS × Int32))} {v2 : Int32} {v5 : Int32} (h : Kzc u0 u) (hG0 : ∀ (u : MS) a0 a1 a2 a3, Kzc u0 u → KzE u0 (G.1 u a0 a1 a2 a3)) (hG1 : ∀ (u : MS) a0 a1 a2, Kzc u0 u → KzE u0 (G.2 u a0 a1 a2)) : KzE u0 (hb_Cm_isBound_54 N G u v2 v5) := by
  unfold hb_Cm_isBound_54
  repeat' (first | with_reducible assumption | with_reducible refine Kz_br ?_ ?_ | with_reducible refine Kz_bnd ?_ (fun _ _ _ => ?_) | with_reducible refine Kz_ck ?_ | with_reducible refine Kz_ltm ?_ (fun _ _ => ?_) | with_reducible refine Kz_some ?_ | with_reducible refine Kz_bo (fun _ => ?_) | with_reducible refine Kz_T ?_ (fun _ _ _ => ?_) | with_reducible refine Kz_H ?_ (fun _ _ _ => ?_) (fun _ _ => ?_) | with_reducible exact hG0 _ _ _ _ _ (by assumption) | with_reducible exact hG1 _ _ _ _ (by assumption) | with_reducible refine Kz_ltv (fun _ => ?_) | with_reducible refine Kz_I ?_ (by decide) | with_reducible refine Kz_A ?_ (by decide) | with_reducible refine Kz_J ?_ | with_reducible refine Kz_L ?_)
theorem yz_hb_Cm_isBound_31 {G : (MS → Int32 → Int32 → Int32 → Int32 → Option (MS × Int32)) × (MS → Int32 → Int32 → Int32 → Option (MS × Int32))} {v2 : Int32} {v4 : Int32} {v5 : Int32} (h : Kzc u0 u) (hG0 : ∀ (u : MS) a0 a1 a2 a3, Kzc u0 u → KzE u0 (G.1 u a0 a1 a2 a3)) (hG1 : ∀ (u : MS) a0 a1 a2, Kzc u0 u → KzE u0 (G.2 u a0 a1 a2)) : KzE u0 (hb_Cm_isBound_31 N G u v2 v4 v5) := by
  unfold hb_Cm_isBound_31
  repeat' (first | with_reducible assumption | with_reducible refine Kz_br ?_ ?_ | with_reducible refine Kz_bnd ?_ (fun _ _ _ => ?_) | with_reducible refine Kz_ck ?_ | with_reducible refine Kz_ltm ?_ (fun _ _ => ?_) | with_reducible refine Kz_some ?_ | with_reducible refine Kz_bo (fun _ => ?_) | with_reducible refine Kz_T ?_ (fun _ _ _ => ?_) | with_reducible refine Kz_H ?_ (fun _ _ _ => ?_) (fun _ _ => ?_) | with_reducible exact yz_hb_Cm_isBound_54 (by assumption) hG0 hG1 | with_reducible exact hG0 _ _ _ _ _ (by assumption) | with_reducible exact hG1 _ _ _ _ (by assumption) | with_reducible refine Kz_ltv (fun _ => ?_) | with_reducible refine Kz_I ?_ (by decide) | with_reducible refine Kz_A ?_ (by decide) | with_reducible refine Kz_J ?_ | with_reducible refine Kz_L ?_)
theorem yz_hb_Cm_isBound_8 {G : (MS → Int32 → Int32 → Int32 → Int32 → Option (MS × Int32)) × (MS → Int32 → Int32 → Int32 → Option (MS × Int32))} {v1 : Int32} {v2 : Int32} {v3 : Int32} {v4 : Int32} (h : Kzc u0 u) (hG0 : ∀ (u : MS) a0 a1 a2 a3, Kzc u0 u → KzE u0 (G.1 u a0 a1 a2 a3)) (hG1 : ∀ (u : MS) a0 a1 a2, Kzc u0 u → KzE u0 (G.2 u a0 a1 a2)) : KzE u0 (hb_Cm_isBound_8 N G u v1 v2 v3 v4) := by
  unfold hb_Cm_isBound_8
  repeat' (first | with_reducible assumption | with_reducible refine Kz_br ?_ ?_ | with_reducible refine Kz_bnd ?_ (fun _ _ _ => ?_) | with_reducible refine Kz_ck ?_ | with_reducible refine Kz_ltm ?_ (fun _ _ => ?_) | with_reducible refine Kz_some ?_ | with_reducible refine Kz_bo (fun _ => ?_) | with_reducible refine Kz_T ?_ (fun _ _ _ => ?_) | with_reducible refine Kz_H ?_ (fun _ _ _ => ?_) (fun _ _ => ?_) | with_reducible exact hG0 _ _ _ _ _ (by assumption) | with_reducible exact hG1 _ _ _ _ (by assumption) | with_reducible refine Kz_ltv (fun _ => ?_) | with_reducible refine Kz_I ?_ (by decide) | with_reducible refine Kz_A ?_ (by decide) | with_reducible refine Kz_J ?_ | with_reducible refine Kz_L ?_)
theorem yz_hb_Cm_isBound_0 {G : (MS → Int32 → Int32 → Int32 → Int32 → Option (MS × Int32)) × (MS → Int32 → Int32 → Int32 → Option (MS × Int32))} {v1 : Int32} {v2 : Int32} {v3 : Int32} (h : Kzc u0 u) (hG0 : ∀ (u : MS) a0 a1 a2 a3, Kzc u0 u → KzE u0 (G.1 u a0 a1 a2 a3)) (hG1 : ∀ (u : MS) a0 a1 a2, Kzc u0 u → KzE u0 (G.2 u a0 a1 a2)) : KzE u0 (hb_Cm_isBound_0 N G u v1 v2 v3) := by
  unfold hb_Cm_isBound_0
  repeat' (first | with_reducible assumption | with_reducible refine Kz_br ?_ ?_ | with_reducible refine Kz_bnd ?_ (fun _ _ _ => ?_) | with_reducible refine Kz_ck ?_ | with_reducible refine Kz_ltm ?_ (fun _ _ => ?_) | with_reducible refine Kz_some ?_ | with_reducible refine Kz_bo (fun _ => ?_) | with_reducible refine Kz_T ?_ (fun _ _ _ => ?_) | with_reducible refine Kz_H ?_ (fun _ _ _ => ?_) (fun _ _ => ?_) | with_reducible exact hG0 _ _ _ _ _ (by assumption) | with_reducible exact hG1 _ _ _ _ (by assumption) | with_reducible refine Kz_ltv (fun _ => ?_) | with_reducible refine Kz_I ?_ (by decide) | with_reducible refine Kz_A ?_ (by decide) | with_reducible refine Kz_J ?_ | with_reducible refine Kz_L ?_)
theorem yz_hg_Cm_isBound  (n : Nat) : (∀ (u : MS) a0 a1 a2 a3, Kzc u0 u → KzE u0 ((hg_Cm_isBound N n).1 u a0 a1 a2 a3)) ∧ (∀ (u : MS) a0 a1 a2, Kzc u0 u → KzE u0 ((hg_Cm_isBound N n).2 u a0 a1 a2)) := by
  induction n with
  | zero => exact ⟨fun _ _ _ _ _ _ => Kz_none, fun _ _ _ _ _ => Kz_none⟩
  | succ n ih => exact ⟨fun _ _ _ _ _ h => yz_hb_Cm_isBound_8 (N := N) h ih.1 ih.2, fun _ _ _ _ h => yz_hb_Cm_isBound_31 (N := N) h ih.1 ih.2⟩
theorem yz_hm_Cm_isBound {v1 : Int32} {v2 : Int32} {v3 : Int32} (h : Kzc u0 u)  : KzE u0 (hm_Cm_isBound N u v1 v2 v3) := by
  unfold hm_Cm_isBound
  exact yz_hb_Cm_isBound_0 h ((yz_hg_Cm_isBound N).1) ((yz_hg_Cm_isBound N).2)
theorem yz_hb_Cm_forget_30 {G : Unit} {v1 : Int32} (h : Kzc u0 u)  : KzE u0 (hb_Cm_forget_30 N G u v1) := by
  unfold hb_Cm_forget_30
  repeat' (first | with_reducible assumption | with_reducible refine Kz_br ?_ ?_ | with_reducible refine Kz_bnd ?_ (fun _ _ _ => ?_) | with_reducible refine Kz_ck ?_ | with_reducible refine Kz_ltm ?_ (fun _ _ => ?_) | with_reducible refine Kz_some ?_ | with_reducible refine Kz_bo (fun _ => ?_) | with_reducible refine Kz_T ?_ (fun _ _ _ => ?_) | with_reducible refine Kz_H ?_ (fun _ _ _ => ?_) (fun _ _ => ?_) | with_reducible refine Kz_ltv (fun _ => ?_) | with_reducible refine Kz_I ?_ (by decide) | with_reducible refine Kz_A ?_ (by decide) | with_reducible refine Kz_J ?_ | with_reducible refine Kz_L ?_)
theorem yz_hb_Cm_forget_0 {G : Unit} {v1 : Int32} (h : Kzc u0 u)  : KzE u0 (hb_Cm_forget_0 N G u v1) := by
  unfold hb_Cm_forget_0
  repeat' (first | with_reducible assumption | with_reducible refine Kz_br ?_ ?_ | with_reducible refine Kz_bnd ?_ (fun _ _ _ => ?_) | with_reducible refine Kz_ck ?_ | with_reducible refine Kz_ltm ?_ (fun _ _ => ?_) | with_reducible refine Kz_some ?_ | with_reducible refine Kz_bo (fun _ => ?_) | with_reducible refine Kz_T ?_ (fun _ _ _ => ?_) | with_reducible refine Kz_H ?_ (fun _ _ _ => ?_) (fun _ _ => ?_) | with_reducible exact yz_hb_Cm_forget_30 (by assumption) | with_reducible exact yz_hm_Co_put (by assumption) | with_reducible refine Kz_ltv (fun _ => ?_) | with_reducible refine Kz_I ?_ (by decide) | with_reducible refine Kz_A ?_ (by decide) | with_reducible refine Kz_J ?_ | with_reducible refine Kz_L ?_)
theorem yz_hm_Cm_forget {v1 : Int32} (h : Kzc u0 u)  : KzE u0 (hm_Cm_forget N u v1) := by
  unfold hm_Cm_forget
  exact yz_hb_Cm_forget_0 h
theorem yz_hb_Co_at_21 {G : Unit} {t0 : Int32} (h : Kzc u0 u)  : KzE u0 (hb_Co_at_21 N G u t0) := by
  unfold hb_Co_at_21
  repeat' (first | with_reducible assumption | with_reducible refine Kz_br ?_ ?_ | with_reducible refine Kz_bnd ?_ (fun _ _ _ => ?_) | with_reducible refine Kz_ck ?_ | with_reducible refine Kz_ltm ?_ (fun _ _ => ?_) | with_reducible refine Kz_some ?_ | with_reducible refine Kz_bo (fun _ => ?_) | with_reducible refine Kz_T ?_ (fun _ _ _ => ?_) | with_reducible refine Kz_H ?_ (fun _ _ _ => ?_) (fun _ _ => ?_) | with_reducible refine Kz_ltv (fun _ => ?_) | with_reducible refine Kz_I ?_ (by decide) | with_reducible refine Kz_A ?_ (by decide) | with_reducible refine Kz_J ?_ | with_reducible refine Kz_L ?_)
theorem yz_hb_Co_at_11 {G : Unit} (h : Kzc u0 u)  : KzE u0 (hb_Co_at_11 N G u) := by
  unfold hb_Co_at_11
  repeat' (first | with_reducible assumption | with_reducible refine Kz_br ?_ ?_ | with_reducible refine Kz_bnd ?_ (fun _ _ _ => ?_) | with_reducible refine Kz_ck ?_ | with_reducible refine Kz_ltm ?_ (fun _ _ => ?_) | with_reducible refine Kz_some ?_ | with_reducible refine Kz_bo (fun _ => ?_) | with_reducible refine Kz_T ?_ (fun _ _ _ => ?_) | with_reducible refine Kz_H ?_ (fun _ _ _ => ?_) (fun _ _ => ?_) | with_reducible exact yz_hb_Co_at_21 (by assumption) | with_reducible refine Kz_ltv (fun _ => ?_) | with_reducible refine Kz_I ?_ (by decide) | with_reducible refine Kz_A ?_ (by decide) | with_reducible refine Kz_J ?_ | with_reducible refine Kz_L ?_)
theorem yz_hb_Co_at_0 {G : Unit} {v1 : Int32} (h : Kzc u0 u)  : KzE u0 (hb_Co_at_0 N G u v1) := by
  unfold hb_Co_at_0
  repeat' (first | with_reducible assumption | with_reducible refine Kz_br ?_ ?_ | with_reducible refine Kz_bnd ?_ (fun _ _ _ => ?_) | with_reducible refine Kz_ck ?_ | with_reducible refine Kz_ltm ?_ (fun _ _ => ?_) | with_reducible refine Kz_some ?_ | with_reducible refine Kz_bo (fun _ => ?_) | with_reducible refine Kz_T ?_ (fun _ _ _ => ?_) | with_reducible refine Kz_H ?_ (fun _ _ _ => ?_) (fun _ _ => ?_) | with_reducible exact yz_hb_Co_at_11 (by assumption) | with_reducible exact yz_hb_Co_at_21 (by assumption) | with_reducible refine Kz_ltv (fun _ => ?_) | with_reducible refine Kz_I ?_ (by decide) | with_reducible refine Kz_A ?_ (by decide) | with_reducible refine Kz_J ?_ | with_reducible refine Kz_L ?_)
theorem yz_hm_Co_at {v1 : Int32} (h : Kzc u0 u)  : KzE u0 (hm_Co_at N u v1) := by
  unfold hm_Co_at
  exact yz_hb_Co_at_0 h
theorem yz_hb_Co_set_18 {G : Unit} (h : Kzc u0 u)  : KzE u0 (hb_Co_set_18 N G u) := by
  unfold hb_Co_set_18
  repeat' (first | with_reducible assumption | with_reducible refine Kz_br ?_ ?_ | with_reducible refine Kz_bnd ?_ (fun _ _ _ => ?_) | with_reducible refine Kz_ck ?_ | with_reducible refine Kz_ltm ?_ (fun _ _ => ?_) | with_reducible refine Kz_some ?_ | with_reducible refine Kz_bo (fun _ => ?_) | with_reducible refine Kz_T ?_ (fun _ _ _ => ?_) | with_reducible refine Kz_H ?_ (fun _ _ _ => ?_) (fun _ _ => ?_) | with_reducible refine Kz_ltv (fun _ => ?_) | with_reducible refine Kz_I ?_ (by decide) | with_reducible refine Kz_A ?_ (by decide) | with_reducible refine Kz_J ?_ | with_reducible refine Kz_L ?_)
theorem yz_hb_Co_set_0 {G : Unit} {v1 : Int32} {v2 : Int32} (h : Kzc u0 u)  : KzE u0 (hb_Co_set_0 N G u v1 v2) := by
  unfold hb_Co_set_0
  repeat' (first | with_reducible assumption | with_reducible refine Kz_br ?_ ?_ | with_reducible refine Kz_bnd ?_ (fun _ _ _ => ?_) | with_reducible refine Kz_ck ?_ | with_reducible refine Kz_ltm ?_ (fun _ _ => ?_) | with_reducible refine Kz_some ?_ | with_reducible refine Kz_bo (fun _ => ?_) | with_reducible refine Kz_T ?_ (fun _ _ _ => ?_) | with_reducible refine Kz_H ?_ (fun _ _ _ => ?_) (fun _ _ => ?_) | with_reducible exact yz_hb_Co_set_18 (by assumption) | with_reducible refine Kz_ltv (fun _ => ?_) | with_reducible refine Kz_I ?_ (by decide) | with_reducible refine Kz_A ?_ (by decide) | with_reducible refine Kz_J ?_ | with_reducible refine Kz_L ?_)
theorem yz_hm_Co_set {v1 : Int32} {v2 : Int32} (h : Kzc u0 u)  : KzE u0 (hm_Co_set N u v1 v2) := by
  unfold hm_Co_set
  exact yz_hb_Co_set_0 h
theorem yz_hb_Co_arrive_40 {G : (MS → Int32 → Int32 → Option (MS × Unit))} (h : Kzc u0 u) (hG0 : ∀ (u : MS) a0 a1, Kzc u0 u → KzE u0 (G u a0 a1)) : KzE u0 (hb_Co_arrive_40 N G u) := by
  unfold hb_Co_arrive_40
  repeat' (first | with_reducible assumption | with_reducible refine Kz_br ?_ ?_ | with_reducible refine Kz_bnd ?_ (fun _ _ _ => ?_) | with_reducible refine Kz_ck ?_ | with_reducible refine Kz_ltm ?_ (fun _ _ => ?_) | with_reducible refine Kz_some ?_ | with_reducible refine Kz_bo (fun _ => ?_) | with_reducible refine Kz_T ?_ (fun _ _ _ => ?_) | with_reducible refine Kz_H ?_ (fun _ _ _ => ?_) (fun _ _ => ?_) | with_reducible exact hG0 _ _ _ (by assumption) | with_reducible refine Kz_ltv (fun _ => ?_) | with_reducible refine Kz_I ?_ (by decide) | with_reducible refine Kz_A ?_ (by decide) | with_reducible refine Kz_J ?_ | with_reducible refine Kz_L ?_)
theorem yz_hb_Co_arrive_4 {G : (MS → Int32 → Int32 → Option (MS × Unit))} {v2 : Int32} {v3 : Int32} (h : Kzc u0 u) (hG0 : ∀ (u : MS) a0 a1, Kzc u0 u → KzE u0 (G u a0 a1)) : KzE u0 (hb_Co_arrive_4 N G u v2 v3) := by
  unfold hb_Co_arrive_4
  repeat' (first | with_reducible assumption | with_reducible refine Kz_br ?_ ?_ | with_reducible refine Kz_bnd ?_ (fun _ _ _ => ?_) | with_reducible refine Kz_ck ?_ | with_reducible refine Kz_ltm ?_ (fun _ _ => ?_) | with_reducible refine Kz_some ?_ | with_reducible refine Kz_bo (fun _ => ?_) | with_reducible refine Kz_T ?_ (fun _ _ _ => ?_) | with_reducible refine Kz_H ?_ (fun _ _ _ => ?_) (fun _ _ => ?_) | with_reducible exact yz_hb_Co_arrive_40 (by assumption) hG0 | with_reducible exact yz_hm_Co_set (by assumption) | with_reducible exact yz_hm_Co_at (by assumption) | with_reducible exact hG0 _ _ _ (by assumption) | with_reducible refine Kz_ltv (fun _ => ?_) | with_reducible refine Kz_I ?_ (by decide) | with_reducible refine Kz_A ?_ (by decide) | with_reducible refine Kz_J ?_ | with_reducible refine Kz_L ?_)
theorem yz_hb_Co_arrive_0 {G : (MS → Int32 → Int32 → Option (MS × Unit))} {v1 : Int32} (h : Kzc u0 u) (hG0 : ∀ (u : MS) a0 a1, Kzc u0 u → KzE u0 (G u a0 a1)) : KzE u0 (hb_Co_arrive_0 N G u v1) := by
  unfold hb_Co_arrive_0
  repeat' (first | with_reducible assumption | with_reducible refine Kz_br ?_ ?_ | with_reducible refine Kz_bnd ?_ (fun _ _ _ => ?_) | with_reducible refine Kz_ck ?_ | with_reducible refine Kz_ltm ?_ (fun _ _ => ?_) | with_reducible refine Kz_some ?_ | with_reducible refine Kz_bo (fun _ => ?_) | with_reducible refine Kz_T ?_ (fun _ _ _ => ?_) | with_reducible refine Kz_H ?_ (fun _ _ _ => ?_) (fun _ _ => ?_) | with_reducible exact hG0 _ _ _ (by assumption) | with_reducible refine Kz_ltv (fun _ => ?_) | with_reducible refine Kz_I ?_ (by decide) | with_reducible refine Kz_A ?_ (by decide) | with_reducible refine Kz_J ?_ | with_reducible refine Kz_L ?_)
theorem yz_hg_Co_arrive  (n : Nat) : (∀ (u : MS) a0 a1, Kzc u0 u → KzE u0 ((hg_Co_arrive N n) u a0 a1)) := by
  induction n with
  | zero => exact fun _ _ _ _ => Kz_none
  | succ n ih => exact fun _ _ _ h => yz_hb_Co_arrive_4 (N := N) h ih
theorem yz_hm_Co_arrive {v1 : Int32} (h : Kzc u0 u)  : KzE u0 (hm_Co_arrive N u v1) := by
  unfold hm_Co_arrive
  exact yz_hb_Co_arrive_0 h ((yz_hg_Co_arrive N))
theorem yz_hb_Cm_hold_113 {G : (MS → Int32 → Int32 → Int32 → Option (MS × Int32)) × (MS → Int32 → Int32 → Int32 → Int32 → Int32 → Option (MS × Int32))} {v2 : Int32} {v3 : Int32} {v4 : Int32} (h : Kzc u0 u) (hG0 : ∀ (u : MS) a0 a1 a2, Kzc u0 u → KzE u0 (G.1 u a0 a1 a2)) (hG1 : ∀ (u : MS) a0 a1 a2 a3 a4, Kzc u0 u → KzE u0 (G.2 u a0 a1 a2 a3 a4)) : KzE u0 (hb_Cm_hold_113 N G u v2 v3 v4) := by
  unfold hb_Cm_hold_113
  repeat' (first | with_reducible assumption | with_reducible refine Kz_br ?_ ?_ | with_reducible refine Kz_bnd ?_ (fun _ _ _ => ?_) | with_reducible refine Kz_ck ?_ | with_reducible refine Kz_ltm ?_ (fun _ _ => ?_) | with_reducible refine Kz_some ?_ | with_reducible refine Kz_bo (fun _ => ?_) | with_reducible refine Kz_T ?_ (fun _ _ _ => ?_) | with_reducible refine Kz_H ?_ (fun _ _ _ => ?_) (fun _ _ => ?_) | with_reducible exact hG0 _ _ _ _ (by assumption) | with_reducible exact hG1 _ _ _ _ _ _ (by assumption) | with_reducible refine Kz_ltv (fun _ => ?_) | with_reducible refine Kz_I ?_ (by decide) | with_reducible refine Kz_A ?_ (by decide) | with_reducible refine Kz_J ?_ | with_reducible refine Kz_L ?_)
theorem yz_hb_Cm_hold_92 {G : (MS → Int32 → Int32 → Int32 → Option (MS × Int32)) × (MS → Int32 → Int32 → Int32 → Int32 → Int32 → Option (MS × Int32))} {v2 : Int32} {v3 : Int32} {v4 : Int32} {v5 : Int32} {v6 : Int32} (h : Kzc u0 u) (hG0 : ∀ (u : MS) a0 a1 a2, Kzc u0 u → KzE u0 (G.1 u a0 a1 a2)) (hG1 : ∀ (u : MS) a0 a1 a2 a3 a4, Kzc u0 u → KzE u0 (G.2 u a0 a1 a2 a3 a4)) : KzE u0 (hb_Cm_hold_92 N G u v2 v3 v4 v5 v6) := by
  unfold hb_Cm_hold_92
  repeat' (first | with_reducible assumption | with_reducible refine Kz_br ?_ ?_ | with_reducible refine Kz_bnd ?_ (fun _ _ _ => ?_) | with_reducible refine Kz_ck ?_ | with_reducible refine Kz_ltm ?_ (fun _ _ => ?_) | with_reducible refine Kz_some ?_ | with_reducible refine Kz_bo (fun _ => ?_) | with_reducible refine Kz_T ?_ (fun _ _ _ => ?_) | with_reducible refine Kz_H ?_ (fun _ _ _ => ?_) (fun _ _ => ?_) | with_reducible exact yz_hb_Cm_hold_113 (by assumption) hG0 hG1 | with_reducible exact yz_hm_Co_put (by assumption) | with_reducible exact hG0 _ _ _ _ (by assumption) | with_reducible exact hG1 _ _ _ _ _ _ (by assumption) | with_reducible refine Kz_ltv (fun _ => ?_) | with_reducible refine Kz_I ?_ (by decide) | with_reducible refine Kz_A ?_ (by decide) | with_reducible refine Kz_J ?_ | with_reducible refine Kz_L ?_)
theorem yz_hb_Cm_hold_60 {G : (MS → Int32 → Int32 → Int32 → Option (MS × Int32)) × (MS → Int32 → Int32 → Int32 → Int32 → Int32 → Option (MS × Int32))} {v2 : Int32} {v3 : Int32} {v4 : Int32} {v5 : Int32} {v6 : Int32} (h : Kzc u0 u) (hG0 : ∀ (u : MS) a0 a1 a2, Kzc u0 u → KzE u0 (G.1 u a0 a1 a2)) (hG1 : ∀ (u : MS) a0 a1 a2 a3 a4, Kzc u0 u → KzE u0 (G.2 u a0 a1 a2 a3 a4)) : KzE u0 (hb_Cm_hold_60 N G u v2 v3 v4 v5 v6) := by
  unfold hb_Cm_hold_60
  repeat' (first | with_reducible assumption | with_reducible refine Kz_br ?_ ?_ | with_reducible refine Kz_bnd ?_ (fun _ _ _ => ?_) | with_reducible refine Kz_ck ?_ | with_reducible refine Kz_ltm ?_ (fun _ _ => ?_) | with_reducible refine Kz_some ?_ | with_reducible refine Kz_bo (fun _ => ?_) | with_reducible refine Kz_T ?_ (fun _ _ _ => ?_) | with_reducible refine Kz_H ?_ (fun _ _ _ => ?_) (fun _ _ => ?_) | with_reducible exact yz_hb_Cm_hold_92 (by assumption) hG0 hG1 | with_reducible exact yz_hm_Co_at (by assumption) | with_reducible exact hG0 _ _ _ _ (by assumption) | with_reducible exact hG1 _ _ _ _ _ _ (by assumption) | with_reducible refine Kz_ltv (fun _ => ?_) | with_reducible refine Kz_I ?_ (by decide) | with_reducible refine Kz_A ?_ (by decide) | with_reducible refine Kz_J ?_ | with_reducible refine Kz_L ?_)
theorem yz_hb_Cm_hold_11 {G : (MS → Int32 → Int32 → Int32 → Option (MS × Int32)) × (MS → Int32 → Int32 → Int32 → Int32 → Int32 → Option (MS × Int32))} {v2 : Int32} {v3 : Int32} {v4 : Int32} (h : Kzc u0 u) (hG0 : ∀ (u : MS) a0 a1 a2, Kzc u0 u → KzE u0 (G.1 u a0 a1 a2)) (hG1 : ∀ (u : MS) a0 a1 a2 a3 a4, Kzc u0 u → KzE u0 (G.2 u a0 a1 a2 a3 a4)) : KzE u0 (hb_Cm_hold_11 N G u v2 v3 v4) := by
  unfold hb_Cm_hold_11
  repeat' (first | with_reducible assumption | with_reducible refine Kz_br ?_ ?_ | with_reducible refine Kz_bnd ?_ (fun _ _ _ => ?_) | with_reducible refine Kz_ck ?_ | with_reducible refine Kz_ltm ?_ (fun _ _ => ?_) | with_reducible refine Kz_some ?_ | with_reducible refine Kz_bo (fun _ => ?_) | with_reducible refine Kz_T ?_ (fun _ _ _ => ?_) | with_reducible refine Kz_H ?_ (fun _ _ _ => ?_) (fun _ _ => ?_) | with_reducible exact yz_hb_Cm_hold_113 (by assumption) hG0 hG1 | with_reducible exact hG0 _ _ _ _ (by assumption) | with_reducible exact hG1 _ _ _ _ _ _ (by assumption) | with_reducible refine Kz_ltv (fun _ => ?_) | with_reducible refine Kz_I ?_ (by decide) | with_reducible refine Kz_A ?_ (by decide) | with_reducible refine Kz_J ?_ | with_reducible refine Kz_L ?_)
theorem yz_hb_Cm_hold_0 {G : (MS → Int32 → Int32 → Int32 → Option (MS × Int32)) × (MS → Int32 → Int32 → Int32 → Int32 → Int32 → Option (MS × Int32))} {v1 : Int32} {v2 : Int32} (h : Kzc u0 u) (hG0 : ∀ (u : MS) a0 a1 a2, Kzc u0 u → KzE u0 (G.1 u a0 a1 a2)) (hG1 : ∀ (u : MS) a0 a1 a2 a3 a4, Kzc u0 u → KzE u0 (G.2 u a0 a1 a2 a3 a4)) : KzE u0 (hb_Cm_hold_0 N G u v1 v2) := by
  unfold hb_Cm_hold_0
  repeat' (first | with_reducible assumption | with_reducible refine Kz_br ?_ ?_ | with_reducible refine Kz_bnd ?_ (fun _ _ _ => ?_) | with_reducible refine Kz_ck ?_ | with_reducible refine Kz_ltm ?_ (fun _ _ => ?_) | with_reducible refine Kz_some ?_ | with_reducible refine Kz_bo (fun _ => ?_) | with_reducible refine Kz_T ?_ (fun _ _ _ => ?_) | with_reducible refine Kz_H ?_ (fun _ _ _ => ?_) (fun _ _ => ?_) | with_reducible exact hG0 _ _ _ _ (by assumption) | with_reducible exact hG1 _ _ _ _ _ _ (by assumption) | with_reducible refine Kz_ltv (fun _ => ?_) | with_reducible refine Kz_I ?_ (by decide) | with_reducible refine Kz_A ?_ (by decide) | with_reducible refine Kz_J ?_ | with_reducible refine Kz_L ?_)
theorem yz_hg_Cm_hold  (n : Nat) : (∀ (u : MS) a0 a1 a2, Kzc u0 u → KzE u0 ((hg_Cm_hold N n).1 u a0 a1 a2)) ∧ (∀ (u : MS) a0 a1 a2 a3 a4, Kzc u0 u → KzE u0 ((hg_Cm_hold N n).2 u a0 a1 a2 a3 a4)) := by
  induction n with
  | zero => exact ⟨fun _ _ _ _ _ => Kz_none, fun _ _ _ _ _ _ _ => Kz_none⟩
  | succ n ih => exact ⟨fun _ _ _ _ h => yz_hb_Cm_hold_11 (N := N) h ih.1 ih.2, fun _ _ _ _ _ _ h => yz_hb_Cm_hold_60 (N := N) h ih.1 ih.2⟩
theorem yz_hm_Cm_hold {v1 : Int32} {v2 : Int32} (h : Kzc u0 u)  : KzE u0 (hm_Cm_hold N u v1 v2) := by
  unfold hm_Cm_hold
  exact yz_hb_Cm_hold_0 h ((yz_hg_Cm_hold N).1) ((yz_hg_Cm_hold N).2)
theorem yz_hb_Cm_predefinedOf_54 {G : Unit} {t0 : Int32} (h : Kzc u0 u)  : KzE u0 (hb_Cm_predefinedOf_54 N G u t0) := by
  unfold hb_Cm_predefinedOf_54
  repeat' (first | with_reducible assumption | with_reducible refine Kz_br ?_ ?_ | with_reducible refine Kz_bnd ?_ (fun _ _ _ => ?_) | with_reducible refine Kz_ck ?_ | with_reducible refine Kz_ltm ?_ (fun _ _ => ?_) | with_reducible refine Kz_some ?_ | with_reducible refine Kz_bo (fun _ => ?_) | with_reducible refine Kz_T ?_ (fun _ _ _ => ?_) | with_reducible refine Kz_H ?_ (fun _ _ _ => ?_) (fun _ _ => ?_) | with_reducible refine Kz_ltv (fun _ => ?_) | with_reducible refine Kz_I ?_ (by decide) | with_reducible refine Kz_A ?_ (by decide) | with_reducible refine Kz_J ?_ | with_reducible refine Kz_L ?_)
theorem yz_hb_Cm_predefinedOf_53 {G : Unit} (h : Kzc u0 u)  : KzE u0 (hb_Cm_predefinedOf_53 N G u) := by
  unfold hb_Cm_predefinedOf_53
  repeat' (first | with_reducible assumption | with_reducible refine Kz_br ?_ ?_ | with_reducible refine Kz_bnd ?_ (fun _ _ _ => ?_) | with_reducible refine Kz_ck ?_ | with_reducible refine Kz_ltm ?_ (fun _ _ => ?_) | with_reducible refine Kz_some ?_ | with_reducible refine Kz_bo (fun _ => ?_) | with_reducible refine Kz_T ?_ (fun _ _ _ => ?_) | with_reducible refine Kz_H ?_ (fun _ _ _ => ?_) (fun _ _ => ?_) | with_reducible exact yz_hb_Cm_predefinedOf_54 (by assumption) | with_reducible refine Kz_ltv (fun _ => ?_) | with_reducible refine Kz_I ?_ (by decide) | with_reducible refine Kz_A ?_ (by decide) | with_reducible refine Kz_J ?_ | with_reducible refine Kz_L ?_)
theorem yz_hb_Cm_predefinedOf_27 {G : Unit} {v2 : Int32} {v3 : Int32} (h : Kzc u0 u)  : KzE u0 (hb_Cm_predefinedOf_27 N G u v2 v3) := by
  unfold hb_Cm_predefinedOf_27
  repeat' (first | with_reducible assumption | with_reducible refine Kz_br ?_ ?_ | with_reducible refine Kz_bnd ?_ (fun _ _ _ => ?_) | with_reducible refine Kz_ck ?_ | with_reducible refine Kz_ltm ?_ (fun _ _ => ?_) | with_reducible refine Kz_some ?_ | with_reducible refine Kz_bo (fun _ => ?_) | with_reducible refine Kz_T ?_ (fun _ _ _ => ?_) | with_reducible refine Kz_H ?_ (fun _ _ _ => ?_) (fun _ _ => ?_) | with_reducible exact yz_hb_Cm_predefinedOf_53 (by assumption) | with_reducible exact yz_hb_Cm_predefinedOf_54 (by assumption) | with_reducible refine Kz_ltv (fun _ => ?_) | with_reducible refine Kz_I ?_ (by decide) | with_reducible refine Kz_A ?_ (by decide) | with_reducible refine Kz_J ?_ | with_reducible refine Kz_L ?_)
theorem yz_hb_Cm_predefinedOf_0 {G : Unit} {v1 : Int32} {v2 : Int32} (h : Kzc u0 u)  : KzE u0 (hb_Cm_predefinedOf_0 N G u v1 v2) := by
  unfold hb_Cm_predefinedOf_0
  repeat' (first | with_reducible assumption | with_reducible refine Kz_br ?_ ?_ | with_reducible refine Kz_bnd ?_ (fun _ _ _ => ?_) | with_reducible refine Kz_ck ?_ | with_reducible refine Kz_ltm ?_ (fun _ _ => ?_) | with_reducible refine Kz_some ?_ | with_reducible refine Kz_bo (fun _ => ?_) | with_reducible refine Kz_T ?_ (fun _ _ _ => ?_) | with_reducible refine Kz_H ?_ (fun _ _ _ => ?_) (fun _ _ => ?_) | with_reducible exact yz_hb_Cm_predefinedOf_27 (by assumption) | with_reducible exact yz_hm_Wo_seekIn (by assumption) | with_reducible refine Kz_ltv (fun _ => ?_) | with_reducible refine Kz_I ?_ (by decide) | with_reducible refine Kz_A ?_ (by decide) | with_reducible refine Kz_J ?_ | with_reducible refine Kz_L ?_)
theorem yz_hm_Cm_predefinedOf {v1 : Int32} {v2 : Int32} (h : Kzc u0 u)  : KzE u0 (hm_Cm_predefinedOf N u v1 v2) := by
  unfold hm_Cm_predefinedOf
  exact yz_hb_Cm_predefinedOf_0 h
theorem yz_hm_Cm_fault {v1 : Int32} {v2 : Int32} (h : Kzc u0 u)  : KzE u0 (hm_Cm_fault N u v1 v2) := by
  unfold hm_Cm_fault
  exact yz_hb_Cm_fault_0 h
theorem yz_hb_Cm_bind_32 {G : Unit} (h : Kzc u0 u)  : KzE u0 (hb_Cm_bind_32 N G u) := by
  unfold hb_Cm_bind_32
  repeat' (first | with_reducible assumption | with_reducible refine Kz_br ?_ ?_ | with_reducible refine Kz_bnd ?_ (fun _ _ _ => ?_) | with_reducible refine Kz_ck ?_ | with_reducible refine Kz_ltm ?_ (fun _ _ => ?_) | with_reducible refine Kz_some ?_ | with_reducible refine Kz_bo (fun _ => ?_) | with_reducible refine Kz_T ?_ (fun _ _ _ => ?_) | with_reducible refine Kz_H ?_ (fun _ _ _ => ?_) (fun _ _ => ?_) | with_reducible refine Kz_ltv (fun _ => ?_) | with_reducible refine Kz_I ?_ (by decide) | with_reducible refine Kz_A ?_ (by decide) | with_reducible refine Kz_J ?_ | with_reducible refine Kz_L ?_)
theorem yz_hb_Cm_bind_0 {G : Unit} {v1 : Int32} (h : Kzc u0 u)  : KzE u0 (hb_Cm_bind_0 N G u v1) := by
  unfold hb_Cm_bind_0
  repeat' (first | with_reducible assumption | with_reducible refine Kz_br ?_ ?_ | with_reducible refine Kz_bnd ?_ (fun _ _ _ => ?_) | with_reducible refine Kz_ck ?_ | with_reducible refine Kz_ltm ?_ (fun _ _ => ?_) | with_reducible refine Kz_some ?_ | with_reducible refine Kz_bo (fun _ => ?_) | with_reducible refine Kz_T ?_ (fun _ _ _ => ?_) | with_reducible refine Kz_H ?_ (fun _ _ _ => ?_) (fun _ _ => ?_) | with_reducible exact yz_hb_Cm_bind_32 (by assumption) | with_reducible refine Kz_ltv (fun _ => ?_) | with_reducible refine Kz_I ?_ (by decide) | with_reducible refine Kz_A ?_ (by decide) | with_reducible refine Kz_J ?_ | with_reducible refine Kz_L ?_)
theorem yz_hm_Cm_bind {v1 : Int32} (h : Kzc u0 u)  : KzE u0 (hm_Cm_bind N u v1) := by
  unfold hm_Cm_bind
  exact yz_hb_Cm_bind_0 h
theorem yz_hb_Cm_nameInPattern_92 {G : Unit} (h : Kzc u0 u)  : KzE u0 (hb_Cm_nameInPattern_92 N G u) := by
  unfold hb_Cm_nameInPattern_92
  repeat' (first | with_reducible assumption | with_reducible refine Kz_br ?_ ?_ | with_reducible refine Kz_bnd ?_ (fun _ _ _ => ?_) | with_reducible refine Kz_ck ?_ | with_reducible refine Kz_ltm ?_ (fun _ _ => ?_) | with_reducible refine Kz_some ?_ | with_reducible refine Kz_bo (fun _ => ?_) | with_reducible refine Kz_T ?_ (fun _ _ _ => ?_) | with_reducible refine Kz_H ?_ (fun _ _ _ => ?_) (fun _ _ => ?_) | with_reducible refine Kz_ltv (fun _ => ?_) | with_reducible refine Kz_I ?_ (by decide) | with_reducible refine Kz_A ?_ (by decide) | with_reducible refine Kz_J ?_ | with_reducible refine Kz_L ?_)
theorem yz_hb_Cm_nameInPattern_46 {G : Unit} {v1 : Int32} {t1 : Int32} {t2 : Int32} {t3 : Int32} (h : Kzc u0 u)  : KzE u0 (hb_Cm_nameInPattern_46 N G u v1 t1 t2 t3) := by
  unfold hb_Cm_nameInPattern_46
  repeat' (first | with_reducible assumption | with_reducible refine Kz_br ?_ ?_ | with_reducible refine Kz_bnd ?_ (fun _ _ _ => ?_) | with_reducible refine Kz_ck ?_ | with_reducible refine Kz_ltm ?_ (fun _ _ => ?_) | with_reducible refine Kz_some ?_ | with_reducible refine Kz_bo (fun _ => ?_) | with_reducible refine Kz_T ?_ (fun _ _ _ => ?_) | with_reducible refine Kz_H ?_ (fun _ _ _ => ?_) (fun _ _ => ?_) | with_reducible exact yz_hb_Cm_nameInPattern_92 (by assumption) | with_reducible exact yz_hm_Cm_isBound (by assumption) | with_reducible exact yz_hm_Cm_bind (by assumption) | with_reducible exact yz_hm_Co_put (by assumption) | with_reducible refine Kz_ltv (fun _ => ?_) | with_reducible refine Kz_I ?_ (by decide) | with_reducible refine Kz_A ?_ (by decide) | with_reducible refine Kz_J ?_ | with_reducible refine Kz_L ?_)
theorem yz_hb_Cm_nameInPattern_0 {G : Unit} {v1 : Int32} {v2 : Int32} (h : Kzc u0 u)  : KzE u0 (hb_Cm_nameInPattern_0 N G u v1 v2) := by
  unfold hb_Cm_nameInPattern_0
  repeat' (first | with_reducible assumption | with_reducible refine Kz_br ?_ ?_ | with_reducible refine Kz_bnd ?_ (fun _ _ _ => ?_) | with_reducible refine Kz_ck ?_ | with_reducible refine Kz_ltm ?_ (fun _ _ => ?_) | with_reducible refine Kz_some ?_ | with_reducible refine Kz_bo (fun _ => ?_) | with_reducible refine Kz_T ?_ (fun _ _ _ => ?_) | with_reducible refine Kz_H ?_ (fun _ _ _ => ?_) (fun _ _ => ?_) | with_reducible exact yz_hb_Cm_nameInPattern_46 (by assumption) | with_reducible exact yz_hb_Cm_nameInPattern_92 (by assumption) | with_reducible exact yz_hm_Co_put (by assumption) | with_reducible refine Kz_ltv (fun _ => ?_) | with_reducible refine Kz_I ?_ (by decide) | with_reducible refine Kz_A ?_ (by decide) | with_reducible refine Kz_J ?_ | with_reducible refine Kz_L ?_)
theorem yz_hm_Cm_nameInPattern {v1 : Int32} {v2 : Int32} (h : Kzc u0 u)  : KzE u0 (hm_Cm_nameInPattern N u v1 v2) := by
  unfold hm_Cm_nameInPattern
  exact yz_hb_Cm_nameInPattern_0 h
theorem yz_hb_Cm_listPattern_84 {S : SF_Cm_listPattern} {G : (MS → Int32 → Int32 → Option (MS × Unit))} (h : Kzc u0 u) (hS0 : ∀ (u : MS) a0, Kzc u0 u → KzE u0 (S.1 u a0)) (hS1 : ∀ (u : MS) a0, Kzc u0 u → KzE u0 (S.2 u a0)) (hG0 : ∀ (u : MS) a0 a1, Kzc u0 u → KzE u0 (G u a0 a1)) : KzE u0 (hb_Cm_listPattern_84 N S G u) := by
  unfold hb_Cm_listPattern_84
  repeat' (first | with_reducible assumption | with_reducible refine Kz_br ?_ ?_ | with_reducible refine Kz_bnd ?_ (fun _ _ _ => ?_) | with_reducible refine Kz_ck ?_ | with_reducible refine Kz_ltm ?_ (fun _ _ => ?_) | with_reducible refine Kz_some ?_ | with_reducible refine Kz_bo (fun _ => ?_) | with_reducible refine Kz_T ?_ (fun _ _ _ => ?_) | with_reducible refine Kz_H ?_ (fun _ _ _ => ?_) (fun _ _ => ?_) | with_reducible exact hS0 _ _ (by assumption) | with_reducible exact hS1 _ _ (by assumption) | with_reducible exact hG0 _ _ _ (by assumption) | with_reducible refine Kz_ltv (fun _ => ?_) | with_reducible refine Kz_I ?_ (by decide) | with_reducible refine Kz_A ?_ (by decide) | with_reducible refine Kz_J ?_ | with_reducible refine Kz_L ?_)
theorem yz_hb_Cm_listPattern_10 {S : SF_Cm_listPattern} {G : (MS → Int32 → Int32 → Option (MS × Unit))} {v1 : Int32} {v2 : Int32} (h : Kzc u0 u) (hS0 : ∀ (u : MS) a0, Kzc u0 u → KzE u0 (S.1 u a0)) (hS1 : ∀ (u : MS) a0, Kzc u0 u → KzE u0 (S.2 u a0)) (hG0 : ∀ (u : MS) a0 a1, Kzc u0 u → KzE u0 (G u a0 a1)) : KzE u0 (hb_Cm_listPattern_10 N S G u v1 v2) := by
  unfold hb_Cm_listPattern_10
  repeat' (first | with_reducible assumption | with_reducible refine Kz_br ?_ ?_ | with_reducible refine Kz_bnd ?_ (fun _ _ _ => ?_) | with_reducible refine Kz_ck ?_ | with_reducible refine Kz_ltm ?_ (fun _ _ => ?_) | with_reducible refine Kz_some ?_ | with_reducible refine Kz_bo (fun _ => ?_) | with_reducible refine Kz_T ?_ (fun _ _ _ => ?_) | with_reducible refine Kz_H ?_ (fun _ _ _ => ?_) (fun _ _ => ?_) | with_reducible exact yz_hb_Cm_listPattern_84 (by assumption) hS0 hS1 hG0 | with_reducible exact yz_hm_Cm_term (by assumption) | with_reducible exact yz_hm_Co_put (by assumption) | with_reducible exact hS0 _ _ (by assumption) | with_reducible exact hS1 _ _ (by assumption) | with_reducible exact hG0 _ _ _ (by assumption) | with_reducible refine Kz_ltv (fun _ => ?_) | with_reducible refine Kz_I ?_ (by decide) | with_reducible refine Kz_A ?_ (by decide) | with_reducible refine Kz_J ?_ | with_reducible refine Kz_L ?_)
theorem yz_hb_Cm_listPattern_0 {S : SF_Cm_listPattern} {G : (MS → Int32 → Int32 → Option (MS × Unit))} {v1 : Int32} (h : Kzc u0 u) (hS0 : ∀ (u : MS) a0, Kzc u0 u → KzE u0 (S.1 u a0)) (hS1 : ∀ (u : MS) a0, Kzc u0 u → KzE u0 (S.2 u a0)) (hG0 : ∀ (u : MS) a0 a1, Kzc u0 u → KzE u0 (G u a0 a1)) : KzE u0 (hb_Cm_listPattern_0 N S G u v1) := by
  unfold hb_Cm_listPattern_0
  repeat' (first | with_reducible assumption | with_reducible refine Kz_br ?_ ?_ | with_reducible refine Kz_bnd ?_ (fun _ _ _ => ?_) | with_reducible refine Kz_ck ?_ | with_reducible refine Kz_ltm ?_ (fun _ _ => ?_) | with_reducible refine Kz_some ?_ | with_reducible refine Kz_bo (fun _ => ?_) | with_reducible refine Kz_T ?_ (fun _ _ _ => ?_) | with_reducible refine Kz_H ?_ (fun _ _ _ => ?_) (fun _ _ => ?_) | with_reducible exact hS0 _ _ (by assumption) | with_reducible exact hS1 _ _ (by assumption) | with_reducible exact hG0 _ _ _ (by assumption) | with_reducible refine Kz_ltv (fun _ => ?_) | with_reducible refine Kz_I ?_ (by decide) | with_reducible refine Kz_A ?_ (by decide) | with_reducible refine Kz_J ?_ | with_reducible refine Kz_L ?_)
theorem yz_hg_Cm_listPattern {S : SF_Cm_listPattern} (hS0 : ∀ (u : MS) a0, Kzc u0 u → KzE u0 (S.1 u a0)) (hS1 : ∀ (u : MS) a0, Kzc u0 u → KzE u0 (S.2 u a0)) (n : Nat) : (∀ (u : MS) a0 a1, Kzc u0 u → KzE u0 ((hg_Cm_listPattern N S n) u a0 a1)) := by
  induction n with
  | zero => exact fun _ _ _ _ => Kz_none
  | succ n ih => exact fun _ _ _ h => yz_hb_Cm_listPattern_10 (N := N) h hS0 hS1 ih
theorem yz_hm_Cm_listPattern {S : SF_Cm_listPattern} {v1 : Int32} (h : Kzc u0 u) (hS0 : ∀ (u : MS) a0, Kzc u0 u → KzE u0 (S.1 u a0)) (hS1 : ∀ (u : MS) a0, Kzc u0 u → KzE u0 (S.2 u a0)) : KzE u0 (hm_Cm_listPattern N S u v1) := by
  unfold hm_Cm_listPattern
  exact yz_hb_Cm_listPattern_0 h hS0 hS1 ((yz_hg_Cm_listPattern (N := N) hS0 hS1 N))
theorem yz_hb_Cm_pattern_298 {S : SF_Cm_listPattern} {G : (MS → Int32 → Option (MS × Unit))} (h : Kzc u0 u) (hS0 : ∀ (u : MS) a0, Kzc u0 u → KzE u0 (S.1 u a0)) (hS1 : ∀ (u : MS) a0, Kzc u0 u → KzE u0 (S.2 u a0)) (hG0 : ∀ (u : MS) a0, Kzc u0 u → KzE u0 (G u a0)) : KzE u0 (hb_Cm_pattern_298 N S G u) := by
  unfold hb_Cm_pattern_298
  repeat' (first | with_reducible assumption | with_reducible refine Kz_br ?_ ?_ | with_reducible refine Kz_bnd ?_ (fun _ _ _ => ?_) | with_reducible refine Kz_ck ?_ | with_reducible refine Kz_ltm ?_ (fun _ _ => ?_) | with_reducible refine Kz_some ?_ | with_reducible refine Kz_bo (fun _ => ?_) | with_reducible refine Kz_T ?_ (fun _ _ _ => ?_) | with_reducible refine Kz_H ?_ (fun _ _ _ => ?_) (fun _ _ => ?_) | with_reducible exact hS0 _ _ (by assumption) | with_reducible exact hS1 _ _ (by assumption) | with_reducible exact hG0 _ _ (by assumption) | with_reducible refine Kz_ltv (fun _ => ?_) | with_reducible refine Kz_I ?_ (by decide) | with_reducible refine Kz_A ?_ (by decide) | with_reducible refine Kz_J ?_ | with_reducible refine Kz_L ?_)
theorem yz_hb_Cm_pattern_268 {S : SF_Cm_listPattern} {G : (MS → Int32 → Option (MS × Unit))} {v2 : Int32} (h : Kzc u0 u) (hS0 : ∀ (u : MS) a0, Kzc u0 u → KzE u0 (S.1 u a0)) (hS1 : ∀ (u : MS) a0, Kzc u0 u → KzE u0 (S.2 u a0)) (hG0 : ∀ (u : MS) a0, Kzc u0 u → KzE u0 (G u a0)) : KzE u0 (hb_Cm_pattern_268 N S G u v2) := by
  unfold hb_Cm_pattern_268
  repeat' (first | with_reducible assumption | with_reducible refine Kz_br ?_ ?_ | with_reducible refine Kz_bnd ?_ (fun _ _ _ => ?_) | with_reducible refine Kz_ck ?_ | with_reducible refine Kz_ltm ?_ (fun _ _ => ?_) | with_reducible refine Kz_some ?_ | with_reducible refine Kz_bo (fun _ => ?_) | with_reducible refine Kz_T ?_ (fun _ _ _ => ?_) | with_reducible refine Kz_H ?_ (fun _ _ _ => ?_) (fun _ _ => ?_) | with_reducible exact yz_hb_Cm_pattern_298 (by assumption) hS0 hS1 hG0 | with_reducible exact hS0 _ _ (by assumption) | with_reducible exact hS1 _ _ (by assumption) | with_reducible exact hG0 _ _ (by assumption) | with_reducible refine Kz_ltv (fun _ => ?_) | with_reducible refine Kz_I ?_ (by decide) | with_reducible refine Kz_A ?_ (by decide) | with_reducible refine Kz_J ?_ | with_reducible refine Kz_L ?_)
theorem yz_hb_Cm_pattern_0 {S : SF_Cm_listPattern} {G : (MS → Int32 → Option (MS × Unit))} {v1 : Int32} (h : Kzc u0 u) (hS0 : ∀ (u : MS) a0, Kzc u0 u → KzE u0 (S.1 u a0)) (hS1 : ∀ (u : MS) a0, Kzc u0 u → KzE u0 (S.2 u a0)) (hG0 : ∀ (u : MS) a0, Kzc u0 u → KzE u0 (G u a0)) : KzE u0 (hb_Cm_pattern_0 N S G u v1) := by
  unfold hb_Cm_pattern_0
  repeat' (first | with_reducible assumption | with_reducible refine Kz_br ?_ ?_ | with_reducible refine Kz_bnd ?_ (fun _ _ _ => ?_) | with_reducible refine Kz_ck ?_ | with_reducible refine Kz_ltm ?_ (fun _ _ => ?_) | with_reducible refine Kz_some ?_ | with_reducible refine Kz_bo (fun _ => ?_) | with_reducible refine Kz_T ?_ (fun _ _ _ => ?_) | with_reducible refine Kz_H ?_ (fun _ _ _ => ?_) (fun _ _ => ?_) | with_reducible exact yz_hb_Cm_pattern_298 (by assumption) hS0 hS1 hG0 | with_reducible exact yz_hm_Cm_nameInPattern (by assumption) | with_reducible exact yz_hm_Cm_string (by assumption) | with_reducible exact yz_hm_Cm_term (by assumption) | with_reducible exact yz_hm_Co_put (by assumption) | with_reducible exact hS0 _ _ (by assumption) | with_reducible exact hS1 _ _ (by assumption) | with_reducible exact hG0 _ _ (by assumption) | with_reducible refine Kz_ltv (fun _ => ?_) | with_reducible refine Kz_I ?_ (by decide) | with_reducible refine Kz_A ?_ (by decide) | with_reducible refine Kz_J ?_ | with_reducible refine Kz_L ?_)
theorem yz_hg_Cm_pattern {S : SF_Cm_listPattern} (hS0 : ∀ (u : MS) a0, Kzc u0 u → KzE u0 (S.1 u a0)) (hS1 : ∀ (u : MS) a0, Kzc u0 u → KzE u0 (S.2 u a0)) (n : Nat) : (∀ (u : MS) a0, Kzc u0 u → KzE u0 ((hg_Cm_pattern N S n) u a0)) := by
  induction n with
  | zero => exact fun _ _ _ => Kz_none
  | succ n ih => exact fun _ _ h => yz_hb_Cm_pattern_268 (N := N) h hS0 hS1 ih
theorem yz_hm_Cm_pattern {S : SF_Cm_listPattern} {v1 : Int32} (h : Kzc u0 u) (hS0 : ∀ (u : MS) a0, Kzc u0 u → KzE u0 (S.1 u a0)) (hS1 : ∀ (u : MS) a0, Kzc u0 u → KzE u0 (S.2 u a0)) : KzE u0 (hm_Cm_pattern N S u v1) := by
  unfold hm_Cm_pattern
  exact yz_hb_Cm_pattern_0 h hS0 hS1 ((yz_hg_Cm_pattern (N := N) hS0 hS1 N))
theorem yz_hrc_Cm_listPattern  (n : Nat) : (∀ (u : MS) a0, Kzc u0 u → KzE u0 ((hrc_Cm_listPattern N n).1 u a0)) ∧ (∀ (u : MS) a0, Kzc u0 u → KzE u0 ((hrc_Cm_listPattern N n).2 u a0)) := by
  induction n with
  | zero => exact ⟨fun _ _ _ => Kz_none, fun _ _ _ => Kz_none⟩
  | succ n ih => exact ⟨fun _ _ h => yz_hm_Cm_listPattern (N := N) h ih.1 ih.2, fun _ _ h => yz_hm_Cm_pattern (N := N) h ih.1 ih.2⟩
theorem yz_hr_Cm_pattern {v1 : Int32} (h : Kzc u0 u) : KzE u0 (hr_Cm_pattern N u v1) := by
  unfold hr_Cm_pattern
  exact (yz_hrc_Cm_listPattern (N := N) 300).2 _ _ h
theorem yz_hb_Cm_notInGuard_14 {G : Unit} (h : Kzc u0 u)  : KzE u0 (hb_Cm_notInGuard_14 N G u) := by
  unfold hb_Cm_notInGuard_14
  repeat' (first | with_reducible assumption | with_reducible refine Kz_br ?_ ?_ | with_reducible refine Kz_bnd ?_ (fun _ _ _ => ?_) | with_reducible refine Kz_ck ?_ | with_reducible refine Kz_ltm ?_ (fun _ _ => ?_) | with_reducible refine Kz_some ?_ | with_reducible refine Kz_bo (fun _ => ?_) | with_reducible refine Kz_T ?_ (fun _ _ _ => ?_) | with_reducible refine Kz_H ?_ (fun _ _ _ => ?_) (fun _ _ => ?_) | with_reducible refine Kz_ltv (fun _ => ?_) | with_reducible refine Kz_I ?_ (by decide) | with_reducible refine Kz_A ?_ (by decide) | with_reducible refine Kz_J ?_ | with_reducible refine Kz_L ?_)
theorem yz_hb_Cm_notInGuard_0 {G : Unit} {v1 : Int32} (h : Kzc u0 u)  : KzE u0 (hb_Cm_notInGuard_0 N G u v1) := by
  unfold hb_Cm_notInGuard_0
  repeat' (first | with_reducible assumption | with_reducible refine Kz_br ?_ ?_ | with_reducible refine Kz_bnd ?_ (fun _ _ _ => ?_) | with_reducible refine Kz_ck ?_ | with_reducible refine Kz_ltm ?_ (fun _ _ => ?_) | with_reducible refine Kz_some ?_ | with_reducible refine Kz_bo (fun _ => ?_) | with_reducible refine Kz_T ?_ (fun _ _ _ => ?_) | with_reducible refine Kz_H ?_ (fun _ _ _ => ?_) (fun _ _ => ?_) | with_reducible exact yz_hb_Cm_notInGuard_14 (by assumption) | with_reducible exact yz_hm_Cm_fault (by assumption) | with_reducible refine Kz_ltv (fun _ => ?_) | with_reducible refine Kz_I ?_ (by decide) | with_reducible refine Kz_A ?_ (by decide) | with_reducible refine Kz_J ?_ | with_reducible refine Kz_L ?_)
theorem yz_hm_Cm_notInGuard {v1 : Int32} (h : Kzc u0 u)  : KzE u0 (hm_Cm_notInGuard N u v1) := by
  unfold hm_Cm_notInGuard
  exact yz_hb_Cm_notInGuard_0 h
theorem yz_hb_Cm_joining_106 {G : Unit} {v1 : Int32} (h : Kzc u0 u)  : KzE u0 (hb_Cm_joining_106 N G u v1) := by
  unfold hb_Cm_joining_106
  repeat' (first | with_reducible assumption | with_reducible refine Kz_br ?_ ?_ | with_reducible refine Kz_bnd ?_ (fun _ _ _ => ?_) | with_reducible refine Kz_ck ?_ | with_reducible refine Kz_ltm ?_ (fun _ _ => ?_) | with_reducible refine Kz_some ?_ | with_reducible refine Kz_bo (fun _ => ?_) | with_reducible refine Kz_T ?_ (fun _ _ _ => ?_) | with_reducible refine Kz_H ?_ (fun _ _ _ => ?_) (fun _ _ => ?_) | with_reducible exact yz_hm_Co_put (by assumption) | with_reducible refine Kz_ltv (fun _ => ?_) | with_reducible refine Kz_I ?_ (by decide) | with_reducible refine Kz_A ?_ (by decide) | with_reducible refine Kz_J ?_ | with_reducible refine Kz_L ?_)
theorem yz_hb_Cm_joining_0 {G : Unit} {v1 : Int32} {v2 : Int32} (h : Kzc u0 u)  : KzE u0 (hb_Cm_joining_0 N G u v1 v2) := by
  unfold hb_Cm_joining_0
  repeat' (first | with_reducible assumption | with_reducible refine Kz_br ?_ ?_ | with_reducible refine Kz_bnd ?_ (fun _ _ _ => ?_) | with_reducible refine Kz_ck ?_ | with_reducible refine Kz_ltm ?_ (fun _ _ => ?_) | with_reducible refine Kz_some ?_ | with_reducible refine Kz_bo (fun _ => ?_) | with_reducible refine Kz_T ?_ (fun _ _ _ => ?_) | with_reducible refine Kz_H ?_ (fun _ _ _ => ?_) (fun _ _ => ?_) | with_reducible exact yz_hb_Cm_joining_106 (by assumption) | with_reducible exact yz_hm_Cm_notInGuard (by assumption) | with_reducible exact yz_hm_Co_put (by assumption) | with_reducible refine Kz_ltv (fun _ => ?_) | with_reducible refine Kz_I ?_ (by decide) | with_reducible refine Kz_A ?_ (by decide) | with_reducible refine Kz_J ?_ | with_reducible refine Kz_L ?_)
theorem yz_hm_Cm_joining {v1 : Int32} {v2 : Int32} (h : Kzc u0 u)  : KzE u0 (hm_Cm_joining N u v1 v2) := by
  unfold hm_Cm_joining
  exact yz_hb_Cm_joining_0 h
theorem yz_hb_Cm_funOf_48 {G : Unit} {v2 : Int32} (h : Kzc u0 u)  : KzE u0 (hb_Cm_funOf_48 N G u v2) := by
  unfold hb_Cm_funOf_48
  repeat' (first | with_reducible assumption | with_reducible refine Kz_br ?_ ?_ | with_reducible refine Kz_bnd ?_ (fun _ _ _ => ?_) | with_reducible refine Kz_ck ?_ | with_reducible refine Kz_ltm ?_ (fun _ _ => ?_) | with_reducible refine Kz_some ?_ | with_reducible refine Kz_bo (fun _ => ?_) | with_reducible refine Kz_T ?_ (fun _ _ _ => ?_) | with_reducible refine Kz_H ?_ (fun _ _ _ => ?_) (fun _ _ => ?_) | with_reducible exact yz_hm_Co_put (by assumption) | with_reducible refine Kz_ltv (fun _ => ?_) | with_reducible refine Kz_I ?_ (by decide) | with_reducible refine Kz_A ?_ (by decide) | with_reducible refine Kz_J ?_ | with_reducible refine Kz_L ?_)
theorem yz_hb_Cm_funOf_0 {G : Unit} {v1 : Int32} (h : Kzc u0 u)  : KzE u0 (hb_Cm_funOf_0 N G u v1) := by
  unfold hb_Cm_funOf_0
  repeat' (first | with_reducible assumption | with_reducible refine Kz_br ?_ ?_ | with_reducible refine Kz_bnd ?_ (fun _ _ _ => ?_) | with_reducible refine Kz_ck ?_ | with_reducible refine Kz_ltm ?_ (fun _ _ => ?_) | with_reducible refine Kz_some ?_ | with_reducible refine Kz_bo (fun _ => ?_) | with_reducible refine Kz_T ?_ (fun _ _ _ => ?_) | with_reducible refine Kz_H ?_ (fun _ _ _ => ?_) (fun _ _ => ?_) | with_reducible exact yz_hb_Cm_funOf_48 (by assumption) | with_reducible exact yz_hm_Cm_fault (by assumption) | with_reducible exact yz_hm_Co_seek (by assumption) | with_reducible refine Kz_ltv (fun _ => ?_) | with_reducible refine Kz_I ?_ (by decide) | with_reducible refine Kz_A ?_ (by decide) | with_reducible refine Kz_J ?_ | with_reducible refine Kz_L ?_)
theorem yz_hm_Cm_funOf {v1 : Int32} (h : Kzc u0 u)  : KzE u0 (hm_Cm_funOf N u v1) := by
  unfold hm_Cm_funOf
  exact yz_hb_Cm_funOf_0 h
theorem yz_hb_Cm_fun_308 {S : SF_Cm_fun} {G : Unit} {t1 : Int32} (h : Kzc u0 u) (hS0 : ∀ (u : MS) a0, Kzc u0 u → KzE u0 (S.1 u a0)) (hS1 : ∀ (u : MS) a0 a1, Kzc u0 u → KzE u0 (S.2.1 u a0 a1)) (hS2 : ∀ (u : MS) a0 a1 a2 a3, Kzc u0 u → KzE u0 (S.2.2.1 u a0 a1 a2 a3)) (hS3 : ∀ (u : MS) a0 a1, Kzc u0 u → KzE u0 (S.2.2.2.1 u a0 a1)) (hS4 : ∀ (u : MS) a0 a1, Kzc u0 u → KzE u0 (S.2.2.2.2.1 u a0 a1)) (hS5 : ∀ (u : MS) a0 a1, Kzc u0 u → KzE u0 (S.2.2.2.2.2.1 u a0 a1)) (hS6 : ∀ (u : MS) a0 a1, Kzc u0 u → KzE u0 (S.2.2.2.2.2.2.1 u a0 a1)) (hS7 : ∀ (u : MS) a0, Kzc u0 u → KzE u0 (S.2.2.2.2.2.2.2.1 u a0)) (hS8 : ∀ (u : MS) a0, Kzc u0 u → KzE u0 (S.2.2.2.2.2.2.2.2.1 u a0)) (hS9 : ∀ (u : MS) a0, Kzc u0 u → KzE u0 (S.2.2.2.2.2.2.2.2.2.1 u a0)) (hS10 : ∀ (u : MS) a0 a1, Kzc u0 u → KzE u0 (S.2.2.2.2.2.2.2.2.2.2.1 u a0 a1)) (hS11 : ∀ (u : MS) a0 a1, Kzc u0 u → KzE u0 (S.2.2.2.2.2.2.2.2.2.2.2.1 u a0 a1)) (hS12 : ∀ (u : MS) a0 a1 a2, Kzc u0 u → KzE u0 (S.2.2.2.2.2.2.2.2.2.2.2.2 u a0 a1 a2)) : KzE u0 (hb_Cm_fun_308 N S G u t1) := by
  unfold hb_Cm_fun_308
  repeat' (first | with_reducible assumption | with_reducible refine Kz_br ?_ ?_ | with_reducible refine Kz_bnd ?_ (fun _ _ _ => ?_) | with_reducible refine Kz_ck ?_ | with_reducible refine Kz_ltm ?_ (fun _ _ => ?_) | with_reducible refine Kz_some ?_ | with_reducible refine Kz_bo (fun _ => ?_) | with_reducible refine Kz_T ?_ (fun _ _ _ => ?_) | with_reducible refine Kz_H ?_ (fun _ _ _ => ?_) (fun _ _ => ?_) | with_reducible exact hS0 _ _ (by assumption) | with_reducible exact hS1 _ _ _ (by assumption) | with_reducible exact hS2 _ _ _ _ _ (by assumption) | with_reducible exact hS3 _ _ _ (by assumption) | with_reducible exact hS4 _ _ _ (by assumption) | with_reducible exact hS5 _ _ _ (by assumption) | with_reducible exact hS6 _ _ _ (by assumption) | with_reducible exact hS7 _ _ (by assumption) | with_reducible exact hS8 _ _ (by assumption) | with_reducible exact hS9 _ _ (by assumption) | with_reducible exact hS10 _ _ _ (by assumption) | with_reducible exact hS11 _ _ _ (by assumption) | with_reducible exact hS12 _ _ _ _ (by assumption) | with_reducible refine Kz_ltv (fun _ => ?_) | with_reducible refine Kz_I ?_ (by decide) | with_reducible refine Kz_A ?_ (by decide) | with_reducible refine Kz_J ?_ | with_reducible refine Kz_L ?_)
theorem yz_hb_Cm_fun_303 {S : SF_Cm_fun} {G : Unit} (h : Kzc u0 u) (hS0 : ∀ (u : MS) a0, Kzc u0 u → KzE u0 (S.1 u a0)) (hS1 : ∀ (u : MS) a0 a1, Kzc u0 u → KzE u0 (S.2.1 u a0 a1)) (hS2 : ∀ (u : MS) a0 a1 a2 a3, Kzc u0 u → KzE u0 (S.2.2.1 u a0 a1 a2 a3)) (hS3 : ∀ (u : MS) a0 a1, Kzc u0 u → KzE u0 (S.2.2.2.1 u a0 a1)) (hS4 : ∀ (u : MS) a0 a1, Kzc u0 u → KzE u0 (S.2.2.2.2.1 u a0 a1)) (hS5 : ∀ (u : MS) a0 a1, Kzc u0 u → KzE u0 (S.2.2.2.2.2.1 u a0 a1)) (hS6 : ∀ (u : MS) a0 a1, Kzc u0 u → KzE u0 (S.2.2.2.2.2.2.1 u a0 a1)) (hS7 : ∀ (u : MS) a0, Kzc u0 u → KzE u0 (S.2.2.2.2.2.2.2.1 u a0)) (hS8 : ∀ (u : MS) a0, Kzc u0 u → KzE u0 (S.2.2.2.2.2.2.2.2.1 u a0)) (hS9 : ∀ (u : MS) a0, Kzc u0 u → KzE u0 (S.2.2.2.2.2.2.2.2.2.1 u a0)) (hS10 : ∀ (u : MS) a0 a1, Kzc u0 u → KzE u0 (S.2.2.2.2.2.2.2.2.2.2.1 u a0 a1)) (hS11 : ∀ (u : MS) a0 a1, Kzc u0 u → KzE u0 (S.2.2.2.2.2.2.2.2.2.2.2.1 u a0 a1)) (hS12 : ∀ (u : MS) a0 a1 a2, Kzc u0 u → KzE u0 (S.2.2.2.2.2.2.2.2.2.2.2.2 u a0 a1 a2)) : KzE u0 (hb_Cm_fun_303 N S G u) := by
  unfold hb_Cm_fun_303
  repeat' (first | with_reducible assumption | with_reducible refine Kz_br ?_ ?_ | with_reducible refine Kz_bnd ?_ (fun _ _ _ => ?_) | with_reducible refine Kz_ck ?_ | with_reducible refine Kz_ltm ?_ (fun _ _ => ?_) | with_reducible refine Kz_some ?_ | with_reducible refine Kz_bo (fun _ => ?_) | with_reducible refine Kz_T ?_ (fun _ _ _ => ?_) | with_reducible refine Kz_H ?_ (fun _ _ _ => ?_) (fun _ _ => ?_) | with_reducible exact yz_hb_Cm_fun_308 (by assumption) hS0 hS1 hS2 hS3 hS4 hS5 hS6 hS7 hS8 hS9 hS10 hS11 hS12 | with_reducible exact hS0 _ _ (by assumption) | with_reducible exact hS1 _ _ _ (by assumption) | with_reducible exact hS2 _ _ _ _ _ (by assumption) | with_reducible exact hS3 _ _ _ (by assumption) | with_reducible exact hS4 _ _ _ (by assumption) | with_reducible exact hS5 _ _ _ (by assumption) | with_reducible exact hS6 _ _ _ (by assumption) | with_reducible exact hS7 _ _ (by assumption) | with_reducible exact hS8 _ _ (by assumption) | with_reducible exact hS9 _ _ (by assumption) | with_reducible exact hS10 _ _ _ (by assumption) | with_reducible exact hS11 _ _ _ (by assumption) | with_reducible exact hS12 _ _ _ _ (by assumption) | with_reducible refine Kz_ltv (fun _ => ?_) | with_reducible refine Kz_I ?_ (by decide) | with_reducible refine Kz_A ?_ (by decide) | with_reducible refine Kz_J ?_ | with_reducible refine Kz_L ?_)
theorem yz_hb_Cm_fun_0 {S : SF_Cm_fun} {G : Unit} {v1 : Int32} (h : Kzc u0 u) (hS0 : ∀ (u : MS) a0, Kzc u0 u → KzE u0 (S.1 u a0)) (hS1 : ∀ (u : MS) a0 a1, Kzc u0 u → KzE u0 (S.2.1 u a0 a1)) (hS2 : ∀ (u : MS) a0 a1 a2 a3, Kzc u0 u → KzE u0 (S.2.2.1 u a0 a1 a2 a3)) (hS3 : ∀ (u : MS) a0 a1, Kzc u0 u → KzE u0 (S.2.2.2.1 u a0 a1)) (hS4 : ∀ (u : MS) a0 a1, Kzc u0 u → KzE u0 (S.2.2.2.2.1 u a0 a1)) (hS5 : ∀ (u : MS) a0 a1, Kzc u0 u → KzE u0 (S.2.2.2.2.2.1 u a0 a1)) (hS6 : ∀ (u : MS) a0 a1, Kzc u0 u → KzE u0 (S.2.2.2.2.2.2.1 u a0 a1)) (hS7 : ∀ (u : MS) a0, Kzc u0 u → KzE u0 (S.2.2.2.2.2.2.2.1 u a0)) (hS8 : ∀ (u : MS) a0, Kzc u0 u → KzE u0 (S.2.2.2.2.2.2.2.2.1 u a0)) (hS9 : ∀ (u : MS) a0, Kzc u0 u → KzE u0 (S.2.2.2.2.2.2.2.2.2.1 u a0)) (hS10 : ∀ (u : MS) a0 a1, Kzc u0 u → KzE u0 (S.2.2.2.2.2.2.2.2.2.2.1 u a0 a1)) (hS11 : ∀ (u : MS) a0 a1, Kzc u0 u → KzE u0 (S.2.2.2.2.2.2.2.2.2.2.2.1 u a0 a1)) (hS12 : ∀ (u : MS) a0 a1 a2, Kzc u0 u → KzE u0 (S.2.2.2.2.2.2.2.2.2.2.2.2 u a0 a1 a2)) : KzE u0 (hb_Cm_fun_0 N S G u v1) := by
  unfold hb_Cm_fun_0
  repeat' (first | with_reducible assumption | with_reducible refine Kz_br ?_ ?_ | with_reducible refine Kz_bnd ?_ (fun _ _ _ => ?_) | with_reducible refine Kz_ck ?_ | with_reducible refine Kz_ltm ?_ (fun _ _ => ?_) | with_reducible refine Kz_some ?_ | with_reducible refine Kz_bo (fun _ => ?_) | with_reducible refine Kz_T ?_ (fun _ _ _ => ?_) | with_reducible refine Kz_H ?_ (fun _ _ _ => ?_) (fun _ _ => ?_) | with_reducible exact yz_hb_Cm_fun_303 (by assumption) hS0 hS1 hS2 hS3 hS4 hS5 hS6 hS7 hS8 hS9 hS10 hS11 hS12 | with_reducible exact yz_hb_Cm_fun_308 (by assumption) hS0 hS1 hS2 hS3 hS4 hS5 hS6 hS7 hS8 hS9 hS10 hS11 hS12 | with_reducible exact yz_hm_Co_arrive (by assumption) | with_reducible exact yz_hm_Tr_length (by assumption) | with_reducible exact yz_hm_Cm_hold (by assumption) | with_reducible exact yz_hm_Co_hook (by assumption) | with_reducible exact yz_hm_Co_put (by assumption) | with_reducible exact yz_hm_Co_set (by assumption) | with_reducible exact hS0 _ _ (by assumption) | with_reducible exact hS1 _ _ _ (by assumption) | with_reducible exact hS2 _ _ _ _ _ (by assumption) | with_reducible exact hS3 _ _ _ (by assumption) | with_reducible exact hS4 _ _ _ (by assumption) | with_reducible exact hS5 _ _ _ (by assumption) | with_reducible exact hS6 _ _ _ (by assumption) | with_reducible exact hS7 _ _ (by assumption) | with_reducible exact hS8 _ _ (by assumption) | with_reducible exact hS9 _ _ (by assumption) | with_reducible exact hS10 _ _ _ (by assumption) | with_reducible exact hS11 _ _ _ (by assumption) | with_reducible exact hS12 _ _ _ _ (by assumption) | with_reducible refine Kz_ltv (fun _ => ?_) | with_reducible refine Kz_I ?_ (by decide) | with_reducible refine Kz_A ?_ (by decide) | with_reducible refine Kz_J ?_ | with_reducible refine Kz_L ?_)
theorem yz_hm_Cm_fun {S : SF_Cm_fun} {v1 : Int32} (h : Kzc u0 u) (hS0 : ∀ (u : MS) a0, Kzc u0 u → KzE u0 (S.1 u a0)) (hS1 : ∀ (u : MS) a0 a1, Kzc u0 u → KzE u0 (S.2.1 u a0 a1)) (hS2 : ∀ (u : MS) a0 a1 a2 a3, Kzc u0 u → KzE u0 (S.2.2.1 u a0 a1 a2 a3)) (hS3 : ∀ (u : MS) a0 a1, Kzc u0 u → KzE u0 (S.2.2.2.1 u a0 a1)) (hS4 : ∀ (u : MS) a0 a1, Kzc u0 u → KzE u0 (S.2.2.2.2.1 u a0 a1)) (hS5 : ∀ (u : MS) a0 a1, Kzc u0 u → KzE u0 (S.2.2.2.2.2.1 u a0 a1)) (hS6 : ∀ (u : MS) a0 a1, Kzc u0 u → KzE u0 (S.2.2.2.2.2.2.1 u a0 a1)) (hS7 : ∀ (u : MS) a0, Kzc u0 u → KzE u0 (S.2.2.2.2.2.2.2.1 u a0)) (hS8 : ∀ (u : MS) a0, Kzc u0 u → KzE u0 (S.2.2.2.2.2.2.2.2.1 u a0)) (hS9 : ∀ (u : MS) a0, Kzc u0 u → KzE u0 (S.2.2.2.2.2.2.2.2.2.1 u a0)) (hS10 : ∀ (u : MS) a0 a1, Kzc u0 u → KzE u0 (S.2.2.2.2.2.2.2.2.2.2.1 u a0 a1)) (hS11 : ∀ (u : MS) a0 a1, Kzc u0 u → KzE u0 (S.2.2.2.2.2.2.2.2.2.2.2.1 u a0 a1)) (hS12 : ∀ (u : MS) a0 a1 a2, Kzc u0 u → KzE u0 (S.2.2.2.2.2.2.2.2.2.2.2.2 u a0 a1 a2)) : KzE u0 (hm_Cm_fun N S u v1) := by
  unfold hm_Cm_fun
  exact yz_hb_Cm_fun_0 h hS0 hS1 hS2 hS3 hS4 hS5 hS6 hS7 hS8 hS9 hS10 hS11 hS12
theorem yz_hb_Cm_receive_173 {S : SF_Cm_fun} {G : Unit} {v7 : Int32} (h : Kzc u0 u) (hS0 : ∀ (u : MS) a0, Kzc u0 u → KzE u0 (S.1 u a0)) (hS1 : ∀ (u : MS) a0 a1, Kzc u0 u → KzE u0 (S.2.1 u a0 a1)) (hS2 : ∀ (u : MS) a0 a1 a2 a3, Kzc u0 u → KzE u0 (S.2.2.1 u a0 a1 a2 a3)) (hS3 : ∀ (u : MS) a0 a1, Kzc u0 u → KzE u0 (S.2.2.2.1 u a0 a1)) (hS4 : ∀ (u : MS) a0 a1, Kzc u0 u → KzE u0 (S.2.2.2.2.1 u a0 a1)) (hS5 : ∀ (u : MS) a0 a1, Kzc u0 u → KzE u0 (S.2.2.2.2.2.1 u a0 a1)) (hS6 : ∀ (u : MS) a0 a1, Kzc u0 u → KzE u0 (S.2.2.2.2.2.2.1 u a0 a1)) (hS7 : ∀ (u : MS) a0, Kzc u0 u → KzE u0 (S.2.2.2.2.2.2.2.1 u a0)) (hS8 : ∀ (u : MS) a0, Kzc u0 u → KzE u0 (S.2.2.2.2.2.2.2.2.1 u a0)) (hS9 : ∀ (u : MS) a0, Kzc u0 u → KzE u0 (S.2.2.2.2.2.2.2.2.2.1 u a0)) (hS10 : ∀ (u : MS) a0 a1, Kzc u0 u → KzE u0 (S.2.2.2.2.2.2.2.2.2.2.1 u a0 a1)) (hS11 : ∀ (u : MS) a0 a1, Kzc u0 u → KzE u0 (S.2.2.2.2.2.2.2.2.2.2.2.1 u a0 a1)) (hS12 : ∀ (u : MS) a0 a1 a2, Kzc u0 u → KzE u0 (S.2.2.2.2.2.2.2.2.2.2.2.2 u a0 a1 a2)) : KzE u0 (hb_Cm_receive_173 N S G u v7) := by
  unfold hb_Cm_receive_173
  repeat' (first | with_reducible assumption | with_reducible refine Kz_br ?_ ?_ | with_reducible refine Kz_bnd ?_ (fun _ _ _ => ?_) | with_reducible refine Kz_ck ?_ | with_reducible refine Kz_ltm ?_ (fun _ _ => ?_) | with_reducible refine Kz_some ?_ | with_reducible refine Kz_bo (fun _ => ?_) | with_reducible refine Kz_T ?_ (fun _ _ _ => ?_) | with_reducible refine Kz_H ?_ (fun _ _ _ => ?_) (fun _ _ => ?_) | with_reducible exact yz_hm_Co_arrive (by assumption) | with_reducible exact hS0 _ _ (by assumption) | with_reducible exact hS1 _ _ _ (by assumption) | with_reducible exact hS2 _ _ _ _ _ (by assumption) | with_reducible exact hS3 _ _ _ (by assumption) | with_reducible exact hS4 _ _ _ (by assumption) | with_reducible exact hS5 _ _ _ (by assumption) | with_reducible exact hS6 _ _ _ (by assumption) | with_reducible exact hS7 _ _ (by assumption) | with_reducible exact hS8 _ _ (by assumption) | with_reducible exact hS9 _ _ (by assumption) | with_reducible exact hS10 _ _ _ (by assumption) | with_reducible exact hS11 _ _ _ (by assumption) | with_reducible exact hS12 _ _ _ _ (by assumption) | with_reducible refine Kz_ltv (fun _ => ?_) | with_reducible refine Kz_I ?_ (by decide) | with_reducible refine Kz_A ?_ (by decide) | with_reducible refine Kz_J ?_ | with_reducible refine Kz_L ?_)
theorem yz_hb_Cm_receive_71 {S : SF_Cm_fun} {G : Unit} {v1 : Int32} {v2 : Int32} {v3 : Int32} {v4 : Int32} {t1 : Int32} (h : Kzc u0 u) (hS0 : ∀ (u : MS) a0, Kzc u0 u → KzE u0 (S.1 u a0)) (hS1 : ∀ (u : MS) a0 a1, Kzc u0 u → KzE u0 (S.2.1 u a0 a1)) (hS2 : ∀ (u : MS) a0 a1 a2 a3, Kzc u0 u → KzE u0 (S.2.2.1 u a0 a1 a2 a3)) (hS3 : ∀ (u : MS) a0 a1, Kzc u0 u → KzE u0 (S.2.2.2.1 u a0 a1)) (hS4 : ∀ (u : MS) a0 a1, Kzc u0 u → KzE u0 (S.2.2.2.2.1 u a0 a1)) (hS5 : ∀ (u : MS) a0 a1, Kzc u0 u → KzE u0 (S.2.2.2.2.2.1 u a0 a1)) (hS6 : ∀ (u : MS) a0 a1, Kzc u0 u → KzE u0 (S.2.2.2.2.2.2.1 u a0 a1)) (hS7 : ∀ (u : MS) a0, Kzc u0 u → KzE u0 (S.2.2.2.2.2.2.2.1 u a0)) (hS8 : ∀ (u : MS) a0, Kzc u0 u → KzE u0 (S.2.2.2.2.2.2.2.2.1 u a0)) (hS9 : ∀ (u : MS) a0, Kzc u0 u → KzE u0 (S.2.2.2.2.2.2.2.2.2.1 u a0)) (hS10 : ∀ (u : MS) a0 a1, Kzc u0 u → KzE u0 (S.2.2.2.2.2.2.2.2.2.2.1 u a0 a1)) (hS11 : ∀ (u : MS) a0 a1, Kzc u0 u → KzE u0 (S.2.2.2.2.2.2.2.2.2.2.2.1 u a0 a1)) (hS12 : ∀ (u : MS) a0 a1 a2, Kzc u0 u → KzE u0 (S.2.2.2.2.2.2.2.2.2.2.2.2 u a0 a1 a2)) : KzE u0 (hb_Cm_receive_71 N S G u v1 v2 v3 v4 t1) := by
  unfold hb_Cm_receive_71
  repeat' (first | with_reducible assumption | with_reducible refine Kz_br ?_ ?_ | with_reducible refine Kz_bnd ?_ (fun _ _ _ => ?_) | with_reducible refine Kz_ck ?_ | with_reducible refine Kz_ltm ?_ (fun _ _ => ?_) | with_reducible refine Kz_some ?_ | with_reducible refine Kz_bo (fun _ => ?_) | with_reducible refine Kz_T ?_ (fun _ _ _ => ?_) | with_reducible refine Kz_H ?_ (fun _ _ _ => ?_) (fun _ _ => ?_) | with_reducible exact yz_hb_Cm_receive_173 (by assumption) hS0 hS1 hS2 hS3 hS4 hS5 hS6 hS7 hS8 hS9 hS10 hS11 hS12 | with_reducible exact yz_hm_Cm_forget (by assumption) | with_reducible exact yz_hm_Co_arrive (by assumption) | with_reducible exact yz_hm_Co_hook (by assumption) | with_reducible exact yz_hm_Co_put (by assumption) | with_reducible exact hS0 _ _ (by assumption) | with_reducible exact hS1 _ _ _ (by assumption) | with_reducible exact hS2 _ _ _ _ _ (by assumption) | with_reducible exact hS3 _ _ _ (by assumption) | with_reducible exact hS4 _ _ _ (by assumption) | with_reducible exact hS5 _ _ _ (by assumption) | with_reducible exact hS6 _ _ _ (by assumption) | with_reducible exact hS7 _ _ (by assumption) | with_reducible exact hS8 _ _ (by assumption) | with_reducible exact hS9 _ _ (by assumption) | with_reducible exact hS10 _ _ _ (by assumption) | with_reducible exact hS11 _ _ _ (by assumption) | with_reducible exact hS12 _ _ _ _ (by assumption) | with_reducible refine Kz_ltv (fun _ => ?_) | with_reducible refine Kz_I ?_ (by decide) | with_reducible refine Kz_A ?_ (by decide) | with_reducible refine Kz_J ?_ | with_reducible refine Kz_L ?_)
theorem yz_hb_Cm_receive_48 {S : SF_Cm_fun} {G : Unit} {v1 : Int32} {v2 : Int32} {v3 : Int32} {v4 : Int32} (h : Kzc u0 u) (hS0 : ∀ (u : MS) a0, Kzc u0 u → KzE u0 (S.1 u a0)) (hS1 : ∀ (u : MS) a0 a1, Kzc u0 u → KzE u0 (S.2.1 u a0 a1)) (hS2 : ∀ (u : MS) a0 a1 a2 a3, Kzc u0 u → KzE u0 (S.2.2.1 u a0 a1 a2 a3)) (hS3 : ∀ (u : MS) a0 a1, Kzc u0 u → KzE u0 (S.2.2.2.1 u a0 a1)) (hS4 : ∀ (u : MS) a0 a1, Kzc u0 u → KzE u0 (S.2.2.2.2.1 u a0 a1)) (hS5 : ∀ (u : MS) a0 a1, Kzc u0 u → KzE u0 (S.2.2.2.2.2.1 u a0 a1)) (hS6 : ∀ (u : MS) a0 a1, Kzc u0 u → KzE u0 (S.2.2.2.2.2.2.1 u a0 a1)) (hS7 : ∀ (u : MS) a0, Kzc u0 u → KzE u0 (S.2.2.2.2.2.2.2.1 u a0)) (hS8 : ∀ (u : MS) a0, Kzc u0 u → KzE u0 (S.2.2.2.2.2.2.2.2.1 u a0)) (hS9 : ∀ (u : MS) a0, Kzc u0 u → KzE u0 (S.2.2.2.2.2.2.2.2.2.1 u a0)) (hS10 : ∀ (u : MS) a0 a1, Kzc u0 u → KzE u0 (S.2.2.2.2.2.2.2.2.2.2.1 u a0 a1)) (hS11 : ∀ (u : MS) a0 a1, Kzc u0 u → KzE u0 (S.2.2.2.2.2.2.2.2.2.2.2.1 u a0 a1)) (hS12 : ∀ (u : MS) a0 a1 a2, Kzc u0 u → KzE u0 (S.2.2.2.2.2.2.2.2.2.2.2.2 u a0 a1 a2)) : KzE u0 (hb_Cm_receive_48 N S G u v1 v2 v3 v4) := by
  unfold hb_Cm_receive_48
  repeat' (first | with_reducible assumption | with_reducible refine Kz_br ?_ ?_ | with_reducible refine Kz_bnd ?_ (fun _ _ _ => ?_) | with_reducible refine Kz_ck ?_ | with_reducible refine Kz_ltm ?_ (fun _ _ => ?_) | with_reducible refine Kz_some ?_ | with_reducible refine Kz_bo (fun _ => ?_) | with_reducible refine Kz_T ?_ (fun _ _ _ => ?_) | with_reducible refine Kz_H ?_ (fun _ _ _ => ?_) (fun _ _ => ?_) | with_reducible exact yz_hb_Cm_receive_71 (by assumption) hS0 hS1 hS2 hS3 hS4 hS5 hS6 hS7 hS8 hS9 hS10 hS11 hS12 | with_reducible exact yz_hm_Co_put (by assumption) | with_reducible exact hS0 _ _ (by assumption) | with_reducible exact hS1 _ _ _ (by assumption) | with_reducible exact hS2 _ _ _ _ _ (by assumption) | with_reducible exact hS3 _ _ _ (by assumption) | with_reducible exact hS4 _ _ _ (by assumption) | with_reducible exact hS5 _ _ _ (by assumption) | with_reducible exact hS6 _ _ _ (by assumption) | with_reducible exact hS7 _ _ (by assumption) | with_reducible exact hS8 _ _ (by assumption) | with_reducible exact hS9 _ _ (by assumption) | with_reducible exact hS10 _ _ _ (by assumption) | with_reducible exact hS11 _ _ _ (by assumption) | with_reducible exact hS12 _ _ _ _ (by assumption) | with_reducible refine Kz_ltv (fun _ => ?_) | with_reducible refine Kz_I ?_ (by decide) | with_reducible refine Kz_A ?_ (by decide) | with_reducible refine Kz_J ?_ | with_reducible refine Kz_L ?_)
theorem yz_hb_Cm_receive_22 {S : SF_Cm_fun} {G : Unit} {v1 : Int32} {v2 : Int32} {v3 : Int32} {t0 : Int32} (h : Kzc u0 u) (hS0 : ∀ (u : MS) a0, Kzc u0 u → KzE u0 (S.1 u a0)) (hS1 : ∀ (u : MS) a0 a1, Kzc u0 u → KzE u0 (S.2.1 u a0 a1)) (hS2 : ∀ (u : MS) a0 a1 a2 a3, Kzc u0 u → KzE u0 (S.2.2.1 u a0 a1 a2 a3)) (hS3 : ∀ (u : MS) a0 a1, Kzc u0 u → KzE u0 (S.2.2.2.1 u a0 a1)) (hS4 : ∀ (u : MS) a0 a1, Kzc u0 u → KzE u0 (S.2.2.2.2.1 u a0 a1)) (hS5 : ∀ (u : MS) a0 a1, Kzc u0 u → KzE u0 (S.2.2.2.2.2.1 u a0 a1)) (hS6 : ∀ (u : MS) a0 a1, Kzc u0 u → KzE u0 (S.2.2.2.2.2.2.1 u a0 a1)) (hS7 : ∀ (u : MS) a0, Kzc u0 u → KzE u0 (S.2.2.2.2.2.2.2.1 u a0)) (hS8 : ∀ (u : MS) a0, Kzc u0 u → KzE u0 (S.2.2.2.2.2.2.2.2.1 u a0)) (hS9 : ∀ (u : MS) a0, Kzc u0 u → KzE u0 (S.2.2.2.2.2.2.2.2.2.1 u a0)) (hS10 : ∀ (u : MS) a0 a1, Kzc u0 u → KzE u0 (S.2.2.2.2.2.2.2.2.2.2.1 u a0 a1)) (hS11 : ∀ (u : MS) a0 a1, Kzc u0 u → KzE u0 (S.2.2.2.2.2.2.2.2.2.2.2.1 u a0 a1)) (hS12 : ∀ (u : MS) a0 a1 a2, Kzc u0 u → KzE u0 (S.2.2.2.2.2.2.2.2.2.2.2.2 u a0 a1 a2)) : KzE u0 (hb_Cm_receive_22 N S G u v1 v2 v3 t0) := by
  unfold hb_Cm_receive_22
  repeat' (first | with_reducible assumption | with_reducible refine Kz_br ?_ ?_ | with_reducible refine Kz_bnd ?_ (fun _ _ _ => ?_) | with_reducible refine Kz_ck ?_ | with_reducible refine Kz_ltm ?_ (fun _ _ => ?_) | with_reducible refine Kz_some ?_ | with_reducible refine Kz_bo (fun _ => ?_) | with_reducible refine Kz_T ?_ (fun _ _ _ => ?_) | with_reducible refine Kz_H ?_ (fun _ _ _ => ?_) (fun _ _ => ?_) | with_reducible exact yz_hb_Cm_receive_48 (by assumption) hS0 hS1 hS2 hS3 hS4 hS5 hS6 hS7 hS8 hS9 hS10 hS11 hS12 | with_reducible exact yz_hm_Cm_forget (by assumption) | with_reducible exact hS0 _ _ (by assumption) | with_reducible exact hS1 _ _ _ (by assumption) | with_reducible exact hS2 _ _ _ _ _ (by assumption) | with_reducible exact hS3 _ _ _ (by assumption) | with_reducible exact hS4 _ _ _ (by assumption) | with_reducible exact hS5 _ _ _ (by assumption) | with_reducible exact hS6 _ _ _ (by assumption) | with_reducible exact hS7 _ _ (by assumption) | with_reducible exact hS8 _ _ (by assumption) | with_reducible exact hS9 _ _ (by assumption) | with_reducible exact hS10 _ _ _ (by assumption) | with_reducible exact hS11 _ _ _ (by assumption) | with_reducible exact hS12 _ _ _ _ (by assumption) | with_reducible refine Kz_ltv (fun _ => ?_) | with_reducible refine Kz_I ?_ (by decide) | with_reducible refine Kz_A ?_ (by decide) | with_reducible refine Kz_J ?_ | with_reducible refine Kz_L ?_)
theorem yz_hb_Cm_receive_0 {S : SF_Cm_fun} {G : Unit} {v1 : Int32} {v2 : Int32} (h : Kzc u0 u) (hS0 : ∀ (u : MS) a0, Kzc u0 u → KzE u0 (S.1 u a0)) (hS1 : ∀ (u : MS) a0 a1, Kzc u0 u → KzE u0 (S.2.1 u a0 a1)) (hS2 : ∀ (u : MS) a0 a1 a2 a3, Kzc u0 u → KzE u0 (S.2.2.1 u a0 a1 a2 a3)) (hS3 : ∀ (u : MS) a0 a1, Kzc u0 u → KzE u0 (S.2.2.2.1 u a0 a1)) (hS4 : ∀ (u : MS) a0 a1, Kzc u0 u → KzE u0 (S.2.2.2.2.1 u a0 a1)) (hS5 : ∀ (u : MS) a0 a1, Kzc u0 u → KzE u0 (S.2.2.2.2.2.1 u a0 a1)) (hS6 : ∀ (u : MS) a0 a1, Kzc u0 u → KzE u0 (S.2.2.2.2.2.2.1 u a0 a1)) (hS7 : ∀ (u : MS) a0, Kzc u0 u → KzE u0 (S.2.2.2.2.2.2.2.1 u a0)) (hS8 : ∀ (u : MS) a0, Kzc u0 u → KzE u0 (S.2.2.2.2.2.2.2.2.1 u a0)) (hS9 : ∀ (u : MS) a0, Kzc u0 u → KzE u0 (S.2.2.2.2.2.2.2.2.2.1 u a0)) (hS10 : ∀ (u : MS) a0 a1, Kzc u0 u → KzE u0 (S.2.2.2.2.2.2.2.2.2.2.1 u a0 a1)) (hS11 : ∀ (u : MS) a0 a1, Kzc u0 u → KzE u0 (S.2.2.2.2.2.2.2.2.2.2.2.1 u a0 a1)) (hS12 : ∀ (u : MS) a0 a1 a2, Kzc u0 u → KzE u0 (S.2.2.2.2.2.2.2.2.2.2.2.2 u a0 a1 a2)) : KzE u0 (hb_Cm_receive_0 N S G u v1 v2) := by
  unfold hb_Cm_receive_0
  repeat' (first | with_reducible assumption | with_reducible refine Kz_br ?_ ?_ | with_reducible refine Kz_bnd ?_ (fun _ _ _ => ?_) | with_reducible refine Kz_ck ?_ | with_reducible refine Kz_ltm ?_ (fun _ _ => ?_) | with_reducible refine Kz_some ?_ | with_reducible refine Kz_bo (fun _ => ?_) | with_reducible refine Kz_T ?_ (fun _ _ _ => ?_) | with_reducible refine Kz_H ?_ (fun _ _ _ => ?_) (fun _ _ => ?_) | with_reducible exact yz_hb_Cm_receive_22 (by assumption) hS0 hS1 hS2 hS3 hS4 hS5 hS6 hS7 hS8 hS9 hS10 hS11 hS12 | with_reducible exact hS0 _ _ (by assumption) | with_reducible exact hS1 _ _ _ (by assumption) | with_reducible exact hS2 _ _ _ _ _ (by assumption) | with_reducible exact hS3 _ _ _ (by assumption) | with_reducible exact hS4 _ _ _ (by assumption) | with_reducible exact hS5 _ _ _ (by assumption) | with_reducible exact hS6 _ _ _ (by assumption) | with_reducible exact hS7 _ _ (by assumption) | with_reducible exact hS8 _ _ (by assumption) | with_reducible exact hS9 _ _ (by assumption) | with_reducible exact hS10 _ _ _ (by assumption) | with_reducible exact hS11 _ _ _ (by assumption) | with_reducible exact hS12 _ _ _ _ (by assumption) | with_reducible refine Kz_ltv (fun _ => ?_) | with_reducible refine Kz_I ?_ (by decide) | with_reducible refine Kz_A ?_ (by decide) | with_reducible refine Kz_J ?_ | with_reducible refine Kz_L ?_)
theorem yz_hm_Cm_receive {S : SF_Cm_fun} {v1 : Int32} {v2 : Int32} (h : Kzc u0 u) (hS0 : ∀ (u : MS) a0, Kzc u0 u → KzE u0 (S.1 u a0)) (hS1 : ∀ (u : MS) a0 a1, Kzc u0 u → KzE u0 (S.2.1 u a0 a1)) (hS2 : ∀ (u : MS) a0 a1 a2 a3, Kzc u0 u → KzE u0 (S.2.2.1 u a0 a1 a2 a3)) (hS3 : ∀ (u : MS) a0 a1, Kzc u0 u → KzE u0 (S.2.2.2.1 u a0 a1)) (hS4 : ∀ (u : MS) a0 a1, Kzc u0 u → KzE u0 (S.2.2.2.2.1 u a0 a1)) (hS5 : ∀ (u : MS) a0 a1, Kzc u0 u → KzE u0 (S.2.2.2.2.2.1 u a0 a1)) (hS6 : ∀ (u : MS) a0 a1, Kzc u0 u → KzE u0 (S.2.2.2.2.2.2.1 u a0 a1)) (hS7 : ∀ (u : MS) a0, Kzc u0 u → KzE u0 (S.2.2.2.2.2.2.2.1 u a0)) (hS8 : ∀ (u : MS) a0, Kzc u0 u → KzE u0 (S.2.2.2.2.2.2.2.2.1 u a0)) (hS9 : ∀ (u : MS) a0, Kzc u0 u → KzE u0 (S.2.2.2.2.2.2.2.2.2.1 u a0)) (hS10 : ∀ (u : MS) a0 a1, Kzc u0 u → KzE u0 (S.2.2.2.2.2.2.2.2.2.2.1 u a0 a1)) (hS11 : ∀ (u : MS) a0 a1, Kzc u0 u → KzE u0 (S.2.2.2.2.2.2.2.2.2.2.2.1 u a0 a1)) (hS12 : ∀ (u : MS) a0 a1 a2, Kzc u0 u → KzE u0 (S.2.2.2.2.2.2.2.2.2.2.2.2 u a0 a1 a2)) : KzE u0 (hm_Cm_receive N S u v1 v2) := by
  unfold hm_Cm_receive
  exact yz_hb_Cm_receive_0 h hS0 hS1 hS2 hS3 hS4 hS5 hS6 hS7 hS8 hS9 hS10 hS11 hS12
theorem yz_hb_Cm_parts_38 {S : SF_Cm_fun} {G : (MS → Int32 → Int32 → Int32 → Int32 → Int32 → Option (MS × Int32))} {v2 : Int32} {v3 : Int32} {v4 : Int32} {v5 : Int32} {v6 : Int32} {v7 : Int32} {v8 : Int32} (h : Kzc u0 u) (hS0 : ∀ (u : MS) a0, Kzc u0 u → KzE u0 (S.1 u a0)) (hS1 : ∀ (u : MS) a0 a1, Kzc u0 u → KzE u0 (S.2.1 u a0 a1)) (hS2 : ∀ (u : MS) a0 a1 a2 a3, Kzc u0 u → KzE u0 (S.2.2.1 u a0 a1 a2 a3)) (hS3 : ∀ (u : MS) a0 a1, Kzc u0 u → KzE u0 (S.2.2.2.1 u a0 a1)) (hS4 : ∀ (u : MS) a0 a1, Kzc u0 u → KzE u0 (S.2.2.2.2.1 u a0 a1)) (hS5 : ∀ (u : MS) a0 a1, Kzc u0 u → KzE u0 (S.2.2.2.2.2.1 u a0 a1)) (hS6 : ∀ (u : MS) a0 a1, Kzc u0 u → KzE u0 (S.2.2.2.2.2.2.1 u a0 a1)) (hS7 : ∀ (u : MS) a0, Kzc u0 u → KzE u0 (S.2.2.2.2.2.2.2.1 u a0)) (hS8 : ∀ (u : MS) a0, Kzc u0 u → KzE u0 (S.2.2.2.2.2.2.2.2.1 u a0)) (hS9 : ∀ (u : MS) a0, Kzc u0 u → KzE u0 (S.2.2.2.2.2.2.2.2.2.1 u a0)) (hS10 : ∀ (u : MS) a0 a1, Kzc u0 u → KzE u0 (S.2.2.2.2.2.2.2.2.2.2.1 u a0 a1)) (hS11 : ∀ (u : MS) a0 a1, Kzc u0 u → KzE u0 (S.2.2.2.2.2.2.2.2.2.2.2.1 u a0 a1)) (hS12 : ∀ (u : MS) a0 a1 a2, Kzc u0 u → KzE u0 (S.2.2.2.2.2.2.2.2.2.2.2.2 u a0 a1 a2)) (hG0 : ∀ (u : MS) a0 a1 a2 a3 a4, Kzc u0 u → KzE u0 (G u a0 a1 a2 a3 a4)) : KzE u0 (hb_Cm_parts_38 N S G u v2 v3 v4 v5 v6 v7 v8) := by
  unfold hb_Cm_parts_38
  repeat' (first | with_reducible assumption | with_reducible refine Kz_br ?_ ?_ | with_reducible refine Kz_bnd ?_ (fun _ _ _ => ?_) | with_reducible refine Kz_ck ?_ | with_reducible refine Kz_ltm ?_ (fun _ _ => ?_) | with_reducible refine Kz_some ?_ | with_reducible refine Kz_bo (fun _ => ?_) | with_reducible refine Kz_T ?_ (fun _ _ _ => ?_) | with_reducible refine Kz_H ?_ (fun _ _ _ => ?_) (fun _ _ => ?_) | with_reducible exact yz_hm_Cm_forget (by assumption) | with_reducible exact yz_hm_Co_arrive (by assumption) | with_reducible exact yz_hm_Co_hook (by assumption) | with_reducible exact yz_hm_Co_put (by assumption) | with_reducible exact hS0 _ _ (by assumption) | with_reducible exact hS1 _ _ _ (by assumption) | with_reducible exact hS2 _ _ _ _ _ (by assumption) | with_reducible exact hS3 _ _ _ (by assumption) | with_reducible exact hS4 _ _ _ (by assumption) | with_reducible exact hS5 _ _ _ (by assumption) | with_reducible exact hS6 _ _ _ (by assumption) | with_reducible exact hS7 _ _ (by assumption) | with_reducible exact hS8 _ _ (by assumption) | with_reducible exact hS9 _ _ (by assumption) | with_reducible exact hS10 _ _ _ (by assumption) | with_reducible exact hS11 _ _ _ (by assumption) | with_reducible exact hS12 _ _ _ _ (by assumption) | with_reducible exact hG0 _ _ _ _ _ _ (by assumption) | with_reducible refine Kz_ltv (fun _ => ?_) | with_reducible refine Kz_I ?_ (by decide) | with_reducible refine Kz_A ?_ (by decide) | with_reducible refine Kz_J ?_ | with_reducible refine Kz_L ?_)
theorem yz_hb_Cm_parts_6 {S : SF_Cm_fun} {G : (MS → Int32 → Int32 → Int32 → Int32 → Int32 → Option (MS × Int32))} {v2 : Int32} {v3 : Int32} {v4 : Int32} {v5 : Int32} {v6 : Int32} (h : Kzc u0 u) (hS0 : ∀ (u : MS) a0, Kzc u0 u → KzE u0 (S.1 u a0)) (hS1 : ∀ (u : MS) a0 a1, Kzc u0 u → KzE u0 (S.2.1 u a0 a1)) (hS2 : ∀ (u : MS) a0 a1 a2 a3, Kzc u0 u → KzE u0 (S.2.2.1 u a0 a1 a2 a3)) (hS3 : ∀ (u : MS) a0 a1, Kzc u0 u → KzE u0 (S.2.2.2.1 u a0 a1)) (hS4 : ∀ (u : MS) a0 a1, Kzc u0 u → KzE u0 (S.2.2.2.2.1 u a0 a1)) (hS5 : ∀ (u : MS) a0 a1, Kzc u0 u → KzE u0 (S.2.2.2.2.2.1 u a0 a1)) (hS6 : ∀ (u : MS) a0 a1, Kzc u0 u → KzE u0 (S.2.2.2.2.2.2.1 u a0 a1)) (hS7 : ∀ (u : MS) a0, Kzc u0 u → KzE u0 (S.2.2.2.2.2.2.2.1 u a0)) (hS8 : ∀ (u : MS) a0, Kzc u0 u → KzE u0 (S.2.2.2.2.2.2.2.2.1 u a0)) (hS9 : ∀ (u : MS) a0, Kzc u0 u → KzE u0 (S.2.2.2.2.2.2.2.2.2.1 u a0)) (hS10 : ∀ (u : MS) a0 a1, Kzc u0 u → KzE u0 (S.2.2.2.2.2.2.2.2.2.2.1 u a0 a1)) (hS11 : ∀ (u : MS) a0 a1, Kzc u0 u → KzE u0 (S.2.2.2.2.2.2.2.2.2.2.2.1 u a0 a1)) (hS12 : ∀ (u : MS) a0 a1 a2, Kzc u0 u → KzE u0 (S.2.2.2.2.2.2.2.2.2.2.2.2 u a0 a1 a2)) (hG0 : ∀ (u : MS) a0 a1 a2 a3 a4, Kzc u0 u → KzE u0 (G u a0 a1 a2 a3 a4)) : KzE u0 (hb_Cm_parts_6 N S G u v2 v3 v4 v5 v6) := by
  unfold hb_Cm_parts_6
  repeat' (first | with_reducible assumption | with_reducible refine Kz_br ?_ ?_ | with_reducible refine Kz_bnd ?_ (fun _ _ _ => ?_) | with_reducible refine Kz_ck ?_ | with_reducible refine Kz_ltm ?_ (fun _ _ => ?_) | with_reducible refine Kz_some ?_ | with_reducible refine Kz_bo (fun _ => ?_) | with_reducible refine Kz_T ?_ (fun _ _ _ => ?_) | with_reducible refine Kz_H ?_ (fun _ _ _ => ?_) (fun _ _ => ?_) | with_reducible exact yz_hb_Cm_parts_38 (by assumption) hS0 hS1 hS2 hS3 hS4 hS5 hS6 hS7 hS8 hS9 hS10 hS11 hS12 hG0 | with_reducible exact yz_hm_Co_put (by assumption) | with_reducible exact hS0 _ _ (by assumption) | with_reducible exact hS1 _ _ _ (by assumption) | with_reducible exact hS2 _ _ _ _ _ (by assumption) | with_reducible exact hS3 _ _ _ (by assumption) | with_reducible exact hS4 _ _ _ (by assumption) | with_reducible exact hS5 _ _ _ (by assumption) | with_reducible exact hS6 _ _ _ (by assumption) | with_reducible exact hS7 _ _ (by assumption) | with_reducible exact hS8 _ _ (by assumption) | with_reducible exact hS9 _ _ (by assumption) | with_reducible exact hS10 _ _ _ (by assumption) | with_reducible exact hS11 _ _ _ (by assumption) | with_reducible exact hS12 _ _ _ _ (by assumption) | with_reducible exact hG0 _ _ _ _ _ _ (by assumption) | with_reducible refine Kz_ltv (fun _ => ?_) | with_reducible refine Kz_I ?_ (by decide) | with_reducible refine Kz_A ?_ (by decide) | with_reducible refine Kz_J ?_ | with_reducible refine Kz_L ?_)
theorem yz_hb_Cm_parts_0 {S : SF_Cm_fun} {G : (MS → Int32 → Int32 → Int32 → Int32 → Int32 → Option (MS × Int32))} {v1 : Int32} {v2 : Int32} {v3 : Int32} {v4 : Int32} (h : Kzc u0 u) (hS0 : ∀ (u : MS) a0, Kzc u0 u → KzE u0 (S.1 u a0)) (hS1 : ∀ (u : MS) a0 a1, Kzc u0 u → KzE u0 (S.2.1 u a0 a1)) (hS2 : ∀ (u : MS) a0 a1 a2 a3, Kzc u0 u → KzE u0 (S.2.2.1 u a0 a1 a2 a3)) (hS3 : ∀ (u : MS) a0 a1, Kzc u0 u → KzE u0 (S.2.2.2.1 u a0 a1)) (hS4 : ∀ (u : MS) a0 a1, Kzc u0 u → KzE u0 (S.2.2.2.2.1 u a0 a1)) (hS5 : ∀ (u : MS) a0 a1, Kzc u0 u → KzE u0 (S.2.2.2.2.2.1 u a0 a1)) (hS6 : ∀ (u : MS) a0 a1, Kzc u0 u → KzE u0 (S.2.2.2.2.2.2.1 u a0 a1)) (hS7 : ∀ (u : MS) a0, Kzc u0 u → KzE u0 (S.2.2.2.2.2.2.2.1 u a0)) (hS8 : ∀ (u : MS) a0, Kzc u0 u → KzE u0 (S.2.2.2.2.2.2.2.2.1 u a0)) (hS9 : ∀ (u : MS) a0, Kzc u0 u → KzE u0 (S.2.2.2.2.2.2.2.2.2.1 u a0)) (hS10 : ∀ (u : MS) a0 a1, Kzc u0 u → KzE u0 (S.2.2.2.2.2.2.2.2.2.2.1 u a0 a1)) (hS11 : ∀ (u : MS) a0 a1, Kzc u0 u → KzE u0 (S.2.2.2.2.2.2.2.2.2.2.2.1 u a0 a1)) (hS12 : ∀ (u : MS) a0 a1 a2, Kzc u0 u → KzE u0 (S.2.2.2.2.2.2.2.2.2.2.2.2 u a0 a1 a2)) (hG0 : ∀ (u : MS) a0 a1 a2 a3 a4, Kzc u0 u → KzE u0 (G u a0 a1 a2 a3 a4)) : KzE u0 (hb_Cm_parts_0 N S G u v1 v2 v3 v4) := by
  unfold hb_Cm_parts_0
  repeat' (first | with_reducible assumption | with_reducible refine Kz_br ?_ ?_ | with_reducible refine Kz_bnd ?_ (fun _ _ _ => ?_) | with_reducible refine Kz_ck ?_ | with_reducible refine Kz_ltm ?_ (fun _ _ => ?_) | with_reducible refine Kz_some ?_ | with_reducible refine Kz_bo (fun _ => ?_) | with_reducible refine Kz_T ?_ (fun _ _ _ => ?_) | with_reducible refine Kz_H ?_ (fun _ _ _ => ?_) (fun _ _ => ?_) | with_reducible exact hS0 _ _ (by assumption) | with_reducible exact hS1 _ _ _ (by assumption) | with_reducible exact hS2 _ _ _ _ _ (by assumption) | with_reducible exact hS3 _ _ _ (by assumption) | with_reducible exact hS4 _ _ _ (by assumption) | with_reducible exact hS5 _ _ _ (by assumption) | with_reducible exact hS6 _ _ _ (by assumption) | with_reducible exact hS7 _ _ (by assumption) | with_reducible exact hS8 _ _ (by assumption) | with_reducible exact hS9 _ _ (by assumption) | with_reducible exact hS10 _ _ _ (by assumption) | with_reducible exact hS11 _ _ _ (by assumption) | with_reducible exact hS12 _ _ _ _ (by assumption) | with_reducible exact hG0 _ _ _ _ _ _ (by assumption) | with_reducible refine Kz_ltv (fun _ => ?_) | with_reducible refine Kz_I ?_ (by decide) | with_reducible refine Kz_A ?_ (by decide) | with_reducible refine Kz_J ?_ | with_reducible refine Kz_L ?_)
theorem yz_hg_Cm_parts {S : SF_Cm_fun} (hS0 : ∀ (u : MS) a0, Kzc u0 u → KzE u0 (S.1 u a0)) (hS1 : ∀ (u : MS) a0 a1, Kzc u0 u → KzE u0 (S.2.1 u a0 a1)) (hS2 : ∀ (u : MS) a0 a1 a2 a3, Kzc u0 u → KzE u0 (S.2.2.1 u a0 a1 a2 a3)) (hS3 : ∀ (u : MS) a0 a1, Kzc u0 u → KzE u0 (S.2.2.2.1 u a0 a1)) (hS4 : ∀ (u : MS) a0 a1, Kzc u0 u → KzE u0 (S.2.2.2.2.1 u a0 a1)) (hS5 : ∀ (u : MS) a0 a1, Kzc u0 u → KzE u0 (S.2.2.2.2.2.1 u a0 a1)) (hS6 : ∀ (u : MS) a0 a1, Kzc u0 u → KzE u0 (S.2.2.2.2.2.2.1 u a0 a1)) (hS7 : ∀ (u : MS) a0, Kzc u0 u → KzE u0 (S.2.2.2.2.2.2.2.1 u a0)) (hS8 : ∀ (u : MS) a0, Kzc u0 u → KzE u0 (S.2.2.2.2.2.2.2.2.1 u a0)) (hS9 : ∀ (u : MS) a0, Kzc u0 u → KzE u0 (S.2.2.2.2.2.2.2.2.2.1 u a0)) (hS10 : ∀ (u : MS) a0 a1, Kzc u0 u → KzE u0 (S.2.2.2.2.2.2.2.2.2.2.1 u a0 a1)) (hS11 : ∀ (u : MS) a0 a1, Kzc u0 u → KzE u0 (S.2.2.2.2.2.2.2.2.2.2.2.1 u a0 a1)) (hS12 : ∀ (u : MS) a0 a1 a2, Kzc u0 u → KzE u0 (S.2.2.2.2.2.2.2.2.2.2.2.2 u a0 a1 a2)) (n : Nat) : (∀ (u : MS) a0 a1 a2 a3 a4, Kzc u0 u → KzE u0 ((hg_Cm_parts N S n) u a0 a1 a2 a3 a4)) := by
  induction n with
  | zero => exact fun _ _ _ _ _ _ _ => Kz_none
  | succ n ih => exact fun _ _ _ _ _ _ h => yz_hb_Cm_parts_6 (N := N) h hS0 hS1 hS2 hS3 hS4 hS5 hS6 hS7 hS8 hS9 hS10 hS11 hS12 ih
theorem yz_hm_Cm_parts {S : SF_Cm_fun} {v1 : Int32} {v2 : Int32} {v3 : Int32} {v4 : Int32} (h : Kzc u0 u) (hS0 : ∀ (u : MS) a0, Kzc u0 u → KzE u0 (S.1 u a0)) (hS1 : ∀ (u : MS) a0 a1, Kzc u0 u → KzE u0 (S.2.1 u a0 a1)) (hS2 : ∀ (u : MS) a0 a1 a2 a3, Kzc u0 u → KzE u0 (S.2.2.1 u a0 a1 a2 a3)) (hS3 : ∀ (u : MS) a0 a1, Kzc u0 u → KzE u0 (S.2.2.2.1 u a0 a1)) (hS4 : ∀ (u : MS) a0 a1, Kzc u0 u → KzE u0 (S.2.2.2.2.1 u a0 a1)) (hS5 : ∀ (u : MS) a0 a1, Kzc u0 u → KzE u0 (S.2.2.2.2.2.1 u a0 a1)) (hS6 : ∀ (u : MS) a0 a1, Kzc u0 u → KzE u0 (S.2.2.2.2.2.2.1 u a0 a1)) (hS7 : ∀ (u : MS) a0, Kzc u0 u → KzE u0 (S.2.2.2.2.2.2.2.1 u a0)) (hS8 : ∀ (u : MS) a0, Kzc u0 u → KzE u0 (S.2.2.2.2.2.2.2.2.1 u a0)) (hS9 : ∀ (u : MS) a0, Kzc u0 u → KzE u0 (S.2.2.2.2.2.2.2.2.2.1 u a0)) (hS10 : ∀ (u : MS) a0 a1, Kzc u0 u → KzE u0 (S.2.2.2.2.2.2.2.2.2.2.1 u a0 a1)) (hS11 : ∀ (u : MS) a0 a1, Kzc u0 u → KzE u0 (S.2.2.2.2.2.2.2.2.2.2.2.1 u a0 a1)) (hS12 : ∀ (u : MS) a0 a1 a2, Kzc u0 u → KzE u0 (S.2.2.2.2.2.2.2.2.2.2.2.2 u a0 a1 a2)) : KzE u0 (hm_Cm_parts N S u v1 v2 v3 v4) := by
  unfold hm_Cm_parts
  exact yz_hb_Cm_parts_0 h hS0 hS1 hS2 hS3 hS4 hS5 hS6 hS7 hS8 hS9 hS10 hS11 hS12 ((yz_hg_Cm_parts (N := N) hS0 hS1 hS2 hS3 hS4 hS5 hS6 hS7 hS8 hS9 hS10 hS11 hS12 N))
theorem yz_hb_Cm_body_58 {S : SF_Cm_fun} {G : (MS → Int32 → Int32 → Option (MS × Unit))} {v2 : Int32} {v3 : Int32} (h : Kzc u0 u) (hS0 : ∀ (u : MS) a0, Kzc u0 u → KzE u0 (S.1 u a0)) (hS1 : ∀ (u : MS) a0 a1, Kzc u0 u → KzE u0 (S.2.1 u a0 a1)) (hS2 : ∀ (u : MS) a0 a1 a2 a3, Kzc u0 u → KzE u0 (S.2.2.1 u a0 a1 a2 a3)) (hS3 : ∀ (u : MS) a0 a1, Kzc u0 u → KzE u0 (S.2.2.2.1 u a0 a1)) (hS4 : ∀ (u : MS) a0 a1, Kzc u0 u → KzE u0 (S.2.2.2.2.1 u a0 a1)) (hS5 : ∀ (u : MS) a0 a1, Kzc u0 u → KzE u0 (S.2.2.2.2.2.1 u a0 a1)) (hS6 : ∀ (u : MS) a0 a1, Kzc u0 u → KzE u0 (S.2.2.2.2.2.2.1 u a0 a1)) (hS7 : ∀ (u : MS) a0, Kzc u0 u → KzE u0 (S.2.2.2.2.2.2.2.1 u a0)) (hS8 : ∀ (u : MS) a0, Kzc u0 u → KzE u0 (S.2.2.2.2.2.2.2.2.1 u a0)) (hS9 : ∀ (u : MS) a0, Kzc u0 u → KzE u0 (S.2.2.2.2.2.2.2.2.2.1 u a0)) (hS10 : ∀ (u : MS) a0 a1, Kzc u0 u → KzE u0 (S.2.2.2.2.2.2.2.2.2.2.1 u a0 a1)) (hS11 : ∀ (u : MS) a0 a1, Kzc u0 u → KzE u0 (S.2.2.2.2.2.2.2.2.2.2.2.1 u a0 a1)) (hS12 : ∀ (u : MS) a0 a1 a2, Kzc u0 u → KzE u0 (S.2.2.2.2.2.2.2.2.2.2.2.2 u a0 a1 a2)) (hG0 : ∀ (u : MS) a0 a1, Kzc u0 u → KzE u0 (G u a0 a1)) : KzE u0 (hb_Cm_body_58 N S G u v2 v3) := by
  unfold hb_Cm_body_58
  repeat' (first | with_reducible assumption | with_reducible refine Kz_br ?_ ?_ | with_reducible refine Kz_bnd ?_ (fun _ _ _ => ?_) | with_reducible refine Kz_ck ?_ | with_reducible refine Kz_ltm ?_ (fun _ _ => ?_) | with_reducible refine Kz_some ?_ | with_reducible refine Kz_bo (fun _ => ?_) | with_reducible refine Kz_T ?_ (fun _ _ _ => ?_) | with_reducible refine Kz_H ?_ (fun _ _ _ => ?_) (fun _ _ => ?_) | with_reducible exact hS0 _ _ (by assumption) | with_reducible exact hS1 _ _ _ (by assumption) | with_reducible exact hS2 _ _ _ _ _ (by assumption) | with_reducible exact hS3 _ _ _ (by assumption) | with_reducible exact hS4 _ _ _ (by assumption) | with_reducible exact hS5 _ _ _ (by assumption) | with_reducible exact hS6 _ _ _ (by assumption) | with_reducible exact hS7 _ _ (by assumption) | with_reducible exact hS8 _ _ (by assumption) | with_reducible exact hS9 _ _ (by assumption) | with_reducible exact hS10 _ _ _ (by assumption) | with_reducible exact hS11 _ _ _ (by assumption) | with_reducible exact hS12 _ _ _ _ (by assumption) | with_reducible exact hG0 _ _ _ (by assumption) | with_reducible refine Kz_ltv (fun _ => ?_) | with_reducible refine Kz_I ?_ (by decide) | with_reducible refine Kz_A ?_ (by decide) | with_reducible refine Kz_J ?_ | with_reducible refine Kz_L ?_)
theorem yz_hb_Cm_body_41 {S : SF_Cm_fun} {G : (MS → Int32 → Int32 → Option (MS × Unit))} {v2 : Int32} {v3 : Int32} {v4 : Int32} {t1 : Int32} {t2 : Int32} (h : Kzc u0 u) (hS0 : ∀ (u : MS) a0, Kzc u0 u → KzE u0 (S.1 u a0)) (hS1 : ∀ (u : MS) a0 a1, Kzc u0 u → KzE u0 (S.2.1 u a0 a1)) (hS2 : ∀ (u : MS) a0 a1 a2 a3, Kzc u0 u → KzE u0 (S.2.2.1 u a0 a1 a2 a3)) (hS3 : ∀ (u : MS) a0 a1, Kzc u0 u → KzE u0 (S.2.2.2.1 u a0 a1)) (hS4 : ∀ (u : MS) a0 a1, Kzc u0 u → KzE u0 (S.2.2.2.2.1 u a0 a1)) (hS5 : ∀ (u : MS) a0 a1, Kzc u0 u → KzE u0 (S.2.2.2.2.2.1 u a0 a1)) (hS6 : ∀ (u : MS) a0 a1, Kzc u0 u → KzE u0 (S.2.2.2.2.2.2.1 u a0 a1)) (hS7 : ∀ (u : MS) a0, Kzc u0 u → KzE u0 (S.2.2.2.2.2.2.2.1 u a0)) (hS8 : ∀ (u : MS) a0, Kzc u0 u → KzE u0 (S.2.2.2.2.2.2.2.2.1 u a0)) (hS9 : ∀ (u : MS) a0, Kzc u0 u → KzE u0 (S.2.2.2.2.2.2.2.2.2.1 u a0)) (hS10 : ∀ (u : MS) a0 a1, Kzc u0 u → KzE u0 (S.2.2.2.2.2.2.2.2.2.2.1 u a0 a1)) (hS11 : ∀ (u : MS) a0 a1, Kzc u0 u → KzE u0 (S.2.2.2.2.2.2.2.2.2.2.2.1 u a0 a1)) (hS12 : ∀ (u : MS) a0 a1 a2, Kzc u0 u → KzE u0 (S.2.2.2.2.2.2.2.2.2.2.2.2 u a0 a1 a2)) (hG0 : ∀ (u : MS) a0 a1, Kzc u0 u → KzE u0 (G u a0 a1)) : KzE u0 (hb_Cm_body_41 N S G u v2 v3 v4 t1 t2) := by
  unfold hb_Cm_body_41
  repeat' (first | with_reducible assumption | with_reducible refine Kz_br ?_ ?_ | with_reducible refine Kz_bnd ?_ (fun _ _ _ => ?_) | with_reducible refine Kz_ck ?_ | with_reducible refine Kz_ltm ?_ (fun _ _ => ?_) | with_reducible refine Kz_some ?_ | with_reducible refine Kz_bo (fun _ => ?_) | with_reducible refine Kz_T ?_ (fun _ _ _ => ?_) | with_reducible refine Kz_H ?_ (fun _ _ _ => ?_) (fun _ _ => ?_) | with_reducible exact yz_hb_Cm_body_58 (by assumption) hS0 hS1 hS2 hS3 hS4 hS5 hS6 hS7 hS8 hS9 hS10 hS11 hS12 hG0 | with_reducible exact yz_hm_Co_put (by assumption) | with_reducible exact hS0 _ _ (by assumption) | with_reducible exact hS1 _ _ _ (by assumption) | with_reducible exact hS2 _ _ _ _ _ (by assumption) | with_reducible exact hS3 _ _ _ (by assumption) | with_reducible exact hS4 _ _ _ (by assumption) | with_reducible exact hS5 _ _ _ (by assumption) | with_reducible exact hS6 _ _ _ (by assumption) | with_reducible exact hS7 _ _ (by assumption) | with_reducible exact hS8 _ _ (by assumption) | with_reducible exact hS9 _ _ (by assumption) | with_reducible exact hS10 _ _ _ (by assumption) | with_reducible exact hS11 _ _ _ (by assumption) | with_reducible exact hS12 _ _ _ _ (by assumption) | with_reducible exact hG0 _ _ _ (by assumption) | with_reducible refine Kz_ltv (fun _ => ?_) | with_reducible refine Kz_I ?_ (by decide) | with_reducible refine Kz_A ?_ (by decide) | with_reducible refine Kz_J ?_ | with_reducible refine Kz_L ?_)
theorem yz_hb_Cm_body_40 {S : SF_Cm_fun} {G : (MS → Int32 → Int32 → Option (MS × Unit))} {v2 : Int32} {v3 : Int32} {v4 : Int32} {t1 : Int32} (h : Kzc u0 u) (hS0 : ∀ (u : MS) a0, Kzc u0 u → KzE u0 (S.1 u a0)) (hS1 : ∀ (u : MS) a0 a1, Kzc u0 u → KzE u0 (S.2.1 u a0 a1)) (hS2 : ∀ (u : MS) a0 a1 a2 a3, Kzc u0 u → KzE u0 (S.2.2.1 u a0 a1 a2 a3)) (hS3 : ∀ (u : MS) a0 a1, Kzc u0 u → KzE u0 (S.2.2.2.1 u a0 a1)) (hS4 : ∀ (u : MS) a0 a1, Kzc u0 u → KzE u0 (S.2.2.2.2.1 u a0 a1)) (hS5 : ∀ (u : MS) a0 a1, Kzc u0 u → KzE u0 (S.2.2.2.2.2.1 u a0 a1)) (hS6 : ∀ (u : MS) a0 a1, Kzc u0 u → KzE u0 (S.2.2.2.2.2.2.1 u a0 a1)) (hS7 : ∀ (u : MS) a0, Kzc u0 u → KzE u0 (S.2.2.2.2.2.2.2.1 u a0)) (hS8 : ∀ (u : MS) a0, Kzc u0 u → KzE u0 (S.2.2.2.2.2.2.2.2.1 u a0)) (hS9 : ∀ (u : MS) a0, Kzc u0 u → KzE u0 (S.2.2.2.2.2.2.2.2.2.1 u a0)) (hS10 : ∀ (u : MS) a0 a1, Kzc u0 u → KzE u0 (S.2.2.2.2.2.2.2.2.2.2.1 u a0 a1)) (hS11 : ∀ (u : MS) a0 a1, Kzc u0 u → KzE u0 (S.2.2.2.2.2.2.2.2.2.2.2.1 u a0 a1)) (hS12 : ∀ (u : MS) a0 a1 a2, Kzc u0 u → KzE u0 (S.2.2.2.2.2.2.2.2.2.2.2.2 u a0 a1 a2)) (hG0 : ∀ (u : MS) a0 a1, Kzc u0 u → KzE u0 (G u a0 a1)) : KzE u0 (hb_Cm_body_40 N S G u v2 v3 v4 t1) := by
  unfold hb_Cm_body_40
  repeat' (first | with_reducible assumption | with_reducible refine Kz_br ?_ ?_ | with_reducible refine Kz_bnd ?_ (fun _ _ _ => ?_) | with_reducible refine Kz_ck ?_ | with_reducible refine Kz_ltm ?_ (fun _ _ => ?_) | with_reducible refine Kz_some ?_ | with_reducible refine Kz_bo (fun _ => ?_) | with_reducible refine Kz_T ?_ (fun _ _ _ => ?_) | with_reducible refine Kz_H ?_ (fun _ _ _ => ?_) (fun _ _ => ?_) | with_reducible exact yz_hb_Cm_body_41 (by assumption) hS0 hS1 hS2 hS3 hS4 hS5 hS6 hS7 hS8 hS9 hS10 hS11 hS12 hG0 | with_reducible exact hS0 _ _ (by assumption) | with_reducible exact hS1 _ _ _ (by assumption) | with_reducible exact hS2 _ _ _ _ _ (by assumption) | with_reducible exact hS3 _ _ _ (by assumption) | with_reducible exact hS4 _ _ _ (by assumption) | with_reducible exact hS5 _ _ _ (by assumption) | with_reducible exact hS6 _ _ _ (by assumption) | with_reducible exact hS7 _ _ (by assumption) | with_reducible exact hS8 _ _ (by assumption) | with_reducible exact hS9 _ _ (by assumption) | with_reducible exact hS10 _ _ _ (by assumption) | with_reducible exact hS11 _ _ _ (by assumption) | with_reducible exact hS12 _ _ _ _ (by assumption) | with_reducible exact hG0 _ _ _ (by assumption) | with_reducible refine Kz_ltv (fun _ => ?_) | with_reducible refine Kz_I ?_ (by decide) | with_reducible refine Kz_A ?_ (by decide) | with_reducible refine Kz_J ?_ | with_reducible refine Kz_L ?_)
theorem yz_hb_Cm_body_23 {S : SF_Cm_fun} {G : (MS → Int32 → Int32 → Option (MS × Unit))} {v2 : Int32} {v3 : Int32} {t0 : Int32} (h : Kzc u0 u) (hS0 : ∀ (u : MS) a0, Kzc u0 u → KzE u0 (S.1 u a0)) (hS1 : ∀ (u : MS) a0 a1, Kzc u0 u → KzE u0 (S.2.1 u a0 a1)) (hS2 : ∀ (u : MS) a0 a1 a2 a3, Kzc u0 u → KzE u0 (S.2.2.1 u a0 a1 a2 a3)) (hS3 : ∀ (u : MS) a0 a1, Kzc u0 u → KzE u0 (S.2.2.2.1 u a0 a1)) (hS4 : ∀ (u : MS) a0 a1, Kzc u0 u → KzE u0 (S.2.2.2.2.1 u a0 a1)) (hS5 : ∀ (u : MS) a0 a1, Kzc u0 u → KzE u0 (S.2.2.2.2.2.1 u a0 a1)) (hS6 : ∀ (u : MS) a0 a1, Kzc u0 u → KzE u0 (S.2.2.2.2.2.2.1 u a0 a1)) (hS7 : ∀ (u : MS) a0, Kzc u0 u → KzE u0 (S.2.2.2.2.2.2.2.1 u a0)) (hS8 : ∀ (u : MS) a0, Kzc u0 u → KzE u0 (S.2.2.2.2.2.2.2.2.1 u a0)) (hS9 : ∀ (u : MS) a0, Kzc u0 u → KzE u0 (S.2.2.2.2.2.2.2.2.2.1 u a0)) (hS10 : ∀ (u : MS) a0 a1, Kzc u0 u → KzE u0 (S.2.2.2.2.2.2.2.2.2.2.1 u a0 a1)) (hS11 : ∀ (u : MS) a0 a1, Kzc u0 u → KzE u0 (S.2.2.2.2.2.2.2.2.2.2.2.1 u a0 a1)) (hS12 : ∀ (u : MS) a0 a1 a2, Kzc u0 u → KzE u0 (S.2.2.2.2.2.2.2.2.2.2.2.2 u a0 a1 a2)) (hG0 : ∀ (u : MS) a0 a1, Kzc u0 u → KzE u0 (G u a0 a1)) : KzE u0 (hb_Cm_body_23 N S G u v2 v3 t0) := by
  unfold hb_Cm_body_23
  repeat' (first | with_reducible assumption | with_reducible refine Kz_br ?_ ?_ | with_reducible refine Kz_bnd ?_ (fun _ _ _ => ?_) | with_reducible refine Kz_ck ?_ | with_reducible refine Kz_ltm ?_ (fun _ _ => ?_) | with_reducible refine Kz_some ?_ | with_reducible refine Kz_bo (fun _ => ?_) | with_reducible refine Kz_T ?_ (fun _ _ _ => ?_) | with_reducible refine Kz_H ?_ (fun _ _ _ => ?_) (fun _ _ => ?_) | with_reducible exact yz_hb_Cm_body_40 (by assumption) hS0 hS1 hS2 hS3 hS4 hS5 hS6 hS7 hS8 hS9 hS10 hS11 hS12 hG0 | with_reducible exact yz_hb_Cm_body_41 (by assumption) hS0 hS1 hS2 hS3 hS4 hS5 hS6 hS7 hS8 hS9 hS10 hS11 hS12 hG0 | with_reducible exact hS0 _ _ (by assumption) | with_reducible exact hS1 _ _ _ (by assumption) | with_reducible exact hS2 _ _ _ _ _ (by assumption) | with_reducible exact hS3 _ _ _ (by assumption) | with_reducible exact hS4 _ _ _ (by assumption) | with_reducible exact hS5 _ _ _ (by assumption) | with_reducible exact hS6 _ _ _ (by assumption) | with_reducible exact hS7 _ _ (by assumption) | with_reducible exact hS8 _ _ (by assumption) | with_reducible exact hS9 _ _ (by assumption) | with_reducible exact hS10 _ _ _ (by assumption) | with_reducible exact hS11 _ _ _ (by assumption) | with_reducible exact hS12 _ _ _ _ (by assumption) | with_reducible exact hG0 _ _ _ (by assumption) | with_reducible refine Kz_ltv (fun _ => ?_) | with_reducible refine Kz_I ?_ (by decide) | with_reducible refine Kz_A ?_ (by decide) | with_reducible refine Kz_J ?_ | with_reducible refine Kz_L ?_)
theorem yz_hb_Cm_body_2 {S : SF_Cm_fun} {G : (MS → Int32 → Int32 → Option (MS × Unit))} {v2 : Int32} {v3 : Int32} (h : Kzc u0 u) (hS0 : ∀ (u : MS) a0, Kzc u0 u → KzE u0 (S.1 u a0)) (hS1 : ∀ (u : MS) a0 a1, Kzc u0 u → KzE u0 (S.2.1 u a0 a1)) (hS2 : ∀ (u : MS) a0 a1 a2 a3, Kzc u0 u → KzE u0 (S.2.2.1 u a0 a1 a2 a3)) (hS3 : ∀ (u : MS) a0 a1, Kzc u0 u → KzE u0 (S.2.2.2.1 u a0 a1)) (hS4 : ∀ (u : MS) a0 a1, Kzc u0 u → KzE u0 (S.2.2.2.2.1 u a0 a1)) (hS5 : ∀ (u : MS) a0 a1, Kzc u0 u → KzE u0 (S.2.2.2.2.2.1 u a0 a1)) (hS6 : ∀ (u : MS) a0 a1, Kzc u0 u → KzE u0 (S.2.2.2.2.2.2.1 u a0 a1)) (hS7 : ∀ (u : MS) a0, Kzc u0 u → KzE u0 (S.2.2.2.2.2.2.2.1 u a0)) (hS8 : ∀ (u : MS) a0, Kzc u0 u → KzE u0 (S.2.2.2.2.2.2.2.2.1 u a0)) (hS9 : ∀ (u : MS) a0, Kzc u0 u → KzE u0 (S.2.2.2.2.2.2.2.2.2.1 u a0)) (hS10 : ∀ (u : MS) a0 a1, Kzc u0 u → KzE u0 (S.2.2.2.2.2.2.2.2.2.2.1 u a0 a1)) (hS11 : ∀ (u : MS) a0 a1, Kzc u0 u → KzE u0 (S.2.2.2.2.2.2.2.2.2.2.2.1 u a0 a1)) (hS12 : ∀ (u : MS) a0 a1 a2, Kzc u0 u → KzE u0 (S.2.2.2.2.2.2.2.2.2.2.2.2 u a0 a1 a2)) (hG0 : ∀ (u : MS) a0 a1, Kzc u0 u → KzE u0 (G u a0 a1)) : KzE u0 (hb_Cm_body_2 N S G u v2 v3) := by
  unfold hb_Cm_body_2
  repeat' (first | with_reducible assumption | with_reducible refine Kz_br ?_ ?_ | with_reducible refine Kz_bnd ?_ (fun _ _ _ => ?_) | with_reducible refine Kz_ck ?_ | with_reducible refine Kz_ltm ?_ (fun _ _ => ?_) | with_reducible refine Kz_some ?_ | with_reducible refine Kz_bo (fun _ => ?_) | with_reducible refine Kz_T ?_ (fun _ _ _ => ?_) | with_reducible refine Kz_H ?_ (fun _ _ _ => ?_) (fun _ _ => ?_) | with_reducible exact yz_hb_Cm_body_23 (by assumption) hS0 hS1 hS2 hS3 hS4 hS5 hS6 hS7 hS8 hS9 hS10 hS11 hS12 hG0 | with_reducible exact hS0 _ _ (by assumption) | with_reducible exact hS1 _ _ _ (by assumption) | with_reducible exact hS2 _ _ _ _ _ (by assumption) | with_reducible exact hS3 _ _ _ (by assumption) | with_reducible exact hS4 _ _ _ (by assumption) | with_reducible exact hS5 _ _ _ (by assumption) | with_reducible exact hS6 _ _ _ (by assumption) | with_reducible exact hS7 _ _ (by assumption) | with_reducible exact hS8 _ _ (by assumption) | with_reducible exact hS9 _ _ (by assumption) | with_reducible exact hS10 _ _ _ (by assumption) | with_reducible exact hS11 _ _ _ (by assumption) | with_reducible exact hS12 _ _ _ _ (by assumption) | with_reducible exact hG0 _ _ _ (by assumption) | with_reducible refine Kz_ltv (fun _ => ?_) | with_reducible refine Kz_I ?_ (by decide) | with_reducible refine Kz_A ?_ (by decide) | with_reducible refine Kz_J ?_ | with_reducible refine Kz_L ?_)
theorem yz_hb_Cm_body_0 {S : SF_Cm_fun} {G : (MS → Int32 → Int32 → Option (MS × Unit))} {v1 : Int32} {v2 : Int32} (h : Kzc u0 u) (hS0 : ∀ (u : MS) a0, Kzc u0 u → KzE u0 (S.1 u a0)) (hS1 : ∀ (u : MS) a0 a1, Kzc u0 u → KzE u0 (S.2.1 u a0 a1)) (hS2 : ∀ (u : MS) a0 a1 a2 a3, Kzc u0 u → KzE u0 (S.2.2.1 u a0 a1 a2 a3)) (hS3 : ∀ (u : MS) a0 a1, Kzc u0 u → KzE u0 (S.2.2.2.1 u a0 a1)) (hS4 : ∀ (u : MS) a0 a1, Kzc u0 u → KzE u0 (S.2.2.2.2.1 u a0 a1)) (hS5 : ∀ (u : MS) a0 a1, Kzc u0 u → KzE u0 (S.2.2.2.2.2.1 u a0 a1)) (hS6 : ∀ (u : MS) a0 a1, Kzc u0 u → KzE u0 (S.2.2.2.2.2.2.1 u a0 a1)) (hS7 : ∀ (u : MS) a0, Kzc u0 u → KzE u0 (S.2.2.2.2.2.2.2.1 u a0)) (hS8 : ∀ (u : MS) a0, Kzc u0 u → KzE u0 (S.2.2.2.2.2.2.2.2.1 u a0)) (hS9 : ∀ (u : MS) a0, Kzc u0 u → KzE u0 (S.2.2.2.2.2.2.2.2.2.1 u a0)) (hS10 : ∀ (u : MS) a0 a1, Kzc u0 u → KzE u0 (S.2.2.2.2.2.2.2.2.2.2.1 u a0 a1)) (hS11 : ∀ (u : MS) a0 a1, Kzc u0 u → KzE u0 (S.2.2.2.2.2.2.2.2.2.2.2.1 u a0 a1)) (hS12 : ∀ (u : MS) a0 a1 a2, Kzc u0 u → KzE u0 (S.2.2.2.2.2.2.2.2.2.2.2.2 u a0 a1 a2)) (hG0 : ∀ (u : MS) a0 a1, Kzc u0 u → KzE u0 (G u a0 a1)) : KzE u0 (hb_Cm_body_0 N S G u v1 v2) := by
  unfold hb_Cm_body_0
  repeat' (first | with_reducible assumption | with_reducible refine Kz_br ?_ ?_ | with_reducible refine Kz_bnd ?_ (fun _ _ _ => ?_) | with_reducible refine Kz_ck ?_ | with_reducible refine Kz_ltm ?_ (fun _ _ => ?_) | with_reducible refine Kz_some ?_ | with_reducible refine Kz_bo (fun _ => ?_) | with_reducible refine Kz_T ?_ (fun _ _ _ => ?_) | with_reducible refine Kz_H ?_ (fun _ _ _ => ?_) (fun _ _ => ?_) | with_reducible exact hS0 _ _ (by assumption) | with_reducible exact hS1 _ _ _ (by assumption) | with_reducible exact hS2 _ _ _ _ _ (by assumption) | with_reducible exact hS3 _ _ _ (by assumption) | with_reducible exact hS4 _ _ _ (by assumption) | with_reducible exact hS5 _ _ _ (by assumption) | with_reducible exact hS6 _ _ _ (by assumption) | with_reducible exact hS7 _ _ (by assumption) | with_reducible exact hS8 _ _ (by assumption) | with_reducible exact hS9 _ _ (by assumption) | with_reducible exact hS10 _ _ _ (by assumption) | with_reducible exact hS11 _ _ _ (by assumption) | with_reducible exact hS12 _ _ _ _ (by assumption) | with_reducible exact hG0 _ _ _ (by assumption) | with_reducible refine Kz_ltv (fun _ => ?_) | with_reducible refine Kz_I ?_ (by decide) | with_reducible refine Kz_A ?_ (by decide) | with_reducible refine Kz_J ?_ | with_reducible refine Kz_L ?_)
theorem yz_hg_Cm_body {S : SF_Cm_fun} (hS0 : ∀ (u : MS) a0, Kzc u0 u → KzE u0 (S.1 u a0)) (hS1 : ∀ (u : MS) a0 a1, Kzc u0 u → KzE u0 (S.2.1 u a0 a1)) (hS2 : ∀ (u : MS) a0 a1 a2 a3, Kzc u0 u → KzE u0 (S.2.2.1 u a0 a1 a2 a3)) (hS3 : ∀ (u : MS) a0 a1, Kzc u0 u → KzE u0 (S.2.2.2.1 u a0 a1)) (hS4 : ∀ (u : MS) a0 a1, Kzc u0 u → KzE u0 (S.2.2.2.2.1 u a0 a1)) (hS5 : ∀ (u : MS) a0 a1, Kzc u0 u → KzE u0 (S.2.2.2.2.2.1 u a0 a1)) (hS6 : ∀ (u : MS) a0 a1, Kzc u0 u → KzE u0 (S.2.2.2.2.2.2.1 u a0 a1)) (hS7 : ∀ (u : MS) a0, Kzc u0 u → KzE u0 (S.2.2.2.2.2.2.2.1 u a0)) (hS8 : ∀ (u : MS) a0, Kzc u0 u → KzE u0 (S.2.2.2.2.2.2.2.2.1 u a0)) (hS9 : ∀ (u : MS) a0, Kzc u0 u → KzE u0 (S.2.2.2.2.2.2.2.2.2.1 u a0)) (hS10 : ∀ (u : MS) a0 a1, Kzc u0 u → KzE u0 (S.2.2.2.2.2.2.2.2.2.2.1 u a0 a1)) (hS11 : ∀ (u : MS) a0 a1, Kzc u0 u → KzE u0 (S.2.2.2.2.2.2.2.2.2.2.2.1 u a0 a1)) (hS12 : ∀ (u : MS) a0 a1 a2, Kzc u0 u → KzE u0 (S.2.2.2.2.2.2.2.2.2.2.2.2 u a0 a1 a2)) (n : Nat) : (∀ (u : MS) a0 a1, Kzc u0 u → KzE u0 ((hg_Cm_body N S n) u a0 a1)) := by
  induction n with
  | zero => exact fun _ _ _ _ => Kz_none
  | succ n ih => exact fun _ _ _ h => yz_hb_Cm_body_2 (N := N) h hS0 hS1 hS2 hS3 hS4 hS5 hS6 hS7 hS8 hS9 hS10 hS11 hS12 ih
theorem yz_hm_Cm_body {S : SF_Cm_fun} {v1 : Int32} {v2 : Int32} (h : Kzc u0 u) (hS0 : ∀ (u : MS) a0, Kzc u0 u → KzE u0 (S.1 u a0)) (hS1 : ∀ (u : MS) a0 a1, Kzc u0 u → KzE u0 (S.2.1 u a0 a1)) (hS2 : ∀ (u : MS) a0 a1 a2 a3, Kzc u0 u → KzE u0 (S.2.2.1 u a0 a1 a2 a3)) (hS3 : ∀ (u : MS) a0 a1, Kzc u0 u → KzE u0 (S.2.2.2.1 u a0 a1)) (hS4 : ∀ (u : MS) a0 a1, Kzc u0 u → KzE u0 (S.2.2.2.2.1 u a0 a1)) (hS5 : ∀ (u : MS) a0 a1, Kzc u0 u → KzE u0 (S.2.2.2.2.2.1 u a0 a1)) (hS6 : ∀ (u : MS) a0 a1, Kzc u0 u → KzE u0 (S.2.2.2.2.2.2.1 u a0 a1)) (hS7 : ∀ (u : MS) a0, Kzc u0 u → KzE u0 (S.2.2.2.2.2.2.2.1 u a0)) (hS8 : ∀ (u : MS) a0, Kzc u0 u → KzE u0 (S.2.2.2.2.2.2.2.2.1 u a0)) (hS9 : ∀ (u : MS) a0, Kzc u0 u → KzE u0 (S.2.2.2.2.2.2.2.2.2.1 u a0)) (hS10 : ∀ (u : MS) a0 a1, Kzc u0 u → KzE u0 (S.2.2.2.2.2.2.2.2.2.2.1 u a0 a1)) (hS11 : ∀ (u : MS) a0 a1, Kzc u0 u → KzE u0 (S.2.2.2.2.2.2.2.2.2.2.2.1 u a0 a1)) (hS12 : ∀ (u : MS) a0 a1 a2, Kzc u0 u → KzE u0 (S.2.2.2.2.2.2.2.2.2.2.2.2 u a0 a1 a2)) : KzE u0 (hm_Cm_body N S u v1 v2) := by
  unfold hm_Cm_body
  exact yz_hb_Cm_body_0 h hS0 hS1 hS2 hS3 hS4 hS5 hS6 hS7 hS8 hS9 hS10 hS11 hS12 ((yz_hg_Cm_body (N := N) hS0 hS1 hS2 hS3 hS4 hS5 hS6 hS7 hS8 hS9 hS10 hS11 hS12 N))
theorem yz_hb_Cm_compound_455 {S : SF_Cm_fun} {G : Unit} (h : Kzc u0 u) (hS0 : ∀ (u : MS) a0, Kzc u0 u → KzE u0 (S.1 u a0)) (hS1 : ∀ (u : MS) a0 a1, Kzc u0 u → KzE u0 (S.2.1 u a0 a1)) (hS2 : ∀ (u : MS) a0 a1 a2 a3, Kzc u0 u → KzE u0 (S.2.2.1 u a0 a1 a2 a3)) (hS3 : ∀ (u : MS) a0 a1, Kzc u0 u → KzE u0 (S.2.2.2.1 u a0 a1)) (hS4 : ∀ (u : MS) a0 a1, Kzc u0 u → KzE u0 (S.2.2.2.2.1 u a0 a1)) (hS5 : ∀ (u : MS) a0 a1, Kzc u0 u → KzE u0 (S.2.2.2.2.2.1 u a0 a1)) (hS6 : ∀ (u : MS) a0 a1, Kzc u0 u → KzE u0 (S.2.2.2.2.2.2.1 u a0 a1)) (hS7 : ∀ (u : MS) a0, Kzc u0 u → KzE u0 (S.2.2.2.2.2.2.2.1 u a0)) (hS8 : ∀ (u : MS) a0, Kzc u0 u → KzE u0 (S.2.2.2.2.2.2.2.2.1 u a0)) (hS9 : ∀ (u : MS) a0, Kzc u0 u → KzE u0 (S.2.2.2.2.2.2.2.2.2.1 u a0)) (hS10 : ∀ (u : MS) a0 a1, Kzc u0 u → KzE u0 (S.2.2.2.2.2.2.2.2.2.2.1 u a0 a1)) (hS11 : ∀ (u : MS) a0 a1, Kzc u0 u → KzE u0 (S.2.2.2.2.2.2.2.2.2.2.2.1 u a0 a1)) (hS12 : ∀ (u : MS) a0 a1 a2, Kzc u0 u → KzE u0 (S.2.2.2.2.2.2.2.2.2.2.2.2 u a0 a1 a2)) : KzE u0 (hb_Cm_compound_455 N S G u) := by
  unfold hb_Cm_compound_455
  repeat' (first | with_reducible assumption | with_reducible refine Kz_br ?_ ?_ | with_reducible refine Kz_bnd ?_ (fun _ _ _ => ?_) | with_reducible refine Kz_ck ?_ | with_reducible refine Kz_ltm ?_ (fun _ _ => ?_) | with_reducible refine Kz_some ?_ | with_reducible refine Kz_bo (fun _ => ?_) | with_reducible refine Kz_T ?_ (fun _ _ _ => ?_) | with_reducible refine Kz_H ?_ (fun _ _ _ => ?_) (fun _ _ => ?_) | with_reducible exact hS0 _ _ (by assumption) | with_reducible exact hS1 _ _ _ (by assumption) | with_reducible exact hS2 _ _ _ _ _ (by assumption) | with_reducible exact hS3 _ _ _ (by assumption) | with_reducible exact hS4 _ _ _ (by assumption) | with_reducible exact hS5 _ _ _ (by assumption) | with_reducible exact hS6 _ _ _ (by assumption) | with_reducible exact hS7 _ _ (by assumption) | with_reducible exact hS8 _ _ (by assumption) | with_reducible exact hS9 _ _ (by assumption) | with_reducible exact hS10 _ _ _ (by assumption) | with_reducible exact hS11 _ _ _ (by assumption) | with_reducible exact hS12 _ _ _ _ (by assumption) | with_reducible refine Kz_ltv (fun _ => ?_) | with_reducible refine Kz_I ?_ (by decide) | with_reducible refine Kz_A ?_ (by decide) | with_reducible refine Kz_J ?_ | with_reducible refine Kz_L ?_)
theorem yz_hb_Cm_compound_72 {S : SF_Cm_fun} {G : Unit} {t1 : Int32} (h : Kzc u0 u) (hS0 : ∀ (u : MS) a0, Kzc u0 u → KzE u0 (S.1 u a0)) (hS1 : ∀ (u : MS) a0 a1, Kzc u0 u → KzE u0 (S.2.1 u a0 a1)) (hS2 : ∀ (u : MS) a0 a1 a2 a3, Kzc u0 u → KzE u0 (S.2.2.1 u a0 a1 a2 a3)) (hS3 : ∀ (u : MS) a0 a1, Kzc u0 u → KzE u0 (S.2.2.2.1 u a0 a1)) (hS4 : ∀ (u : MS) a0 a1, Kzc u0 u → KzE u0 (S.2.2.2.2.1 u a0 a1)) (hS5 : ∀ (u : MS) a0 a1, Kzc u0 u → KzE u0 (S.2.2.2.2.2.1 u a0 a1)) (hS6 : ∀ (u : MS) a0 a1, Kzc u0 u → KzE u0 (S.2.2.2.2.2.2.1 u a0 a1)) (hS7 : ∀ (u : MS) a0, Kzc u0 u → KzE u0 (S.2.2.2.2.2.2.2.1 u a0)) (hS8 : ∀ (u : MS) a0, Kzc u0 u → KzE u0 (S.2.2.2.2.2.2.2.2.1 u a0)) (hS9 : ∀ (u : MS) a0, Kzc u0 u → KzE u0 (S.2.2.2.2.2.2.2.2.2.1 u a0)) (hS10 : ∀ (u : MS) a0 a1, Kzc u0 u → KzE u0 (S.2.2.2.2.2.2.2.2.2.2.1 u a0 a1)) (hS11 : ∀ (u : MS) a0 a1, Kzc u0 u → KzE u0 (S.2.2.2.2.2.2.2.2.2.2.2.1 u a0 a1)) (hS12 : ∀ (u : MS) a0 a1 a2, Kzc u0 u → KzE u0 (S.2.2.2.2.2.2.2.2.2.2.2.2 u a0 a1 a2)) : KzE u0 (hb_Cm_compound_72 N S G u t1) := by
  unfold hb_Cm_compound_72
  repeat' (first | with_reducible assumption | with_reducible refine Kz_br ?_ ?_ | with_reducible refine Kz_bnd ?_ (fun _ _ _ => ?_) | with_reducible refine Kz_ck ?_ | with_reducible refine Kz_ltm ?_ (fun _ _ => ?_) | with_reducible refine Kz_some ?_ | with_reducible refine Kz_bo (fun _ => ?_) | with_reducible refine Kz_T ?_ (fun _ _ _ => ?_) | with_reducible refine Kz_H ?_ (fun _ _ _ => ?_) (fun _ _ => ?_) | with_reducible exact yz_hm_Co_put (by assumption) | with_reducible exact hS0 _ _ (by assumption) | with_reducible exact hS1 _ _ _ (by assumption) | with_reducible exact hS2 _ _ _ _ _ (by assumption) | with_reducible exact hS3 _ _ _ (by assumption) | with_reducible exact hS4 _ _ _ (by assumption) | with_reducible exact hS5 _ _ _ (by assumption) | with_reducible exact hS6 _ _ _ (by assumption) | with_reducible exact hS7 _ _ (by assumption) | with_reducible exact hS8 _ _ (by assumption) | with_reducible exact hS9 _ _ (by assumption) | with_reducible exact hS10 _ _ _ (by assumption) | with_reducible exact hS11 _ _ _ (by assumption) | with_reducible exact hS12 _ _ _ _ (by assumption) | with_reducible refine Kz_ltv (fun _ => ?_) | with_reducible refine Kz_I ?_ (by decide) | with_reducible refine Kz_A ?_ (by decide) | with_reducible refine Kz_J ?_ | with_reducible refine Kz_L ?_)
theorem yz_hb_Cm_compound_33 {S : SF_Cm_fun} {G : Unit} {v1 : Int32} (h : Kzc u0 u) (hS0 : ∀ (u : MS) a0, Kzc u0 u → KzE u0 (S.1 u a0)) (hS1 : ∀ (u : MS) a0 a1, Kzc u0 u → KzE u0 (S.2.1 u a0 a1)) (hS2 : ∀ (u : MS) a0 a1 a2 a3, Kzc u0 u → KzE u0 (S.2.2.1 u a0 a1 a2 a3)) (hS3 : ∀ (u : MS) a0 a1, Kzc u0 u → KzE u0 (S.2.2.2.1 u a0 a1)) (hS4 : ∀ (u : MS) a0 a1, Kzc u0 u → KzE u0 (S.2.2.2.2.1 u a0 a1)) (hS5 : ∀ (u : MS) a0 a1, Kzc u0 u → KzE u0 (S.2.2.2.2.2.1 u a0 a1)) (hS6 : ∀ (u : MS) a0 a1, Kzc u0 u → KzE u0 (S.2.2.2.2.2.2.1 u a0 a1)) (hS7 : ∀ (u : MS) a0, Kzc u0 u → KzE u0 (S.2.2.2.2.2.2.2.1 u a0)) (hS8 : ∀ (u : MS) a0, Kzc u0 u → KzE u0 (S.2.2.2.2.2.2.2.2.1 u a0)) (hS9 : ∀ (u : MS) a0, Kzc u0 u → KzE u0 (S.2.2.2.2.2.2.2.2.2.1 u a0)) (hS10 : ∀ (u : MS) a0 a1, Kzc u0 u → KzE u0 (S.2.2.2.2.2.2.2.2.2.2.1 u a0 a1)) (hS11 : ∀ (u : MS) a0 a1, Kzc u0 u → KzE u0 (S.2.2.2.2.2.2.2.2.2.2.2.1 u a0 a1)) (hS12 : ∀ (u : MS) a0 a1 a2, Kzc u0 u → KzE u0 (S.2.2.2.2.2.2.2.2.2.2.2.2 u a0 a1 a2)) : KzE u0 (hb_Cm_compound_33 N S G u v1) := by
  unfold hb_Cm_compound_33
  repeat' (first | with_reducible assumption | with_reducible refine Kz_br ?_ ?_ | with_reducible refine Kz_bnd ?_ (fun _ _ _ => ?_) | with_reducible refine Kz_ck ?_ | with_reducible refine Kz_ltm ?_ (fun _ _ => ?_) | with_reducible refine Kz_some ?_ | with_reducible refine Kz_bo (fun _ => ?_) | with_reducible refine Kz_T ?_ (fun _ _ _ => ?_) | with_reducible refine Kz_H ?_ (fun _ _ _ => ?_) (fun _ _ => ?_) | with_reducible exact yz_hb_Cm_compound_72 (by assumption) hS0 hS1 hS2 hS3 hS4 hS5 hS6 hS7 hS8 hS9 hS10 hS11 hS12 | with_reducible exact hS0 _ _ (by assumption) | with_reducible exact hS1 _ _ _ (by assumption) | with_reducible exact hS2 _ _ _ _ _ (by assumption) | with_reducible exact hS3 _ _ _ (by assumption) | with_reducible exact hS4 _ _ _ (by assumption) | with_reducible exact hS5 _ _ _ (by assumption) | with_reducible exact hS6 _ _ _ (by assumption) | with_reducible exact hS7 _ _ (by assumption) | with_reducible exact hS8 _ _ (by assumption) | with_reducible exact hS9 _ _ (by assumption) | with_reducible exact hS10 _ _ _ (by assumption) | with_reducible exact hS11 _ _ _ (by assumption) | with_reducible exact hS12 _ _ _ _ (by assumption) | with_reducible refine Kz_ltv (fun _ => ?_) | with_reducible refine Kz_I ?_ (by decide) | with_reducible refine Kz_A ?_ (by decide) | with_reducible refine Kz_J ?_ | with_reducible refine Kz_L ?_)
theorem yz_hb_Cm_compound_0 {S : SF_Cm_fun} {G : Unit} {v1 : Int32} {v2 : Int32} (h : Kzc u0 u) (hS0 : ∀ (u : MS) a0, Kzc u0 u → KzE u0 (S.1 u a0)) (hS1 : ∀ (u : MS) a0 a1, Kzc u0 u → KzE u0 (S.2.1 u a0 a1)) (hS2 : ∀ (u : MS) a0 a1 a2 a3, Kzc u0 u → KzE u0 (S.2.2.1 u a0 a1 a2 a3)) (hS3 : ∀ (u : MS) a0 a1, Kzc u0 u → KzE u0 (S.2.2.2.1 u a0 a1)) (hS4 : ∀ (u : MS) a0 a1, Kzc u0 u → KzE u0 (S.2.2.2.2.1 u a0 a1)) (hS5 : ∀ (u : MS) a0 a1, Kzc u0 u → KzE u0 (S.2.2.2.2.2.1 u a0 a1)) (hS6 : ∀ (u : MS) a0 a1, Kzc u0 u → KzE u0 (S.2.2.2.2.2.2.1 u a0 a1)) (hS7 : ∀ (u : MS) a0, Kzc u0 u → KzE u0 (S.2.2.2.2.2.2.2.1 u a0)) (hS8 : ∀ (u : MS) a0, Kzc u0 u → KzE u0 (S.2.2.2.2.2.2.2.2.1 u a0)) (hS9 : ∀ (u : MS) a0, Kzc u0 u → KzE u0 (S.2.2.2.2.2.2.2.2.2.1 u a0)) (hS10 : ∀ (u : MS) a0 a1, Kzc u0 u → KzE u0 (S.2.2.2.2.2.2.2.2.2.2.1 u a0 a1)) (hS11 : ∀ (u : MS) a0 a1, Kzc u0 u → KzE u0 (S.2.2.2.2.2.2.2.2.2.2.2.1 u a0 a1)) (hS12 : ∀ (u : MS) a0 a1 a2, Kzc u0 u → KzE u0 (S.2.2.2.2.2.2.2.2.2.2.2.2 u a0 a1 a2)) : KzE u0 (hb_Cm_compound_0 N S G u v1 v2) := by
  unfold hb_Cm_compound_0
  repeat' (first | with_reducible assumption | with_reducible refine Kz_br ?_ ?_ | with_reducible refine Kz_bnd ?_ (fun _ _ _ => ?_) | with_reducible refine Kz_ck ?_ | with_reducible refine Kz_ltm ?_ (fun _ _ => ?_) | with_reducible refine Kz_some ?_ | with_reducible refine Kz_bo (fun _ => ?_) | with_reducible refine Kz_T ?_ (fun _ _ _ => ?_) | with_reducible refine Kz_H ?_ (fun _ _ _ => ?_) (fun _ _ => ?_) | with_reducible exact yz_hb_Cm_compound_455 (by assumption) hS0 hS1 hS2 hS3 hS4 hS5 hS6 hS7 hS8 hS9 hS10 hS11 hS12 | with_reducible exact yz_hb_Cm_compound_33 (by assumption) hS0 hS1 hS2 hS3 hS4 hS5 hS6 hS7 hS8 hS9 hS10 hS11 hS12 | with_reducible exact yz_hm_Cm_notInGuard (by assumption) | with_reducible exact yz_hr_Cm_pattern (by assumption) | with_reducible exact yz_hm_Cm_forget (by assumption) | with_reducible exact yz_hm_Co_arrive (by assumption) | with_reducible exact yz_hm_Cm_funOf (by assumption) | with_reducible exact yz_hm_Co_hook (by assumption) | with_reducible exact yz_hm_Co_put (by assumption) | with_reducible exact hS0 _ _ (by assumption) | with_reducible exact hS1 _ _ _ (by assumption) | with_reducible exact hS2 _ _ _ _ _ (by assumption) | with_reducible exact hS3 _ _ _ (by assumption) | with_reducible exact hS4 _ _ _ (by assumption) | with_reducible exact hS5 _ _ _ (by assumption) | with_reducible exact hS6 _ _ _ (by assumption) | with_reducible exact hS7 _ _ (by assumption) | with_reducible exact hS8 _ _ (by assumption) | with_reducible exact hS9 _ _ (by assumption) | with_reducible exact hS10 _ _ _ (by assumption) | with_reducible exact hS11 _ _ _ (by assumption) | with_reducible exact hS12 _ _ _ _ (by assumption) | with_reducible refine Kz_ltv (fun _ => ?_) | with_reducible refine Kz_I ?_ (by decide) | with_reducible refine Kz_A ?_ (by decide) | with_reducible refine Kz_J ?_ | with_reducible refine Kz_L ?_)
theorem yz_hm_Cm_compound {S : SF_Cm_fun} {v1 : Int32} {v2 : Int32} (h : Kzc u0 u) (hS0 : ∀ (u : MS) a0, Kzc u0 u → KzE u0 (S.1 u a0)) (hS1 : ∀ (u : MS) a0 a1, Kzc u0 u → KzE u0 (S.2.1 u a0 a1)) (hS2 : ∀ (u : MS) a0 a1 a2 a3, Kzc u0 u → KzE u0 (S.2.2.1 u a0 a1 a2 a3)) (hS3 : ∀ (u : MS) a0 a1, Kzc u0 u → KzE u0 (S.2.2.2.1 u a0 a1)) (hS4 : ∀ (u : MS) a0 a1, Kzc u0 u → KzE u0 (S.2.2.2.2.1 u a0 a1)) (hS5 : ∀ (u : MS) a0 a1, Kzc u0 u → KzE u0 (S.2.2.2.2.2.1 u a0 a1)) (hS6 : ∀ (u : MS) a0 a1, Kzc u0 u → KzE u0 (S.2.2.2.2.2.2.1 u a0 a1)) (hS7 : ∀ (u : MS) a0, Kzc u0 u → KzE u0 (S.2.2.2.2.2.2.2.1 u a0)) (hS8 : ∀ (u : MS) a0, Kzc u0 u → KzE u0 (S.2.2.2.2.2.2.2.2.1 u a0)) (hS9 : ∀ (u : MS) a0, Kzc u0 u → KzE u0 (S.2.2.2.2.2.2.2.2.2.1 u a0)) (hS10 : ∀ (u : MS) a0 a1, Kzc u0 u → KzE u0 (S.2.2.2.2.2.2.2.2.2.2.1 u a0 a1)) (hS11 : ∀ (u : MS) a0 a1, Kzc u0 u → KzE u0 (S.2.2.2.2.2.2.2.2.2.2.2.1 u a0 a1)) (hS12 : ∀ (u : MS) a0 a1 a2, Kzc u0 u → KzE u0 (S.2.2.2.2.2.2.2.2.2.2.2.2 u a0 a1 a2)) : KzE u0 (hm_Cm_compound N S u v1 v2) := by
  unfold hm_Cm_compound
  exact yz_hb_Cm_compound_0 h hS0 hS1 hS2 hS3 hS4 hS5 hS6 hS7 hS8 hS9 hS10 hS11 hS12
theorem yz_hb_Cm_apply_87 {S : SF_Cm_fun} {G : (MS → Int32 → Int32 → Int32 → Option (MS × Unit))} {v2 : Int32} {v3 : Int32} {v4 : Int32} {t1 : Int32} (h : Kzc u0 u) (hS0 : ∀ (u : MS) a0, Kzc u0 u → KzE u0 (S.1 u a0)) (hS1 : ∀ (u : MS) a0 a1, Kzc u0 u → KzE u0 (S.2.1 u a0 a1)) (hS2 : ∀ (u : MS) a0 a1 a2 a3, Kzc u0 u → KzE u0 (S.2.2.1 u a0 a1 a2 a3)) (hS3 : ∀ (u : MS) a0 a1, Kzc u0 u → KzE u0 (S.2.2.2.1 u a0 a1)) (hS4 : ∀ (u : MS) a0 a1, Kzc u0 u → KzE u0 (S.2.2.2.2.1 u a0 a1)) (hS5 : ∀ (u : MS) a0 a1, Kzc u0 u → KzE u0 (S.2.2.2.2.2.1 u a0 a1)) (hS6 : ∀ (u : MS) a0 a1, Kzc u0 u → KzE u0 (S.2.2.2.2.2.2.1 u a0 a1)) (hS7 : ∀ (u : MS) a0, Kzc u0 u → KzE u0 (S.2.2.2.2.2.2.2.1 u a0)) (hS8 : ∀ (u : MS) a0, Kzc u0 u → KzE u0 (S.2.2.2.2.2.2.2.2.1 u a0)) (hS9 : ∀ (u : MS) a0, Kzc u0 u → KzE u0 (S.2.2.2.2.2.2.2.2.2.1 u a0)) (hS10 : ∀ (u : MS) a0 a1, Kzc u0 u → KzE u0 (S.2.2.2.2.2.2.2.2.2.2.1 u a0 a1)) (hS11 : ∀ (u : MS) a0 a1, Kzc u0 u → KzE u0 (S.2.2.2.2.2.2.2.2.2.2.2.1 u a0 a1)) (hS12 : ∀ (u : MS) a0 a1 a2, Kzc u0 u → KzE u0 (S.2.2.2.2.2.2.2.2.2.2.2.2 u a0 a1 a2)) (hG0 : ∀ (u : MS) a0 a1 a2, Kzc u0 u → KzE u0 (G u a0 a1 a2)) : KzE u0 (hb_Cm_apply_87 N S G u v2 v3 v4 t1) := by
  unfold hb_Cm_apply_87
  repeat' (first | with_reducible assumption | with_reducible refine Kz_br ?_ ?_ | with_reducible refine Kz_bnd ?_ (fun _ _ _ => ?_) | with_reducible refine Kz_ck ?_ | with_reducible refine Kz_ltm ?_ (fun _ _ => ?_) | with_reducible refine Kz_some ?_ | with_reducible refine Kz_bo (fun _ => ?_) | with_reducible refine Kz_T ?_ (fun _ _ _ => ?_) | with_reducible refine Kz_H ?_ (fun _ _ _ => ?_) (fun _ _ => ?_) | with_reducible exact yz_hm_Co_put (by assumption) | with_reducible exact hS0 _ _ (by assumption) | with_reducible exact hS1 _ _ _ (by assumption) | with_reducible exact hS2 _ _ _ _ _ (by assumption) | with_reducible exact hS3 _ _ _ (by assumption) | with_reducible exact hS4 _ _ _ (by assumption) | with_reducible exact hS5 _ _ _ (by assumption) | with_reducible exact hS6 _ _ _ (by assumption) | with_reducible exact hS7 _ _ (by assumption) | with_reducible exact hS8 _ _ (by assumption) | with_reducible exact hS9 _ _ (by assumption) | with_reducible exact hS10 _ _ _ (by assumption) | with_reducible exact hS11 _ _ _ (by assumption) | with_reducible exact hS12 _ _ _ _ (by assumption) | with_reducible exact hG0 _ _ _ _ (by assumption) | with_reducible refine Kz_ltv (fun _ => ?_) | with_reducible refine Kz_I ?_ (by decide) | with_reducible refine Kz_A ?_ (by decide) | with_reducible refine Kz_J ?_ | with_reducible refine Kz_L ?_)
theorem yz_hb_Cm_apply_85 {S : SF_Cm_fun} {G : (MS → Int32 → Int32 → Int32 → Option (MS × Unit))} {v2 : Int32} {v3 : Int32} {v4 : Int32} (h : Kzc u0 u) (hS0 : ∀ (u : MS) a0, Kzc u0 u → KzE u0 (S.1 u a0)) (hS1 : ∀ (u : MS) a0 a1, Kzc u0 u → KzE u0 (S.2.1 u a0 a1)) (hS2 : ∀ (u : MS) a0 a1 a2 a3, Kzc u0 u → KzE u0 (S.2.2.1 u a0 a1 a2 a3)) (hS3 : ∀ (u : MS) a0 a1, Kzc u0 u → KzE u0 (S.2.2.2.1 u a0 a1)) (hS4 : ∀ (u : MS) a0 a1, Kzc u0 u → KzE u0 (S.2.2.2.2.1 u a0 a1)) (hS5 : ∀ (u : MS) a0 a1, Kzc u0 u → KzE u0 (S.2.2.2.2.2.1 u a0 a1)) (hS6 : ∀ (u : MS) a0 a1, Kzc u0 u → KzE u0 (S.2.2.2.2.2.2.1 u a0 a1)) (hS7 : ∀ (u : MS) a0, Kzc u0 u → KzE u0 (S.2.2.2.2.2.2.2.1 u a0)) (hS8 : ∀ (u : MS) a0, Kzc u0 u → KzE u0 (S.2.2.2.2.2.2.2.2.1 u a0)) (hS9 : ∀ (u : MS) a0, Kzc u0 u → KzE u0 (S.2.2.2.2.2.2.2.2.2.1 u a0)) (hS10 : ∀ (u : MS) a0 a1, Kzc u0 u → KzE u0 (S.2.2.2.2.2.2.2.2.2.2.1 u a0 a1)) (hS11 : ∀ (u : MS) a0 a1, Kzc u0 u → KzE u0 (S.2.2.2.2.2.2.2.2.2.2.2.1 u a0 a1)) (hS12 : ∀ (u : MS) a0 a1 a2, Kzc u0 u → KzE u0 (S.2.2.2.2.2.2.2.2.2.2.2.2 u a0 a1 a2)) (hG0 : ∀ (u : MS) a0 a1 a2, Kzc u0 u → KzE u0 (G u a0 a1 a2)) : KzE u0 (hb_Cm_apply_85 N S G u v2 v3 v4) := by
  unfold hb_Cm_apply_85
  repeat' (first | with_reducible assumption | with_reducible refine Kz_br ?_ ?_ | with_reducible refine Kz_bnd ?_ (fun _ _ _ => ?_) | with_reducible refine Kz_ck ?_ | with_reducible refine Kz_ltm ?_ (fun _ _ => ?_) | with_reducible refine Kz_some ?_ | with_reducible refine Kz_bo (fun _ => ?_) | with_reducible refine Kz_T ?_ (fun _ _ _ => ?_) | with_reducible refine Kz_H ?_ (fun _ _ _ => ?_) (fun _ _ => ?_) | with_reducible exact yz_hb_Cm_apply_87 (by assumption) hS0 hS1 hS2 hS3 hS4 hS5 hS6 hS7 hS8 hS9 hS10 hS11 hS12 hG0 | with_reducible exact hS0 _ _ (by assumption) | with_reducible exact hS1 _ _ _ (by assumption) | with_reducible exact hS2 _ _ _ _ _ (by assumption) | with_reducible exact hS3 _ _ _ (by assumption) | with_reducible exact hS4 _ _ _ (by assumption) | with_reducible exact hS5 _ _ _ (by assumption) | with_reducible exact hS6 _ _ _ (by assumption) | with_reducible exact hS7 _ _ (by assumption) | with_reducible exact hS8 _ _ (by assumption) | with_reducible exact hS9 _ _ (by assumption) | with_reducible exact hS10 _ _ _ (by assumption) | with_reducible exact hS11 _ _ _ (by assumption) | with_reducible exact hS12 _ _ _ _ (by assumption) | with_reducible exact hG0 _ _ _ _ (by assumption) | with_reducible refine Kz_ltv (fun _ => ?_) | with_reducible refine Kz_I ?_ (by decide) | with_reducible refine Kz_A ?_ (by decide) | with_reducible refine Kz_J ?_ | with_reducible refine Kz_L ?_)
theorem yz_hb_Cm_apply_40 {S : SF_Cm_fun} {G : (MS → Int32 → Int32 → Int32 → Option (MS × Unit))} {v2 : Int32} {v3 : Int32} {v4 : Int32} (h : Kzc u0 u) (hS0 : ∀ (u : MS) a0, Kzc u0 u → KzE u0 (S.1 u a0)) (hS1 : ∀ (u : MS) a0 a1, Kzc u0 u → KzE u0 (S.2.1 u a0 a1)) (hS2 : ∀ (u : MS) a0 a1 a2 a3, Kzc u0 u → KzE u0 (S.2.2.1 u a0 a1 a2 a3)) (hS3 : ∀ (u : MS) a0 a1, Kzc u0 u → KzE u0 (S.2.2.2.1 u a0 a1)) (hS4 : ∀ (u : MS) a0 a1, Kzc u0 u → KzE u0 (S.2.2.2.2.1 u a0 a1)) (hS5 : ∀ (u : MS) a0 a1, Kzc u0 u → KzE u0 (S.2.2.2.2.2.1 u a0 a1)) (hS6 : ∀ (u : MS) a0 a1, Kzc u0 u → KzE u0 (S.2.2.2.2.2.2.1 u a0 a1)) (hS7 : ∀ (u : MS) a0, Kzc u0 u → KzE u0 (S.2.2.2.2.2.2.2.1 u a0)) (hS8 : ∀ (u : MS) a0, Kzc u0 u → KzE u0 (S.2.2.2.2.2.2.2.2.1 u a0)) (hS9 : ∀ (u : MS) a0, Kzc u0 u → KzE u0 (S.2.2.2.2.2.2.2.2.2.1 u a0)) (hS10 : ∀ (u : MS) a0 a1, Kzc u0 u → KzE u0 (S.2.2.2.2.2.2.2.2.2.2.1 u a0 a1)) (hS11 : ∀ (u : MS) a0 a1, Kzc u0 u → KzE u0 (S.2.2.2.2.2.2.2.2.2.2.2.1 u a0 a1)) (hS12 : ∀ (u : MS) a0 a1 a2, Kzc u0 u → KzE u0 (S.2.2.2.2.2.2.2.2.2.2.2.2 u a0 a1 a2)) (hG0 : ∀ (u : MS) a0 a1 a2, Kzc u0 u → KzE u0 (G u a0 a1 a2)) : KzE u0 (hb_Cm_apply_40 N S G u v2 v3 v4) := by
  unfold hb_Cm_apply_40
  repeat' (first | with_reducible assumption | with_reducible refine Kz_br ?_ ?_ | with_reducible refine Kz_bnd ?_ (fun _ _ _ => ?_) | with_reducible refine Kz_ck ?_ | with_reducible refine Kz_ltm ?_ (fun _ _ => ?_) | with_reducible refine Kz_some ?_ | with_reducible refine Kz_bo (fun _ => ?_) | with_reducible refine Kz_T ?_ (fun _ _ _ => ?_) | with_reducible refine Kz_H ?_ (fun _ _ _ => ?_) (fun _ _ => ?_) | with_reducible exact yz_hb_Cm_apply_85 (by assumption) hS0 hS1 hS2 hS3 hS4 hS5 hS6 hS7 hS8 hS9 hS10 hS11 hS12 hG0 | with_reducible exact yz_hb_Cm_apply_87 (by assumption) hS0 hS1 hS2 hS3 hS4 hS5 hS6 hS7 hS8 hS9 hS10 hS11 hS12 hG0 | with_reducible exact hS0 _ _ (by assumption) | with_reducible exact hS1 _ _ _ (by assumption) | with_reducible exact hS2 _ _ _ _ _ (by assumption) | with_reducible exact hS3 _ _ _ (by assumption) | with_reducible exact hS4 _ _ _ (by assumption) | with_reducible exact hS5 _ _ _ (by assumption) | with_reducible exact hS6 _ _ _ (by assumption) | with_reducible exact hS7 _ _ (by assumption) | with_reducible exact hS8 _ _ (by assumption) | with_reducible exact hS9 _ _ (by assumption) | with_reducible exact hS10 _ _ _ (by assumption) | with_reducible exact hS11 _ _ _ (by assumption) | with_reducible exact hS12 _ _ _ _ (by assumption) | with_reducible exact hG0 _ _ _ _ (by assumption) | with_reducible refine Kz_ltv (fun _ => ?_) | with_reducible refine Kz_I ?_ (by decide) | with_reducible refine Kz_A ?_ (by decide) | with_reducible refine Kz_J ?_ | with_reducible refine Kz_L ?_)
theorem yz_hb_Cm_apply_0 {S : SF_Cm_fun} {G : (MS → Int32 → Int32 → Int32 → Option (MS × Unit))} {v1 : Int32} {v2 : Int32} (h : Kzc u0 u) (hS0 : ∀ (u : MS) a0, Kzc u0 u → KzE u0 (S.1 u a0)) (hS1 : ∀ (u : MS) a0 a1, Kzc u0 u → KzE u0 (S.2.1 u a0 a1)) (hS2 : ∀ (u : MS) a0 a1 a2 a3, Kzc u0 u → KzE u0 (S.2.2.1 u a0 a1 a2 a3)) (hS3 : ∀ (u : MS) a0 a1, Kzc u0 u → KzE u0 (S.2.2.2.1 u a0 a1)) (hS4 : ∀ (u : MS) a0 a1, Kzc u0 u → KzE u0 (S.2.2.2.2.1 u a0 a1)) (hS5 : ∀ (u : MS) a0 a1, Kzc u0 u → KzE u0 (S.2.2.2.2.2.1 u a0 a1)) (hS6 : ∀ (u : MS) a0 a1, Kzc u0 u → KzE u0 (S.2.2.2.2.2.2.1 u a0 a1)) (hS7 : ∀ (u : MS) a0, Kzc u0 u → KzE u0 (S.2.2.2.2.2.2.2.1 u a0)) (hS8 : ∀ (u : MS) a0, Kzc u0 u → KzE u0 (S.2.2.2.2.2.2.2.2.1 u a0)) (hS9 : ∀ (u : MS) a0, Kzc u0 u → KzE u0 (S.2.2.2.2.2.2.2.2.2.1 u a0)) (hS10 : ∀ (u : MS) a0 a1, Kzc u0 u → KzE u0 (S.2.2.2.2.2.2.2.2.2.2.1 u a0 a1)) (hS11 : ∀ (u : MS) a0 a1, Kzc u0 u → KzE u0 (S.2.2.2.2.2.2.2.2.2.2.2.1 u a0 a1)) (hS12 : ∀ (u : MS) a0 a1 a2, Kzc u0 u → KzE u0 (S.2.2.2.2.2.2.2.2.2.2.2.2 u a0 a1 a2)) (hG0 : ∀ (u : MS) a0 a1 a2, Kzc u0 u → KzE u0 (G u a0 a1 a2)) : KzE u0 (hb_Cm_apply_0 N S G u v1 v2) := by
  unfold hb_Cm_apply_0
  repeat' (first | with_reducible assumption | with_reducible refine Kz_br ?_ ?_ | with_reducible refine Kz_bnd ?_ (fun _ _ _ => ?_) | with_reducible refine Kz_ck ?_ | with_reducible refine Kz_ltm ?_ (fun _ _ => ?_) | with_reducible refine Kz_some ?_ | with_reducible refine Kz_bo (fun _ => ?_) | with_reducible refine Kz_T ?_ (fun _ _ _ => ?_) | with_reducible refine Kz_H ?_ (fun _ _ _ => ?_) (fun _ _ => ?_) | with_reducible exact yz_hm_Cm_notInGuard (by assumption) | with_reducible exact hS0 _ _ (by assumption) | with_reducible exact hS1 _ _ _ (by assumption) | with_reducible exact hS2 _ _ _ _ _ (by assumption) | with_reducible exact hS3 _ _ _ (by assumption) | with_reducible exact hS4 _ _ _ (by assumption) | with_reducible exact hS5 _ _ _ (by assumption) | with_reducible exact hS6 _ _ _ (by assumption) | with_reducible exact hS7 _ _ (by assumption) | with_reducible exact hS8 _ _ (by assumption) | with_reducible exact hS9 _ _ (by assumption) | with_reducible exact hS10 _ _ _ (by assumption) | with_reducible exact hS11 _ _ _ (by assumption) | with_reducible exact hS12 _ _ _ _ (by assumption) | with_reducible exact hG0 _ _ _ _ (by assumption) | with_reducible refine Kz_ltv (fun _ => ?_) | with_reducible refine Kz_I ?_ (by decide) | with_reducible refine Kz_A ?_ (by decide) | with_reducible refine Kz_J ?_ | with_reducible refine Kz_L ?_)
theorem yz_hg_Cm_apply {S : SF_Cm_fun} (hS0 : ∀ (u : MS) a0, Kzc u0 u → KzE u0 (S.1 u a0)) (hS1 : ∀ (u : MS) a0 a1, Kzc u0 u → KzE u0 (S.2.1 u a0 a1)) (hS2 : ∀ (u : MS) a0 a1 a2 a3, Kzc u0 u → KzE u0 (S.2.2.1 u a0 a1 a2 a3)) (hS3 : ∀ (u : MS) a0 a1, Kzc u0 u → KzE u0 (S.2.2.2.1 u a0 a1)) (hS4 : ∀ (u : MS) a0 a1, Kzc u0 u → KzE u0 (S.2.2.2.2.1 u a0 a1)) (hS5 : ∀ (u : MS) a0 a1, Kzc u0 u → KzE u0 (S.2.2.2.2.2.1 u a0 a1)) (hS6 : ∀ (u : MS) a0 a1, Kzc u0 u → KzE u0 (S.2.2.2.2.2.2.1 u a0 a1)) (hS7 : ∀ (u : MS) a0, Kzc u0 u → KzE u0 (S.2.2.2.2.2.2.2.1 u a0)) (hS8 : ∀ (u : MS) a0, Kzc u0 u → KzE u0 (S.2.2.2.2.2.2.2.2.1 u a0)) (hS9 : ∀ (u : MS) a0, Kzc u0 u → KzE u0 (S.2.2.2.2.2.2.2.2.2.1 u a0)) (hS10 : ∀ (u : MS) a0 a1, Kzc u0 u → KzE u0 (S.2.2.2.2.2.2.2.2.2.2.1 u a0 a1)) (hS11 : ∀ (u : MS) a0 a1, Kzc u0 u → KzE u0 (S.2.2.2.2.2.2.2.2.2.2.2.1 u a0 a1)) (hS12 : ∀ (u : MS) a0 a1 a2, Kzc u0 u → KzE u0 (S.2.2.2.2.2.2.2.2.2.2.2.2 u a0 a1 a2)) (n : Nat) : (∀ (u : MS) a0 a1 a2, Kzc u0 u → KzE u0 ((hg_Cm_apply N S n) u a0 a1 a2)) := by
  induction n with
  | zero => exact fun _ _ _ _ _ => Kz_none
  | succ n ih => exact fun _ _ _ _ h => yz_hb_Cm_apply_40 (N := N) h hS0 hS1 hS2 hS3 hS4 hS5 hS6 hS7 hS8 hS9 hS10 hS11 hS12 ih
theorem yz_hm_Cm_apply {S : SF_Cm_fun} {v1 : Int32} {v2 : Int32} (h : Kzc u0 u) (hS0 : ∀ (u : MS) a0, Kzc u0 u → KzE u0 (S.1 u a0)) (hS1 : ∀ (u : MS) a0 a1, Kzc u0 u → KzE u0 (S.2.1 u a0 a1)) (hS2 : ∀ (u : MS) a0 a1 a2 a3, Kzc u0 u → KzE u0 (S.2.2.1 u a0 a1 a2 a3)) (hS3 : ∀ (u : MS) a0 a1, Kzc u0 u → KzE u0 (S.2.2.2.1 u a0 a1)) (hS4 : ∀ (u : MS) a0 a1, Kzc u0 u → KzE u0 (S.2.2.2.2.1 u a0 a1)) (hS5 : ∀ (u : MS) a0 a1, Kzc u0 u → KzE u0 (S.2.2.2.2.2.1 u a0 a1)) (hS6 : ∀ (u : MS) a0 a1, Kzc u0 u → KzE u0 (S.2.2.2.2.2.2.1 u a0 a1)) (hS7 : ∀ (u : MS) a0, Kzc u0 u → KzE u0 (S.2.2.2.2.2.2.2.1 u a0)) (hS8 : ∀ (u : MS) a0, Kzc u0 u → KzE u0 (S.2.2.2.2.2.2.2.2.1 u a0)) (hS9 : ∀ (u : MS) a0, Kzc u0 u → KzE u0 (S.2.2.2.2.2.2.2.2.2.1 u a0)) (hS10 : ∀ (u : MS) a0 a1, Kzc u0 u → KzE u0 (S.2.2.2.2.2.2.2.2.2.2.1 u a0 a1)) (hS11 : ∀ (u : MS) a0 a1, Kzc u0 u → KzE u0 (S.2.2.2.2.2.2.2.2.2.2.2.1 u a0 a1)) (hS12 : ∀ (u : MS) a0 a1 a2, Kzc u0 u → KzE u0 (S.2.2.2.2.2.2.2.2.2.2.2.2 u a0 a1 a2)) : KzE u0 (hm_Cm_apply N S u v1 v2) := by
  unfold hm_Cm_apply
  exact yz_hb_Cm_apply_0 h hS0 hS1 hS2 hS3 hS4 hS5 hS6 hS7 hS8 hS9 hS10 hS11 hS12 ((yz_hg_Cm_apply (N := N) hS0 hS1 hS2 hS3 hS4 hS5 hS6 hS7 hS8 hS9 hS10 hS11 hS12 N))
theorem yz_hb_Cm_call_198 {S : SF_Cm_fun} {G : Unit} {v3 : Int32} {v4 : Int32} {v6 : Int32} {t1 : Int32} (h : Kzc u0 u) (hS0 : ∀ (u : MS) a0, Kzc u0 u → KzE u0 (S.1 u a0)) (hS1 : ∀ (u : MS) a0 a1, Kzc u0 u → KzE u0 (S.2.1 u a0 a1)) (hS2 : ∀ (u : MS) a0 a1 a2 a3, Kzc u0 u → KzE u0 (S.2.2.1 u a0 a1 a2 a3)) (hS3 : ∀ (u : MS) a0 a1, Kzc u0 u → KzE u0 (S.2.2.2.1 u a0 a1)) (hS4 : ∀ (u : MS) a0 a1, Kzc u0 u → KzE u0 (S.2.2.2.2.1 u a0 a1)) (hS5 : ∀ (u : MS) a0 a1, Kzc u0 u → KzE u0 (S.2.2.2.2.2.1 u a0 a1)) (hS6 : ∀ (u : MS) a0 a1, Kzc u0 u → KzE u0 (S.2.2.2.2.2.2.1 u a0 a1)) (hS7 : ∀ (u : MS) a0, Kzc u0 u → KzE u0 (S.2.2.2.2.2.2.2.1 u a0)) (hS8 : ∀ (u : MS) a0, Kzc u0 u → KzE u0 (S.2.2.2.2.2.2.2.2.1 u a0)) (hS9 : ∀ (u : MS) a0, Kzc u0 u → KzE u0 (S.2.2.2.2.2.2.2.2.2.1 u a0)) (hS10 : ∀ (u : MS) a0 a1, Kzc u0 u → KzE u0 (S.2.2.2.2.2.2.2.2.2.2.1 u a0 a1)) (hS11 : ∀ (u : MS) a0 a1, Kzc u0 u → KzE u0 (S.2.2.2.2.2.2.2.2.2.2.2.1 u a0 a1)) (hS12 : ∀ (u : MS) a0 a1 a2, Kzc u0 u → KzE u0 (S.2.2.2.2.2.2.2.2.2.2.2.2 u a0 a1 a2)) : KzE u0 (hb_Cm_call_198 N S G u v3 v4 v6 t1) := by
  unfold hb_Cm_call_198
  repeat' (first | with_reducible assumption | with_reducible refine Kz_br ?_ ?_ | with_reducible refine Kz_bnd ?_ (fun _ _ _ => ?_) | with_reducible refine Kz_ck ?_ | with_reducible refine Kz_ltm ?_ (fun _ _ => ?_) | with_reducible refine Kz_some ?_ | with_reducible refine Kz_bo (fun _ => ?_) | with_reducible refine Kz_T ?_ (fun _ _ _ => ?_) | with_reducible refine Kz_H ?_ (fun _ _ _ => ?_) (fun _ _ => ?_) | with_reducible exact yz_hm_Co_put (by assumption) | with_reducible exact hS0 _ _ (by assumption) | with_reducible exact hS1 _ _ _ (by assumption) | with_reducible exact hS2 _ _ _ _ _ (by assumption) | with_reducible exact hS3 _ _ _ (by assumption) | with_reducible exact hS4 _ _ _ (by assumption) | with_reducible exact hS5 _ _ _ (by assumption) | with_reducible exact hS6 _ _ _ (by assumption) | with_reducible exact hS7 _ _ (by assumption) | with_reducible exact hS8 _ _ (by assumption) | with_reducible exact hS9 _ _ (by assumption) | with_reducible exact hS10 _ _ _ (by assumption) | with_reducible exact hS11 _ _ _ (by assumption) | with_reducible exact hS12 _ _ _ _ (by assumption) | with_reducible refine Kz_ltv (fun _ => ?_) | with_reducible refine Kz_I ?_ (by decide) | with_reducible refine Kz_A ?_ (by decide) | with_reducible refine Kz_J ?_ | with_reducible refine Kz_L ?_)
theorem yz_hb_Cm_call_170 {S : SF_Cm_fun} {G : Unit} {v5 : Int32} {t1 : Int32} (h : Kzc u0 u) (hS0 : ∀ (u : MS) a0, Kzc u0 u → KzE u0 (S.1 u a0)) (hS1 : ∀ (u : MS) a0 a1, Kzc u0 u → KzE u0 (S.2.1 u a0 a1)) (hS2 : ∀ (u : MS) a0 a1 a2 a3, Kzc u0 u → KzE u0 (S.2.2.1 u a0 a1 a2 a3)) (hS3 : ∀ (u : MS) a0 a1, Kzc u0 u → KzE u0 (S.2.2.2.1 u a0 a1)) (hS4 : ∀ (u : MS) a0 a1, Kzc u0 u → KzE u0 (S.2.2.2.2.1 u a0 a1)) (hS5 : ∀ (u : MS) a0 a1, Kzc u0 u → KzE u0 (S.2.2.2.2.2.1 u a0 a1)) (hS6 : ∀ (u : MS) a0 a1, Kzc u0 u → KzE u0 (S.2.2.2.2.2.2.1 u a0 a1)) (hS7 : ∀ (u : MS) a0, Kzc u0 u → KzE u0 (S.2.2.2.2.2.2.2.1 u a0)) (hS8 : ∀ (u : MS) a0, Kzc u0 u → KzE u0 (S.2.2.2.2.2.2.2.2.1 u a0)) (hS9 : ∀ (u : MS) a0, Kzc u0 u → KzE u0 (S.2.2.2.2.2.2.2.2.2.1 u a0)) (hS10 : ∀ (u : MS) a0 a1, Kzc u0 u → KzE u0 (S.2.2.2.2.2.2.2.2.2.2.1 u a0 a1)) (hS11 : ∀ (u : MS) a0 a1, Kzc u0 u → KzE u0 (S.2.2.2.2.2.2.2.2.2.2.2.1 u a0 a1)) (hS12 : ∀ (u : MS) a0 a1 a2, Kzc u0 u → KzE u0 (S.2.2.2.2.2.2.2.2.2.2.2.2 u a0 a1 a2)) : KzE u0 (hb_Cm_call_170 N S G u v5 t1) := by
  unfold hb_Cm_call_170
  repeat' (first | with_reducible assumption | with_reducible refine Kz_br ?_ ?_ | with_reducible refine Kz_bnd ?_ (fun _ _ _ => ?_) | with_reducible refine Kz_ck ?_ | with_reducible refine Kz_ltm ?_ (fun _ _ => ?_) | with_reducible refine Kz_some ?_ | with_reducible refine Kz_bo (fun _ => ?_) | with_reducible refine Kz_T ?_ (fun _ _ _ => ?_) | with_reducible refine Kz_H ?_ (fun _ _ _ => ?_) (fun _ _ => ?_) | with_reducible exact yz_hm_Co_put (by assumption) | with_reducible exact hS0 _ _ (by assumption) | with_reducible exact hS1 _ _ _ (by assumption) | with_reducible exact hS2 _ _ _ _ _ (by assumption) | with_reducible exact hS3 _ _ _ (by assumption) | with_reducible exact hS4 _ _ _ (by assumption) | with_reducible exact hS5 _ _ _ (by assumption) | with_reducible exact hS6 _ _ _ (by assumption) | with_reducible exact hS7 _ _ (by assumption) | with_reducible exact hS8 _ _ (by assumption) | with_reducible exact hS9 _ _ (by assumption) | with_reducible exact hS10 _ _ _ (by assumption) | with_reducible exact hS11 _ _ _ (by assumption) | with_reducible exact hS12 _ _ _ _ (by assumption) | with_reducible refine Kz_ltv (fun _ => ?_) | with_reducible refine Kz_I ?_ (by decide) | with_reducible refine Kz_A ?_ (by decide) | with_reducible refine Kz_J ?_ | with_reducible refine Kz_L ?_)
theorem yz_hb_Cm_call_152 {S : SF_Cm_fun} {G : Unit} {v5 : Int32} {t0 : Int32} (h : Kzc u0 u) (hS0 : ∀ (u : MS) a0, Kzc u0 u → KzE u0 (S.1 u a0)) (hS1 : ∀ (u : MS) a0 a1, Kzc u0 u → KzE u0 (S.2.1 u a0 a1)) (hS2 : ∀ (u : MS) a0 a1 a2 a3, Kzc u0 u → KzE u0 (S.2.2.1 u a0 a1 a2 a3)) (hS3 : ∀ (u : MS) a0 a1, Kzc u0 u → KzE u0 (S.2.2.2.1 u a0 a1)) (hS4 : ∀ (u : MS) a0 a1, Kzc u0 u → KzE u0 (S.2.2.2.2.1 u a0 a1)) (hS5 : ∀ (u : MS) a0 a1, Kzc u0 u → KzE u0 (S.2.2.2.2.2.1 u a0 a1)) (hS6 : ∀ (u : MS) a0 a1, Kzc u0 u → KzE u0 (S.2.2.2.2.2.2.1 u a0 a1)) (hS7 : ∀ (u : MS) a0, Kzc u0 u → KzE u0 (S.2.2.2.2.2.2.2.1 u a0)) (hS8 : ∀ (u : MS) a0, Kzc u0 u → KzE u0 (S.2.2.2.2.2.2.2.2.1 u a0)) (hS9 : ∀ (u : MS) a0, Kzc u0 u → KzE u0 (S.2.2.2.2.2.2.2.2.2.1 u a0)) (hS10 : ∀ (u : MS) a0 a1, Kzc u0 u → KzE u0 (S.2.2.2.2.2.2.2.2.2.2.1 u a0 a1)) (hS11 : ∀ (u : MS) a0 a1, Kzc u0 u → KzE u0 (S.2.2.2.2.2.2.2.2.2.2.2.1 u a0 a1)) (hS12 : ∀ (u : MS) a0 a1 a2, Kzc u0 u → KzE u0 (S.2.2.2.2.2.2.2.2.2.2.2.2 u a0 a1 a2)) : KzE u0 (hb_Cm_call_152 N S G u v5 t0) := by
  unfold hb_Cm_call_152
  repeat' (first | with_reducible assumption | with_reducible refine Kz_br ?_ ?_ | with_reducible refine Kz_bnd ?_ (fun _ _ _ => ?_) | with_reducible refine Kz_ck ?_ | with_reducible refine Kz_ltm ?_ (fun _ _ => ?_) | with_reducible refine Kz_some ?_ | with_reducible refine Kz_bo (fun _ => ?_) | with_reducible refine Kz_T ?_ (fun _ _ _ => ?_) | with_reducible refine Kz_H ?_ (fun _ _ _ => ?_) (fun _ _ => ?_) | with_reducible exact yz_hb_Cm_call_170 (by assumption) hS0 hS1 hS2 hS3 hS4 hS5 hS6 hS7 hS8 hS9 hS10 hS11 hS12 | with_reducible exact hS0 _ _ (by assumption) | with_reducible exact hS1 _ _ _ (by assumption) | with_reducible exact hS2 _ _ _ _ _ (by assumption) | with_reducible exact hS3 _ _ _ (by assumption) | with_reducible exact hS4 _ _ _ (by assumption) | with_reducible exact hS5 _ _ _ (by assumption) | with_reducible exact hS6 _ _ _ (by assumption) | with_reducible exact hS7 _ _ (by assumption) | with_reducible exact hS8 _ _ (by assumption) | with_reducible exact hS9 _ _ (by assumption) | with_reducible exact hS10 _ _ _ (by assumption) | with_reducible exact hS11 _ _ _ (by assumption) | with_reducible exact hS12 _ _ _ _ (by assumption) | with_reducible refine Kz_ltv (fun _ => ?_) | with_reducible refine Kz_I ?_ (by decide) | with_reducible refine Kz_A ?_ (by decide) | with_reducible refine Kz_J ?_ | with_reducible refine Kz_L ?_)
theorem yz_hb_Cm_call_147 {S : SF_Cm_fun} {G : Unit} {v5 : Int32} (h : Kzc u0 u) (hS0 : ∀ (u : MS) a0, Kzc u0 u → KzE u0 (S.1 u a0)) (hS1 : ∀ (u : MS) a0 a1, Kzc u0 u → KzE u0 (S.2.1 u a0 a1)) (hS2 : ∀ (u : MS) a0 a1 a2 a3, Kzc u0 u → KzE u0 (S.2.2.1 u a0 a1 a2 a3)) (hS3 : ∀ (u : MS) a0 a1, Kzc u0 u → KzE u0 (S.2.2.2.1 u a0 a1)) (hS4 : ∀ (u : MS) a0 a1, Kzc u0 u → KzE u0 (S.2.2.2.2.1 u a0 a1)) (hS5 : ∀ (u : MS) a0 a1, Kzc u0 u → KzE u0 (S.2.2.2.2.2.1 u a0 a1)) (hS6 : ∀ (u : MS) a0 a1, Kzc u0 u → KzE u0 (S.2.2.2.2.2.2.1 u a0 a1)) (hS7 : ∀ (u : MS) a0, Kzc u0 u → KzE u0 (S.2.2.2.2.2.2.2.1 u a0)) (hS8 : ∀ (u : MS) a0, Kzc u0 u → KzE u0 (S.2.2.2.2.2.2.2.2.1 u a0)) (hS9 : ∀ (u : MS) a0, Kzc u0 u → KzE u0 (S.2.2.2.2.2.2.2.2.2.1 u a0)) (hS10 : ∀ (u : MS) a0 a1, Kzc u0 u → KzE u0 (S.2.2.2.2.2.2.2.2.2.2.1 u a0 a1)) (hS11 : ∀ (u : MS) a0 a1, Kzc u0 u → KzE u0 (S.2.2.2.2.2.2.2.2.2.2.2.1 u a0 a1)) (hS12 : ∀ (u : MS) a0 a1 a2, Kzc u0 u → KzE u0 (S.2.2.2.2.2.2.2.2.2.2.2.2 u a0 a1 a2)) : KzE u0 (hb_Cm_call_147 N S G u v5) := by
  unfold hb_Cm_call_147
  repeat' (first | with_reducible assumption | with_reducible refine Kz_br ?_ ?_ | with_reducible refine Kz_bnd ?_ (fun _ _ _ => ?_) | with_reducible refine Kz_ck ?_ | with_reducible refine Kz_ltm ?_ (fun _ _ => ?_) | with_reducible refine Kz_some ?_ | with_reducible refine Kz_bo (fun _ => ?_) | with_reducible refine Kz_T ?_ (fun _ _ _ => ?_) | with_reducible refine Kz_H ?_ (fun _ _ _ => ?_) (fun _ _ => ?_) | with_reducible exact yz_hb_Cm_call_152 (by assumption) hS0 hS1 hS2 hS3 hS4 hS5 hS6 hS7 hS8 hS9 hS10 hS11 hS12 | with_reducible exact hS0 _ _ (by assumption) | with_reducible exact hS1 _ _ _ (by assumption) | with_reducible exact hS2 _ _ _ _ _ (by assumption) | with_reducible exact hS3 _ _ _ (by assumption) | with_reducible exact hS4 _ _ _ (by assumption) | with_reducible exact hS5 _ _ _ (by assumption) | with_reducible exact hS6 _ _ _ (by assumption) | with_reducible exact hS7 _ _ (by assumption) | with_reducible exact hS8 _ _ (by assumption) | with_reducible exact hS9 _ _ (by assumption) | with_reducible exact hS10 _ _ _ (by assumption) | with_reducible exact hS11 _ _ _ (by assumption) | with_reducible exact hS12 _ _ _ _ (by assumption) | with_reducible refine Kz_ltv (fun _ => ?_) | with_reducible refine Kz_I ?_ (by decide) | with_reducible refine Kz_A ?_ (by decide) | with_reducible refine Kz_J ?_ | with_reducible refine Kz_L ?_)
theorem yz_hb_Cm_call_96 {S : SF_Cm_fun} {G : Unit} {v1 : Int32} {v2 : Int32} {v3 : Int32} {v4 : Int32} {v5 : Int32} {v6 : Int32} (h : Kzc u0 u) (hS0 : ∀ (u : MS) a0, Kzc u0 u → KzE u0 (S.1 u a0)) (hS1 : ∀ (u : MS) a0 a1, Kzc u0 u → KzE u0 (S.2.1 u a0 a1)) (hS2 : ∀ (u : MS) a0 a1 a2 a3, Kzc u0 u → KzE u0 (S.2.2.1 u a0 a1 a2 a3)) (hS3 : ∀ (u : MS) a0 a1, Kzc u0 u → KzE u0 (S.2.2.2.1 u a0 a1)) (hS4 : ∀ (u : MS) a0 a1, Kzc u0 u → KzE u0 (S.2.2.2.2.1 u a0 a1)) (hS5 : ∀ (u : MS) a0 a1, Kzc u0 u → KzE u0 (S.2.2.2.2.2.1 u a0 a1)) (hS6 : ∀ (u : MS) a0 a1, Kzc u0 u → KzE u0 (S.2.2.2.2.2.2.1 u a0 a1)) (hS7 : ∀ (u : MS) a0, Kzc u0 u → KzE u0 (S.2.2.2.2.2.2.2.1 u a0)) (hS8 : ∀ (u : MS) a0, Kzc u0 u → KzE u0 (S.2.2.2.2.2.2.2.2.1 u a0)) (hS9 : ∀ (u : MS) a0, Kzc u0 u → KzE u0 (S.2.2.2.2.2.2.2.2.2.1 u a0)) (hS10 : ∀ (u : MS) a0 a1, Kzc u0 u → KzE u0 (S.2.2.2.2.2.2.2.2.2.2.1 u a0 a1)) (hS11 : ∀ (u : MS) a0 a1, Kzc u0 u → KzE u0 (S.2.2.2.2.2.2.2.2.2.2.2.1 u a0 a1)) (hS12 : ∀ (u : MS) a0 a1 a2, Kzc u0 u → KzE u0 (S.2.2.2.2.2.2.2.2.2.2.2.2 u a0 a1 a2)) : KzE u0 (hb_Cm_call_96 N S G u v1 v2 v3 v4 v5 v6) := by
  unfold hb_Cm_call_96
  repeat' (first | with_reducible assumption | with_reducible refine Kz_br ?_ ?_ | with_reducible refine Kz_bnd ?_ (fun _ _ _ => ?_) | with_reducible refine Kz_ck ?_ | with_reducible refine Kz_ltm ?_ (fun _ _ => ?_) | with_reducible refine Kz_some ?_ | with_reducible refine Kz_bo (fun _ => ?_) | with_reducible refine Kz_T ?_ (fun _ _ _ => ?_) | with_reducible refine Kz_H ?_ (fun _ _ _ => ?_) (fun _ _ => ?_) | with_reducible exact yz_hb_Cm_call_147 (by assumption) hS0 hS1 hS2 hS3 hS4 hS5 hS6 hS7 hS8 hS9 hS10 hS11 hS12 | with_reducible exact yz_hb_Cm_call_152 (by assumption) hS0 hS1 hS2 hS3 hS4 hS5 hS6 hS7 hS8 hS9 hS10 hS11 hS12 | with_reducible exact yz_hb_Cm_call_198 (by assumption) hS0 hS1 hS2 hS3 hS4 hS5 hS6 hS7 hS8 hS9 hS10 hS11 hS12 | with_reducible exact hS0 _ _ (by assumption) | with_reducible exact hS1 _ _ _ (by assumption) | with_reducible exact hS2 _ _ _ _ _ (by assumption) | with_reducible exact hS3 _ _ _ (by assumption) | with_reducible exact hS4 _ _ _ (by assumption) | with_reducible exact hS5 _ _ _ (by assumption) | with_reducible exact hS6 _ _ _ (by assumption) | with_reducible exact hS7 _ _ (by assumption) | with_reducible exact hS8 _ _ (by assumption) | with_reducible exact hS9 _ _ (by assumption) | with_reducible exact hS10 _ _ _ (by assumption) | with_reducible exact hS11 _ _ _ (by assumption) | with_reducible exact hS12 _ _ _ _ (by assumption) | with_reducible refine Kz_ltv (fun _ => ?_) | with_reducible refine Kz_I ?_ (by decide) | with_reducible refine Kz_A ?_ (by decide) | with_reducible refine Kz_J ?_ | with_reducible refine Kz_L ?_)
theorem yz_hb_Cm_call_91 {S : SF_Cm_fun} {G : Unit} {v1 : Int32} {v2 : Int32} {v3 : Int32} {v4 : Int32} {v5 : Int32} {v6 : Int32} (h : Kzc u0 u) (hS0 : ∀ (u : MS) a0, Kzc u0 u → KzE u0 (S.1 u a0)) (hS1 : ∀ (u : MS) a0 a1, Kzc u0 u → KzE u0 (S.2.1 u a0 a1)) (hS2 : ∀ (u : MS) a0 a1 a2 a3, Kzc u0 u → KzE u0 (S.2.2.1 u a0 a1 a2 a3)) (hS3 : ∀ (u : MS) a0 a1, Kzc u0 u → KzE u0 (S.2.2.2.1 u a0 a1)) (hS4 : ∀ (u : MS) a0 a1, Kzc u0 u → KzE u0 (S.2.2.2.2.1 u a0 a1)) (hS5 : ∀ (u : MS) a0 a1, Kzc u0 u → KzE u0 (S.2.2.2.2.2.1 u a0 a1)) (hS6 : ∀ (u : MS) a0 a1, Kzc u0 u → KzE u0 (S.2.2.2.2.2.2.1 u a0 a1)) (hS7 : ∀ (u : MS) a0, Kzc u0 u → KzE u0 (S.2.2.2.2.2.2.2.1 u a0)) (hS8 : ∀ (u : MS) a0, Kzc u0 u → KzE u0 (S.2.2.2.2.2.2.2.2.1 u a0)) (hS9 : ∀ (u : MS) a0, Kzc u0 u → KzE u0 (S.2.2.2.2.2.2.2.2.2.1 u a0)) (hS10 : ∀ (u : MS) a0 a1, Kzc u0 u → KzE u0 (S.2.2.2.2.2.2.2.2.2.2.1 u a0 a1)) (hS11 : ∀ (u : MS) a0 a1, Kzc u0 u → KzE u0 (S.2.2.2.2.2.2.2.2.2.2.2.1 u a0 a1)) (hS12 : ∀ (u : MS) a0 a1 a2, Kzc u0 u → KzE u0 (S.2.2.2.2.2.2.2.2.2.2.2.2 u a0 a1 a2)) : KzE u0 (hb_Cm_call_91 N S G u v1 v2 v3 v4 v5 v6) := by
  unfold hb_Cm_call_91
  repeat' (first | with_reducible assumption | with_reducible refine Kz_br ?_ ?_ | with_reducible refine Kz_bnd ?_ (fun _ _ _ => ?_) | with_reducible refine Kz_ck ?_ | with_reducible refine Kz_ltm ?_ (fun _ _ => ?_) | with_reducible refine Kz_some ?_ | with_reducible refine Kz_bo (fun _ => ?_) | with_reducible refine Kz_T ?_ (fun _ _ _ => ?_) | with_reducible refine Kz_H ?_ (fun _ _ _ => ?_) (fun _ _ => ?_) | with_reducible exact yz_hb_Cm_call_96 (by assumption) hS0 hS1 hS2 hS3 hS4 hS5 hS6 hS7 hS8 hS9 hS10 hS11 hS12 | with_reducible exact yz_hm_Cm_notInGuard (by assumption) | with_reducible exact hS0 _ _ (by assumption) | with_reducible exact hS1 _ _ _ (by assumption) | with_reducible exact hS2 _ _ _ _ _ (by assumption) | with_reducible exact hS3 _ _ _ (by assumption) | with_reducible exact hS4 _ _ _ (by assumption) | with_reducible exact hS5 _ _ _ (by assumption) | with_reducible exact hS6 _ _ _ (by assumption) | with_reducible exact hS7 _ _ (by assumption) | with_reducible exact hS8 _ _ (by assumption) | with_reducible exact hS9 _ _ (by assumption) | with_reducible exact hS10 _ _ _ (by assumption) | with_reducible exact hS11 _ _ _ (by assumption) | with_reducible exact hS12 _ _ _ _ (by assumption) | with_reducible refine Kz_ltv (fun _ => ?_) | with_reducible refine Kz_I ?_ (by decide) | with_reducible refine Kz_A ?_ (by decide) | with_reducible refine Kz_J ?_ | with_reducible refine Kz_L ?_)
theorem yz_hb_Cm_call_77 {S : SF_Cm_fun} {G : Unit} {v1 : Int32} {v2 : Int32} {v3 : Int32} {v4 : Int32} {v5 : Int32} {v6 : Int32} (h : Kzc u0 u) (hS0 : ∀ (u : MS) a0, Kzc u0 u → KzE u0 (S.1 u a0)) (hS1 : ∀ (u : MS) a0 a1, Kzc u0 u → KzE u0 (S.2.1 u a0 a1)) (hS2 : ∀ (u : MS) a0 a1 a2 a3, Kzc u0 u → KzE u0 (S.2.2.1 u a0 a1 a2 a3)) (hS3 : ∀ (u : MS) a0 a1, Kzc u0 u → KzE u0 (S.2.2.2.1 u a0 a1)) (hS4 : ∀ (u : MS) a0 a1, Kzc u0 u → KzE u0 (S.2.2.2.2.1 u a0 a1)) (hS5 : ∀ (u : MS) a0 a1, Kzc u0 u → KzE u0 (S.2.2.2.2.2.1 u a0 a1)) (hS6 : ∀ (u : MS) a0 a1, Kzc u0 u → KzE u0 (S.2.2.2.2.2.2.1 u a0 a1)) (hS7 : ∀ (u : MS) a0, Kzc u0 u → KzE u0 (S.2.2.2.2.2.2.2.1 u a0)) (hS8 : ∀ (u : MS) a0, Kzc u0 u → KzE u0 (S.2.2.2.2.2.2.2.2.1 u a0)) (hS9 : ∀ (u : MS) a0, Kzc u0 u → KzE u0 (S.2.2.2.2.2.2.2.2.2.1 u a0)) (hS10 : ∀ (u : MS) a0 a1, Kzc u0 u → KzE u0 (S.2.2.2.2.2.2.2.2.2.2.1 u a0 a1)) (hS11 : ∀ (u : MS) a0 a1, Kzc u0 u → KzE u0 (S.2.2.2.2.2.2.2.2.2.2.2.1 u a0 a1)) (hS12 : ∀ (u : MS) a0 a1 a2, Kzc u0 u → KzE u0 (S.2.2.2.2.2.2.2.2.2.2.2.2 u a0 a1 a2)) : KzE u0 (hb_Cm_call_77 N S G u v1 v2 v3 v4 v5 v6) := by
  unfold hb_Cm_call_77
  repeat' (first | with_reducible assumption | with_reducible refine Kz_br ?_ ?_ | with_reducible refine Kz_bnd ?_ (fun _ _ _ => ?_) | with_reducible refine Kz_ck ?_ | with_reducible refine Kz_ltm ?_ (fun _ _ => ?_) | with_reducible refine Kz_some ?_ | with_reducible refine Kz_bo (fun _ => ?_) | with_reducible refine Kz_T ?_ (fun _ _ _ => ?_) | with_reducible refine Kz_H ?_ (fun _ _ _ => ?_) (fun _ _ => ?_) | with_reducible exact yz_hb_Cm_call_91 (by assumption) hS0 hS1 hS2 hS3 hS4 hS5 hS6 hS7 hS8 hS9 hS10 hS11 hS12 | with_reducible exact yz_hb_Cm_call_96 (by assumption) hS0 hS1 hS2 hS3 hS4 hS5 hS6 hS7 hS8 hS9 hS10 hS11 hS12 | with_reducible exact hS0 _ _ (by assumption) | with_reducible exact hS1 _ _ _ (by assumption) | with_reducible exact hS2 _ _ _ _ _ (by assumption) | with_reducible exact hS3 _ _ _ (by assumption) | with_reducible exact hS4 _ _ _ (by assumption) | with_reducible exact hS5 _ _ _ (by assumption) | with_reducible exact hS6 _ _ _ (by assumption) | with_reducible exact hS7 _ _ (by assumption) | with_reducible exact hS8 _ _ (by assumption) | with_reducible exact hS9 _ _ (by assumption) | with_reducible exact hS10 _ _ _ (by assumption) | with_reducible exact hS11 _ _ _ (by assumption) | with_reducible exact hS12 _ _ _ _ (by assumption) | with_reducible refine Kz_ltv (fun _ => ?_) | with_reducible refine Kz_I ?_ (by decide) | with_reducible refine Kz_A ?_ (by decide) | with_reducible refine Kz_J ?_ | with_reducible refine Kz_L ?_)
theorem yz_hb_Cm_call_0 {S : SF_Cm_fun} {G : Unit} {v1 : Int32} {v2 : Int32} (h : Kzc u0 u) (hS0 : ∀ (u : MS) a0, Kzc u0 u → KzE u0 (S.1 u a0)) (hS1 : ∀ (u : MS) a0 a1, Kzc u0 u → KzE u0 (S.2.1 u a0 a1)) (hS2 : ∀ (u : MS) a0 a1 a2 a3, Kzc u0 u → KzE u0 (S.2.2.1 u a0 a1 a2 a3)) (hS3 : ∀ (u : MS) a0 a1, Kzc u0 u → KzE u0 (S.2.2.2.1 u a0 a1)) (hS4 : ∀ (u : MS) a0 a1, Kzc u0 u → KzE u0 (S.2.2.2.2.1 u a0 a1)) (hS5 : ∀ (u : MS) a0 a1, Kzc u0 u → KzE u0 (S.2.2.2.2.2.1 u a0 a1)) (hS6 : ∀ (u : MS) a0 a1, Kzc u0 u → KzE u0 (S.2.2.2.2.2.2.1 u a0 a1)) (hS7 : ∀ (u : MS) a0, Kzc u0 u → KzE u0 (S.2.2.2.2.2.2.2.1 u a0)) (hS8 : ∀ (u : MS) a0, Kzc u0 u → KzE u0 (S.2.2.2.2.2.2.2.2.1 u a0)) (hS9 : ∀ (u : MS) a0, Kzc u0 u → KzE u0 (S.2.2.2.2.2.2.2.2.2.1 u a0)) (hS10 : ∀ (u : MS) a0 a1, Kzc u0 u → KzE u0 (S.2.2.2.2.2.2.2.2.2.2.1 u a0 a1)) (hS11 : ∀ (u : MS) a0 a1, Kzc u0 u → KzE u0 (S.2.2.2.2.2.2.2.2.2.2.2.1 u a0 a1)) (hS12 : ∀ (u : MS) a0 a1 a2, Kzc u0 u → KzE u0 (S.2.2.2.2.2.2.2.2.2.2.2.2 u a0 a1 a2)) : KzE u0 (hb_Cm_call_0 N S G u v1 v2) := by
  unfold hb_Cm_call_0
  repeat' (first | with_reducible assumption | with_reducible refine Kz_br ?_ ?_ | with_reducible refine Kz_bnd ?_ (fun _ _ _ => ?_) | with_reducible refine Kz_ck ?_ | with_reducible refine Kz_ltm ?_ (fun _ _ => ?_) | with_reducible refine Kz_some ?_ | with_reducible refine Kz_bo (fun _ => ?_) | with_reducible refine Kz_T ?_ (fun _ _ _ => ?_) | with_reducible refine Kz_H ?_ (fun _ _ _ => ?_) (fun _ _ => ?_) | with_reducible exact yz_hb_Cm_call_77 (by assumption) hS0 hS1 hS2 hS3 hS4 hS5 hS6 hS7 hS8 hS9 hS10 hS11 hS12 | with_reducible exact yz_hm_Cm_predefinedOf (by assumption) | with_reducible exact yz_hm_Cm_fault (by assumption) | with_reducible exact yz_hm_Co_seek (by assumption) | with_reducible exact hS0 _ _ (by assumption) | with_reducible exact hS1 _ _ _ (by assumption) | with_reducible exact hS2 _ _ _ _ _ (by assumption) | with_reducible exact hS3 _ _ _ (by assumption) | with_reducible exact hS4 _ _ _ (by assumption) | with_reducible exact hS5 _ _ _ (by assumption) | with_reducible exact hS6 _ _ _ (by assumption) | with_reducible exact hS7 _ _ (by assumption) | with_reducible exact hS8 _ _ (by assumption) | with_reducible exact hS9 _ _ (by assumption) | with_reducible exact hS10 _ _ _ (by assumption) | with_reducible exact hS11 _ _ _ (by assumption) | with_reducible exact hS12 _ _ _ _ (by assumption) | with_reducible refine Kz_ltv (fun _ => ?_) | with_reducible refine Kz_I ?_ (by decide) | with_reducible refine Kz_A ?_ (by decide) | with_reducible refine Kz_J ?_ | with_reducible refine Kz_L ?_)
theorem yz_hm_Cm_call {S : SF_Cm_fun} {v1 : Int32} {v2 : Int32} (h : Kzc u0 u) (hS0 : ∀ (u : MS) a0, Kzc u0 u → KzE u0 (S.1 u a0)) (hS1 : ∀ (u : MS) a0 a1, Kzc u0 u → KzE u0 (S.2.1 u a0 a1)) (hS2 : ∀ (u : MS) a0 a1 a2 a3, Kzc u0 u → KzE u0 (S.2.2.1 u a0 a1 a2 a3)) (hS3 : ∀ (u : MS) a0 a1, Kzc u0 u → KzE u0 (S.2.2.2.1 u a0 a1)) (hS4 : ∀ (u : MS) a0 a1, Kzc u0 u → KzE u0 (S.2.2.2.2.1 u a0 a1)) (hS5 : ∀ (u : MS) a0 a1, Kzc u0 u → KzE u0 (S.2.2.2.2.2.1 u a0 a1)) (hS6 : ∀ (u : MS) a0 a1, Kzc u0 u → KzE u0 (S.2.2.2.2.2.2.1 u a0 a1)) (hS7 : ∀ (u : MS) a0, Kzc u0 u → KzE u0 (S.2.2.2.2.2.2.2.1 u a0)) (hS8 : ∀ (u : MS) a0, Kzc u0 u → KzE u0 (S.2.2.2.2.2.2.2.2.1 u a0)) (hS9 : ∀ (u : MS) a0, Kzc u0 u → KzE u0 (S.2.2.2.2.2.2.2.2.2.1 u a0)) (hS10 : ∀ (u : MS) a0 a1, Kzc u0 u → KzE u0 (S.2.2.2.2.2.2.2.2.2.2.1 u a0 a1)) (hS11 : ∀ (u : MS) a0 a1, Kzc u0 u → KzE u0 (S.2.2.2.2.2.2.2.2.2.2.2.1 u a0 a1)) (hS12 : ∀ (u : MS) a0 a1 a2, Kzc u0 u → KzE u0 (S.2.2.2.2.2.2.2.2.2.2.2.2 u a0 a1 a2)) : KzE u0 (hm_Cm_call N S u v1 v2) := by
  unfold hm_Cm_call
  exact yz_hb_Cm_call_0 h hS0 hS1 hS2 hS3 hS4 hS5 hS6 hS7 hS8 hS9 hS10 hS11 hS12
theorem yz_hb_Cm_signs_198 {S : SF_Cm_fun} {G : (MS → Int32 → Int32 → Int32 → Int32 → Int32 → Option (MS × Unit))} {v2 : Int32} {v3 : Int32} {v4 : Int32} {v5 : Int32} {v6 : Int32} (h : Kzc u0 u) (hS0 : ∀ (u : MS) a0, Kzc u0 u → KzE u0 (S.1 u a0)) (hS1 : ∀ (u : MS) a0 a1, Kzc u0 u → KzE u0 (S.2.1 u a0 a1)) (hS2 : ∀ (u : MS) a0 a1 a2 a3, Kzc u0 u → KzE u0 (S.2.2.1 u a0 a1 a2 a3)) (hS3 : ∀ (u : MS) a0 a1, Kzc u0 u → KzE u0 (S.2.2.2.1 u a0 a1)) (hS4 : ∀ (u : MS) a0 a1, Kzc u0 u → KzE u0 (S.2.2.2.2.1 u a0 a1)) (hS5 : ∀ (u : MS) a0 a1, Kzc u0 u → KzE u0 (S.2.2.2.2.2.1 u a0 a1)) (hS6 : ∀ (u : MS) a0 a1, Kzc u0 u → KzE u0 (S.2.2.2.2.2.2.1 u a0 a1)) (hS7 : ∀ (u : MS) a0, Kzc u0 u → KzE u0 (S.2.2.2.2.2.2.2.1 u a0)) (hS8 : ∀ (u : MS) a0, Kzc u0 u → KzE u0 (S.2.2.2.2.2.2.2.2.1 u a0)) (hS9 : ∀ (u : MS) a0, Kzc u0 u → KzE u0 (S.2.2.2.2.2.2.2.2.2.1 u a0)) (hS10 : ∀ (u : MS) a0 a1, Kzc u0 u → KzE u0 (S.2.2.2.2.2.2.2.2.2.2.1 u a0 a1)) (hS11 : ∀ (u : MS) a0 a1, Kzc u0 u → KzE u0 (S.2.2.2.2.2.2.2.2.2.2.2.1 u a0 a1)) (hS12 : ∀ (u : MS) a0 a1 a2, Kzc u0 u → KzE u0 (S.2.2.2.2.2.2.2.2.2.2.2.2 u a0 a1 a2)) (hG0 : ∀ (u : MS) a0 a1 a2 a3 a4, Kzc u0 u → KzE u0 (G u a0 a1 a2 a3 a4)) : KzE u0 (hb_Cm_signs_198 N S G u v2 v3 v4 v5 v6) := by
  unfold hb_Cm_signs_198
  repeat' (first | with_reducible assumption | with_reducible refine Kz_br ?_ ?_ | with_reducible refine Kz_bnd ?_ (fun _ _ _ => ?_) | with_reducible refine Kz_ck ?_ | with_reducible refine Kz_ltm ?_ (fun _ _ => ?_) | with_reducible refine Kz_some ?_ | with_reducible refine Kz_bo (fun _ => ?_) | with_reducible refine Kz_T ?_ (fun _ _ _ => ?_) | with_reducible refine Kz_H ?_ (fun _ _ _ => ?_) (fun _ _ => ?_) | with_reducible exact hS0 _ _ (by assumption) | with_reducible exact hS1 _ _ _ (by assumption) | with_reducible exact hS2 _ _ _ _ _ (by assumption) | with_reducible exact hS3 _ _ _ (by assumption) | with_reducible exact hS4 _ _ _ (by assumption) | with_reducible exact hS5 _ _ _ (by assumption) | with_reducible exact hS6 _ _ _ (by assumption) | with_reducible exact hS7 _ _ (by assumption) | with_reducible exact hS8 _ _ (by assumption) | with_reducible exact hS9 _ _ (by assumption) | with_reducible exact hS10 _ _ _ (by assumption) | with_reducible exact hS11 _ _ _ (by assumption) | with_reducible exact hS12 _ _ _ _ (by assumption) | with_reducible exact hG0 _ _ _ _ _ _ (by assumption) | with_reducible refine Kz_ltv (fun _ => ?_) | with_reducible refine Kz_I ?_ (by decide) | with_reducible refine Kz_A ?_ (by decide) | with_reducible refine Kz_J ?_ | with_reducible refine Kz_L ?_)
theorem yz_hb_Cm_signs_82 {S : SF_Cm_fun} {G : (MS → Int32 → Int32 → Int32 → Int32 → Int32 → Option (MS × Unit))} {v2 : Int32} {v3 : Int32} {v4 : Int32} {v5 : Int32} {v6 : Int32} {v7 : Int32} {v8 : Int32} (h : Kzc u0 u) (hS0 : ∀ (u : MS) a0, Kzc u0 u → KzE u0 (S.1 u a0)) (hS1 : ∀ (u : MS) a0 a1, Kzc u0 u → KzE u0 (S.2.1 u a0 a1)) (hS2 : ∀ (u : MS) a0 a1 a2 a3, Kzc u0 u → KzE u0 (S.2.2.1 u a0 a1 a2 a3)) (hS3 : ∀ (u : MS) a0 a1, Kzc u0 u → KzE u0 (S.2.2.2.1 u a0 a1)) (hS4 : ∀ (u : MS) a0 a1, Kzc u0 u → KzE u0 (S.2.2.2.2.1 u a0 a1)) (hS5 : ∀ (u : MS) a0 a1, Kzc u0 u → KzE u0 (S.2.2.2.2.2.1 u a0 a1)) (hS6 : ∀ (u : MS) a0 a1, Kzc u0 u → KzE u0 (S.2.2.2.2.2.2.1 u a0 a1)) (hS7 : ∀ (u : MS) a0, Kzc u0 u → KzE u0 (S.2.2.2.2.2.2.2.1 u a0)) (hS8 : ∀ (u : MS) a0, Kzc u0 u → KzE u0 (S.2.2.2.2.2.2.2.2.1 u a0)) (hS9 : ∀ (u : MS) a0, Kzc u0 u → KzE u0 (S.2.2.2.2.2.2.2.2.2.1 u a0)) (hS10 : ∀ (u : MS) a0 a1, Kzc u0 u → KzE u0 (S.2.2.2.2.2.2.2.2.2.2.1 u a0 a1)) (hS11 : ∀ (u : MS) a0 a1, Kzc u0 u → KzE u0 (S.2.2.2.2.2.2.2.2.2.2.2.1 u a0 a1)) (hS12 : ∀ (u : MS) a0 a1 a2, Kzc u0 u → KzE u0 (S.2.2.2.2.2.2.2.2.2.2.2.2 u a0 a1 a2)) (hG0 : ∀ (u : MS) a0 a1 a2 a3 a4, Kzc u0 u → KzE u0 (G u a0 a1 a2 a3 a4)) : KzE u0 (hb_Cm_signs_82 N S G u v2 v3 v4 v5 v6 v7 v8) := by
  unfold hb_Cm_signs_82
  repeat' (first | with_reducible assumption | with_reducible refine Kz_br ?_ ?_ | with_reducible refine Kz_bnd ?_ (fun _ _ _ => ?_) | with_reducible refine Kz_ck ?_ | with_reducible refine Kz_ltm ?_ (fun _ _ => ?_) | with_reducible refine Kz_some ?_ | with_reducible refine Kz_bo (fun _ => ?_) | with_reducible refine Kz_T ?_ (fun _ _ _ => ?_) | with_reducible refine Kz_H ?_ (fun _ _ _ => ?_) (fun _ _ => ?_) | with_reducible exact yz_hb_Cm_signs_198 (by assumption) hS0 hS1 hS2 hS3 hS4 hS5 hS6 hS7 hS8 hS9 hS10 hS11 hS12 hG0 | with_reducible exact yz_hm_Cm_joining (by assumption) | with_reducible exact yz_hm_Cm_forget (by assumption) | with_reducible exact yz_hm_Co_arrive (by assumption) | with_reducible exact yz_hm_Co_hook (by assumption) | with_reducible exact yz_hm_Co_put (by assumption) | with_reducible exact hS0 _ _ (by assumption) | with_reducible exact hS1 _ _ _ (by assumption) | with_reducible exact hS2 _ _ _ _ _ (by assumption) | with_reducible exact hS3 _ _ _ (by assumption) | with_reducible exact hS4 _ _ _ (by assumption) | with_reducible exact hS5 _ _ _ (by assumption) | with_reducible exact hS6 _ _ _ (by assumption) | with_reducible exact hS7 _ _ (by assumption) | with_reducible exact hS8 _ _ (by assumption) | with_reducible exact hS9 _ _ (by assumption) | with_reducible exact hS10 _ _ _ (by assumption) | with_reducible exact hS11 _ _ _ (by assumption) | with_reducible exact hS12 _ _ _ _ (by assumption) | with_reducible exact hG0 _ _ _ _ _ _ (by assumption) | with_reducible refine Kz_ltv (fun _ => ?_) | with_reducible refine Kz_I ?_ (by decide) | with_reducible refine Kz_A ?_ (by decide) | with_reducible refine Kz_J ?_ | with_reducible refine Kz_L ?_)
theorem yz_hb_Cm_signs_13 {S : SF_Cm_fun} {G : (MS → Int32 → Int32 → Int32 → Int32 → Int32 → Option (MS × Unit))} {v2 : Int32} {v3 : Int32} {v4 : Int32} {v5 : Int32} {v6 : Int32} (h : Kzc u0 u) (hS0 : ∀ (u : MS) a0, Kzc u0 u → KzE u0 (S.1 u a0)) (hS1 : ∀ (u : MS) a0 a1, Kzc u0 u → KzE u0 (S.2.1 u a0 a1)) (hS2 : ∀ (u : MS) a0 a1 a2 a3, Kzc u0 u → KzE u0 (S.2.2.1 u a0 a1 a2 a3)) (hS3 : ∀ (u : MS) a0 a1, Kzc u0 u → KzE u0 (S.2.2.2.1 u a0 a1)) (hS4 : ∀ (u : MS) a0 a1, Kzc u0 u → KzE u0 (S.2.2.2.2.1 u a0 a1)) (hS5 : ∀ (u : MS) a0 a1, Kzc u0 u → KzE u0 (S.2.2.2.2.2.1 u a0 a1)) (hS6 : ∀ (u : MS) a0 a1, Kzc u0 u → KzE u0 (S.2.2.2.2.2.2.1 u a0 a1)) (hS7 : ∀ (u : MS) a0, Kzc u0 u → KzE u0 (S.2.2.2.2.2.2.2.1 u a0)) (hS8 : ∀ (u : MS) a0, Kzc u0 u → KzE u0 (S.2.2.2.2.2.2.2.2.1 u a0)) (hS9 : ∀ (u : MS) a0, Kzc u0 u → KzE u0 (S.2.2.2.2.2.2.2.2.2.1 u a0)) (hS10 : ∀ (u : MS) a0 a1, Kzc u0 u → KzE u0 (S.2.2.2.2.2.2.2.2.2.2.1 u a0 a1)) (hS11 : ∀ (u : MS) a0 a1, Kzc u0 u → KzE u0 (S.2.2.2.2.2.2.2.2.2.2.2.1 u a0 a1)) (hS12 : ∀ (u : MS) a0 a1 a2, Kzc u0 u → KzE u0 (S.2.2.2.2.2.2.2.2.2.2.2.2 u a0 a1 a2)) (hG0 : ∀ (u : MS) a0 a1 a2 a3 a4, Kzc u0 u → KzE u0 (G u a0 a1 a2 a3 a4)) : KzE u0 (hb_Cm_signs_13 N S G u v2 v3 v4 v5 v6) := by
  unfold hb_Cm_signs_13
  repeat' (first | with_reducible assumption | with_reducible refine Kz_br ?_ ?_ | with_reducible refine Kz_bnd ?_ (fun _ _ _ => ?_) | with_reducible refine Kz_ck ?_ | with_reducible refine Kz_ltm ?_ (fun _ _ => ?_) | with_reducible refine Kz_some ?_ | with_reducible refine Kz_bo (fun _ => ?_) | with_reducible refine Kz_T ?_ (fun _ _ _ => ?_) | with_reducible refine Kz_H ?_ (fun _ _ _ => ?_) (fun _ _ => ?_) | with_reducible exact yz_hb_Cm_signs_198 (by assumption) hS0 hS1 hS2 hS3 hS4 hS5 hS6 hS7 hS8 hS9 hS10 hS11 hS12 hG0 | with_reducible exact yz_hb_Cm_signs_82 (by assumption) hS0 hS1 hS2 hS3 hS4 hS5 hS6 hS7 hS8 hS9 hS10 hS11 hS12 hG0 | with_reducible exact yz_hm_Co_hook (by assumption) | with_reducible exact yz_hm_Co_put (by assumption) | with_reducible exact hS0 _ _ (by assumption) | with_reducible exact hS1 _ _ _ (by assumption) | with_reducible exact hS2 _ _ _ _ _ (by assumption) | with_reducible exact hS3 _ _ _ (by assumption) | with_reducible exact hS4 _ _ _ (by assumption) | with_reducible exact hS5 _ _ _ (by assumption) | with_reducible exact hS6 _ _ _ (by assumption) | with_reducible exact hS7 _ _ (by assumption) | with_reducible exact hS8 _ _ (by assumption) | with_reducible exact hS9 _ _ (by assumption) | with_reducible exact hS10 _ _ _ (by assumption) | with_reducible exact hS11 _ _ _ (by assumption) | with_reducible exact hS12 _ _ _ _ (by assumption) | with_reducible exact hG0 _ _ _ _ _ _ (by assumption) | with_reducible refine Kz_ltv (fun _ => ?_) | with_reducible refine Kz_I ?_ (by decide) | with_reducible refine Kz_A ?_ (by decide) | with_reducible refine Kz_J ?_ | with_reducible refine Kz_L ?_)
theorem yz_hb_Cm_signs_0 {S : SF_Cm_fun} {G : (MS → Int32 → Int32 → Int32 → Int32 → Int32 → Option (MS × Unit))} {v1 : Int32} (h : Kzc u0 u) (hS0 : ∀ (u : MS) a0, Kzc u0 u → KzE u0 (S.1 u a0)) (hS1 : ∀ (u : MS) a0 a1, Kzc u0 u → KzE u0 (S.2.1 u a0 a1)) (hS2 : ∀ (u : MS) a0 a1 a2 a3, Kzc u0 u → KzE u0 (S.2.2.1 u a0 a1 a2 a3)) (hS3 : ∀ (u : MS) a0 a1, Kzc u0 u → KzE u0 (S.2.2.2.1 u a0 a1)) (hS4 : ∀ (u : MS) a0 a1, Kzc u0 u → KzE u0 (S.2.2.2.2.1 u a0 a1)) (hS5 : ∀ (u : MS) a0 a1, Kzc u0 u → KzE u0 (S.2.2.2.2.2.1 u a0 a1)) (hS6 : ∀ (u : MS) a0 a1, Kzc u0 u → KzE u0 (S.2.2.2.2.2.2.1 u a0 a1)) (hS7 : ∀ (u : MS) a0, Kzc u0 u → KzE u0 (S.2.2.2.2.2.2.2.1 u a0)) (hS8 : ∀ (u : MS) a0, Kzc u0 u → KzE u0 (S.2.2.2.2.2.2.2.2.1 u a0)) (hS9 : ∀ (u : MS) a0, Kzc u0 u → KzE u0 (S.2.2.2.2.2.2.2.2.2.1 u a0)) (hS10 : ∀ (u : MS) a0 a1, Kzc u0 u → KzE u0 (S.2.2.2.2.2.2.2.2.2.2.1 u a0 a1)) (hS11 : ∀ (u : MS) a0 a1, Kzc u0 u → KzE u0 (S.2.2.2.2.2.2.2.2.2.2.2.1 u a0 a1)) (hS12 : ∀ (u : MS) a0 a1 a2, Kzc u0 u → KzE u0 (S.2.2.2.2.2.2.2.2.2.2.2.2 u a0 a1 a2)) (hG0 : ∀ (u : MS) a0 a1 a2 a3 a4, Kzc u0 u → KzE u0 (G u a0 a1 a2 a3 a4)) : KzE u0 (hb_Cm_signs_0 N S G u v1) := by
  unfold hb_Cm_signs_0
  repeat' (first | with_reducible assumption | with_reducible refine Kz_br ?_ ?_ | with_reducible refine Kz_bnd ?_ (fun _ _ _ => ?_) | with_reducible refine Kz_ck ?_ | with_reducible refine Kz_ltm ?_ (fun _ _ => ?_) | with_reducible refine Kz_some ?_ | with_reducible refine Kz_bo (fun _ => ?_) | with_reducible refine Kz_T ?_ (fun _ _ _ => ?_) | with_reducible refine Kz_H ?_ (fun _ _ _ => ?_) (fun _ _ => ?_) | with_reducible exact hS0 _ _ (by assumption) | with_reducible exact hS1 _ _ _ (by assumption) | with_reducible exact hS2 _ _ _ _ _ (by assumption) | with_reducible exact hS3 _ _ _ (by assumption) | with_reducible exact hS4 _ _ _ (by assumption) | with_reducible exact hS5 _ _ _ (by assumption) | with_reducible exact hS6 _ _ _ (by assumption) | with_reducible exact hS7 _ _ (by assumption) | with_reducible exact hS8 _ _ (by assumption) | with_reducible exact hS9 _ _ (by assumption) | with_reducible exact hS10 _ _ _ (by assumption) | with_reducible exact hS11 _ _ _ (by assumption) | with_reducible exact hS12 _ _ _ _ (by assumption) | with_reducible exact hG0 _ _ _ _ _ _ (by assumption) | with_reducible refine Kz_ltv (fun _ => ?_) | with_reducible refine Kz_I ?_ (by decide) | with_reducible refine Kz_A ?_ (by decide) | with_reducible refine Kz_J ?_ | with_reducible refine Kz_L ?_)
theorem yz_hg_Cm_signs {S : SF_Cm_fun} (hS0 : ∀ (u : MS) a0, Kzc u0 u → KzE u0 (S.1 u a0)) (hS1 : ∀ (u : MS) a0 a1, Kzc u0 u → KzE u0 (S.2.1 u a0 a1)) (hS2 : ∀ (u : MS) a0 a1 a2 a3, Kzc u0 u → KzE u0 (S.2.2.1 u a0 a1 a2 a3)) (hS3 : ∀ (u : MS) a0 a1, Kzc u0 u → KzE u0 (S.2.2.2.1 u a0 a1)) (hS4 : ∀ (u : MS) a0 a1, Kzc u0 u → KzE u0 (S.2.2.2.2.1 u a0 a1)) (hS5 : ∀ (u : MS) a0 a1, Kzc u0 u → KzE u0 (S.2.2.2.2.2.1 u a0 a1)) (hS6 : ∀ (u : MS) a0 a1, Kzc u0 u → KzE u0 (S.2.2.2.2.2.2.1 u a0 a1)) (hS7 : ∀ (u : MS) a0, Kzc u0 u → KzE u0 (S.2.2.2.2.2.2.2.1 u a0)) (hS8 : ∀ (u : MS) a0, Kzc u0 u → KzE u0 (S.2.2.2.2.2.2.2.2.1 u a0)) (hS9 : ∀ (u : MS) a0, Kzc u0 u → KzE u0 (S.2.2.2.2.2.2.2.2.2.1 u a0)) (hS10 : ∀ (u : MS) a0 a1, Kzc u0 u → KzE u0 (S.2.2.2.2.2.2.2.2.2.2.1 u a0 a1)) (hS11 : ∀ (u : MS) a0 a1, Kzc u0 u → KzE u0 (S.2.2.2.2.2.2.2.2.2.2.2.1 u a0 a1)) (hS12 : ∀ (u : MS) a0 a1 a2, Kzc u0 u → KzE u0 (S.2.2.2.2.2.2.2.2.2.2.2.2 u a0 a1 a2)) (n : Nat) : (∀ (u : MS) a0 a1 a2 a3 a4, Kzc u0 u → KzE u0 ((hg_Cm_signs N S n) u a0 a1 a2 a3 a4)) := by
  induction n with
  | zero => exact fun _ _ _ _ _ _ _ => Kz_none
  | succ n ih => exact fun _ _ _ _ _ _ h => yz_hb_Cm_signs_13 (N := N) h hS0 hS1 hS2 hS3 hS4 hS5 hS6 hS7 hS8 hS9 hS10 hS11 hS12 ih
theorem yz_hm_Cm_signs {S : SF_Cm_fun} {v1 : Int32} (h : Kzc u0 u) (hS0 : ∀ (u : MS) a0, Kzc u0 u → KzE u0 (S.1 u a0)) (hS1 : ∀ (u : MS) a0 a1, Kzc u0 u → KzE u0 (S.2.1 u a0 a1)) (hS2 : ∀ (u : MS) a0 a1 a2 a3, Kzc u0 u → KzE u0 (S.2.2.1 u a0 a1 a2 a3)) (hS3 : ∀ (u : MS) a0 a1, Kzc u0 u → KzE u0 (S.2.2.2.1 u a0 a1)) (hS4 : ∀ (u : MS) a0 a1, Kzc u0 u → KzE u0 (S.2.2.2.2.1 u a0 a1)) (hS5 : ∀ (u : MS) a0 a1, Kzc u0 u → KzE u0 (S.2.2.2.2.2.1 u a0 a1)) (hS6 : ∀ (u : MS) a0 a1, Kzc u0 u → KzE u0 (S.2.2.2.2.2.2.1 u a0 a1)) (hS7 : ∀ (u : MS) a0, Kzc u0 u → KzE u0 (S.2.2.2.2.2.2.2.1 u a0)) (hS8 : ∀ (u : MS) a0, Kzc u0 u → KzE u0 (S.2.2.2.2.2.2.2.2.1 u a0)) (hS9 : ∀ (u : MS) a0, Kzc u0 u → KzE u0 (S.2.2.2.2.2.2.2.2.2.1 u a0)) (hS10 : ∀ (u : MS) a0 a1, Kzc u0 u → KzE u0 (S.2.2.2.2.2.2.2.2.2.2.1 u a0 a1)) (hS11 : ∀ (u : MS) a0 a1, Kzc u0 u → KzE u0 (S.2.2.2.2.2.2.2.2.2.2.2.1 u a0 a1)) (hS12 : ∀ (u : MS) a0 a1 a2, Kzc u0 u → KzE u0 (S.2.2.2.2.2.2.2.2.2.2.2.2 u a0 a1 a2)) : KzE u0 (hm_Cm_signs N S u v1) := by
  unfold hm_Cm_signs
  exact yz_hb_Cm_signs_0 h hS0 hS1 hS2 hS3 hS4 hS5 hS6 hS7 hS8 hS9 hS10 hS11 hS12 ((yz_hg_Cm_signs (N := N) hS0 hS1 hS2 hS3 hS4 hS5 hS6 hS7 hS8 hS9 hS10 hS11 hS12 N))
theorem yz_hb_Cm_list_93 {S : SF_Cm_fun} {G : Unit} (h : Kzc u0 u) (hS0 : ∀ (u : MS) a0, Kzc u0 u → KzE u0 (S.1 u a0)) (hS1 : ∀ (u : MS) a0 a1, Kzc u0 u → KzE u0 (S.2.1 u a0 a1)) (hS2 : ∀ (u : MS) a0 a1 a2 a3, Kzc u0 u → KzE u0 (S.2.2.1 u a0 a1 a2 a3)) (hS3 : ∀ (u : MS) a0 a1, Kzc u0 u → KzE u0 (S.2.2.2.1 u a0 a1)) (hS4 : ∀ (u : MS) a0 a1, Kzc u0 u → KzE u0 (S.2.2.2.2.1 u a0 a1)) (hS5 : ∀ (u : MS) a0 a1, Kzc u0 u → KzE u0 (S.2.2.2.2.2.1 u a0 a1)) (hS6 : ∀ (u : MS) a0 a1, Kzc u0 u → KzE u0 (S.2.2.2.2.2.2.1 u a0 a1)) (hS7 : ∀ (u : MS) a0, Kzc u0 u → KzE u0 (S.2.2.2.2.2.2.2.1 u a0)) (hS8 : ∀ (u : MS) a0, Kzc u0 u → KzE u0 (S.2.2.2.2.2.2.2.2.1 u a0)) (hS9 : ∀ (u : MS) a0, Kzc u0 u → KzE u0 (S.2.2.2.2.2.2.2.2.2.1 u a0)) (hS10 : ∀ (u : MS) a0 a1, Kzc u0 u → KzE u0 (S.2.2.2.2.2.2.2.2.2.2.1 u a0 a1)) (hS11 : ∀ (u : MS) a0 a1, Kzc u0 u → KzE u0 (S.2.2.2.2.2.2.2.2.2.2.2.1 u a0 a1)) (hS12 : ∀ (u : MS) a0 a1 a2, Kzc u0 u → KzE u0 (S.2.2.2.2.2.2.2.2.2.2.2.2 u a0 a1 a2)) : KzE u0 (hb_Cm_list_93 N S G u) := by
  unfold hb_Cm_list_93
  repeat' (first | with_reducible assumption | with_reducible refine Kz_br ?_ ?_ | with_reducible refine Kz_bnd ?_ (fun _ _ _ => ?_) | with_reducible refine Kz_ck ?_ | with_reducible refine Kz_ltm ?_ (fun _ _ => ?_) | with_reducible refine Kz_some ?_ | with_reducible refine Kz_bo (fun _ => ?_) | with_reducible refine Kz_T ?_ (fun _ _ _ => ?_) | with_reducible refine Kz_H ?_ (fun _ _ _ => ?_) (fun _ _ => ?_) | with_reducible exact hS0 _ _ (by assumption) | with_reducible exact hS1 _ _ _ (by assumption) | with_reducible exact hS2 _ _ _ _ _ (by assumption) | with_reducible exact hS3 _ _ _ (by assumption) | with_reducible exact hS4 _ _ _ (by assumption) | with_reducible exact hS5 _ _ _ (by assumption) | with_reducible exact hS6 _ _ _ (by assumption) | with_reducible exact hS7 _ _ (by assumption) | with_reducible exact hS8 _ _ (by assumption) | with_reducible exact hS9 _ _ (by assumption) | with_reducible exact hS10 _ _ _ (by assumption) | with_reducible exact hS11 _ _ _ (by assumption) | with_reducible exact hS12 _ _ _ _ (by assumption) | with_reducible refine Kz_ltv (fun _ => ?_) | with_reducible refine Kz_I ?_ (by decide) | with_reducible refine Kz_A ?_ (by decide) | with_reducible refine Kz_J ?_ | with_reducible refine Kz_L ?_)
theorem yz_hb_Cm_list_57 {S : SF_Cm_fun} {G : Unit} {v1 : Int32} (h : Kzc u0 u) (hS0 : ∀ (u : MS) a0, Kzc u0 u → KzE u0 (S.1 u a0)) (hS1 : ∀ (u : MS) a0 a1, Kzc u0 u → KzE u0 (S.2.1 u a0 a1)) (hS2 : ∀ (u : MS) a0 a1 a2 a3, Kzc u0 u → KzE u0 (S.2.2.1 u a0 a1 a2 a3)) (hS3 : ∀ (u : MS) a0 a1, Kzc u0 u → KzE u0 (S.2.2.2.1 u a0 a1)) (hS4 : ∀ (u : MS) a0 a1, Kzc u0 u → KzE u0 (S.2.2.2.2.1 u a0 a1)) (hS5 : ∀ (u : MS) a0 a1, Kzc u0 u → KzE u0 (S.2.2.2.2.2.1 u a0 a1)) (hS6 : ∀ (u : MS) a0 a1, Kzc u0 u → KzE u0 (S.2.2.2.2.2.2.1 u a0 a1)) (hS7 : ∀ (u : MS) a0, Kzc u0 u → KzE u0 (S.2.2.2.2.2.2.2.1 u a0)) (hS8 : ∀ (u : MS) a0, Kzc u0 u → KzE u0 (S.2.2.2.2.2.2.2.2.1 u a0)) (hS9 : ∀ (u : MS) a0, Kzc u0 u → KzE u0 (S.2.2.2.2.2.2.2.2.2.1 u a0)) (hS10 : ∀ (u : MS) a0 a1, Kzc u0 u → KzE u0 (S.2.2.2.2.2.2.2.2.2.2.1 u a0 a1)) (hS11 : ∀ (u : MS) a0 a1, Kzc u0 u → KzE u0 (S.2.2.2.2.2.2.2.2.2.2.2.1 u a0 a1)) (hS12 : ∀ (u : MS) a0 a1 a2, Kzc u0 u → KzE u0 (S.2.2.2.2.2.2.2.2.2.2.2.2 u a0 a1 a2)) : KzE u0 (hb_Cm_list_57 N S G u v1) := by
  unfold hb_Cm_list_57
  repeat' (first | with_reducible assumption | with_reducible refine Kz_br ?_ ?_ | with_reducible refine Kz_bnd ?_ (fun _ _ _ => ?_) | with_reducible refine Kz_ck ?_ | with_reducible refine Kz_ltm ?_ (fun _ _ => ?_) | with_reducible refine Kz_some ?_ | with_reducible refine Kz_bo (fun _ => ?_) | with_reducible refine Kz_T ?_ (fun _ _ _ => ?_) | with_reducible refine Kz_H ?_ (fun _ _ _ => ?_) (fun _ _ => ?_) | with_reducible exact yz_hb_Cm_list_93 (by assumption) hS0 hS1 hS2 hS3 hS4 hS5 hS6 hS7 hS8 hS9 hS10 hS11 hS12 | with_reducible exact yz_hm_Co_put (by assumption) | with_reducible exact hS0 _ _ (by assumption) | with_reducible exact hS1 _ _ _ (by assumption) | with_reducible exact hS2 _ _ _ _ _ (by assumption) | with_reducible exact hS3 _ _ _ (by assumption) | with_reducible exact hS4 _ _ _ (by assumption) | with_reducible exact hS5 _ _ _ (by assumption) | with_reducible exact hS6 _ _ _ (by assumption) | with_reducible exact hS7 _ _ (by assumption) | with_reducible exact hS8 _ _ (by assumption) | with_reducible exact hS9 _ _ (by assumption) | with_reducible exact hS10 _ _ _ (by assumption) | with_reducible exact hS11 _ _ _ (by assumption) | with_reducible exact hS12 _ _ _ _ (by assumption) | with_reducible refine Kz_ltv (fun _ => ?_) | with_reducible refine Kz_I ?_ (by decide) | with_reducible refine Kz_A ?_ (by decide) | with_reducible refine Kz_J ?_ | with_reducible refine Kz_L ?_)
theorem yz_hb_Cm_list_0 {S : SF_Cm_fun} {G : Unit} {v1 : Int32} (h : Kzc u0 u) (hS0 : ∀ (u : MS) a0, Kzc u0 u → KzE u0 (S.1 u a0)) (hS1 : ∀ (u : MS) a0 a1, Kzc u0 u → KzE u0 (S.2.1 u a0 a1)) (hS2 : ∀ (u : MS) a0 a1 a2 a3, Kzc u0 u → KzE u0 (S.2.2.1 u a0 a1 a2 a3)) (hS3 : ∀ (u : MS) a0 a1, Kzc u0 u → KzE u0 (S.2.2.2.1 u a0 a1)) (hS4 : ∀ (u : MS) a0 a1, Kzc u0 u → KzE u0 (S.2.2.2.2.1 u a0 a1)) (hS5 : ∀ (u : MS) a0 a1, Kzc u0 u → KzE u0 (S.2.2.2.2.2.1 u a0 a1)) (hS6 : ∀ (u : MS) a0 a1, Kzc u0 u → KzE u0 (S.2.2.2.2.2.2.1 u a0 a1)) (hS7 : ∀ (u : MS) a0, Kzc u0 u → KzE u0 (S.2.2.2.2.2.2.2.1 u a0)) (hS8 : ∀ (u : MS) a0, Kzc u0 u → KzE u0 (S.2.2.2.2.2.2.2.2.1 u a0)) (hS9 : ∀ (u : MS) a0, Kzc u0 u → KzE u0 (S.2.2.2.2.2.2.2.2.2.1 u a0)) (hS10 : ∀ (u : MS) a0 a1, Kzc u0 u → KzE u0 (S.2.2.2.2.2.2.2.2.2.2.1 u a0 a1)) (hS11 : ∀ (u : MS) a0 a1, Kzc u0 u → KzE u0 (S.2.2.2.2.2.2.2.2.2.2.2.1 u a0 a1)) (hS12 : ∀ (u : MS) a0 a1 a2, Kzc u0 u → KzE u0 (S.2.2.2.2.2.2.2.2.2.2.2.2 u a0 a1 a2)) : KzE u0 (hb_Cm_list_0 N S G u v1) := by
  unfold hb_Cm_list_0
  repeat' (first | with_reducible assumption | with_reducible refine Kz_br ?_ ?_ | with_reducible refine Kz_bnd ?_ (fun _ _ _ => ?_) | with_reducible refine Kz_ck ?_ | with_reducible refine Kz_ltm ?_ (fun _ _ => ?_) | with_reducible refine Kz_some ?_ | with_reducible refine Kz_bo (fun _ => ?_) | with_reducible refine Kz_T ?_ (fun _ _ _ => ?_) | with_reducible refine Kz_H ?_ (fun _ _ _ => ?_) (fun _ _ => ?_) | with_reducible exact yz_hb_Cm_list_57 (by assumption) hS0 hS1 hS2 hS3 hS4 hS5 hS6 hS7 hS8 hS9 hS10 hS11 hS12 | with_reducible exact yz_hm_Cm_term (by assumption) | with_reducible exact yz_hm_Co_put (by assumption) | with_reducible exact hS0 _ _ (by assumption) | with_reducible exact hS1 _ _ _ (by assumption) | with_reducible exact hS2 _ _ _ _ _ (by assumption) | with_reducible exact hS3 _ _ _ (by assumption) | with_reducible exact hS4 _ _ _ (by assumption) | with_reducible exact hS5 _ _ _ (by assumption) | with_reducible exact hS6 _ _ _ (by assumption) | with_reducible exact hS7 _ _ (by assumption) | with_reducible exact hS8 _ _ (by assumption) | with_reducible exact hS9 _ _ (by assumption) | with_reducible exact hS10 _ _ _ (by assumption) | with_reducible exact hS11 _ _ _ (by assumption) | with_reducible exact hS12 _ _ _ _ (by assumption) | with_reducible refine Kz_ltv (fun _ => ?_) | with_reducible refine Kz_I ?_ (by decide) | with_reducible refine Kz_A ?_ (by decide) | with_reducible refine Kz_J ?_ | with_reducible refine Kz_L ?_)
theorem yz_hm_Cm_list {S : SF_Cm_fun} {v1 : Int32} (h : Kzc u0 u) (hS0 : ∀ (u : MS) a0, Kzc u0 u → KzE u0 (S.1 u a0)) (hS1 : ∀ (u : MS) a0 a1, Kzc u0 u → KzE u0 (S.2.1 u a0 a1)) (hS2 : ∀ (u : MS) a0 a1 a2 a3, Kzc u0 u → KzE u0 (S.2.2.1 u a0 a1 a2 a3)) (hS3 : ∀ (u : MS) a0 a1, Kzc u0 u → KzE u0 (S.2.2.2.1 u a0 a1)) (hS4 : ∀ (u : MS) a0 a1, Kzc u0 u → KzE u0 (S.2.2.2.2.1 u a0 a1)) (hS5 : ∀ (u : MS) a0 a1, Kzc u0 u → KzE u0 (S.2.2.2.2.2.1 u a0 a1)) (hS6 : ∀ (u : MS) a0 a1, Kzc u0 u → KzE u0 (S.2.2.2.2.2.2.1 u a0 a1)) (hS7 : ∀ (u : MS) a0, Kzc u0 u → KzE u0 (S.2.2.2.2.2.2.2.1 u a0)) (hS8 : ∀ (u : MS) a0, Kzc u0 u → KzE u0 (S.2.2.2.2.2.2.2.2.1 u a0)) (hS9 : ∀ (u : MS) a0, Kzc u0 u → KzE u0 (S.2.2.2.2.2.2.2.2.2.1 u a0)) (hS10 : ∀ (u : MS) a0 a1, Kzc u0 u → KzE u0 (S.2.2.2.2.2.2.2.2.2.2.1 u a0 a1)) (hS11 : ∀ (u : MS) a0 a1, Kzc u0 u → KzE u0 (S.2.2.2.2.2.2.2.2.2.2.2.1 u a0 a1)) (hS12 : ∀ (u : MS) a0 a1 a2, Kzc u0 u → KzE u0 (S.2.2.2.2.2.2.2.2.2.2.2.2 u a0 a1 a2)) : KzE u0 (hm_Cm_list N S u v1) := by
  unfold hm_Cm_list
  exact yz_hb_Cm_list_0 h hS0 hS1 hS2 hS3 hS4 hS5 hS6 hS7 hS8 hS9 hS10 hS11 hS12
theorem yz_hb_Cm_row_2 {S : SF_Cm_fun} {G : (MS → Int32 → Option (MS × Unit))} {v2 : Int32} (h : Kzc u0 u) (hS0 : ∀ (u : MS) a0, Kzc u0 u → KzE u0 (S.1 u a0)) (hS1 : ∀ (u : MS) a0 a1, Kzc u0 u → KzE u0 (S.2.1 u a0 a1)) (hS2 : ∀ (u : MS) a0 a1 a2 a3, Kzc u0 u → KzE u0 (S.2.2.1 u a0 a1 a2 a3)) (hS3 : ∀ (u : MS) a0 a1, Kzc u0 u → KzE u0 (S.2.2.2.1 u a0 a1)) (hS4 : ∀ (u : MS) a0 a1, Kzc u0 u → KzE u0 (S.2.2.2.2.1 u a0 a1)) (hS5 : ∀ (u : MS) a0 a1, Kzc u0 u → KzE u0 (S.2.2.2.2.2.1 u a0 a1)) (hS6 : ∀ (u : MS) a0 a1, Kzc u0 u → KzE u0 (S.2.2.2.2.2.2.1 u a0 a1)) (hS7 : ∀ (u : MS) a0, Kzc u0 u → KzE u0 (S.2.2.2.2.2.2.2.1 u a0)) (hS8 : ∀ (u : MS) a0, Kzc u0 u → KzE u0 (S.2.2.2.2.2.2.2.2.1 u a0)) (hS9 : ∀ (u : MS) a0, Kzc u0 u → KzE u0 (S.2.2.2.2.2.2.2.2.2.1 u a0)) (hS10 : ∀ (u : MS) a0 a1, Kzc u0 u → KzE u0 (S.2.2.2.2.2.2.2.2.2.2.1 u a0 a1)) (hS11 : ∀ (u : MS) a0 a1, Kzc u0 u → KzE u0 (S.2.2.2.2.2.2.2.2.2.2.2.1 u a0 a1)) (hS12 : ∀ (u : MS) a0 a1 a2, Kzc u0 u → KzE u0 (S.2.2.2.2.2.2.2.2.2.2.2.2 u a0 a1 a2)) (hG0 : ∀ (u : MS) a0, Kzc u0 u → KzE u0 (G u a0)) : KzE u0 (hb_Cm_row_2 N S G u v2) := by
  unfold hb_Cm_row_2
  repeat' (first | with_reducible assumption | with_reducible refine Kz_br ?_ ?_ | with_reducible refine Kz_bnd ?_ (fun _ _ _ => ?_) | with_reducible refine Kz_ck ?_ | with_reducible refine Kz_ltm ?_ (fun _ _ => ?_) | with_reducible refine Kz_some ?_ | with_reducible refine Kz_bo (fun _ => ?_) | with_reducible refine Kz_T ?_ (fun _ _ _ => ?_) | with_reducible refine Kz_H ?_ (fun _ _ _ => ?_) (fun _ _ => ?_) | with_reducible exact hS0 _ _ (by assumption) | with_reducible exact hS1 _ _ _ (by assumption) | with_reducible exact hS2 _ _ _ _ _ (by assumption) | with_reducible exact hS3 _ _ _ (by assumption) | with_reducible exact hS4 _ _ _ (by assumption) | with_reducible exact hS5 _ _ _ (by assumption) | with_reducible exact hS6 _ _ _ (by assumption) | with_reducible exact hS7 _ _ (by assumption) | with_reducible exact hS8 _ _ (by assumption) | with_reducible exact hS9 _ _ (by assumption) | with_reducible exact hS10 _ _ _ (by assumption) | with_reducible exact hS11 _ _ _ (by assumption) | with_reducible exact hS12 _ _ _ _ (by assumption) | with_reducible exact hG0 _ _ (by assumption) | with_reducible refine Kz_ltv (fun _ => ?_) | with_reducible refine Kz_I ?_ (by decide) | with_reducible refine Kz_A ?_ (by decide) | with_reducible refine Kz_J ?_ | with_reducible refine Kz_L ?_)
theorem yz_hb_Cm_row_0 {S : SF_Cm_fun} {G : (MS → Int32 → Option (MS × Unit))} {v1 : Int32} (h : Kzc u0 u) (hS0 : ∀ (u : MS) a0, Kzc u0 u → KzE u0 (S.1 u a0)) (hS1 : ∀ (u : MS) a0 a1, Kzc u0 u → KzE u0 (S.2.1 u a0 a1)) (hS2 : ∀ (u : MS) a0 a1 a2 a3, Kzc u0 u → KzE u0 (S.2.2.1 u a0 a1 a2 a3)) (hS3 : ∀ (u : MS) a0 a1, Kzc u0 u → KzE u0 (S.2.2.2.1 u a0 a1)) (hS4 : ∀ (u : MS) a0 a1, Kzc u0 u → KzE u0 (S.2.2.2.2.1 u a0 a1)) (hS5 : ∀ (u : MS) a0 a1, Kzc u0 u → KzE u0 (S.2.2.2.2.2.1 u a0 a1)) (hS6 : ∀ (u : MS) a0 a1, Kzc u0 u → KzE u0 (S.2.2.2.2.2.2.1 u a0 a1)) (hS7 : ∀ (u : MS) a0, Kzc u0 u → KzE u0 (S.2.2.2.2.2.2.2.1 u a0)) (hS8 : ∀ (u : MS) a0, Kzc u0 u → KzE u0 (S.2.2.2.2.2.2.2.2.1 u a0)) (hS9 : ∀ (u : MS) a0, Kzc u0 u → KzE u0 (S.2.2.2.2.2.2.2.2.2.1 u a0)) (hS10 : ∀ (u : MS) a0 a1, Kzc u0 u → KzE u0 (S.2.2.2.2.2.2.2.2.2.2.1 u a0 a1)) (hS11 : ∀ (u : MS) a0 a1, Kzc u0 u → KzE u0 (S.2.2.2.2.2.2.2.2.2.2.2.1 u a0 a1)) (hS12 : ∀ (u : MS) a0 a1 a2, Kzc u0 u → KzE u0 (S.2.2.2.2.2.2.2.2.2.2.2.2 u a0 a1 a2)) (hG0 : ∀ (u : MS) a0, Kzc u0 u → KzE u0 (G u a0)) : KzE u0 (hb_Cm_row_0 N S G u v1) := by
  unfold hb_Cm_row_0
  repeat' (first | with_reducible assumption | with_reducible refine Kz_br ?_ ?_ | with_reducible refine Kz_bnd ?_ (fun _ _ _ => ?_) | with_reducible refine Kz_ck ?_ | with_reducible refine Kz_ltm ?_ (fun _ _ => ?_) | with_reducible refine Kz_some ?_ | with_reducible refine Kz_bo (fun _ => ?_) | with_reducible refine Kz_T ?_ (fun _ _ _ => ?_) | with_reducible refine Kz_H ?_ (fun _ _ _ => ?_) (fun _ _ => ?_) | with_reducible exact hS0 _ _ (by assumption) | with_reducible exact hS1 _ _ _ (by assumption) | with_reducible exact hS2 _ _ _ _ _ (by assumption) | with_reducible exact hS3 _ _ _ (by assumption) | with_reducible exact hS4 _ _ _ (by assumption) | with_reducible exact hS5 _ _ _ (by assumption) | with_reducible exact hS6 _ _ _ (by assumption) | with_reducible exact hS7 _ _ (by assumption) | with_reducible exact hS8 _ _ (by assumption) | with_reducible exact hS9 _ _ (by assumption) | with_reducible exact hS10 _ _ _ (by assumption) | with_reducible exact hS11 _ _ _ (by assumption) | with_reducible exact hS12 _ _ _ _ (by assumption) | with_reducible exact hG0 _ _ (by assumption) | with_reducible refine Kz_ltv (fun _ => ?_) | with_reducible refine Kz_I ?_ (by decide) | with_reducible refine Kz_A ?_ (by decide) | with_reducible refine Kz_J ?_ | with_reducible refine Kz_L ?_)
theorem yz_hg_Cm_row {S : SF_Cm_fun} (hS0 : ∀ (u : MS) a0, Kzc u0 u → KzE u0 (S.1 u a0)) (hS1 : ∀ (u : MS) a0 a1, Kzc u0 u → KzE u0 (S.2.1 u a0 a1)) (hS2 : ∀ (u : MS) a0 a1 a2 a3, Kzc u0 u → KzE u0 (S.2.2.1 u a0 a1 a2 a3)) (hS3 : ∀ (u : MS) a0 a1, Kzc u0 u → KzE u0 (S.2.2.2.1 u a0 a1)) (hS4 : ∀ (u : MS) a0 a1, Kzc u0 u → KzE u0 (S.2.2.2.2.1 u a0 a1)) (hS5 : ∀ (u : MS) a0 a1, Kzc u0 u → KzE u0 (S.2.2.2.2.2.1 u a0 a1)) (hS6 : ∀ (u : MS) a0 a1, Kzc u0 u → KzE u0 (S.2.2.2.2.2.2.1 u a0 a1)) (hS7 : ∀ (u : MS) a0, Kzc u0 u → KzE u0 (S.2.2.2.2.2.2.2.1 u a0)) (hS8 : ∀ (u : MS) a0, Kzc u0 u → KzE u0 (S.2.2.2.2.2.2.2.2.1 u a0)) (hS9 : ∀ (u : MS) a0, Kzc u0 u → KzE u0 (S.2.2.2.2.2.2.2.2.2.1 u a0)) (hS10 : ∀ (u : MS) a0 a1, Kzc u0 u → KzE u0 (S.2.2.2.2.2.2.2.2.2.2.1 u a0 a1)) (hS11 : ∀ (u : MS) a0 a1, Kzc u0 u → KzE u0 (S.2.2.2.2.2.2.2.2.2.2.2.1 u a0 a1)) (hS12 : ∀ (u : MS) a0 a1 a2, Kzc u0 u → KzE u0 (S.2.2.2.2.2.2.2.2.2.2.2.2 u a0 a1 a2)) (n : Nat) : (∀ (u : MS) a0, Kzc u0 u → KzE u0 ((hg_Cm_row N S n) u a0)) := by
  induction n with
  | zero => exact fun _ _ _ => Kz_none
  | succ n ih => exact fun _ _ h => yz_hb_Cm_row_2 (N := N) h hS0 hS1 hS2 hS3 hS4 hS5 hS6 hS7 hS8 hS9 hS10 hS11 hS12 ih
theorem yz_hm_Cm_row {S : SF_Cm_fun} {v1 : Int32} (h : Kzc u0 u) (hS0 : ∀ (u : MS) a0, Kzc u0 u → KzE u0 (S.1 u a0)) (hS1 : ∀ (u : MS) a0 a1, Kzc u0 u → KzE u0 (S.2.1 u a0 a1)) (hS2 : ∀ (u : MS) a0 a1 a2 a3, Kzc u0 u → KzE u0 (S.2.2.1 u a0 a1 a2 a3)) (hS3 : ∀ (u : MS) a0 a1, Kzc u0 u → KzE u0 (S.2.2.2.1 u a0 a1)) (hS4 : ∀ (u : MS) a0 a1, Kzc u0 u → KzE u0 (S.2.2.2.2.1 u a0 a1)) (hS5 : ∀ (u : MS) a0 a1, Kzc u0 u → KzE u0 (S.2.2.2.2.2.1 u a0 a1)) (hS6 : ∀ (u : MS) a0 a1, Kzc u0 u → KzE u0 (S.2.2.2.2.2.2.1 u a0 a1)) (hS7 : ∀ (u : MS) a0, Kzc u0 u → KzE u0 (S.2.2.2.2.2.2.2.1 u a0)) (hS8 : ∀ (u : MS) a0, Kzc u0 u → KzE u0 (S.2.2.2.2.2.2.2.2.1 u a0)) (hS9 : ∀ (u : MS) a0, Kzc u0 u → KzE u0 (S.2.2.2.2.2.2.2.2.2.1 u a0)) (hS10 : ∀ (u : MS) a0 a1, Kzc u0 u → KzE u0 (S.2.2.2.2.2.2.2.2.2.2.1 u a0 a1)) (hS11 : ∀ (u : MS) a0 a1, Kzc u0 u → KzE u0 (S.2.2.2.2.2.2.2.2.2.2.2.1 u a0 a1)) (hS12 : ∀ (u : MS) a0 a1 a2, Kzc u0 u → KzE u0 (S.2.2.2.2.2.2.2.2.2.2.2.2 u a0 a1 a2)) : KzE u0 (hm_Cm_row N S u v1) := by
  unfold hm_Cm_row
  exact yz_hb_Cm_row_0 h hS0 hS1 hS2 hS3 hS4 hS5 hS6 hS7 hS8 hS9 hS10 hS11 hS12 ((yz_hg_Cm_row (N := N) hS0 hS1 hS2 hS3 hS4 hS5 hS6 hS7 hS8 hS9 hS10 hS11 hS12 N))
theorem yz_hb_Cm_expression_359 {S : SF_Cm_fun} {G : Unit} (h : Kzc u0 u) (hS0 : ∀ (u : MS) a0, Kzc u0 u → KzE u0 (S.1 u a0)) (hS1 : ∀ (u : MS) a0 a1, Kzc u0 u → KzE u0 (S.2.1 u a0 a1)) (hS2 : ∀ (u : MS) a0 a1 a2 a3, Kzc u0 u → KzE u0 (S.2.2.1 u a0 a1 a2 a3)) (hS3 : ∀ (u : MS) a0 a1, Kzc u0 u → KzE u0 (S.2.2.2.1 u a0 a1)) (hS4 : ∀ (u : MS) a0 a1, Kzc u0 u → KzE u0 (S.2.2.2.2.1 u a0 a1)) (hS5 : ∀ (u : MS) a0 a1, Kzc u0 u → KzE u0 (S.2.2.2.2.2.1 u a0 a1)) (hS6 : ∀ (u : MS) a0 a1, Kzc u0 u → KzE u0 (S.2.2.2.2.2.2.1 u a0 a1)) (hS7 : ∀ (u : MS) a0, Kzc u0 u → KzE u0 (S.2.2.2.2.2.2.2.1 u a0)) (hS8 : ∀ (u : MS) a0, Kzc u0 u → KzE u0 (S.2.2.2.2.2.2.2.2.1 u a0)) (hS9 : ∀ (u : MS) a0, Kzc u0 u → KzE u0 (S.2.2.2.2.2.2.2.2.2.1 u a0)) (hS10 : ∀ (u : MS) a0 a1, Kzc u0 u → KzE u0 (S.2.2.2.2.2.2.2.2.2.2.1 u a0 a1)) (hS11 : ∀ (u : MS) a0 a1, Kzc u0 u → KzE u0 (S.2.2.2.2.2.2.2.2.2.2.2.1 u a0 a1)) (hS12 : ∀ (u : MS) a0 a1 a2, Kzc u0 u → KzE u0 (S.2.2.2.2.2.2.2.2.2.2.2.2 u a0 a1 a2)) : KzE u0 (hb_Cm_expression_359 N S G u) := by
  unfold hb_Cm_expression_359
  repeat' (first | with_reducible assumption | with_reducible refine Kz_br ?_ ?_ | with_reducible refine Kz_bnd ?_ (fun _ _ _ => ?_) | with_reducible refine Kz_ck ?_ | with_reducible refine Kz_ltm ?_ (fun _ _ => ?_) | with_reducible refine Kz_some ?_ | with_reducible refine Kz_bo (fun _ => ?_) | with_reducible refine Kz_T ?_ (fun _ _ _ => ?_) | with_reducible refine Kz_H ?_ (fun _ _ _ => ?_) (fun _ _ => ?_) | with_reducible exact hS0 _ _ (by assumption) | with_reducible exact hS1 _ _ _ (by assumption) | with_reducible exact hS2 _ _ _ _ _ (by assumption) | with_reducible exact hS3 _ _ _ (by assumption) | with_reducible exact hS4 _ _ _ (by assumption) | with_reducible exact hS5 _ _ _ (by assumption) | with_reducible exact hS6 _ _ _ (by assumption) | with_reducible exact hS7 _ _ (by assumption) | with_reducible exact hS8 _ _ (by assumption) | with_reducible exact hS9 _ _ (by assumption) | with_reducible exact hS10 _ _ _ (by assumption) | with_reducible exact hS11 _ _ _ (by assumption) | with_reducible exact hS12 _ _ _ _ (by assumption) | with_reducible refine Kz_ltv (fun _ => ?_) | with_reducible refine Kz_I ?_ (by decide) | with_reducible refine Kz_A ?_ (by decide) | with_reducible refine Kz_J ?_ | with_reducible refine Kz_L ?_)
theorem yz_hb_Cm_expression_227 {S : SF_Cm_fun} {G : Unit} {v1 : Int32} (h : Kzc u0 u) (hS0 : ∀ (u : MS) a0, Kzc u0 u → KzE u0 (S.1 u a0)) (hS1 : ∀ (u : MS) a0 a1, Kzc u0 u → KzE u0 (S.2.1 u a0 a1)) (hS2 : ∀ (u : MS) a0 a1 a2 a3, Kzc u0 u → KzE u0 (S.2.2.1 u a0 a1 a2 a3)) (hS3 : ∀ (u : MS) a0 a1, Kzc u0 u → KzE u0 (S.2.2.2.1 u a0 a1)) (hS4 : ∀ (u : MS) a0 a1, Kzc u0 u → KzE u0 (S.2.2.2.2.1 u a0 a1)) (hS5 : ∀ (u : MS) a0 a1, Kzc u0 u → KzE u0 (S.2.2.2.2.2.1 u a0 a1)) (hS6 : ∀ (u : MS) a0 a1, Kzc u0 u → KzE u0 (S.2.2.2.2.2.2.1 u a0 a1)) (hS7 : ∀ (u : MS) a0, Kzc u0 u → KzE u0 (S.2.2.2.2.2.2.2.1 u a0)) (hS8 : ∀ (u : MS) a0, Kzc u0 u → KzE u0 (S.2.2.2.2.2.2.2.2.1 u a0)) (hS9 : ∀ (u : MS) a0, Kzc u0 u → KzE u0 (S.2.2.2.2.2.2.2.2.2.1 u a0)) (hS10 : ∀ (u : MS) a0 a1, Kzc u0 u → KzE u0 (S.2.2.2.2.2.2.2.2.2.2.1 u a0 a1)) (hS11 : ∀ (u : MS) a0 a1, Kzc u0 u → KzE u0 (S.2.2.2.2.2.2.2.2.2.2.2.1 u a0 a1)) (hS12 : ∀ (u : MS) a0 a1 a2, Kzc u0 u → KzE u0 (S.2.2.2.2.2.2.2.2.2.2.2.2 u a0 a1 a2)) : KzE u0 (hb_Cm_expression_227 N S G u v1) := by
  unfold hb_Cm_expression_227
  repeat' (first | with_reducible assumption | with_reducible refine Kz_br ?_ ?_ | with_reducible refine Kz_bnd ?_ (fun _ _ _ => ?_) | with_reducible refine Kz_ck ?_ | with_reducible refine Kz_ltm ?_ (fun _ _ => ?_) | with_reducible refine Kz_some ?_ | with_reducible refine Kz_bo (fun _ => ?_) | with_reducible refine Kz_T ?_ (fun _ _ _ => ?_) | with_reducible refine Kz_H ?_ (fun _ _ _ => ?_) (fun _ _ => ?_) | with_reducible exact yz_hb_Cm_expression_359 (by assumption) hS0 hS1 hS2 hS3 hS4 hS5 hS6 hS7 hS8 hS9 hS10 hS11 hS12 | with_reducible exact yz_hm_Co_put (by assumption) | with_reducible exact hS0 _ _ (by assumption) | with_reducible exact hS1 _ _ _ (by assumption) | with_reducible exact hS2 _ _ _ _ _ (by assumption) | with_reducible exact hS3 _ _ _ (by assumption) | with_reducible exact hS4 _ _ _ (by assumption) | with_reducible exact hS5 _ _ _ (by assumption) | with_reducible exact hS6 _ _ _ (by assumption) | with_reducible exact hS7 _ _ (by assumption) | with_reducible exact hS8 _ _ (by assumption) | with_reducible exact hS9 _ _ (by assumption) | with_reducible exact hS10 _ _ _ (by assumption) | with_reducible exact hS11 _ _ _ (by assumption) | with_reducible exact hS12 _ _ _ _ (by assumption) | with_reducible refine Kz_ltv (fun _ => ?_) | with_reducible refine Kz_I ?_ (by decide) | with_reducible refine Kz_A ?_ (by decide) | with_reducible refine Kz_J ?_ | with_reducible refine Kz_L ?_)
theorem yz_hb_Cm_expression_221 {S : SF_Cm_fun} {G : Unit} {v1 : Int32} {v3 : Int32} (h : Kzc u0 u) (hS0 : ∀ (u : MS) a0, Kzc u0 u → KzE u0 (S.1 u a0)) (hS1 : ∀ (u : MS) a0 a1, Kzc u0 u → KzE u0 (S.2.1 u a0 a1)) (hS2 : ∀ (u : MS) a0 a1 a2 a3, Kzc u0 u → KzE u0 (S.2.2.1 u a0 a1 a2 a3)) (hS3 : ∀ (u : MS) a0 a1, Kzc u0 u → KzE u0 (S.2.2.2.1 u a0 a1)) (hS4 : ∀ (u : MS) a0 a1, Kzc u0 u → KzE u0 (S.2.2.2.2.1 u a0 a1)) (hS5 : ∀ (u : MS) a0 a1, Kzc u0 u → KzE u0 (S.2.2.2.2.2.1 u a0 a1)) (hS6 : ∀ (u : MS) a0 a1, Kzc u0 u → KzE u0 (S.2.2.2.2.2.2.1 u a0 a1)) (hS7 : ∀ (u : MS) a0, Kzc u0 u → KzE u0 (S.2.2.2.2.2.2.2.1 u a0)) (hS8 : ∀ (u : MS) a0, Kzc u0 u → KzE u0 (S.2.2.2.2.2.2.2.2.1 u a0)) (hS9 : ∀ (u : MS) a0, Kzc u0 u → KzE u0 (S.2.2.2.2.2.2.2.2.2.1 u a0)) (hS10 : ∀ (u : MS) a0 a1, Kzc u0 u → KzE u0 (S.2.2.2.2.2.2.2.2.2.2.1 u a0 a1)) (hS11 : ∀ (u : MS) a0 a1, Kzc u0 u → KzE u0 (S.2.2.2.2.2.2.2.2.2.2.2.1 u a0 a1)) (hS12 : ∀ (u : MS) a0 a1 a2, Kzc u0 u → KzE u0 (S.2.2.2.2.2.2.2.2.2.2.2.2 u a0 a1 a2)) : KzE u0 (hb_Cm_expression_221 N S G u v1 v3) := by
  unfold hb_Cm_expression_221
  repeat' (first | with_reducible assumption | with_reducible refine Kz_br ?_ ?_ | with_reducible refine Kz_bnd ?_ (fun _ _ _ => ?_) | with_reducible refine Kz_ck ?_ | with_reducible refine Kz_ltm ?_ (fun _ _ => ?_) | with_reducible refine Kz_some ?_ | with_reducible refine Kz_bo (fun _ => ?_) | with_reducible refine Kz_T ?_ (fun _ _ _ => ?_) | with_reducible refine Kz_H ?_ (fun _ _ _ => ?_) (fun _ _ => ?_) | with_reducible exact yz_hb_Cm_expression_227 (by assumption) hS0 hS1 hS2 hS3 hS4 hS5 hS6 hS7 hS8 hS9 hS10 hS11 hS12 | with_reducible exact yz_hm_Cm_fault (by assumption) | with_reducible exact hS0 _ _ (by assumption) | with_reducible exact hS1 _ _ _ (by assumption) | with_reducible exact hS2 _ _ _ _ _ (by assumption) | with_reducible exact hS3 _ _ _ (by assumption) | with_reducible exact hS4 _ _ _ (by assumption) | with_reducible exact hS5 _ _ _ (by assumption) | with_reducible exact hS6 _ _ _ (by assumption) | with_reducible exact hS7 _ _ (by assumption) | with_reducible exact hS8 _ _ (by assumption) | with_reducible exact hS9 _ _ (by assumption) | with_reducible exact hS10 _ _ _ (by assumption) | with_reducible exact hS11 _ _ _ (by assumption) | with_reducible exact hS12 _ _ _ _ (by assumption) | with_reducible refine Kz_ltv (fun _ => ?_) | with_reducible refine Kz_I ?_ (by decide) | with_reducible refine Kz_A ?_ (by decide) | with_reducible refine Kz_J ?_ | with_reducible refine Kz_L ?_)
theorem yz_hb_Cm_expression_0 {S : SF_Cm_fun} {G : Unit} {v1 : Int32} {v2 : Int32} (h : Kzc u0 u) (hS0 : ∀ (u : MS) a0, Kzc u0 u → KzE u0 (S.1 u a0)) (hS1 : ∀ (u : MS) a0 a1, Kzc u0 u → KzE u0 (S.2.1 u a0 a1)) (hS2 : ∀ (u : MS) a0 a1 a2 a3, Kzc u0 u → KzE u0 (S.2.2.1 u a0 a1 a2 a3)) (hS3 : ∀ (u : MS) a0 a1, Kzc u0 u → KzE u0 (S.2.2.2.1 u a0 a1)) (hS4 : ∀ (u : MS) a0 a1, Kzc u0 u → KzE u0 (S.2.2.2.2.1 u a0 a1)) (hS5 : ∀ (u : MS) a0 a1, Kzc u0 u → KzE u0 (S.2.2.2.2.2.1 u a0 a1)) (hS6 : ∀ (u : MS) a0 a1, Kzc u0 u → KzE u0 (S.2.2.2.2.2.2.1 u a0 a1)) (hS7 : ∀ (u : MS) a0, Kzc u0 u → KzE u0 (S.2.2.2.2.2.2.2.1 u a0)) (hS8 : ∀ (u : MS) a0, Kzc u0 u → KzE u0 (S.2.2.2.2.2.2.2.2.1 u a0)) (hS9 : ∀ (u : MS) a0, Kzc u0 u → KzE u0 (S.2.2.2.2.2.2.2.2.2.1 u a0)) (hS10 : ∀ (u : MS) a0 a1, Kzc u0 u → KzE u0 (S.2.2.2.2.2.2.2.2.2.2.1 u a0 a1)) (hS11 : ∀ (u : MS) a0 a1, Kzc u0 u → KzE u0 (S.2.2.2.2.2.2.2.2.2.2.2.1 u a0 a1)) (hS12 : ∀ (u : MS) a0 a1 a2, Kzc u0 u → KzE u0 (S.2.2.2.2.2.2.2.2.2.2.2.2 u a0 a1 a2)) : KzE u0 (hb_Cm_expression_0 N S G u v1 v2) := by
  unfold hb_Cm_expression_0
  repeat' (first | with_reducible assumption | with_reducible refine Kz_br ?_ ?_ | with_reducible refine Kz_bnd ?_ (fun _ _ _ => ?_) | with_reducible refine Kz_ck ?_ | with_reducible refine Kz_ltm ?_ (fun _ _ => ?_) | with_reducible refine Kz_some ?_ | with_reducible refine Kz_bo (fun _ => ?_) | with_reducible refine Kz_T ?_ (fun _ _ _ => ?_) | with_reducible refine Kz_H ?_ (fun _ _ _ => ?_) (fun _ _ => ?_) | with_reducible exact yz_hb_Cm_expression_221 (by assumption) hS0 hS1 hS2 hS3 hS4 hS5 hS6 hS7 hS8 hS9 hS10 hS11 hS12 | with_reducible exact yz_hb_Cm_expression_227 (by assumption) hS0 hS1 hS2 hS3 hS4 hS5 hS6 hS7 hS8 hS9 hS10 hS11 hS12 | with_reducible exact yz_hb_Cm_expression_359 (by assumption) hS0 hS1 hS2 hS3 hS4 hS5 hS6 hS7 hS8 hS9 hS10 hS11 hS12 | with_reducible exact yz_hm_Cm_notInGuard (by assumption) | with_reducible exact yz_hm_Cm_isBound (by assumption) | with_reducible exact yz_hm_Cm_string (by assumption) | with_reducible exact yz_hm_Cm_term (by assumption) | with_reducible exact yz_hm_Co_put (by assumption) | with_reducible exact hS0 _ _ (by assumption) | with_reducible exact hS1 _ _ _ (by assumption) | with_reducible exact hS2 _ _ _ _ _ (by assumption) | with_reducible exact hS3 _ _ _ (by assumption) | with_reducible exact hS4 _ _ _ (by assumption) | with_reducible exact hS5 _ _ _ (by assumption) | with_reducible exact hS6 _ _ _ (by assumption) | with_reducible exact hS7 _ _ (by assumption) | with_reducible exact hS8 _ _ (by assumption) | with_reducible exact hS9 _ _ (by assumption) | with_reducible exact hS10 _ _ _ (by assumption) | with_reducible exact hS11 _ _ _ (by assumption) | with_reducible exact hS12 _ _ _ _ (by assumption) | with_reducible refine Kz_ltv (fun _ => ?_) | with_reducible refine Kz_I ?_ (by decide) | with_reducible refine Kz_A ?_ (by decide) | with_reducible refine Kz_J ?_ | with_reducible refine Kz_L ?_)
theorem yz_hm_Cm_expression {S : SF_Cm_fun} {v1 : Int32} {v2 : Int32} (h : Kzc u0 u) (hS0 : ∀ (u : MS) a0, Kzc u0 u → KzE u0 (S.1 u a0)) (hS1 : ∀ (u : MS) a0 a1, Kzc u0 u → KzE u0 (S.2.1 u a0 a1)) (hS2 : ∀ (u : MS) a0 a1 a2 a3, Kzc u0 u → KzE u0 (S.2.2.1 u a0 a1 a2 a3)) (hS3 : ∀ (u : MS) a0 a1, Kzc u0 u → KzE u0 (S.2.2.2.1 u a0 a1)) (hS4 : ∀ (u : MS) a0 a1, Kzc u0 u → KzE u0 (S.2.2.2.2.1 u a0 a1)) (hS5 : ∀ (u : MS) a0 a1, Kzc u0 u → KzE u0 (S.2.2.2.2.2.1 u a0 a1)) (hS6 : ∀ (u : MS) a0 a1, Kzc u0 u → KzE u0 (S.2.2.2.2.2.2.1 u a0 a1)) (hS7 : ∀ (u : MS) a0, Kzc u0 u → KzE u0 (S.2.2.2.2.2.2.2.1 u a0)) (hS8 : ∀ (u : MS) a0, Kzc u0 u → KzE u0 (S.2.2.2.2.2.2.2.2.1 u a0)) (hS9 : ∀ (u : MS) a0, Kzc u0 u → KzE u0 (S.2.2.2.2.2.2.2.2.2.1 u a0)) (hS10 : ∀ (u : MS) a0 a1, Kzc u0 u → KzE u0 (S.2.2.2.2.2.2.2.2.2.2.1 u a0 a1)) (hS11 : ∀ (u : MS) a0 a1, Kzc u0 u → KzE u0 (S.2.2.2.2.2.2.2.2.2.2.2.1 u a0 a1)) (hS12 : ∀ (u : MS) a0 a1 a2, Kzc u0 u → KzE u0 (S.2.2.2.2.2.2.2.2.2.2.2.2 u a0 a1 a2)) : KzE u0 (hm_Cm_expression N S u v1 v2) := by
  unfold hm_Cm_expression
  exact yz_hb_Cm_expression_0 h hS0 hS1 hS2 hS3 hS4 hS5 hS6 hS7 hS8 hS9 hS10 hS11 hS12
theorem yz_hb_Cm_tries_181 {S : SF_Cm_fun} {G : (MS → Int32 → Int32 → Int32 → Int32 → Option (MS × Int32)) × (MS → Int32 → Int32 → Int32 → Option (MS × Int32))} {v4 : Int32} {v5 : Int32} {v6 : Int32} (h : Kzc u0 u) (hS0 : ∀ (u : MS) a0, Kzc u0 u → KzE u0 (S.1 u a0)) (hS1 : ∀ (u : MS) a0 a1, Kzc u0 u → KzE u0 (S.2.1 u a0 a1)) (hS2 : ∀ (u : MS) a0 a1 a2 a3, Kzc u0 u → KzE u0 (S.2.2.1 u a0 a1 a2 a3)) (hS3 : ∀ (u : MS) a0 a1, Kzc u0 u → KzE u0 (S.2.2.2.1 u a0 a1)) (hS4 : ∀ (u : MS) a0 a1, Kzc u0 u → KzE u0 (S.2.2.2.2.1 u a0 a1)) (hS5 : ∀ (u : MS) a0 a1, Kzc u0 u → KzE u0 (S.2.2.2.2.2.1 u a0 a1)) (hS6 : ∀ (u : MS) a0 a1, Kzc u0 u → KzE u0 (S.2.2.2.2.2.2.1 u a0 a1)) (hS7 : ∀ (u : MS) a0, Kzc u0 u → KzE u0 (S.2.2.2.2.2.2.2.1 u a0)) (hS8 : ∀ (u : MS) a0, Kzc u0 u → KzE u0 (S.2.2.2.2.2.2.2.2.1 u a0)) (hS9 : ∀ (u : MS) a0, Kzc u0 u → KzE u0 (S.2.2.2.2.2.2.2.2.2.1 u a0)) (hS10 : ∀ (u : MS) a0 a1, Kzc u0 u → KzE u0 (S.2.2.2.2.2.2.2.2.2.2.1 u a0 a1)) (hS11 : ∀ (u : MS) a0 a1, Kzc u0 u → KzE u0 (S.2.2.2.2.2.2.2.2.2.2.2.1 u a0 a1)) (hS12 : ∀ (u : MS) a0 a1 a2, Kzc u0 u → KzE u0 (S.2.2.2.2.2.2.2.2.2.2.2.2 u a0 a1 a2)) (hG0 : ∀ (u : MS) a0 a1 a2 a3, Kzc u0 u → KzE u0 (G.1 u a0 a1 a2 a3)) (hG1 : ∀ (u : MS) a0 a1 a2, Kzc u0 u → KzE u0 (G.2 u a0 a1 a2)) : KzE u0 (hb_Cm_tries_181 N S G u v4 v5 v6) := by
  unfold hb_Cm_tries_181
  repeat' (first | with_reducible assumption | with_reducible refine Kz_br ?_ ?_ | with_reducible refine Kz_bnd ?_ (fun _ _ _ => ?_) | with_reducible refine Kz_ck ?_ | with_reducible refine Kz_ltm ?_ (fun _ _ => ?_) | with_reducible refine Kz_some ?_ | with_reducible refine Kz_bo (fun _ => ?_) | with_reducible refine Kz_T ?_ (fun _ _ _ => ?_) | with_reducible refine Kz_H ?_ (fun _ _ _ => ?_) (fun _ _ => ?_) | with_reducible exact yz_hm_Co_put (by assumption) | with_reducible exact hS0 _ _ (by assumption) | with_reducible exact hS1 _ _ _ (by assumption) | with_reducible exact hS2 _ _ _ _ _ (by assumption) | with_reducible exact hS3 _ _ _ (by assumption) | with_reducible exact hS4 _ _ _ (by assumption) | with_reducible exact hS5 _ _ _ (by assumption) | with_reducible exact hS6 _ _ _ (by assumption) | with_reducible exact hS7 _ _ (by assumption) | with_reducible exact hS8 _ _ (by assumption) | with_reducible exact hS9 _ _ (by assumption) | with_reducible exact hS10 _ _ _ (by assumption) | with_reducible exact hS11 _ _ _ (by assumption) | with_reducible exact hS12 _ _ _ _ (by assumption) | with_reducible exact hG0 _ _ _ _ _ (by assumption) | with_reducible exact hG1 _ _ _ _ (by assumption) | with_reducible refine Kz_ltv (fun _ => ?_) | with_reducible refine Kz_I ?_ (by decide) | with_reducible refine Kz_A ?_ (by decide) | with_reducible refine Kz_J ?_ | with_reducible refine Kz_L ?_)
theorem yz_hb_Cm_tries_111 {S : SF_Cm_fun} {G : (MS → Int32 → Int32 → Int32 → Int32 → Option (MS × Int32)) × (MS → Int32 → Int32 → Int32 → Option (MS × Int32))} {v2 : Int32} {v3 : Int32} {v4 : Int32} (h : Kzc u0 u) (hS0 : ∀ (u : MS) a0, Kzc u0 u → KzE u0 (S.1 u a0)) (hS1 : ∀ (u : MS) a0 a1, Kzc u0 u → KzE u0 (S.2.1 u a0 a1)) (hS2 : ∀ (u : MS) a0 a1 a2 a3, Kzc u0 u → KzE u0 (S.2.2.1 u a0 a1 a2 a3)) (hS3 : ∀ (u : MS) a0 a1, Kzc u0 u → KzE u0 (S.2.2.2.1 u a0 a1)) (hS4 : ∀ (u : MS) a0 a1, Kzc u0 u → KzE u0 (S.2.2.2.2.1 u a0 a1)) (hS5 : ∀ (u : MS) a0 a1, Kzc u0 u → KzE u0 (S.2.2.2.2.2.1 u a0 a1)) (hS6 : ∀ (u : MS) a0 a1, Kzc u0 u → KzE u0 (S.2.2.2.2.2.2.1 u a0 a1)) (hS7 : ∀ (u : MS) a0, Kzc u0 u → KzE u0 (S.2.2.2.2.2.2.2.1 u a0)) (hS8 : ∀ (u : MS) a0, Kzc u0 u → KzE u0 (S.2.2.2.2.2.2.2.2.1 u a0)) (hS9 : ∀ (u : MS) a0, Kzc u0 u → KzE u0 (S.2.2.2.2.2.2.2.2.2.1 u a0)) (hS10 : ∀ (u : MS) a0 a1, Kzc u0 u → KzE u0 (S.2.2.2.2.2.2.2.2.2.2.1 u a0 a1)) (hS11 : ∀ (u : MS) a0 a1, Kzc u0 u → KzE u0 (S.2.2.2.2.2.2.2.2.2.2.2.1 u a0 a1)) (hS12 : ∀ (u : MS) a0 a1 a2, Kzc u0 u → KzE u0 (S.2.2.2.2.2.2.2.2.2.2.2.2 u a0 a1 a2)) (hG0 : ∀ (u : MS) a0 a1 a2 a3, Kzc u0 u → KzE u0 (G.1 u a0 a1 a2 a3)) (hG1 : ∀ (u : MS) a0 a1 a2, Kzc u0 u → KzE u0 (G.2 u a0 a1 a2)) : KzE u0 (hb_Cm_tries_111 N S G u v2 v3 v4) := by
  unfold hb_Cm_tries_111
  repeat' (first | with_reducible assumption | with_reducible refine Kz_br ?_ ?_ | with_reducible refine Kz_bnd ?_ (fun _ _ _ => ?_) | with_reducible refine Kz_ck ?_ | with_reducible refine Kz_ltm ?_ (fun _ _ => ?_) | with_reducible refine Kz_some ?_ | with_reducible refine Kz_bo (fun _ => ?_) | with_reducible refine Kz_T ?_ (fun _ _ _ => ?_) | with_reducible refine Kz_H ?_ (fun _ _ _ => ?_) (fun _ _ => ?_) | with_reducible exact yz_hm_Co_hook (by assumption) | with_reducible exact yz_hm_Co_put (by assumption) | with_reducible exact hS0 _ _ (by assumption) | with_reducible exact hS1 _ _ _ (by assumption) | with_reducible exact hS2 _ _ _ _ _ (by assumption) | with_reducible exact hS3 _ _ _ (by assumption) | with_reducible exact hS4 _ _ _ (by assumption) | with_reducible exact hS5 _ _ _ (by assumption) | with_reducible exact hS6 _ _ _ (by assumption) | with_reducible exact hS7 _ _ (by assumption) | with_reducible exact hS8 _ _ (by assumption) | with_reducible exact hS9 _ _ (by assumption) | with_reducible exact hS10 _ _ _ (by assumption) | with_reducible exact hS11 _ _ _ (by assumption) | with_reducible exact hS12 _ _ _ _ (by assumption) | with_reducible exact hG0 _ _ _ _ _ (by assumption) | with_reducible exact hG1 _ _ _ _ (by assumption) | with_reducible refine Kz_ltv (fun _ => ?_) | with_reducible refine Kz_I ?_ (by decide) | with_reducible refine Kz_A ?_ (by decide) | with_reducible refine Kz_J ?_ | with_reducible refine Kz_L ?_)
theorem yz_hb_Cm_tries_71 {S : SF_Cm_fun} {G : (MS → Int32 → Int32 → Int32 → Int32 → Option (MS × Int32)) × (MS → Int32 → Int32 → Int32 → Option (MS × Int32))} {v2 : Int32} {v3 : Int32} {v4 : Int32} {v5 : Int32} (h : Kzc u0 u) (hS0 : ∀ (u : MS) a0, Kzc u0 u → KzE u0 (S.1 u a0)) (hS1 : ∀ (u : MS) a0 a1, Kzc u0 u → KzE u0 (S.2.1 u a0 a1)) (hS2 : ∀ (u : MS) a0 a1 a2 a3, Kzc u0 u → KzE u0 (S.2.2.1 u a0 a1 a2 a3)) (hS3 : ∀ (u : MS) a0 a1, Kzc u0 u → KzE u0 (S.2.2.2.1 u a0 a1)) (hS4 : ∀ (u : MS) a0 a1, Kzc u0 u → KzE u0 (S.2.2.2.2.1 u a0 a1)) (hS5 : ∀ (u : MS) a0 a1, Kzc u0 u → KzE u0 (S.2.2.2.2.2.1 u a0 a1)) (hS6 : ∀ (u : MS) a0 a1, Kzc u0 u → KzE u0 (S.2.2.2.2.2.2.1 u a0 a1)) (hS7 : ∀ (u : MS) a0, Kzc u0 u → KzE u0 (S.2.2.2.2.2.2.2.1 u a0)) (hS8 : ∀ (u : MS) a0, Kzc u0 u → KzE u0 (S.2.2.2.2.2.2.2.2.1 u a0)) (hS9 : ∀ (u : MS) a0, Kzc u0 u → KzE u0 (S.2.2.2.2.2.2.2.2.2.1 u a0)) (hS10 : ∀ (u : MS) a0 a1, Kzc u0 u → KzE u0 (S.2.2.2.2.2.2.2.2.2.2.1 u a0 a1)) (hS11 : ∀ (u : MS) a0 a1, Kzc u0 u → KzE u0 (S.2.2.2.2.2.2.2.2.2.2.2.1 u a0 a1)) (hS12 : ∀ (u : MS) a0 a1 a2, Kzc u0 u → KzE u0 (S.2.2.2.2.2.2.2.2.2.2.2.2 u a0 a1 a2)) (hG0 : ∀ (u : MS) a0 a1 a2 a3, Kzc u0 u → KzE u0 (G.1 u a0 a1 a2 a3)) (hG1 : ∀ (u : MS) a0 a1 a2, Kzc u0 u → KzE u0 (G.2 u a0 a1 a2)) : KzE u0 (hb_Cm_tries_71 N S G u v2 v3 v4 v5) := by
  unfold hb_Cm_tries_71
  repeat' (first | with_reducible assumption | with_reducible refine Kz_br ?_ ?_ | with_reducible refine Kz_bnd ?_ (fun _ _ _ => ?_) | with_reducible refine Kz_ck ?_ | with_reducible refine Kz_ltm ?_ (fun _ _ => ?_) | with_reducible refine Kz_some ?_ | with_reducible refine Kz_bo (fun _ => ?_) | with_reducible refine Kz_T ?_ (fun _ _ _ => ?_) | with_reducible refine Kz_H ?_ (fun _ _ _ => ?_) (fun _ _ => ?_) | with_reducible exact yz_hb_Cm_tries_111 (by assumption) hS0 hS1 hS2 hS3 hS4 hS5 hS6 hS7 hS8 hS9 hS10 hS11 hS12 hG0 hG1 | with_reducible exact yz_hr_Cm_pattern (by assumption) | with_reducible exact yz_hm_Co_put (by assumption) | with_reducible exact hS0 _ _ (by assumption) | with_reducible exact hS1 _ _ _ (by assumption) | with_reducible exact hS2 _ _ _ _ _ (by assumption) | with_reducible exact hS3 _ _ _ (by assumption) | with_reducible exact hS4 _ _ _ (by assumption) | with_reducible exact hS5 _ _ _ (by assumption) | with_reducible exact hS6 _ _ _ (by assumption) | with_reducible exact hS7 _ _ (by assumption) | with_reducible exact hS8 _ _ (by assumption) | with_reducible exact hS9 _ _ (by assumption) | with_reducible exact hS10 _ _ _ (by assumption) | with_reducible exact hS11 _ _ _ (by assumption) | with_reducible exact hS12 _ _ _ _ (by assumption) | with_reducible exact hG0 _ _ _ _ _ (by assumption) | with_reducible exact hG1 _ _ _ _ (by assumption) | with_reducible refine Kz_ltv (fun _ => ?_) | with_reducible refine Kz_I ?_ (by decide) | with_reducible refine Kz_A ?_ (by decide) | with_reducible refine Kz_J ?_ | with_reducible refine Kz_L ?_)
theorem yz_hb_Cm_tries_57 {S : SF_Cm_fun} {G : (MS → Int32 → Int32 → Int32 → Int32 → Option (MS × Int32)) × (MS → Int32 → Int32 → Int32 → Option (MS × Int32))} {v2 : Int32} {v3 : Int32} {v4 : Int32} {t1 : Int32} (h : Kzc u0 u) (hS0 : ∀ (u : MS) a0, Kzc u0 u → KzE u0 (S.1 u a0)) (hS1 : ∀ (u : MS) a0 a1, Kzc u0 u → KzE u0 (S.2.1 u a0 a1)) (hS2 : ∀ (u : MS) a0 a1 a2 a3, Kzc u0 u → KzE u0 (S.2.2.1 u a0 a1 a2 a3)) (hS3 : ∀ (u : MS) a0 a1, Kzc u0 u → KzE u0 (S.2.2.2.1 u a0 a1)) (hS4 : ∀ (u : MS) a0 a1, Kzc u0 u → KzE u0 (S.2.2.2.2.1 u a0 a1)) (hS5 : ∀ (u : MS) a0 a1, Kzc u0 u → KzE u0 (S.2.2.2.2.2.1 u a0 a1)) (hS6 : ∀ (u : MS) a0 a1, Kzc u0 u → KzE u0 (S.2.2.2.2.2.2.1 u a0 a1)) (hS7 : ∀ (u : MS) a0, Kzc u0 u → KzE u0 (S.2.2.2.2.2.2.2.1 u a0)) (hS8 : ∀ (u : MS) a0, Kzc u0 u → KzE u0 (S.2.2.2.2.2.2.2.2.1 u a0)) (hS9 : ∀ (u : MS) a0, Kzc u0 u → KzE u0 (S.2.2.2.2.2.2.2.2.2.1 u a0)) (hS10 : ∀ (u : MS) a0 a1, Kzc u0 u → KzE u0 (S.2.2.2.2.2.2.2.2.2.2.1 u a0 a1)) (hS11 : ∀ (u : MS) a0 a1, Kzc u0 u → KzE u0 (S.2.2.2.2.2.2.2.2.2.2.2.1 u a0 a1)) (hS12 : ∀ (u : MS) a0 a1 a2, Kzc u0 u → KzE u0 (S.2.2.2.2.2.2.2.2.2.2.2.2 u a0 a1 a2)) (hG0 : ∀ (u : MS) a0 a1 a2 a3, Kzc u0 u → KzE u0 (G.1 u a0 a1 a2 a3)) (hG1 : ∀ (u : MS) a0 a1 a2, Kzc u0 u → KzE u0 (G.2 u a0 a1 a2)) : KzE u0 (hb_Cm_tries_57 N S G u v2 v3 v4 t1) := by
  unfold hb_Cm_tries_57
  repeat' (first | with_reducible assumption | with_reducible refine Kz_br ?_ ?_ | with_reducible refine Kz_bnd ?_ (fun _ _ _ => ?_) | with_reducible refine Kz_ck ?_ | with_reducible refine Kz_ltm ?_ (fun _ _ => ?_) | with_reducible refine Kz_some ?_ | with_reducible refine Kz_bo (fun _ => ?_) | with_reducible refine Kz_T ?_ (fun _ _ _ => ?_) | with_reducible refine Kz_H ?_ (fun _ _ _ => ?_) (fun _ _ => ?_) | with_reducible exact hS0 _ _ (by assumption) | with_reducible exact hS1 _ _ _ (by assumption) | with_reducible exact hS2 _ _ _ _ _ (by assumption) | with_reducible exact hS3 _ _ _ (by assumption) | with_reducible exact hS4 _ _ _ (by assumption) | with_reducible exact hS5 _ _ _ (by assumption) | with_reducible exact hS6 _ _ _ (by assumption) | with_reducible exact hS7 _ _ (by assumption) | with_reducible exact hS8 _ _ (by assumption) | with_reducible exact hS9 _ _ (by assumption) | with_reducible exact hS10 _ _ _ (by assumption) | with_reducible exact hS11 _ _ _ (by assumption) | with_reducible exact hS12 _ _ _ _ (by assumption) | with_reducible exact hG0 _ _ _ _ _ (by assumption) | with_reducible exact hG1 _ _ _ _ (by assumption) | with_reducible refine Kz_ltv (fun _ => ?_) | with_reducible refine Kz_I ?_ (by decide) | with_reducible refine Kz_A ?_ (by decide) | with_reducible refine Kz_J ?_ | with_reducible refine Kz_L ?_)
theorem yz_hb_Cm_tries_0 {S : SF_Cm_fun} {G : (MS → Int32 → Int32 → Int32 → Int32 → Option (MS × Int32)) × (MS → Int32 → Int32 → Int32 → Option (MS × Int32))} {v1 : Int32} {v2 : Int32} (h : Kzc u0 u) (hS0 : ∀ (u : MS) a0, Kzc u0 u → KzE u0 (S.1 u a0)) (hS1 : ∀ (u : MS) a0 a1, Kzc u0 u → KzE u0 (S.2.1 u a0 a1)) (hS2 : ∀ (u : MS) a0 a1 a2 a3, Kzc u0 u → KzE u0 (S.2.2.1 u a0 a1 a2 a3)) (hS3 : ∀ (u : MS) a0 a1, Kzc u0 u → KzE u0 (S.2.2.2.1 u a0 a1)) (hS4 : ∀ (u : MS) a0 a1, Kzc u0 u → KzE u0 (S.2.2.2.2.1 u a0 a1)) (hS5 : ∀ (u : MS) a0 a1, Kzc u0 u → KzE u0 (S.2.2.2.2.2.1 u a0 a1)) (hS6 : ∀ (u : MS) a0 a1, Kzc u0 u → KzE u0 (S.2.2.2.2.2.2.1 u a0 a1)) (hS7 : ∀ (u : MS) a0, Kzc u0 u → KzE u0 (S.2.2.2.2.2.2.2.1 u a0)) (hS8 : ∀ (u : MS) a0, Kzc u0 u → KzE u0 (S.2.2.2.2.2.2.2.2.1 u a0)) (hS9 : ∀ (u : MS) a0, Kzc u0 u → KzE u0 (S.2.2.2.2.2.2.2.2.2.1 u a0)) (hS10 : ∀ (u : MS) a0 a1, Kzc u0 u → KzE u0 (S.2.2.2.2.2.2.2.2.2.2.1 u a0 a1)) (hS11 : ∀ (u : MS) a0 a1, Kzc u0 u → KzE u0 (S.2.2.2.2.2.2.2.2.2.2.2.1 u a0 a1)) (hS12 : ∀ (u : MS) a0 a1 a2, Kzc u0 u → KzE u0 (S.2.2.2.2.2.2.2.2.2.2.2.2 u a0 a1 a2)) (hG0 : ∀ (u : MS) a0 a1 a2 a3, Kzc u0 u → KzE u0 (G.1 u a0 a1 a2 a3)) (hG1 : ∀ (u : MS) a0 a1 a2, Kzc u0 u → KzE u0 (G.2 u a0 a1 a2)) : KzE u0 (hb_Cm_tries_0 N S G u v1 v2) := by
  unfold hb_Cm_tries_0
  repeat' (first | with_reducible assumption | with_reducible refine Kz_br ?_ ?_ | with_reducible refine Kz_bnd ?_ (fun _ _ _ => ?_) | with_reducible refine Kz_ck ?_ | with_reducible refine Kz_ltm ?_ (fun _ _ => ?_) | with_reducible refine Kz_some ?_ | with_reducible refine Kz_bo (fun _ => ?_) | with_reducible refine Kz_T ?_ (fun _ _ _ => ?_) | with_reducible refine Kz_H ?_ (fun _ _ _ => ?_) (fun _ _ => ?_) | with_reducible exact yz_hb_Cm_tries_111 (by assumption) hS0 hS1 hS2 hS3 hS4 hS5 hS6 hS7 hS8 hS9 hS10 hS11 hS12 hG0 hG1 | with_reducible exact yz_hb_Cm_tries_57 (by assumption) hS0 hS1 hS2 hS3 hS4 hS5 hS6 hS7 hS8 hS9 hS10 hS11 hS12 hG0 hG1 | with_reducible exact yz_hm_Co_hook (by assumption) | with_reducible exact yz_hm_Co_put (by assumption) | with_reducible exact hS0 _ _ (by assumption) | with_reducible exact hS1 _ _ _ (by assumption) | with_reducible exact hS2 _ _ _ _ _ (by assumption) | with_reducible exact hS3 _ _ _ (by assumption) | with_reducible exact hS4 _ _ _ (by assumption) | with_reducible exact hS5 _ _ _ (by assumption) | with_reducible exact hS6 _ _ _ (by assumption) | with_reducible exact hS7 _ _ (by assumption) | with_reducible exact hS8 _ _ (by assumption) | with_reducible exact hS9 _ _ (by assumption) | with_reducible exact hS10 _ _ _ (by assumption) | with_reducible exact hS11 _ _ _ (by assumption) | with_reducible exact hS12 _ _ _ _ (by assumption) | with_reducible exact hG0 _ _ _ _ _ (by assumption) | with_reducible exact hG1 _ _ _ _ (by assumption) | with_reducible refine Kz_ltv (fun _ => ?_) | with_reducible refine Kz_I ?_ (by decide) | with_reducible refine Kz_A ?_ (by decide) | with_reducible refine Kz_J ?_ | with_reducible refine Kz_L ?_)
theorem yz_hg_Cm_tries {S : SF_Cm_fun} (hS0 : ∀ (u : MS) a0, Kzc u0 u → KzE u0 (S.1 u a0)) (hS1 : ∀ (u : MS) a0 a1, Kzc u0 u → KzE u0 (S.2.1 u a0 a1)) (hS2 : ∀ (u : MS) a0 a1 a2 a3, Kzc u0 u → KzE u0 (S.2.2.1 u a0 a1 a2 a3)) (hS3 : ∀ (u : MS) a0 a1, Kzc u0 u → KzE u0 (S.2.2.2.1 u a0 a1)) (hS4 : ∀ (u : MS) a0 a1, Kzc u0 u → KzE u0 (S.2.2.2.2.1 u a0 a1)) (hS5 : ∀ (u : MS) a0 a1, Kzc u0 u → KzE u0 (S.2.2.2.2.2.1 u a0 a1)) (hS6 : ∀ (u : MS) a0 a1, Kzc u0 u → KzE u0 (S.2.2.2.2.2.2.1 u a0 a1)) (hS7 : ∀ (u : MS) a0, Kzc u0 u → KzE u0 (S.2.2.2.2.2.2.2.1 u a0)) (hS8 : ∀ (u : MS) a0, Kzc u0 u → KzE u0 (S.2.2.2.2.2.2.2.2.1 u a0)) (hS9 : ∀ (u : MS) a0, Kzc u0 u → KzE u0 (S.2.2.2.2.2.2.2.2.2.1 u a0)) (hS10 : ∀ (u : MS) a0 a1, Kzc u0 u → KzE u0 (S.2.2.2.2.2.2.2.2.2.2.1 u a0 a1)) (hS11 : ∀ (u : MS) a0 a1, Kzc u0 u → KzE u0 (S.2.2.2.2.2.2.2.2.2.2.2.1 u a0 a1)) (hS12 : ∀ (u : MS) a0 a1 a2, Kzc u0 u → KzE u0 (S.2.2.2.2.2.2.2.2.2.2.2.2 u a0 a1 a2)) (n : Nat) : (∀ (u : MS) a0 a1 a2 a3, Kzc u0 u → KzE u0 ((hg_Cm_tries N S n).1 u a0 a1 a2 a3)) ∧ (∀ (u : MS) a0 a1 a2, Kzc u0 u → KzE u0 ((hg_Cm_tries N S n).2 u a0 a1 a2)) := by
  induction n with
  | zero => exact ⟨fun _ _ _ _ _ _ => Kz_none, fun _ _ _ _ _ => Kz_none⟩
  | succ n ih => exact ⟨fun _ _ _ _ _ h => yz_hb_Cm_tries_71 (N := N) h hS0 hS1 hS2 hS3 hS4 hS5 hS6 hS7 hS8 hS9 hS10 hS11 hS12 ih.1 ih.2, fun _ _ _ _ h => yz_hb_Cm_tries_181 (N := N) h hS0 hS1 hS2 hS3 hS4 hS5 hS6 hS7 hS8 hS9 hS10 hS11 hS12 ih.1 ih.2⟩
theorem yz_hm_Cm_tries {S : SF_Cm_fun} {v1 : Int32} {v2 : Int32} (h : Kzc u0 u) (hS0 : ∀ (u : MS) a0, Kzc u0 u → KzE u0 (S.1 u a0)) (hS1 : ∀ (u : MS) a0 a1, Kzc u0 u → KzE u0 (S.2.1 u a0 a1)) (hS2 : ∀ (u : MS) a0 a1 a2 a3, Kzc u0 u → KzE u0 (S.2.2.1 u a0 a1 a2 a3)) (hS3 : ∀ (u : MS) a0 a1, Kzc u0 u → KzE u0 (S.2.2.2.1 u a0 a1)) (hS4 : ∀ (u : MS) a0 a1, Kzc u0 u → KzE u0 (S.2.2.2.2.1 u a0 a1)) (hS5 : ∀ (u : MS) a0 a1, Kzc u0 u → KzE u0 (S.2.2.2.2.2.1 u a0 a1)) (hS6 : ∀ (u : MS) a0 a1, Kzc u0 u → KzE u0 (S.2.2.2.2.2.2.1 u a0 a1)) (hS7 : ∀ (u : MS) a0, Kzc u0 u → KzE u0 (S.2.2.2.2.2.2.2.1 u a0)) (hS8 : ∀ (u : MS) a0, Kzc u0 u → KzE u0 (S.2.2.2.2.2.2.2.2.1 u a0)) (hS9 : ∀ (u : MS) a0, Kzc u0 u → KzE u0 (S.2.2.2.2.2.2.2.2.2.1 u a0)) (hS10 : ∀ (u : MS) a0 a1, Kzc u0 u → KzE u0 (S.2.2.2.2.2.2.2.2.2.2.1 u a0 a1)) (hS11 : ∀ (u : MS) a0 a1, Kzc u0 u → KzE u0 (S.2.2.2.2.2.2.2.2.2.2.2.1 u a0 a1)) (hS12 : ∀ (u : MS) a0 a1 a2, Kzc u0 u → KzE u0 (S.2.2.2.2.2.2.2.2.2.2.2.2 u a0 a1 a2)) : KzE u0 (hm_Cm_tries N S u v1 v2) := by
  unfold hm_Cm_tries
  exact yz_hb_Cm_tries_0 h hS0 hS1 hS2 hS3 hS4 hS5 hS6 hS7 hS8 hS9 hS10 hS11 hS12 ((yz_hg_Cm_tries (N := N) hS0 hS1 hS2 hS3 hS4 hS5 hS6 hS7 hS8 hS9 hS10 hS11 hS12 N).1) ((yz_hg_Cm_tries (N := N) hS0 hS1 hS2 hS3 hS4 hS5 hS6 hS7 hS8 hS9 hS10 hS11 hS12 N).2)
theorem yz_hb_Cm_clause_0 {S : SF_Cm_fun} {G : Unit} {v1 : Int32} {v2 : Int32} {v3 : Int32} (h : Kzc u0 u) (hS0 : ∀ (u : MS) a0, Kzc u0 u → KzE u0 (S.1 u a0)) (hS1 : ∀ (u : MS) a0 a1, Kzc u0 u → KzE u0 (S.2.1 u a0 a1)) (hS2 : ∀ (u : MS) a0 a1 a2 a3, Kzc u0 u → KzE u0 (S.2.2.1 u a0 a1 a2 a3)) (hS3 : ∀ (u : MS) a0 a1, Kzc u0 u → KzE u0 (S.2.2.2.1 u a0 a1)) (hS4 : ∀ (u : MS) a0 a1, Kzc u0 u → KzE u0 (S.2.2.2.2.1 u a0 a1)) (hS5 : ∀ (u : MS) a0 a1, Kzc u0 u → KzE u0 (S.2.2.2.2.2.1 u a0 a1)) (hS6 : ∀ (u : MS) a0 a1, Kzc u0 u → KzE u0 (S.2.2.2.2.2.2.1 u a0 a1)) (hS7 : ∀ (u : MS) a0, Kzc u0 u → KzE u0 (S.2.2.2.2.2.2.2.1 u a0)) (hS8 : ∀ (u : MS) a0, Kzc u0 u → KzE u0 (S.2.2.2.2.2.2.2.2.1 u a0)) (hS9 : ∀ (u : MS) a0, Kzc u0 u → KzE u0 (S.2.2.2.2.2.2.2.2.2.1 u a0)) (hS10 : ∀ (u : MS) a0 a1, Kzc u0 u → KzE u0 (S.2.2.2.2.2.2.2.2.2.2.1 u a0 a1)) (hS11 : ∀ (u : MS) a0 a1, Kzc u0 u → KzE u0 (S.2.2.2.2.2.2.2.2.2.2.2.1 u a0 a1)) (hS12 : ∀ (u : MS) a0 a1 a2, Kzc u0 u → KzE u0 (S.2.2.2.2.2.2.2.2.2.2.2.2 u a0 a1 a2)) : KzE u0 (hb_Cm_clause_0 N S G u v1 v2 v3) := by
  unfold hb_Cm_clause_0
  repeat' (first | with_reducible assumption | with_reducible refine Kz_br ?_ ?_ | with_reducible refine Kz_bnd ?_ (fun _ _ _ => ?_) | with_reducible refine Kz_ck ?_ | with_reducible refine Kz_ltm ?_ (fun _ _ => ?_) | with_reducible refine Kz_some ?_ | with_reducible refine Kz_bo (fun _ => ?_) | with_reducible refine Kz_T ?_ (fun _ _ _ => ?_) | with_reducible refine Kz_H ?_ (fun _ _ _ => ?_) (fun _ _ => ?_) | with_reducible exact yz_hm_Co_arrive (by assumption) | with_reducible exact yz_hm_Co_put (by assumption) | with_reducible exact hS0 _ _ (by assumption) | with_reducible exact hS1 _ _ _ (by assumption) | with_reducible exact hS2 _ _ _ _ _ (by assumption) | with_reducible exact hS3 _ _ _ (by assumption) | with_reducible exact hS4 _ _ _ (by assumption) | with_reducible exact hS5 _ _ _ (by assumption) | with_reducible exact hS6 _ _ _ (by assumption) | with_reducible exact hS7 _ _ (by assumption) | with_reducible exact hS8 _ _ (by assumption) | with_reducible exact hS9 _ _ (by assumption) | with_reducible exact hS10 _ _ _ (by assumption) | with_reducible exact hS11 _ _ _ (by assumption) | with_reducible exact hS12 _ _ _ _ (by assumption) | with_reducible refine Kz_ltv (fun _ => ?_) | with_reducible refine Kz_I ?_ (by decide) | with_reducible refine Kz_A ?_ (by decide) | with_reducible refine Kz_J ?_ | with_reducible refine Kz_L ?_)
theorem yz_hm_Cm_clause {S : SF_Cm_fun} {v1 : Int32} {v2 : Int32} {v3 : Int32} (h : Kzc u0 u) (hS0 : ∀ (u : MS) a0, Kzc u0 u → KzE u0 (S.1 u a0)) (hS1 : ∀ (u : MS) a0 a1, Kzc u0 u → KzE u0 (S.2.1 u a0 a1)) (hS2 : ∀ (u : MS) a0 a1 a2 a3, Kzc u0 u → KzE u0 (S.2.2.1 u a0 a1 a2 a3)) (hS3 : ∀ (u : MS) a0 a1, Kzc u0 u → KzE u0 (S.2.2.2.1 u a0 a1)) (hS4 : ∀ (u : MS) a0 a1, Kzc u0 u → KzE u0 (S.2.2.2.2.1 u a0 a1)) (hS5 : ∀ (u : MS) a0 a1, Kzc u0 u → KzE u0 (S.2.2.2.2.2.1 u a0 a1)) (hS6 : ∀ (u : MS) a0 a1, Kzc u0 u → KzE u0 (S.2.2.2.2.2.2.1 u a0 a1)) (hS7 : ∀ (u : MS) a0, Kzc u0 u → KzE u0 (S.2.2.2.2.2.2.2.1 u a0)) (hS8 : ∀ (u : MS) a0, Kzc u0 u → KzE u0 (S.2.2.2.2.2.2.2.2.1 u a0)) (hS9 : ∀ (u : MS) a0, Kzc u0 u → KzE u0 (S.2.2.2.2.2.2.2.2.2.1 u a0)) (hS10 : ∀ (u : MS) a0 a1, Kzc u0 u → KzE u0 (S.2.2.2.2.2.2.2.2.2.2.1 u a0 a1)) (hS11 : ∀ (u : MS) a0 a1, Kzc u0 u → KzE u0 (S.2.2.2.2.2.2.2.2.2.2.2.1 u a0 a1)) (hS12 : ∀ (u : MS) a0 a1 a2, Kzc u0 u → KzE u0 (S.2.2.2.2.2.2.2.2.2.2.2.2 u a0 a1 a2)) : KzE u0 (hm_Cm_clause N S u v1 v2 v3) := by
  unfold hm_Cm_clause
  exact yz_hb_Cm_clause_0 h hS0 hS1 hS2 hS3 hS4 hS5 hS6 hS7 hS8 hS9 hS10 hS11 hS12
theorem yz_hrc_Cm_fun  (n : Nat) : (∀ (u : MS) a0, Kzc u0 u → KzE u0 ((hrc_Cm_fun N n).1 u a0)) ∧ (∀ (u : MS) a0 a1, Kzc u0 u → KzE u0 ((hrc_Cm_fun N n).2.1 u a0 a1)) ∧ (∀ (u : MS) a0 a1 a2 a3, Kzc u0 u → KzE u0 ((hrc_Cm_fun N n).2.2.1 u a0 a1 a2 a3)) ∧ (∀ (u : MS) a0 a1, Kzc u0 u → KzE u0 ((hrc_Cm_fun N n).2.2.2.1 u a0 a1)) ∧ (∀ (u : MS) a0 a1, Kzc u0 u → KzE u0 ((hrc_Cm_fun N n).2.2.2.2.1 u a0 a1)) ∧ (∀ (u : MS) a0 a1, Kzc u0 u → KzE u0 ((hrc_Cm_fun N n).2.2.2.2.2.1 u a0 a1)) ∧ (∀ (u : MS) a0 a1, Kzc u0 u → KzE u0 ((hrc_Cm_fun N n).2.2.2.2.2.2.1 u a0 a1)) ∧ (∀ (u : MS) a0, Kzc u0 u → KzE u0 ((hrc_Cm_fun N n).2.2.2.2.2.2.2.1 u a0)) ∧ (∀ (u : MS) a0, Kzc u0 u → KzE u0 ((hrc_Cm_fun N n).2.2.2.2.2.2.2.2.1 u a0)) ∧ (∀ (u : MS) a0, Kzc u0 u → KzE u0 ((hrc_Cm_fun N n).2.2.2.2.2.2.2.2.2.1 u a0)) ∧ (∀ (u : MS) a0 a1, Kzc u0 u → KzE u0 ((hrc_Cm_fun N n).2.2.2.2.2.2.2.2.2.2.1 u a0 a1)) ∧ (∀ (u : MS) a0 a1, Kzc u0 u → KzE u0 ((hrc_Cm_fun N n).2.2.2.2.2.2.2.2.2.2.2.1 u a0 a1)) ∧ (∀ (u : MS) a0 a1 a2, Kzc u0 u → KzE u0 ((hrc_Cm_fun N n).2.2.2.2.2.2.2.2.2.2.2.2 u a0 a1 a2)) := by
  induction n with
  | zero => exact ⟨fun _ _ _ => Kz_none, fun _ _ _ _ => Kz_none, fun _ _ _ _ _ _ => Kz_none, fun _ _ _ _ => Kz_none, fun _ _ _ _ => Kz_none, fun _ _ _ _ => Kz_none, fun _ _ _ _ => Kz_none, fun _ _ _ => Kz_none, fun _ _ _ => Kz_none, fun _ _ _ => Kz_none, fun _ _ _ _ => Kz_none, fun _ _ _ _ => Kz_none, fun _ _ _ _ _ => Kz_none⟩
  | succ n ih => exact ⟨fun _ _ h => yz_hm_Cm_fun (N := N) h ih.1 ih.2.1 ih.2.2.1 ih.2.2.2.1 ih.2.2.2.2.1 ih.2.2.2.2.2.1 ih.2.2.2.2.2.2.1 ih.2.2.2.2.2.2.2.1 ih.2.2.2.2.2.2.2.2.1 ih.2.2.2.2.2.2.2.2.2.1 ih.2.2.2.2.2.2.2.2.2.2.1 ih.2.2.2.2.2.2.2.2.2.2.2.1 ih.2.2.2.2.2.2.2.2.2.2.2.2, fun _ _ _ h => yz_hm_Cm_receive (N := N) h ih.1 ih.2.1 ih.2.2.1 ih.2.2.2.1 ih.2.2.2.2.1 ih.2.2.2.2.2.1 ih.2.2.2.2.2.2.1 ih.2.2.2.2.2.2.2.1 ih.2.2.2.2.2.2.2.2.1 ih.2.2.2.2.2.2.2.2.2.1 ih.2.2.2.2.2.2.2.2.2.2.1 ih.2.2.2.2.2.2.2.2.2.2.2.1 ih.2.2.2.2.2.2.2.2.2.2.2.2, fun _ _ _ _ _ h => yz_hm_Cm_parts (N := N) h ih.1 ih.2.1 ih.2.2.1 ih.2.2.2.1 ih.2.2.2.2.1 ih.2.2.2.2.2.1 ih.2.2.2.2.2.2.1 ih.2.2.2.2.2.2.2.1 ih.2.2.2.2.2.2.2.2.1 ih.2.2.2.2.2.2.2.2.2.1 ih.2.2.2.2.2.2.2.2.2.2.1 ih.2.2.2.2.2.2.2.2.2.2.2.1 ih.2.2.2.2.2.2.2.2.2.2.2.2, fun _ _ _ h => yz_hm_Cm_body (N := N) h ih.1 ih.2.1 ih.2.2.1 ih.2.2.2.1 ih.2.2.2.2.1 ih.2.2.2.2.2.1 ih.2.2.2.2.2.2.1 ih.2.2.2.2.2.2.2.1 ih.2.2.2.2.2.2.2.2.1 ih.2.2.2.2.2.2.2.2.2.1 ih.2.2.2.2.2.2.2.2.2.2.1 ih.2.2.2.2.2.2.2.2.2.2.2.1 ih.2.2.2.2.2.2.2.2.2.2.2.2, fun _ _ _ h => yz_hm_Cm_compound (N := N) h ih.1 ih.2.1 ih.2.2.1 ih.2.2.2.1 ih.2.2.2.2.1 ih.2.2.2.2.2.1 ih.2.2.2.2.2.2.1 ih.2.2.2.2.2.2.2.1 ih.2.2.2.2.2.2.2.2.1 ih.2.2.2.2.2.2.2.2.2.1 ih.2.2.2.2.2.2.2.2.2.2.1 ih.2.2.2.2.2.2.2.2.2.2.2.1 ih.2.2.2.2.2.2.2.2.2.2.2.2, fun _ _ _ h => yz_hm_Cm_apply (N := N) h ih.1 ih.2.1 ih.2.2.1 ih.2.2.2.1 ih.2.2.2.2.1 ih.2.2.2.2.2.1 ih.2.2.2.2.2.2.1 ih.2.2.2.2.2.2.2.1 ih.2.2.2.2.2.2.2.2.1 ih.2.2.2.2.2.2.2.2.2.1 ih.2.2.2.2.2.2.2.2.2.2.1 ih.2.2.2.2.2.2.2.2.2.2.2.1 ih.2.2.2.2.2.2.2.2.2.2.2.2, fun _ _ _ h => yz_hm_Cm_call (N := N) h ih.1 ih.2.1 ih.2.2.1 ih.2.2.2.1 ih.2.2.2.2.1 ih.2.2.2.2.2.1 ih.2.2.2.2.2.2.1 ih.2.2.2.2.2.2.2.1 ih.2.2.2.2.2.2.2.2.1 ih.2.2.2.2.2.2.2.2.2.1 ih.2.2.2.2.2.2.2.2.2.2.1 ih.2.2.2.2.2.2.2.2.2.2.2.1 ih.2.2.2.2.2.2.2.2.2.2.2.2, fun _ _ h => yz_hm_Cm_signs (N := N) h ih.1 ih.2.1 ih.2.2.1 ih.2.2.2.1 ih.2.2.2.2.1 ih.2.2.2.2.2.1 ih.2.2.2.2.2.2.1 ih.2.2.2.2.2.2.2.1 ih.2.2.2.2.2.2.2.2.1 ih.2.2.2.2.2.2.2.2.2.1 ih.2.2.2.2.2.2.2.2.2.2.1 ih.2.2.2.2.2.2.2.2.2.2.2.1 ih.2.2.2.2.2.2.2.2.2.2.2.2, fun _ _ h => yz_hm_Cm_list (N := N) h ih.1 ih.2.1 ih.2.2.1 ih.2.2.2.1 ih.2.2.2.2.1 ih.2.2.2.2.2.1 ih.2.2.2.2.2.2.1 ih.2.2.2.2.2.2.2.1 ih.2.2.2.2.2.2.2.2.1 ih.2.2.2.2.2.2.2.2.2.1 ih.2.2.2.2.2.2.2.2.2.2.1 ih.2.2.2.2.2.2.2.2.2.2.2.1 ih.2.2.2.2.2.2.2.2.2.2.2.2, fun _ _ h => yz_hm_Cm_row (N := N) h ih.1 ih.2.1 ih.2.2.1 ih.2.2.2.1 ih.2.2.2.2.1 ih.2.2.2.2.2.1 ih.2.2.2.2.2.2.1 ih.2.2.2.2.2.2.2.1 ih.2.2.2.2.2.2.2.2.1 ih.2.2.2.2.2.2.2.2.2.1 ih.2.2.2.2.2.2.2.2.2.2.1 ih.2.2.2.2.2.2.2.2.2.2.2.1 ih.2.2.2.2.2.2.2.2.2.2.2.2, fun _ _ _ h => yz_hm_Cm_expression (N := N) h ih.1 ih.2.1 ih.2.2.1 ih.2.2.2.1 ih.2.2.2.2.1 ih.2.2.2.2.2.1 ih.2.2.2.2.2.2.1 ih.2.2.2.2.2.2.2.1 ih.2.2.2.2.2.2.2.2.1 ih.2.2.2.2.2.2.2.2.2.1 ih.2.2.2.2.2.2.2.2.2.2.1 ih.2.2.2.2.2.2.2.2.2.2.2.1 ih.2.2.2.2.2.2.2.2.2.2.2.2, fun _ _ _ h => yz_hm_Cm_tries (N := N) h ih.1 ih.2.1 ih.2.2.1 ih.2.2.2.1 ih.2.2.2.2.1 ih.2.2.2.2.2.1 ih.2.2.2.2.2.2.1 ih.2.2.2.2.2.2.2.1 ih.2.2.2.2.2.2.2.2.1 ih.2.2.2.2.2.2.2.2.2.1 ih.2.2.2.2.2.2.2.2.2.2.1 ih.2.2.2.2.2.2.2.2.2.2.2.1 ih.2.2.2.2.2.2.2.2.2.2.2.2, fun _ _ _ _ h => yz_hm_Cm_clause (N := N) h ih.1 ih.2.1 ih.2.2.1 ih.2.2.2.1 ih.2.2.2.2.1 ih.2.2.2.2.2.1 ih.2.2.2.2.2.2.1 ih.2.2.2.2.2.2.2.1 ih.2.2.2.2.2.2.2.2.1 ih.2.2.2.2.2.2.2.2.2.1 ih.2.2.2.2.2.2.2.2.2.2.1 ih.2.2.2.2.2.2.2.2.2.2.2.1 ih.2.2.2.2.2.2.2.2.2.2.2.2⟩
theorem yz_hr_Cm_clause {v1 : Int32} {v2 : Int32} {v3 : Int32} (h : Kzc u0 u) : KzE u0 (hr_Cm_clause N u v1 v2 v3) := by
  unfold hr_Cm_clause
  exact (yz_hrc_Cm_fun (N := N) 300).2.2.2.2.2.2.2.2.2.2.2.2 _ _ _ _ h
theorem yz_hb_Cm_oneFunction_268 {G : (MS → Int32 → Int32 → Option (MS × Unit))} {t1 : Int32} (h : Kzc u0 u) (hG0 : ∀ (u : MS) a0 a1, Kzc u0 u → KzE u0 (G u a0 a1)) : KzE u0 (hb_Cm_oneFunction_268 N G u t1) := by
  unfold hb_Cm_oneFunction_268
  repeat' (first | with_reducible assumption | with_reducible refine Kz_br ?_ ?_ | with_reducible refine Kz_bnd ?_ (fun _ _ _ => ?_) | with_reducible refine Kz_ck ?_ | with_reducible refine Kz_ltm ?_ (fun _ _ => ?_) | with_reducible refine Kz_some ?_ | with_reducible refine Kz_bo (fun _ => ?_) | with_reducible refine Kz_T ?_ (fun _ _ _ => ?_) | with_reducible refine Kz_H ?_ (fun _ _ _ => ?_) (fun _ _ => ?_) | with_reducible exact hG0 _ _ _ (by assumption) | with_reducible refine Kz_ltv (fun _ => ?_) | with_reducible refine Kz_I ?_ (by decide) | with_reducible refine Kz_A ?_ (by decide) | with_reducible refine Kz_J ?_ | with_reducible refine Kz_L ?_)
theorem yz_hb_Cm_oneFunction_263 {G : (MS → Int32 → Int32 → Option (MS × Unit))} (h : Kzc u0 u) (hG0 : ∀ (u : MS) a0 a1, Kzc u0 u → KzE u0 (G u a0 a1)) : KzE u0 (hb_Cm_oneFunction_263 N G u) := by
  unfold hb_Cm_oneFunction_263
  repeat' (first | with_reducible assumption | with_reducible refine Kz_br ?_ ?_ | with_reducible refine Kz_bnd ?_ (fun _ _ _ => ?_) | with_reducible refine Kz_ck ?_ | with_reducible refine Kz_ltm ?_ (fun _ _ => ?_) | with_reducible refine Kz_some ?_ | with_reducible refine Kz_bo (fun _ => ?_) | with_reducible refine Kz_T ?_ (fun _ _ _ => ?_) | with_reducible refine Kz_H ?_ (fun _ _ _ => ?_) (fun _ _ => ?_) | with_reducible exact yz_hb_Cm_oneFunction_268 (by assumption) hG0 | with_reducible exact hG0 _ _ _ (by assumption) | with_reducible refine Kz_ltv (fun _ => ?_) | with_reducible refine Kz_I ?_ (by decide) | with_reducible refine Kz_A ?_ (by decide) | with_reducible refine Kz_J ?_ | with_reducible refine Kz_L ?_)
theorem yz_hb_Cm_oneFunction_205 {G : (MS → Int32 → Int32 → Option (MS × Unit))} {v1 : Int32} {v3 : Int32} {v4 : Int32} {v5 : Int32} (h : Kzc u0 u) (hG0 : ∀ (u : MS) a0 a1, Kzc u0 u → KzE u0 (G u a0 a1)) : KzE u0 (hb_Cm_oneFunction_205 N G u v1 v3 v4 v5) := by
  unfold hb_Cm_oneFunction_205
  repeat' (first | with_reducible assumption | with_reducible refine Kz_br ?_ ?_ | with_reducible refine Kz_bnd ?_ (fun _ _ _ => ?_) | with_reducible refine Kz_ck ?_ | with_reducible refine Kz_ltm ?_ (fun _ _ => ?_) | with_reducible refine Kz_some ?_ | with_reducible refine Kz_bo (fun _ => ?_) | with_reducible refine Kz_T ?_ (fun _ _ _ => ?_) | with_reducible refine Kz_H ?_ (fun _ _ _ => ?_) (fun _ _ => ?_) | with_reducible exact yz_hr_Cm_clause (by assumption) | with_reducible exact hG0 _ _ _ (by assumption) | with_reducible refine Kz_ltv (fun _ => ?_) | with_reducible refine Kz_I ?_ (by decide) | with_reducible refine Kz_A ?_ (by decide) | with_reducible refine Kz_J ?_ | with_reducible refine Kz_L ?_)
theorem yz_hb_Cm_oneFunction_198 {G : (MS → Int32 → Int32 → Option (MS × Unit))} {v1 : Int32} {v3 : Int32} {v4 : Int32} {v5 : Int32} (h : Kzc u0 u) (hG0 : ∀ (u : MS) a0 a1, Kzc u0 u → KzE u0 (G u a0 a1)) : KzE u0 (hb_Cm_oneFunction_198 N G u v1 v3 v4 v5) := by
  unfold hb_Cm_oneFunction_198
  repeat' (first | with_reducible assumption | with_reducible refine Kz_br ?_ ?_ | with_reducible refine Kz_bnd ?_ (fun _ _ _ => ?_) | with_reducible refine Kz_ck ?_ | with_reducible refine Kz_ltm ?_ (fun _ _ => ?_) | with_reducible refine Kz_some ?_ | with_reducible refine Kz_bo (fun _ => ?_) | with_reducible refine Kz_T ?_ (fun _ _ _ => ?_) | with_reducible refine Kz_H ?_ (fun _ _ _ => ?_) (fun _ _ => ?_) | with_reducible exact yz_hb_Cm_oneFunction_205 (by assumption) hG0 | with_reducible exact yz_hm_Cm_fault (by assumption) | with_reducible exact hG0 _ _ _ (by assumption) | with_reducible refine Kz_ltv (fun _ => ?_) | with_reducible refine Kz_I ?_ (by decide) | with_reducible refine Kz_A ?_ (by decide) | with_reducible refine Kz_J ?_ | with_reducible refine Kz_L ?_)
theorem yz_hb_Cm_oneFunction_129 {G : (MS → Int32 → Int32 → Option (MS × Unit))} {v1 : Int32} {v3 : Int32} (h : Kzc u0 u) (hG0 : ∀ (u : MS) a0 a1, Kzc u0 u → KzE u0 (G u a0 a1)) : KzE u0 (hb_Cm_oneFunction_129 N G u v1 v3) := by
  unfold hb_Cm_oneFunction_129
  repeat' (first | with_reducible assumption | with_reducible refine Kz_br ?_ ?_ | with_reducible refine Kz_bnd ?_ (fun _ _ _ => ?_) | with_reducible refine Kz_ck ?_ | with_reducible refine Kz_ltm ?_ (fun _ _ => ?_) | with_reducible refine Kz_some ?_ | with_reducible refine Kz_bo (fun _ => ?_) | with_reducible refine Kz_T ?_ (fun _ _ _ => ?_) | with_reducible refine Kz_H ?_ (fun _ _ _ => ?_) (fun _ _ => ?_) | with_reducible exact yz_hb_Cm_oneFunction_198 (by assumption) hG0 | with_reducible exact yz_hb_Cm_oneFunction_205 (by assumption) hG0 | with_reducible exact yz_hb_Cm_oneFunction_263 (by assumption) hG0 | with_reducible exact yz_hb_Cm_oneFunction_268 (by assumption) hG0 | with_reducible exact yz_hm_Tr_length (by assumption) | with_reducible exact yz_hm_Co_put (by assumption) | with_reducible exact hG0 _ _ _ (by assumption) | with_reducible refine Kz_ltv (fun _ => ?_) | with_reducible refine Kz_I ?_ (by decide) | with_reducible refine Kz_A ?_ (by decide) | with_reducible refine Kz_J ?_ | with_reducible refine Kz_L ?_)
theorem yz_hb_Cm_oneFunction_79 {G : (MS → Int32 → Int32 → Option (MS × Unit))} {v1 : Int32} (h : Kzc u0 u) (hG0 : ∀ (u : MS) a0 a1, Kzc u0 u → KzE u0 (G u a0 a1)) : KzE u0 (hb_Cm_oneFunction_79 N G u v1) := by
  unfold hb_Cm_oneFunction_79
  repeat' (first | with_reducible assumption | with_reducible refine Kz_br ?_ ?_ | with_reducible refine Kz_bnd ?_ (fun _ _ _ => ?_) | with_reducible refine Kz_ck ?_ | with_reducible refine Kz_ltm ?_ (fun _ _ => ?_) | with_reducible refine Kz_some ?_ | with_reducible refine Kz_bo (fun _ => ?_) | with_reducible refine Kz_T ?_ (fun _ _ _ => ?_) | with_reducible refine Kz_H ?_ (fun _ _ _ => ?_) (fun _ _ => ?_) | with_reducible exact hG0 _ _ _ (by assumption) | with_reducible refine Kz_ltv (fun _ => ?_) | with_reducible refine Kz_I ?_ (by decide) | with_reducible refine Kz_A ?_ (by decide) | with_reducible refine Kz_J ?_ | with_reducible refine Kz_L ?_)
theorem yz_hb_Cm_oneFunction_73 {G : (MS → Int32 → Int32 → Option (MS × Unit))} {v1 : Int32} {v2 : Int32} (h : Kzc u0 u) (hG0 : ∀ (u : MS) a0 a1, Kzc u0 u → KzE u0 (G u a0 a1)) : KzE u0 (hb_Cm_oneFunction_73 N G u v1 v2) := by
  unfold hb_Cm_oneFunction_73
  repeat' (first | with_reducible assumption | with_reducible refine Kz_br ?_ ?_ | with_reducible refine Kz_bnd ?_ (fun _ _ _ => ?_) | with_reducible refine Kz_ck ?_ | with_reducible refine Kz_ltm ?_ (fun _ _ => ?_) | with_reducible refine Kz_some ?_ | with_reducible refine Kz_bo (fun _ => ?_) | with_reducible refine Kz_T ?_ (fun _ _ _ => ?_) | with_reducible refine Kz_H ?_ (fun _ _ _ => ?_) (fun _ _ => ?_) | with_reducible exact yz_hb_Cm_oneFunction_79 (by assumption) hG0 | with_reducible exact yz_hm_Cm_fault (by assumption) | with_reducible exact hG0 _ _ _ (by assumption) | with_reducible refine Kz_ltv (fun _ => ?_) | with_reducible refine Kz_I ?_ (by decide) | with_reducible refine Kz_A ?_ (by decide) | with_reducible refine Kz_J ?_ | with_reducible refine Kz_L ?_)
theorem yz_hb_Cm_oneFunction_0 {G : (MS → Int32 → Int32 → Option (MS × Unit))} {v1 : Int32} (h : Kzc u0 u) (hG0 : ∀ (u : MS) a0 a1, Kzc u0 u → KzE u0 (G u a0 a1)) : KzE u0 (hb_Cm_oneFunction_0 N G u v1) := by
  unfold hb_Cm_oneFunction_0
  repeat' (first | with_reducible assumption | with_reducible refine Kz_br ?_ ?_ | with_reducible refine Kz_bnd ?_ (fun _ _ _ => ?_) | with_reducible refine Kz_ck ?_ | with_reducible refine Kz_ltm ?_ (fun _ _ => ?_) | with_reducible refine Kz_some ?_ | with_reducible refine Kz_bo (fun _ => ?_) | with_reducible refine Kz_T ?_ (fun _ _ _ => ?_) | with_reducible refine Kz_H ?_ (fun _ _ _ => ?_) (fun _ _ => ?_) | with_reducible exact yz_hb_Cm_oneFunction_73 (by assumption) hG0 | with_reducible exact yz_hb_Cm_oneFunction_79 (by assumption) hG0 | with_reducible exact yz_hm_Cm_predefinedOf (by assumption) | with_reducible exact yz_hm_Co_seek (by assumption) | with_reducible exact hG0 _ _ _ (by assumption) | with_reducible refine Kz_ltv (fun _ => ?_) | with_reducible refine Kz_I ?_ (by decide) | with_reducible refine Kz_A ?_ (by decide) | with_reducible refine Kz_J ?_ | with_reducible refine Kz_L ?_)
theorem yz_hg_Cm_oneFunction  (n : Nat) : (∀ (u : MS) a0 a1, Kzc u0 u → KzE u0 ((hg_Cm_oneFunction N n) u a0 a1)) := by
  induction n with
  | zero => exact fun _ _ _ _ => Kz_none
  | succ n ih => exact fun _ _ _ h => yz_hb_Cm_oneFunction_129 (N := N) h ih
theorem yz_hm_Cm_oneFunction {v1 : Int32} (h : Kzc u0 u)  : KzE u0 (hm_Cm_oneFunction N u v1) := by
  unfold hm_Cm_oneFunction
  exact yz_hb_Cm_oneFunction_0 h ((yz_hg_Cm_oneFunction N))
end
end
section
set_option maxRecDepth 100000
def ERW (N : Nat) (K nm : Nat → Nat) (gd : Bool) (m2 : MS) (lo n2 : Nat) (W : Nat → Nat) : List Nat → Nat → Nat → SCT → SCT → Nat → Bool → Bool → (MS → Prop) → Prop
  | [], p, p2, sc, sc2, X, Rf, Zf, BC => p = p2 ∧ sc2 = sc ∧ X = 0 ∧ Rf = false ∧ Zf = false ∧ ∀ m, ¬ BC m
  | ν :: l, p, p2, sc, sc2, X, Rf, Zf, BC => ∃ q q2 sc1 X1 X2 R1 R2 Z1 Z2 B1 B2, (p ≤ q ∧ q ≤ q2 ∧ q2 ≤ p2) ∧ (∀ j, p ≤ j → j < q → K j ≠ 3) ∧ (∃ mi li ni, EXN N K nm gd mi li ni ν q q2 sc sc1 X1 W R1 Z1 B1 ∧ KPX li ni ν mi m2 ∧ (lo ≤ li ∧ ni ≤ n2) ∧ (li < ν ∧ ν ≤ ni) ∧ (l ≠ [] → ni < l.headD 0)) ∧ (1 ≤ ν ∧ ν ≤ n2) ∧ m2.2.2.1 21 ν = I ((l.headD 0 : Nat) : Int) ∧ (tot sc1 ≤ tot sc + (q2 - q) ∧ sc1.length = sc.length ∧ X1 ≤ 1400) ∧ ERW N K nm gd m2 lo n2 W l q2 p2 sc1 sc2 X2 R2 Z2 B2 ∧ X = max X1 X2 ∧ Rf = (R1 || R2) ∧ Zf = (Z1 || Z2) ∧ (∀ m, BC m ↔ B1 m ∨ B2 m) ∧ ∀ m v, FRC m v → (B2 v ↔ B2 m)
section
variable {m v u m2 m3 : MS} {K nm W : Nat → Nat} {sc sc1 sc2 t : SCT} {s x y N i f tok cm cm2 p p2 q q2 n2 ν lo X X1 X2 : Nat} {gd Zf Rf R1 R2 Z1 Z2 : Bool} {g : Nat → Int32} {B1 B2 BC : MS → Prop}
theorem NPE_tr {sc3 : SCT} {c2 c3 : Nat} {g g2 : Nat → Int32} (a : NPE nm s sc2 c2 g Z1 m v) (b : NPE nm s sc3 c3 g2 Z2 v u) : NPE nm s sc3 c3 g2 (Z1 || Z2) m u := by
  obtain ⟨a1, a2, a3, a4, a5, a6, a7, a8, a9⟩ := a
  obtain ⟨b1, b2, b3, b4, b5, b6, b7, b8, b9⟩ := b
  refine ⟨b1, b2, fun j hj => (b3 j hj).trans (a3 j hj), b4, C11_tr a5 b5, b6.trans a6, b7.trans a7, b8.trans a8, FRC_tr a9 b9⟩
theorem CPR_2 (c : CPR nm gd p p2 sc cm m) (h : NPE nm (sc.length - 1) sc1 (max cm X) g Z1 m v) (hl : sc1.length = sc.length) (hX : X ≤ 1400) (ht : tot sc1 + (p2 - q) ≤ 4000) : CPR nm gd q p2 sc1 (max cm X) v := by
  obtain ⟨c1, c2, c3, c4, c5, c6, c7⟩ := c
  obtain ⟨a1, a2, a3, a4, a5, a6, a7, a8, a9⟩ := h
  exact ⟨by rw [a6]; exact c1, a1, by rw [hl]; exact a2, by omega, by rw [a8]; exact c5, by rw [a7]; exact c6, ht⟩
theorem KPX_f (h : KPX lo n2 ν m2 m3) (f : FRC m3 v) : KPX lo n2 ν m2 v := by
  refine ⟨fun j h0 hj => ?_, ⟨fun k hk => ?_, fun k hk => ?_⟩⟩
  · have a := h.1 j h0 hj
    have r : ∀ k, 16 ≤ k → k ≤ 21 → v.2.2.1 k = m3.2.2.1 k := fun k h1 h2 => f.2 k (by omega)
    unfold nod at a ⊢
    rw [r 16 (by decide) (by decide), r 17 (by decide) (by decide), r 18 (by decide) (by decide), r 19 (by decide) (by decide), r 20 (by decide) (by decide), r 21 (by decide) (by decide)]
    exact a
  · rw [f.1 k (by omega)]; exact h.2.1 k hk
  · rw [f.2 k (by omega)]; exact h.2.2 k hk
theorem zrow {u0 : MS} {d M : Nat} {a : Int32} (h : Kzc u0 u) : KzE u0 (hg_Cm_row N (hrc_Cm_fun N d) M u a) := by
  obtain ⟨a0, a1, a2, a3, a4, a5, a6, a7, a8, a9, a10, a11, a12⟩ := yz_hrc_Cm_fun (u0 := u0) (N := N) d
  exact yz_hg_Cm_row a0 a1 a2 a3 a4 a5 a6 a7 a8 a9 a10 a11 a12 M _ _ h
theorem ERW_len : ∀ {l : List Nat} {p p2 : Nat} {sc sc2 : SCT} {X : Nat} {Rf Zf : Bool} {BC : MS → Prop}, ERW N K nm gd m2 lo n2 W l p p2 sc sc2 X Rf Zf BC → p ≤ p2 ∧ tot sc2 ≤ tot sc + (p2 - p) ∧ sc2.length = sc.length
  | [], _, _, _, _, _, _, _, _, ⟨h1, h2, _⟩ => by
    subst h1
    subst h2
    exact ⟨Nat.le_refl _, by omega, rfl⟩
  | ν :: l, p, p2, sc, sc2, X, Rf, Zf, BC, ⟨q, q2, sc1, X1, X2, R1, R2, Z1, Z2, B1, B2, h1, _, _, _, _, h2, h3, _⟩ => by
    obtain ⟨a, b, c⟩ := ERW_len h3
    exact ⟨by omega, by omega, by rw [c, h2.2.1]⟩
theorem erw_row (hl : n2 ≤ 8015) : ∀ {l : List Nat} {p p2 : Nat} {sc sc2 : SCT} {X : Nat} {Rf Zf : Bool} {BC : MS → Prop}, ERW N K nm gd m2 lo n2 W l p p2 sc sc2 X Rf Zf BC → ∀ (d M : Nat) (m3 : MS) (cm : Nat), (∀ j, lo < j → j ≤ n2 → nod m3 j = nod m2 j ∧ m3.2.2.1 21 j = m2.2.2.1 21 j) → Kcc m2 m3 → CPR nm gd p p2 sc cm m3 → PK (fun m4 _ => CPO K nm p p2 sc sc2 X W Rf Zf BC cm m3 m4) (hg_Cm_row N (hrc_Cm_fun N d) M m3 (I ((l.headD 0 : Nat) : Int)))
  | _, _, _, _, _, _, _, _, _, _, _, 0, _, _, _, _, _ => pk_none
  | [], p, p2, sc, sc2, X, Rf, Zf, BC, ⟨h1, h2, h3, h4, h5, h6⟩, d, M + 1, m3, cm, _, _, cp => by
    subst h1
    subst h2
    subst h3
    subst h4
    subst h5
    show PK _ (hb_Cm_row_2 N (hrc_Cm_fun N d) (hg_Cm_row N (hrc_Cm_fun N d) M) m3 0)
    unfold hb_Cm_row_2
    rw [show decide ((0 : Int32) = 0) = true from rfl, br_tq]
    refine pk_some (CPO_ok ⟨rfl, h6 m3⟩ ?_)
    rw [Nat.max_eq_left (Nat.zero_le cm), wup_0 (fun j h1 h2 => absurd h2 (by omega))]
    exact CPR_0 cp
  | ν :: l, p, p2, sc, sc2, X, Rf, Zf, BC, ⟨q, q2, sc1, X1, X2, R1, R2, Z1, Z2, B1, B2, h1, g1, ⟨mi, li, ni, h2, hx, hni, hli, _⟩, h3, h4, h5, h6, h7, h8, h9, h10, h11⟩, d, M + 1, m3, cm, k1, k2, cp => by
    subst h7
    subst h8
    subst h9
    obtain ⟨a1, a2, a3⟩ := ERW_len h6
    show PK _ (hb_Cm_row_2 N (hrc_Cm_fun N d) (hg_Cm_row N (hrc_Cm_fun N d) M) m3 (I (ν : Nat)))
    unfold hb_Cm_row_2
    rw [decide_eq_false (p := I (ν : Nat) = 0) (fun z => by have := (I_eq (x := (ν : Nat)) (y := 0) (by omega) (by omega) (by omega) (by omega)).mp z; omega), br_fq]
    have kx : KPX lo n2 ν m2 m3 := ⟨fun j h0 hj => ⟨(k1 j h0 hj).1, fun _ => (k1 j h0 hj).2⟩, k2⟩
    have cp1 : CPR nm gd q q2 sc cm m3 := ⟨cp.1, cp.2.1, cp.2.2.1, cp.2.2.2.1, cp.2.2.2.2.1, cp.2.2.2.2.2.1, by have := cp.2.2.2.2.2.2; omega⟩
    refine pk_bnd (pk_mo (h2 d m3 cm 0 (KPX_tr hx kx hni.2 hni.1) cp1) (fun v _ qv => pk_ck (fun _ => ?_)))
    rcases qv with ⟨qf, qs, qr⟩ | ⟨⟨qf, qb⟩, qn⟩
    · refine pk_mo (Q := fun u _ => Kzc v u) (fun u r e => zrow (u0 := v) ⟨qs, FRC_rf⟩ u r e) (fun u _ z => Or.inl ⟨?_, z.1, FRC_tr qr z.2⟩)
      rcases qf with qf | qf
      · exact Or.inl (by rw [qf]; rfl)
      · exact Or.inr ((h10 m3).mpr (Or.inl qf))
    · have fr := qn.2.2.2.2.2.2.2.2
      have k1v : ∀ j, lo < j → j ≤ n2 → nod v j = nod m2 j ∧ v.2.2.1 21 j = m2.2.2.1 21 j := fun j h0 hj => by
        have r : ∀ k, 16 ≤ k → k ≤ 21 → v.2.2.1 k = m3.2.2.1 k := fun k h1 h2 => fr.2 k (by omega)
        have a := k1 j h0 hj
        unfold nod at a ⊢
        rw [r 16 (by decide) (by decide), r 17 (by decide) (by decide), r 18 (by decide) (by decide), r 19 (by decide) (by decide), r 20 (by decide) (by decide), r 21 (by decide) (by decide)]
        exact a
      have e21 : v.2.2.1 21 ν = I ((l.headD 0 : Nat) : Int) := by
        rw [(k1v ν (by omega) h3.2).2]
        exact h4
      rw [tnI (n := ν) rfl (by omega), e21]
      have cp2 : CPR nm gd q2 p2 sc1 (max cm X1) v := CPR_2 (p := q) (p2 := p2) (q := q2) ⟨cp1.1, cp1.2.1, cp1.2.2.1, cp1.2.2.2.1, cp1.2.2.2.2.1, cp1.2.2.2.2.2.1, by have := cp.2.2.2.2.2.2; omega⟩ qn h5.2.1 h5.2.2 (by have := cp.2.2.2.2.2.2; omega)
      refine pk_mo (erw_row hl h6 d M v (max cm X1) k1v (KPX_f kx fr).2 cp2) (fun u _ qu => ?_)
      rcases qu with ⟨qf2, qs2, qr2⟩ | ⟨⟨qf2, qb2⟩, qn2⟩
      · refine Or.inl ⟨?_, qs2, FRC_tr fr qr2⟩
        rcases qf2 with z | z
        · exact Or.inl (by rw [z]; simp)
        · exact Or.inr ((h10 m3).mpr (Or.inr ((h11 m3 v fr).mp z)))
      · refine CPO_ok ⟨by rw [qf, qf2]; rfl, fun z => ?_⟩ ?_
        · rcases (h10 m3).mp z with z | z
          · exact qb z
          · exact qb2 ((h11 m3 v fr).mpr z)
        · rw [h5.2.1, qn.2.2.2.1] at qn2
          rw [← wup_tr (g := m3.2.2.1 42) (K := K) (W := W) (q := q) h1.1 (by omega), wup_0 (p := p) (p2 := q) g1, ← wup_tr (g := m3.2.2.1 42) (K := K) (W := W) (p := q) (q := q2) h1.2.1 h1.2.2, show max cm (max X1 X2) = max (max cm X1) X2 by omega]
          exact NPE_tr qn qn2
end
end
section
set_option maxRecDepth 100000
def BADc (N : Nat) (m : MS) (x : Int32 × Int32 × Int32) : Prop := if x.2.2 = 2 then hm_Co_seek N m x.1 x.2.1 = some (m, -1) else (hm_Cm_predefinedOf N m x.1 x.2.1 = some (m, -1) ∧ hm_Co_seek N m x.1 x.2.1 = some (m, -1)) ∨ (x.2.2 = 1 ∧ ∃ id, hm_Cm_predefinedOf N m x.1 x.2.1 = some (m, id) ∧ (id < 17 ∨ ¬ id ≤ 28))
def BCo (N : Nat) (CL : Int32 × Int32 × Int32 → Prop) (m : MS) : Prop := ∃ x, CL x ∧ BADc N m x
def STB (B : MS → Prop) : Prop := ∀ m v, FRC m v → (B v ↔ B m)
section
variable {m v u m1 m2 m3 : MS} {K nm W : Nat → Nat} {sc sc1 sc2 t : SCT} {s x y N i f tok cm cm2 p p2 q q2 n1 n2 ν μ lo X X1 X2 : Nat} {gd Zf Rf R1 R2 Z1 Z2 : Bool} {g : Nat → Int32} {B1 B2 BC : MS → Prop} {a b : Int32}
theorem FRC_sy (h : FRC m v) : FRC v m := ⟨fun k hk => (h.1 k hk).symm, fun k hk => (h.2 k hk).symm⟩
theorem seek_c (f : FRC m v) : PK (fun u r => u = v ∧ hm_Co_seek N m a b = some (m, r)) (hm_Co_seek N v a b) := by
  have lp : ∀ (M : Nat) (k : Int32), PK (fun u r => u = v ∧ hg_Co_seek N M m a b k = some (m, r)) (hg_Co_seek N M v a b k) := by
    intro M
    induction M with
    | zero => intro k; exact pk_none
    | succ M ih =>
      intro k
      show PK (fun u r => u = v ∧ hb_Co_seek_2 N (hg_Co_seek N M) m a b k = some (m, r)) (hb_Co_seek_2 N (hg_Co_seek N M) v a b k)
      unfold hb_Co_seek_2 hb_Co_seek_32
      rw [f.1 442 (by omega), f.2 24 (by omega), f.2 25 (by omega)]
      generalize decide (m.1 442 ≤ k) = c1
      generalize inb k 666 = c2
      generalize decide (m.2.2.1 24 k.toNatClampNeg = a) = c3
      generalize decide (m.2.2.1 25 k.toNatClampNeg = b) = c4
      cases c1 <;> cases c2 <;> cases c3 <;> cases c4 <;> first | exact pk_none | exact pk_some ⟨rfl, rfl⟩ | exact ih (k + 1)
  exact lp N 0
theorem same_c (f : FRC m v) : PK (fun u r => u = v ∧ hm_Wo_isSame N m 36 a 2 b = some (m, r)) (hm_Wo_isSame N v 36 a 2 b) := by
  have lp : ∀ (M : Nat) (j k : Int32), PK (fun u r => u = v ∧ hg_Wo_isSame N M m 36 a 2 b j k = some (m, r)) (hg_Wo_isSame N M v 36 a 2 b j k) := by
    intro M
    induction M with
    | zero => intro j k; exact pk_none
    | succ M ih =>
      intro j k
      show PK (fun u r => u = v ∧ hb_Wo_isSame_12 N (hg_Wo_isSame N M) m 36 a 2 b j k = some (m, r)) (hb_Wo_isSame_12 N (hg_Wo_isSame N M) v 36 a 2 b j k)
      unfold hb_Wo_isSame_12
      rw [f.2 (36 + 2) (by omega), f.2 (36 + 1) (by omega), f.2 2 (by omega)]
      generalize inb (a + 1) (il (36 + 2)) = c1
      generalize decide (m.2.2.1 (36 + 2) (a + 1).toNatClampNeg ≤ k) = c2
      generalize inb k (bl (36 + 1)) = c3
      generalize inb (b + k - j) (bl 2) = c4
      generalize decide (m.2.2.1 (36 + 1) k.toNatClampNeg = m.2.2.1 2 (b + k - j).toNatClampNeg) = c5
      cases c1 <;> cases c2 <;> cases c3 <;> cases c4 <;> cases c5 <;> first | exact pk_none | exact pk_some ⟨rfl, rfl⟩ | exact ih j (k + 1)
  unfold hm_Wo_isSame hb_Wo_isSame_0
  rw [f.2 (36 + 2) (by omega)]
  generalize inb a (il (36 + 2)) = c1
  cases c1
  · exact pk_none
  · exact lp N _ _
theorem wsk_c (f : FRC m v) : PK (fun u r => u = v ∧ hm_Wo_seek N m 36 2 a b = some (m, r)) (hm_Wo_seek N v 36 2 a b) := by
  have lp : ∀ (M : Nat) (k : Int32), PK (fun u r => u = v ∧ hg_Wo_seek N M m 36 2 a b k = some (m, r)) (hg_Wo_seek N M v 36 2 a b k) := by
    intro M
    induction M with
    | zero => intro k; exact pk_none
    | succ M ih =>
      intro k
      show PK (fun u r => u = v ∧ hb_Wo_seek_3 N (hg_Wo_seek N M) m 36 2 a b k = some (m, r)) (hb_Wo_seek_3 N (hg_Wo_seek N M) v 36 2 a b k)
      unfold hb_Wo_seek_3 hb_Wo_seek_47
      rw [f.1 (20 * 36 + 2) (by omega), f.2 (36 + 2) (by omega)]
      generalize decide (m.1 (20 * 36 + 2) ≤ k) = c1
      generalize inb (k + 1) (il (36 + 2)) = c2
      generalize inb k (il (36 + 2)) = c3
      generalize decide (m.2.2.1 (36 + 2) (k + 1).toNatClampNeg - m.2.2.1 (36 + 2) k.toNatClampNeg = b) = c4
      cases c1
      · cases c2
        · exact pk_none
        · cases c3
          · exact pk_none
          · cases c4
            · exact ih (k + 1)
            · show PK (fun u r => u = v ∧ bnd (hm_Wo_isSame N m 36 k 2 a) (fun u8 r8 => br (decide (r8 = 0)) (hg_Wo_seek N M u8 36 2 a b (k + 1)) (some (u8, k))) = some (m, r)) (bnd (hm_Wo_isSame N v 36 k 2 a) (fun u8 r8 => br (decide (r8 = 0)) (hg_Wo_seek N M u8 36 2 a b (k + 1)) (some (u8, k))))
              refine pk_bnd (pk_mo (same_c (N := N) f) (fun u8 r8 h8 => ?_))
              rw [h8.1, h8.2, bnd_s]
              generalize decide (r8 = 0) = c5
              cases c5
              · exact pk_some ⟨rfl, rfl⟩
              · exact ih (k + 1)
      · exact pk_some ⟨rfl, rfl⟩
  exact lp N 0
theorem pre_c (f : FRC m v) : PK (fun u r => u = v ∧ hm_Cm_predefinedOf N m a b = some (m, r)) (hm_Cm_predefinedOf N v a b) := by
  have sk : PK (fun u r => u = v ∧ hm_Wo_seekIn N m 1 36 a = some (m, r)) (hm_Wo_seekIn N v 1 36 a) := by
    unfold hm_Wo_seekIn hb_Wo_seekIn_0 hb_Wo_seekIn_12 hb_Wo_seekIn_45
    rw [f.1 (20 * 1 + 2) (by omega), f.2 (1 + 2) (by omega)]
    generalize decide (a < 0) = c1
    generalize decide (a < m.1 (20 * 1 + 2)) = c2
    generalize inb a (il (1 + 2)) = c3
    generalize inb (a + 1) (il (1 + 2)) = c4
    generalize m.2.2.1 (1 + 2) (a + 1).toNatClampNeg - m.2.2.1 (1 + 2) a.toNatClampNeg = B
    generalize m.2.2.1 (1 + 2) a.toNatClampNeg = A
    cases c1 <;> cases c2 <;> cases c3 <;> cases c4 <;> first | exact pk_none | exact pk_some ⟨rfl, rfl⟩ | skip
    show PK (fun u r => u = v ∧ bnd (hm_Wo_seek N m 36 2 A B) (fun u12 r12 => some (u12, r12)) = some (m, r)) (bnd (hm_Wo_seek N v 36 2 A B) (fun u12 r12 => some (u12, r12)))
    refine pk_bnd (pk_mo (wsk_c (N := N) f) (fun u8 r8 h8 => ?_))
    rw [h8.2]
    exact pk_some ⟨h8.1, rfl⟩
  have r27 : ∀ (c : Int32), PK (fun u r => u = v ∧ hb_Cm_predefinedOf_27 N () m b c = some (m, r)) (hb_Cm_predefinedOf_27 N () v b c) := fun c => by
    unfold hb_Cm_predefinedOf_27 hb_Cm_predefinedOf_53 hb_Cm_predefinedOf_54
    generalize decide (c = -1) = c1
    generalize decide (29 ≤ c) = c2
    generalize inb c 29 = c3
    generalize decide (takL.getD c.toNatClampNeg 0 = b) = c4
    cases c1 <;> cases c2 <;> cases c3 <;> cases c4 <;> first | exact pk_none | exact pk_some ⟨rfl, rfl⟩
  unfold hm_Cm_predefinedOf hb_Cm_predefinedOf_0
  refine pk_bnd (pk_mo sk (fun u8 r8 h8 => ?_))
  rw [h8.1, h8.2]
  show PK (fun u r => u = v ∧ br (decide (r8 = 7)) (br (decide (b = 2)) (some (m, 29)) (hb_Cm_predefinedOf_27 N () m b r8)) (hb_Cm_predefinedOf_27 N () m b r8) = some (m, r)) _
  generalize decide (r8 = 7) = c1
  generalize decide (b = 2) = c2
  cases c1
  · exact r27 r8
  · cases c2
    · exact r27 r8
    · exact pk_some ⟨rfl, rfl⟩
theorem seek_f (f : FRC m v) {r : Int32} : hm_Co_seek N v a b = some (v, r) ↔ hm_Co_seek N m a b = some (m, r) := ⟨fun h => (seek_c f v r h).2, fun h => (seek_c (FRC_sy f) m r h).2⟩
theorem pre_f (f : FRC m v) {r : Int32} : hm_Cm_predefinedOf N v a b = some (v, r) ↔ hm_Cm_predefinedOf N m a b = some (m, r) := ⟨fun h => (pre_c f v r h).2, fun h => (pre_c (FRC_sy f) m r h).2⟩
theorem BCo_st {CL : Int32 × Int32 × Int32 → Prop} : STB (BCo N CL) := fun m v f => by
  unfold BCo BADc
  have e : ∀ x : Int32 × Int32 × Int32, ((∃ id, hm_Cm_predefinedOf N v x.1 x.2.1 = some (v, id) ∧ (id < 17 ∨ ¬ id ≤ 28)) ↔ ∃ id, hm_Cm_predefinedOf N m x.1 x.2.1 = some (m, id) ∧ (id < 17 ∨ ¬ id ≤ 28)) := fun x => ⟨fun ⟨id, h1, h2⟩ => ⟨id, (pre_f f).mp h1, h2⟩, fun ⟨id, h1, h2⟩ => ⟨id, (pre_f f).mpr h1, h2⟩⟩
  constructor
  · rintro ⟨x, h1, h2⟩
    refine ⟨x, h1, ?_⟩
    rw [← seek_f f, ← pre_f f, ← e x]
    exact h2
  · rintro ⟨x, h1, h2⟩
    refine ⟨x, h1, ?_⟩
    rw [seek_f f, pre_f f, e x]
    exact h2
theorem BCo_or {CL CM : Int32 × Int32 × Int32 → Prop} : BCo N (fun x => CL x ∨ CM x) m ↔ BCo N CL m ∨ BCo N CM m := by
  unfold BCo
  constructor
  · rintro ⟨x, h | h, k⟩
    · exact Or.inl ⟨x, h, k⟩
    · exact Or.inr ⟨x, h, k⟩
  · rintro (⟨x, h, k⟩ | ⟨x, h, k⟩)
    · exact ⟨x, Or.inl h, k⟩
    · exact ⟨x, Or.inr h, k⟩
theorem BCo_no : ¬ BCo N (fun _ => False) m := fun ⟨_, h, _⟩ => h
theorem BCo_e {CL CM : Int32 × Int32 × Int32 → Prop} (h : ∀ x, CL x ↔ CM x) : BCo N CL = BCo N CM := by
  rw [show CL = CM from funext (fun x => propext (h x))]
theorem CPO_u (h : CPO K nm p p2 sc sc2 X W Rf Zf BC cm m v) (k : Kuc v u) : CPO K nm p p2 sc sc2 X W Rf Zf BC cm m u := by
  rcases h with ⟨h1, h2, h3⟩ | ⟨h1, h2⟩
  · exact Or.inl ⟨h1, Ku_s h2 k, FRC_tr h3 (FRC_u k)⟩
  · exact Or.inr ⟨h1, NPE_u h2 k⟩
theorem CPR_u (c : CPR nm gd p p2 sc cm m) (k : Kuc m v) : CPR nm gd p p2 sc cm v := by
  have := NPE_u (CPR_0 c) k
  exact ⟨by rw [k.1 _ (by decide)]; exact c.1, this.1, this.2.1, c.2.2.2.1, by rw [k.1 _ (by decide)]; exact c.2.2.2.2.1, by rw [k.1 _ (by decide)]; exact c.2.2.2.2.2.1, c.2.2.2.2.2.2⟩
theorem CPR_in (c : CPR nm gd p p2 sc cm m) (h : q2 - q ≤ p2 - p) : CPR nm gd q q2 sc cm m := ⟨c.1, c.2.1, c.2.2.1, c.2.2.2.1, c.2.2.2.2.1, c.2.2.2.2.2.1, by have := c.2.2.2.2.2.2; omega⟩
theorem CPO_v (k : Kuc m v) (hb : STB BC) (h : CPO K nm p p2 sc sc2 X W Rf Zf BC cm v u) : CPO K nm p p2 sc sc2 X W Rf Zf BC cm m u := by
  have e := hb m v (FRC_u k)
  rcases h with ⟨h1, h2, h3⟩ | ⟨h1, h2⟩
  · exact Or.inl ⟨h1.elim Or.inl (fun z => Or.inr (e.mp z)), h2, FRC_tr (FRC_u k) h3⟩
  · obtain ⟨a1, a2, a3, a4, a5, a6, a7, a8, a9⟩ := h2
    exact Or.inr ⟨⟨h1.1, fun z => h1.2 (e.mpr z)⟩, a1, a2, fun j hj => by rw [a3 j hj, k.2.1 41 (by decide)], by rw [a4, k.2.1 42 (by decide)], C11_b a5 k.2.2 (k.1 711 (by decide)), by rw [a6, k.1 714 (by decide)], by rw [a7, k.1 712 (by decide)], by rw [a8, k.1 713 (by decide)], FRC_tr (FRC_u k) a9⟩
theorem wup_ext {g : Nat → Int32} (hq : p ≤ q ∧ q ≤ q2 ∧ q2 ≤ p2) (g1 : ∀ j, p ≤ j → j < q → K j ≠ 3) (g2 : ∀ j, q2 ≤ j → j < p2 → K j ≠ 3) : wup g K W p p2 = wup g K W q q2 := by
  rw [← wup_tr (q := q) hq.1 (by omega), wup_0 (p := p) (p2 := q) g1, ← wup_tr (p := q) (q := q2) hq.2.1 hq.2.2, wup_0 (p := q2) (p2 := p2) g2]
theorem CPO_ext (hq : p ≤ q ∧ q ≤ q2 ∧ q2 ≤ p2) (g1 : ∀ j, p ≤ j → j < q → K j ≠ 3) (g2 : ∀ j, q2 ≤ j → j < p2 → K j ≠ 3) (h : CPO K nm q q2 sc sc2 X W Rf Zf BC cm m v) : CPO K nm p p2 sc sc2 X W Rf Zf BC cm m v := by
  unfold CPO at h ⊢
  rw [wup_ext hq g1 g2]
  exact h
theorem CPO_bc {B2 : MS → Prop} (hb : B2 m ↔ BC m) (h : CPO K nm p p2 sc sc2 X W Rf Zf BC cm m v) : CPO K nm p p2 sc sc2 X W Rf Zf B2 cm m v := by
  unfold CPO at h ⊢
  rw [hb]
  exact h
theorem CPO_z (h : (Rf = true ∨ BC m) ∧ v.1 714 < 1000000000 ∧ FRC m v) (k : Kzc v u) : CPO K nm p p2 sc sc2 X W Rf Zf BC cm m u := Or.inl ⟨h.1, k.1, FRC_tr h.2.2 k.2⟩
theorem cpo_bnd {α β : Type} {o : Option (MS × α)} {f : MS → α → Option (MS × β)} (h1 : PK (fun v _ => CPO K nm p q sc sc1 X1 W R1 Z1 B1 cm m v) o) (hpq : p ≤ q ∧ q ≤ p2) (s2 : STB B2) (hl : sc1.length = sc.length) (hz : ∀ v r, Kzc v v → KzE v (f v r)) (h2 : ∀ v r, o = some (v, r) → NPE nm (sc.length - 1) sc1 (max cm X1) (wup (m.2.2.1 42) K W p q) Z1 m v → PK (fun u _ => CPO K nm q p2 sc1 sc2 X2 W R2 Z2 B2 (max cm X1) v u) (f v r)) : PK (fun u _ => CPO K nm p p2 sc sc2 (max X1 X2) W (R1 || R2) (Z1 || Z2) (fun m => B1 m ∨ B2 m) cm m u) (bnd o f) := by
  refine pk_bnd (fun v r e => ?_)
  rcases h1 v r e with ⟨hf, hs, hr⟩ | ⟨⟨hf, hb⟩, hn⟩
  · refine pk_mo (fun u r2 e2 => hz v r ⟨hs, FRC_rf⟩ u r2 e2) (fun u _ z => ?_)
    refine CPO_z (v := v) ⟨?_, hs, hr⟩ z
    rcases hf with hf | hf
    · exact Or.inl (by rw [hf]; rfl)
    · exact Or.inr (Or.inl hf)
  · have fr := hn.2.2.2.2.2.2.2.2
    refine pk_mo (h2 v r e hn) (fun u _ qu => ?_)
    rcases qu with ⟨qf2, qs2, qr2⟩ | ⟨⟨qf2, qb2⟩, qn2⟩
    · refine Or.inl ⟨?_, qs2, FRC_tr fr qr2⟩
      rcases qf2 with z | z
      · exact Or.inl (by rw [z]; simp)
      · exact Or.inr (Or.inr ((s2 m v fr).mp z))
    · refine CPO_ok ⟨by rw [hf, qf2]; rfl, fun z => ?_⟩ ?_
      · rcases z with z | z
        · exact hb z
        · exact qb2 ((s2 m v fr).mpr z)
      · rw [hl, hn.2.2.2.1, wup_tr hpq.1 hpq.2] at qn2
        rw [show max cm (max X1 X2) = max (max cm X1) X2 by omega]
        exact NPE_tr hn qn2
theorem chi_k (h1 : KPO n1 m1 m2) (hk : Kcc m1 m2) (hn1 : n1 < ν) (hν : ν ≤ n2) (kx : KPX lo n2 ν m2 m3) : (∀ j, lo < j → j ≤ n1 → nod m3 j = nod m1 j ∧ m3.2.2.1 21 j = m1.2.2.1 21 j) ∧ Kcc m1 m3 := by
  refine ⟨fun j h0 hj => ?_, Kc_tr hk kx.2⟩
  have a := h1 j hj
  have b := kx.1 j h0 (by omega)
  exact ⟨b.1.trans a.1, (b.2 (by omega)).trans a.2⟩
end
end
section
set_option maxRecDepth 100000
section
variable {m v u m1 m2 m3 : MS} {K nm W : Nat → Nat} {sc sc1 sc2 sc3 t : SCT} {s x y N i f tok cm cm2 p p2 q q2 q3 n1 n2 n3 ν μ lo li X X1 X2 k : Nat} {gd Zf Rf R1 R2 Z1 Z2 : Bool} {g : Nat → Int32} {B1 B2 BC : MS → Prop} {a b c e f : Int32} {l : List Nat}
theorem CPO_fr (h : CPO K nm p p2 sc sc2 X W Rf Zf BC cm m v) : FRC m v := by
  rcases h with ⟨_, _, h⟩ | ⟨_, h⟩
  · exact h
  · exact h.2.2.2.2.2.2.2.2
theorem KPX_di {n3 l3 : Nat} {m4 : MS} (h : KPO n2 m2 m3) (kc : Kcc m2 m3) (h2 : KPX l3 n3 μ m3 m4) (hn : n2 ≤ n3) (hμ : n2 < μ) (hl : l3 ≤ li) : KPX li n2 ν m2 m4 := KPX_d h kc h2 hn hμ hl
theorem exn_grp (hn : nod m2 ν = (I ((5 : Nat) : Int), a, I (μ : Nat), c, e)) (hlo : lo < ν) (hν : ν ≤ n2) (hl : n2 ≤ 8015) (hq : p ≤ q ∧ q ≤ q2 ∧ q2 ≤ p2) (g1 : ∀ j, p ≤ j → j < q → K j ≠ 3) (g2 : ∀ j, q2 ≤ j → j < p2 → K j ≠ 3) (h : EXN N K nm gd m1 li n1 μ q q2 sc sc2 X W Rf Zf BC) (hli : lo ≤ li) (h1 : KPO n1 m1 m2) (hk : Kcc m1 m2) (hn1 : n1 < ν) : EXN N K nm gd m2 lo n2 ν p p2 sc sc2 X W Rf Zf BC := by
  intro d m3 cm last kx cp
  cases d with
  | zero => exact pk_none
  | succ d =>
    have e0 := KPX_nod kx hlo hν
    rw [hn] at e0
    have e1 : m3.2.2.1 16 ν = I ((5 : Nat) : Int) := (Prod.mk.inj e0).1
    have e3 : m3.2.2.1 18 ν = I (μ : Nat) := (Prod.mk.inj (Prod.mk.inj (Prod.mk.inj e0).2).2).1
    show PK _ (hm_Cm_expression N (hrc_Cm_fun N d) m3 (I (ν : Nat)) last)
    unfold hm_Cm_expression hb_Cm_expression_0 hb_Cm_expression_359
    rw [tnI (n := ν) rfl (by omega), e1, e3]
    refine pk_ck (fun _ => pk_ck (fun _ => ?_))
    rw [show decide (I ((5 : Nat) : Int) = 1) = false from rfl, br_fq, show decide (I ((5 : Nat) : Int) = 2) = false from rfl, br_fq, show decide (I ((5 : Nat) : Int) = 3) = false from rfl, br_fq, show decide (I ((5 : Nat) : Int) = 4) = false from rfl, br_fq, show decide (I ((5 : Nat) : Int) = 5) = true from rfl, br_tq]
    refine pk_ck (fun _ => ?_)
    exact pk_bnd (pk_mo (h d m3 cm last (KPX_di h1 hk kx (by omega) hn1 hli) (CPR_in cp (by omega))) (fun v _ q => pk_some (CPO_ext hq g1 g2 q)))
def CMK (k : Nat) : Prop := k = 8 ∨ k = 9 ∨ k = 10 ∨ k = 11 ∨ k = 12 ∨ k = 13 ∨ k = 17 ∨ k = 18 ∨ k = 19 ∨ k = 20 ∨ k = 21
theorem cE_cmp {S : SF_Cm_fun} {Q : MS → Unit → Prop} {last : Int32} (hk : CMK k) (e1 : m3.2.2.1 16 ν = I (k : Nat)) (hν : ν ≤ 8015) (h : PK Q (S.2.2.2.2.1 m3 (I (ν : Nat)) last)) : PK Q (hm_Cm_expression N S m3 (I (ν : Nat)) last) := by
  unfold hm_Cm_expression hb_Cm_expression_0 hb_Cm_expression_359
  rw [tnI (n := ν) rfl (by omega), e1]
  refine pk_ck (fun _ => pk_ck (fun _ => ?_))
  have h2 : PK Q (bnd (S.2.2.2.2.1 m3 (I (ν : Nat)) last) (fun u81 r81 => some (u81, ()))) := pk_bnd (pk_mo h (fun v r q => pk_some q))
  rcases hk with rfl | rfl | rfl | rfl | rfl | rfl | rfl | rfl | rfl | rfl | rfl
  · rw [show decide (I ((8 : Nat) : Int) = 1) = false from rfl, br_fq, show decide (I ((8 : Nat) : Int) = 2) = false from rfl, br_fq, show decide (I ((8 : Nat) : Int) = 3) = false from rfl, br_fq, show decide (I ((8 : Nat) : Int) = 4) = false from rfl, br_fq, show decide (I ((8 : Nat) : Int) = 5) = false from rfl, br_fq, show decide (I ((8 : Nat) : Int) = 6) = false from rfl, br_fq, show decide (I ((8 : Nat) : Int) = 7) = false from rfl, br_fq, show decide (I ((8 : Nat) : Int) = 8) = true from rfl, br_tq]; exact h2
  · rw [show decide (I ((9 : Nat) : Int) = 1) = false from rfl, br_fq, show decide (I ((9 : Nat) : Int) = 2) = false from rfl, br_fq, show decide (I ((9 : Nat) : Int) = 3) = false from rfl, br_fq, show decide (I ((9 : Nat) : Int) = 4) = false from rfl, br_fq, show decide (I ((9 : Nat) : Int) = 5) = false from rfl, br_fq, show decide (I ((9 : Nat) : Int) = 6) = false from rfl, br_fq, show decide (I ((9 : Nat) : Int) = 7) = false from rfl, br_fq, show decide (I ((9 : Nat) : Int) = 8) = false from rfl, br_fq, show decide (I ((9 : Nat) : Int) = 9) = true from rfl, br_tq]; exact h2
  · rw [show decide (I ((10 : Nat) : Int) = 1) = false from rfl, br_fq, show decide (I ((10 : Nat) : Int) = 2) = false from rfl, br_fq, show decide (I ((10 : Nat) : Int) = 3) = false from rfl, br_fq, show decide (I ((10 : Nat) : Int) = 4) = false from rfl, br_fq, show decide (I ((10 : Nat) : Int) = 5) = false from rfl, br_fq, show decide (I ((10 : Nat) : Int) = 6) = false from rfl, br_fq, show decide (I ((10 : Nat) : Int) = 7) = false from rfl, br_fq, show decide (I ((10 : Nat) : Int) = 8) = false from rfl, br_fq, show decide (I ((10 : Nat) : Int) = 9) = false from rfl, br_fq, show decide (I ((10 : Nat) : Int) = 10) = true from rfl, br_tq]; exact h2
  · rw [show decide (I ((11 : Nat) : Int) = 1) = false from rfl, br_fq, show decide (I ((11 : Nat) : Int) = 2) = false from rfl, br_fq, show decide (I ((11 : Nat) : Int) = 3) = false from rfl, br_fq, show decide (I ((11 : Nat) : Int) = 4) = false from rfl, br_fq, show decide (I ((11 : Nat) : Int) = 5) = false from rfl, br_fq, show decide (I ((11 : Nat) : Int) = 6) = false from rfl, br_fq, show decide (I ((11 : Nat) : Int) = 7) = false from rfl, br_fq, show decide (I ((11 : Nat) : Int) = 8) = false from rfl, br_fq, show decide (I ((11 : Nat) : Int) = 9) = false from rfl, br_fq, show decide (I ((11 : Nat) : Int) = 10) = false from rfl, br_fq, show decide (I ((11 : Nat) : Int) = 11) = true from rfl, br_tq]; exact h2
  · rw [show decide (I ((12 : Nat) : Int) = 1) = false from rfl, br_fq, show decide (I ((12 : Nat) : Int) = 2) = false from rfl, br_fq, show decide (I ((12 : Nat) : Int) = 3) = false from rfl, br_fq, show decide (I ((12 : Nat) : Int) = 4) = false from rfl, br_fq, show decide (I ((12 : Nat) : Int) = 5) = false from rfl, br_fq, show decide (I ((12 : Nat) : Int) = 6) = false from rfl, br_fq, show decide (I ((12 : Nat) : Int) = 7) = false from rfl, br_fq, show decide (I ((12 : Nat) : Int) = 8) = false from rfl, br_fq, show decide (I ((12 : Nat) : Int) = 9) = false from rfl, br_fq, show decide (I ((12 : Nat) : Int) = 10) = false from rfl, br_fq, show decide (I ((12 : Nat) : Int) = 11) = false from rfl, br_fq, show decide (I ((12 : Nat) : Int) = 12) = true from rfl, br_tq]; exact h2
  · rw [show decide (I ((13 : Nat) : Int) = 1) = false from rfl, br_fq, show decide (I ((13 : Nat) : Int) = 2) = false from rfl, br_fq, show decide (I ((13 : Nat) : Int) = 3) = false from rfl, br_fq, show decide (I ((13 : Nat) : Int) = 4) = false from rfl, br_fq, show decide (I ((13 : Nat) : Int) = 5) = false from rfl, br_fq, show decide (I ((13 : Nat) : Int) = 6) = false from rfl, br_fq, show decide (I ((13 : Nat) : Int) = 7) = false from rfl, br_fq, show decide (I ((13 : Nat) : Int) = 8) = false from rfl, br_fq, show decide (I ((13 : Nat) : Int) = 9) = false from rfl, br_fq, show decide (I ((13 : Nat) : Int) = 10) = false from rfl, br_fq, show decide (I ((13 : Nat) : Int) = 11) = false from rfl, br_fq, show decide (I ((13 : Nat) : Int) = 12) = false from rfl, br_fq, show decide (I ((13 : Nat) : Int) = 13) = true from rfl, br_tq]; exact h2
  · rw [show decide (I ((17 : Nat) : Int) = 1) = false from rfl, br_fq, show decide (I ((17 : Nat) : Int) = 2) = false from rfl, br_fq, show decide (I ((17 : Nat) : Int) = 3) = false from rfl, br_fq, show decide (I ((17 : Nat) : Int) = 4) = false from rfl, br_fq, show decide (I ((17 : Nat) : Int) = 5) = false from rfl, br_fq, show decide (I ((17 : Nat) : Int) = 6) = false from rfl, br_fq, show decide (I ((17 : Nat) : Int) = 7) = false from rfl, br_fq, show decide (I ((17 : Nat) : Int) = 8) = false from rfl, br_fq, show decide (I ((17 : Nat) : Int) = 9) = false from rfl, br_fq, show decide (I ((17 : Nat) : Int) = 10) = false from rfl, br_fq, show decide (I ((17 : Nat) : Int) = 11) = false from rfl, br_fq, show decide (I ((17 : Nat) : Int) = 12) = false from rfl, br_fq, show decide (I ((17 : Nat) : Int) = 13) = false from rfl, br_fq, show decide (I ((17 : Nat) : Int) = 14) = false from rfl, br_fq, show decide (I ((17 : Nat) : Int) = 15) = false from rfl, br_fq, show decide (I ((17 : Nat) : Int) = 16) = false from rfl, br_fq, show decide (I ((17 : Nat) : Int) = 17) = true from rfl, br_tq]; exact h2
  · rw [show decide (I ((18 : Nat) : Int) = 1) = false from rfl, br_fq, show decide (I ((18 : Nat) : Int) = 2) = false from rfl, br_fq, show decide (I ((18 : Nat) : Int) = 3) = false from rfl, br_fq, show decide (I ((18 : Nat) : Int) = 4) = false from rfl, br_fq, show decide (I ((18 : Nat) : Int) = 5) = false from rfl, br_fq, show decide (I ((18 : Nat) : Int) = 6) = false from rfl, br_fq, show decide (I ((18 : Nat) : Int) = 7) = false from rfl, br_fq, show decide (I ((18 : Nat) : Int) = 8) = false from rfl, br_fq, show decide (I ((18 : Nat) : Int) = 9) = false from rfl, br_fq, show decide (I ((18 : Nat) : Int) = 10) = false from rfl, br_fq, show decide (I ((18 : Nat) : Int) = 11) = false from rfl, br_fq, show decide (I ((18 : Nat) : Int) = 12) = false from rfl, br_fq, show decide (I ((18 : Nat) : Int) = 13) = false from rfl, br_fq, show decide (I ((18 : Nat) : Int) = 14) = false from rfl, br_fq, show decide (I ((18 : Nat) : Int) = 15) = false from rfl, br_fq, show decide (I ((18 : Nat) : Int) = 16) = false from rfl, br_fq, show decide (I ((18 : Nat) : Int) = 17) = false from rfl, br_fq, show decide (I ((18 : Nat) : Int) = 18) = true from rfl, br_tq]; exact h2
  · rw [show decide (I ((19 : Nat) : Int) = 1) = false from rfl, br_fq, show decide (I ((19 : Nat) : Int) = 2) = false from rfl, br_fq, show decide (I ((19 : Nat) : Int) = 3) = false from rfl, br_fq, show decide (I ((19 : Nat) : Int) = 4) = false from rfl, br_fq, show decide (I ((19 : Nat) : Int) = 5) = false from rfl, br_fq, show decide (I ((19 : Nat) : Int) = 6) = false from rfl, br_fq, show decide (I ((19 : Nat) : Int) = 7) = false from rfl, br_fq, show decide (I ((19 : Nat) : Int) = 8) = false from rfl, br_fq, show decide (I ((19 : Nat) : Int) = 9) = false from rfl, br_fq, show decide (I ((19 : Nat) : Int) = 10) = false from rfl, br_fq, show decide (I ((19 : Nat) : Int) = 11) = false from rfl, br_fq, show decide (I ((19 : Nat) : Int) = 12) = false from rfl, br_fq, show decide (I ((19 : Nat) : Int) = 13) = false from rfl, br_fq, show decide (I ((19 : Nat) : Int) = 14) = false from rfl, br_fq, show decide (I ((19 : Nat) : Int) = 15) = false from rfl, br_fq, show decide (I ((19 : Nat) : Int) = 16) = false from rfl, br_fq, show decide (I ((19 : Nat) : Int) = 17) = false from rfl, br_fq, show decide (I ((19 : Nat) : Int) = 18) = false from rfl, br_fq, show decide (I ((19 : Nat) : Int) = 19) = true from rfl, br_tq]; exact h2
  · rw [show decide (I ((20 : Nat) : Int) = 1) = false from rfl, br_fq, show decide (I ((20 : Nat) : Int) = 2) = false from rfl, br_fq, show decide (I ((20 : Nat) : Int) = 3) = false from rfl, br_fq, show decide (I ((20 : Nat) : Int) = 4) = false from rfl, br_fq, show decide (I ((20 : Nat) : Int) = 5) = false from rfl, br_fq, show decide (I ((20 : Nat) : Int) = 6) = false from rfl, br_fq, show decide (I ((20 : Nat) : Int) = 7) = false from rfl, br_fq, show decide (I ((20 : Nat) : Int) = 8) = false from rfl, br_fq, show decide (I ((20 : Nat) : Int) = 9) = false from rfl, br_fq, show decide (I ((20 : Nat) : Int) = 10) = false from rfl, br_fq, show decide (I ((20 : Nat) : Int) = 11) = false from rfl, br_fq, show decide (I ((20 : Nat) : Int) = 12) = false from rfl, br_fq, show decide (I ((20 : Nat) : Int) = 13) = false from rfl, br_fq, show decide (I ((20 : Nat) : Int) = 14) = false from rfl, br_fq, show decide (I ((20 : Nat) : Int) = 15) = false from rfl, br_fq, show decide (I ((20 : Nat) : Int) = 16) = false from rfl, br_fq, show decide (I ((20 : Nat) : Int) = 17) = false from rfl, br_fq, show decide (I ((20 : Nat) : Int) = 18) = false from rfl, br_fq, show decide (I ((20 : Nat) : Int) = 19) = false from rfl, br_fq, show decide (I ((20 : Nat) : Int) = 20) = true from rfl, br_tq]; exact h2
  · rw [show decide (I ((21 : Nat) : Int) = 1) = false from rfl, br_fq, show decide (I ((21 : Nat) : Int) = 2) = false from rfl, br_fq, show decide (I ((21 : Nat) : Int) = 3) = false from rfl, br_fq, show decide (I ((21 : Nat) : Int) = 4) = false from rfl, br_fq, show decide (I ((21 : Nat) : Int) = 5) = false from rfl, br_fq, show decide (I ((21 : Nat) : Int) = 6) = false from rfl, br_fq, show decide (I ((21 : Nat) : Int) = 7) = false from rfl, br_fq, show decide (I ((21 : Nat) : Int) = 8) = false from rfl, br_fq, show decide (I ((21 : Nat) : Int) = 9) = false from rfl, br_fq, show decide (I ((21 : Nat) : Int) = 10) = false from rfl, br_fq, show decide (I ((21 : Nat) : Int) = 11) = false from rfl, br_fq, show decide (I ((21 : Nat) : Int) = 12) = false from rfl, br_fq, show decide (I ((21 : Nat) : Int) = 13) = false from rfl, br_fq, show decide (I ((21 : Nat) : Int) = 14) = false from rfl, br_fq, show decide (I ((21 : Nat) : Int) = 15) = false from rfl, br_fq, show decide (I ((21 : Nat) : Int) = 16) = false from rfl, br_fq, show decide (I ((21 : Nat) : Int) = 17) = false from rfl, br_fq, show decide (I ((21 : Nat) : Int) = 18) = false from rfl, br_fq, show decide (I ((21 : Nat) : Int) = 19) = false from rfl, br_fq, show decide (I ((21 : Nat) : Int) = 20) = false from rfl, br_fq, show decide (I ((21 : Nat) : Int) = 21) = true from rfl, br_tq]; exact h2
theorem exn_neg (hk2 : k = 17 ∨ k = 18) (hn : nod m2 ν = (I (k : Nat), a, I (μ : Nat), c, e)) (hlo : lo < ν) (hν : ν ≤ n2) (hl : n2 ≤ 8015) (hq : p ≤ q ∧ q ≤ q2 ∧ q2 ≤ p2) (g1 : ∀ j, p ≤ j → j < q → K j ≠ 3) (g2 : ∀ j, q2 ≤ j → j < p2 → K j ≠ 3) (h : EXN N K nm gd m1 li n1 μ q q2 sc sc2 X W Rf Zf BC) (hli : lo ≤ li) (h1 : KPO n1 m1 m2) (hk : Kcc m1 m2) (hn1 : n1 < ν) : EXN N K nm gd m2 lo n2 ν p p2 sc sc2 X W Rf Zf BC := by
  intro d m3 cm last kx cp
  cases d with
  | zero => exact pk_none
  | succ d =>
    have e0 := KPX_nod kx hlo hν
    rw [hn] at e0
    have e1 : m3.2.2.1 16 ν = I (k : Nat) := (Prod.mk.inj e0).1
    have e3 : m3.2.2.1 18 ν = I (μ : Nat) := (Prod.mk.inj (Prod.mk.inj (Prod.mk.inj e0).2).2).1
    show PK _ (hm_Cm_expression N (hrc_Cm_fun N d) m3 (I (ν : Nat)) last)
    refine cE_cmp (k := k) (by unfold CMK; omega) e1 (by omega) ?_
    cases d with
    | zero => exact pk_none
    | succ d =>
      show PK _ (hm_Cm_compound N (hrc_Cm_fun N d) m3 (I (ν : Nat)) last)
      unfold hm_Cm_compound hb_Cm_compound_0 hb_Cm_compound_33
      rw [tnI (n := ν) rfl (by omega), e1, e3]
      have main : PK (fun m4 (_ : Unit) => CPO K nm p p2 sc sc2 X W Rf Zf BC cm m3 m4) (ck (inb (I (ν : Nat)) 8016) (bnd ((hrc_Cm_fun N d).2.2.2.2.2.2.2.2.2.2.1 m3 (I (μ : Nat)) 0) (fun u8 r8 => ck (inb (I (ν : Nat)) 8016) (br (decide ((u8.2.2.1 16 ν) = 18)) (hb_Cm_compound_72 N (hrc_Cm_fun N d) () u8 (12)) (hb_Cm_compound_72 N (hrc_Cm_fun N d) () u8 (11)))))) := by
        refine pk_ck (fun _ => pk_bnd (pk_mo (h d m3 cm 0 (KPX_di h1 hk kx (by omega) hn1 hli) (CPR_in cp (by omega))) (fun v _ q => pk_ck (fun _ => ?_))))
        have q := CPO_ext hq g1 g2 q
        unfold hb_Cm_compound_72
        refine pk_br (fun _ => ?_) (fun _ => ?_)
        · exact pk_bnd (fun w1 r1 x1 => pk_some (CPO_u q (yu_hm_Co_put (u0 := v) Ku_rf w1 r1 x1)))
        · exact pk_bnd (fun w1 r1 x1 => pk_some (CPO_u q (yu_hm_Co_put (u0 := v) Ku_rf w1 r1 x1)))
      refine pk_ck (fun _ => ?_)
      rcases hk2 with rfl | rfl
      · rw [show decide (I ((17 : Nat) : Int) = 17) = true from rfl, br_tq]
        exact main
      · rw [show decide (I ((18 : Nat) : Int) = 17) = false from rfl, br_fq, show decide (I ((18 : Nat) : Int) = 18) = true from rfl, br_tq]
        exact pk_ck (fun _ => main)
theorem erw_S (h : ERW N K nm gd m1 lo n1 W l p p2 sc sc2 X Rf Zf BC) (hl : n1 ≤ 8015) (kx : (∀ j, lo < j → j ≤ n1 → nod m3 j = nod m1 j ∧ m3.2.2.1 21 j = m1.2.2.1 21 j) ∧ Kcc m1 m3) (d : Nat) (cp : CPR nm gd p p2 sc cm m3) : PK (fun m4 (_ : Unit) => CPO K nm p p2 sc sc2 X W Rf Zf BC cm m3 m4) ((hrc_Cm_fun N d).2.2.2.2.2.2.2.2.2.1 m3 (I ((l.headD 0 : Nat) : Int))) := by
  cases d with
  | zero => exact pk_none
  | succ d => exact erw_row hl h d N m3 cm kx.1 kx.2 cp
theorem exn_tup (hn : nod m2 ν = (I ((6 : Nat) : Int), a, I ((l.headD 0 : Nat) : Int), c, e)) (hlo : lo < ν) (hν : ν ≤ n2) (hl : n2 ≤ 8015) (hq : p ≤ q ∧ q ≤ q2 ∧ q2 ≤ p2) (g1 : ∀ j, p ≤ j → j < q → K j ≠ 3) (g2 : ∀ j, q2 ≤ j → j < p2 → K j ≠ 3) (h : ERW N K nm gd m1 lo n1 W l q q2 sc sc2 X Rf Zf BC) (h1 : KPO n1 m1 m2) (hk : Kcc m1 m2) (hn1 : n1 < ν) : EXN N K nm gd m2 lo n2 ν p p2 sc sc2 X W Rf Zf BC := by
  intro d m3 cm last kx cp
  cases d with
  | zero => exact pk_none
  | succ d =>
    have e0 := KPX_nod kx hlo hν
    rw [hn] at e0
    have e1 : m3.2.2.1 16 ν = I ((6 : Nat) : Int) := (Prod.mk.inj e0).1
    have e3 : m3.2.2.1 18 ν = I ((l.headD 0 : Nat) : Int) := (Prod.mk.inj (Prod.mk.inj (Prod.mk.inj e0).2).2).1
    show PK _ (hm_Cm_expression N (hrc_Cm_fun N d) m3 (I (ν : Nat)) last)
    unfold hm_Cm_expression hb_Cm_expression_0 hb_Cm_expression_359
    rw [tnI (n := ν) rfl (by omega), e1, e3]
    refine pk_ck (fun _ => pk_ck (fun _ => ?_))
    rw [show decide (I ((6 : Nat) : Int) = 1) = false from rfl, br_fq, show decide (I ((6 : Nat) : Int) = 2) = false from rfl, br_fq, show decide (I ((6 : Nat) : Int) = 3) = false from rfl, br_fq, show decide (I ((6 : Nat) : Int) = 4) = false from rfl, br_fq, show decide (I ((6 : Nat) : Int) = 5) = false from rfl, br_fq, show decide (I ((6 : Nat) : Int) = 6) = true from rfl, br_tq]
    refine pk_ck (fun _ => pk_bnd (pk_mo (erw_S h (by omega) (chi_k h1 hk hn1 hν kx) d (CPR_in cp (by omega))) (fun v _ q => ?_)))
    refine pk_bnd (fun w1 r1 x1 => pk_ck (fun _ => pk_bnd (fun w2 r2 x2 => pk_some ?_)))
    exact CPO_u (CPO_u (CPO_ext hq g1 g2 q) (yu_hm_Co_put (u0 := v) Ku_rf w1 r1 x1)) (yu_hm_Co_put (u0 := w1) Ku_rf w2 r2 x2)
theorem l57 {S : SF_Cm_fun} {ν : Int32} : PK (fun w (_ : Unit) => Kuc v w) (hb_Cm_list_57 N S () v ν) := fun w r x => by
  have : KuE v (hb_Cm_list_57 N S () v ν) := by
    have h0 : Kuc v v := Ku_rf
    unfold hb_Cm_list_57 hb_Cm_list_93
    repeat' (first | with_reducible assumption | with_reducible refine Ku_br ?_ ?_ | with_reducible refine Ku_bnd ?_ (fun _ _ _ => ?_) | with_reducible refine Ku_ck ?_ | with_reducible refine Ku_some ?_ | with_reducible exact yu_hm_Co_arrive (by assumption) | with_reducible exact yu_hm_Co_hook (by assumption) | with_reducible exact yu_hm_Co_put (by assumption) | with_reducible exact yu_hm_Cm_term (by assumption) | with_reducible exact yu_hm_Cm_string (by assumption) | with_reducible exact yu_hm_Co_set (by assumption) | with_reducible exact yu_hm_Co_at (by assumption))
  exact this w r x
theorem exn_lst {c0 X3 : Nat} {R3 Z3 : Bool} {B3 : MS → Prop} (hn : nod m2 ν = (I ((7 : Nat) : Int), a, I ((l.headD 0 : Nat) : Int), c, I (c0 : Nat))) (hlo : lo < ν) (hν : ν ≤ n2) (hl : n2 ≤ 8015) (hq : p ≤ q ∧ q ≤ q2 ∧ q2 ≤ q3 ∧ q3 ≤ p2) (g1 : ∀ j, p ≤ j → j < q → K j ≠ 3) (g2 : ∀ j, q3 ≤ j → j < p2 → K j ≠ 3) (hX : X ≤ 1400) (ht : tot sc2 ≤ tot sc + (q2 - q) ∧ sc2.length = sc.length) (h : ERW N K nm gd m1 lo n1 W l q q2 sc sc2 X Rf Zf BC) (h1 : KPO n1 m1 m2) (hk : Kcc m1 m2) (hn1 : n1 < ν) (hs3 : STB B3) (tl : (c0 = 0 ∧ q3 = q2 ∧ sc3 = sc2 ∧ X3 = 0 ∧ R3 = false ∧ Z3 = false ∧ ∀ m, ¬ B3 m) ∨ (1 ≤ c0 ∧ c0 ≤ n1 ∧ ∃ (r li ni : Nat) (mi : MS), lo ≤ li ∧ ni ≤ n1 ∧ (q2 ≤ r ∧ r ≤ q3) ∧ (∀ j, q2 ≤ j → j < r → K j ≠ 3) ∧ KPX li ni c0 mi m1 ∧ EXN N K nm gd mi li ni c0 r q3 sc2 sc3 X3 W R3 Z3 B3)) : EXN N K nm gd m2 lo n2 ν p p2 sc sc3 (max X X3) W (Rf || R3) (Zf || Z3) (fun m => BC m ∨ B3 m) := by
  intro d m3 cm last kx cp
  cases d with
  | zero => exact pk_none
  | succ d =>
    have e0 := KPX_nod kx hlo hν
    rw [hn] at e0
    have e1 : m3.2.2.1 16 ν = I ((7 : Nat) : Int) := (Prod.mk.inj e0).1
    have e3 : m3.2.2.1 18 ν = I ((l.headD 0 : Nat) : Int) := (Prod.mk.inj (Prod.mk.inj (Prod.mk.inj e0).2).2).1
    have e5 : m3.2.2.1 20 ν = I (c0 : Nat) := (Prod.mk.inj (Prod.mk.inj (Prod.mk.inj (Prod.mk.inj e0).2).2).2).2
    show PK _ (hm_Cm_expression N (hrc_Cm_fun N d) m3 (I (ν : Nat)) last)
    unfold hm_Cm_expression hb_Cm_expression_0 hb_Cm_expression_359
    rw [tnI (n := ν) rfl (by omega), e1]
    refine pk_ck (fun _ => pk_ck (fun _ => ?_))
    rw [show decide (I ((7 : Nat) : Int) = 1) = false from rfl, br_fq, show decide (I ((7 : Nat) : Int) = 2) = false from rfl, br_fq, show decide (I ((7 : Nat) : Int) = 3) = false from rfl, br_fq, show decide (I ((7 : Nat) : Int) = 4) = false from rfl, br_fq, show decide (I ((7 : Nat) : Int) = 5) = false from rfl, br_fq, show decide (I ((7 : Nat) : Int) = 6) = false from rfl, br_fq, show decide (I ((7 : Nat) : Int) = 7) = true from rfl, br_tq]
    cases d with
    | zero => exact pk_none
    | succ d =>
      refine pk_bnd ?_
      show PK _ (hm_Cm_list N (hrc_Cm_fun N d) m3 (I (ν : Nat)))
      refine pk_mo (Q := fun u (_ : Unit) => CPO K nm p p2 sc sc3 (max X X3) W (Rf || R3) (Zf || Z3) (fun m => BC m ∨ B3 m) cm m3 u) ?_ (fun v _ q => pk_some q)
      unfold hm_Cm_list hb_Cm_list_0
      rw [tnI (n := ν) rfl (by omega), e3]
      have ck3 := chi_k h1 hk hn1 hν kx
      have row := erw_S h (by omega) ck3 d (CPR_in (q := q) (q2 := q2) cp (by omega))
      refine pk_ck (fun _ => ?_)
      refine pk_mo (Q := fun u (_ : Unit) => CPO K nm q q3 sc sc3 (max X X3) W (Rf || R3) (Zf || Z3) (fun m => BC m ∨ B3 m) cm m3 u) ?_ (fun v _ qq => CPO_ext ⟨hq.1, by omega, hq.2.2.2⟩ g1 g2 qq)
      rcases tl with ⟨t1, t2, t3, t4, t5, t6, t7⟩ | ⟨t1, t2, r, li, ni, mi, t3, t4, t5, t6, t7, t8⟩
      · subst t1
        subst t2
        subst t3
        subst t4
        subst t5
        subst t6
        refine pk_bnd (pk_mo row (fun v _ qv => pk_ck (fun _ => ?_)))
        rw [(CPO_fr qv).2 20 (by omega), e5, show decide (I ((0 : Nat) : Int) = 0) = true from rfl, br_tq]
        have qv2 : CPO K nm q q3 sc sc3 (max X 0) W (Rf || false) (Zf || false) (fun m => BC m ∨ B3 m) cm m3 v := by
          rw [Nat.max_eq_left (Nat.zero_le X), Bool.or_false, Bool.or_false]
          exact CPO_bc ⟨fun z => z.elim id (fun z => absurd z (t7 m3)), Or.inl⟩ qv
        refine pk_bnd (fun w1 r1 x1 => pk_bnd (fun w2 r2 x2 => pk_mo l57 (fun w3 _ x3 => ?_)))
        exact CPO_u (CPO_u (CPO_u qv2 (yu_hm_Co_put (u0 := v) Ku_rf w1 r1 x1)) (yu_hm_Cm_term (u0 := w1) Ku_rf w2 r2 x2)) x3
      · refine cpo_bnd row ⟨by omega, by omega⟩ hs3 ht.2 (fun v r9 hv => ?_) (fun v r9 hv hn => ?_)
        · obtain ⟨hS0, hS1, hS2, hS3, hS4, hS5, hS6, hS7, hS8, hS9, hS10, hS11, hS12⟩ := yz_hrc_Cm_fun (u0 := v) (N := N) d
          unfold hb_Cm_list_57 hb_Cm_list_93
          repeat' (first | with_reducible assumption | with_reducible refine Kz_br ?_ ?_ | with_reducible refine Kz_bnd ?_ (fun _ _ _ => ?_) | with_reducible refine Kz_ck ?_ | with_reducible refine Kz_ltm ?_ (fun _ _ => ?_) | with_reducible refine Kz_some ?_ | with_reducible exact yz_hm_Cm_notInGuard (by assumption) | with_reducible exact yz_hr_Cm_pattern (by assumption) | with_reducible exact yz_hm_Cm_forget (by assumption) | with_reducible exact yz_hm_Co_arrive (by assumption) | with_reducible exact yz_hm_Cm_funOf (by assumption) | with_reducible exact yz_hm_Co_hook (by assumption) | with_reducible exact yz_hm_Co_put (by assumption) | with_reducible exact yz_hm_Cm_term (by assumption) | with_reducible exact yz_hm_Cm_string (by assumption) | with_reducible exact yz_hm_Co_seek (by assumption) | with_reducible exact yz_hm_Cm_predefinedOf (by assumption) | with_reducible exact yz_hm_Cm_fault (by assumption) | with_reducible exact yz_hm_Cm_joining (by assumption) | with_reducible exact yz_hm_Cm_hold (by assumption) | with_reducible exact yz_hm_Co_set (by assumption) | with_reducible exact yz_hm_Tr_length (by assumption) | with_reducible exact hS0 _ _ (by assumption) | with_reducible exact hS1 _ _ _ (by assumption) | with_reducible exact hS2 _ _ _ _ _ (by assumption) | with_reducible exact hS3 _ _ _ (by assumption) | with_reducible exact hS4 _ _ _ (by assumption) | with_reducible exact hS5 _ _ _ (by assumption) | with_reducible exact hS6 _ _ _ (by assumption) | with_reducible exact hS7 _ _ (by assumption) | with_reducible exact hS8 _ _ (by assumption) | with_reducible exact hS9 _ _ (by assumption) | with_reducible exact hS10 _ _ _ (by assumption) | with_reducible exact hS11 _ _ _ (by assumption) | with_reducible exact hS12 _ _ _ _ (by assumption) | with_reducible exact yz_hg_Cm_apply hS0 hS1 hS2 hS3 hS4 hS5 hS6 hS7 hS8 hS9 hS10 hS11 hS12 _ _ _ _ _ (by assumption) | with_reducible exact yz_hg_Cm_row hS0 hS1 hS2 hS3 hS4 hS5 hS6 hS7 hS8 hS9 hS10 hS11 hS12 _ _ _ (by assumption) | with_reducible exact yz_hg_Cm_signs hS0 hS1 hS2 hS3 hS4 hS5 hS6 hS7 hS8 hS9 hS10 hS11 hS12 _ _ _ _ _ _ _ (by assumption) | with_reducible exact yz_hg_Cm_body hS0 hS1 hS2 hS3 hS4 hS5 hS6 hS7 hS8 hS9 hS10 hS11 hS12 _ _ _ _ (by assumption) | with_reducible exact yz_hg_Cm_parts hS0 hS1 hS2 hS3 hS4 hS5 hS6 hS7 hS8 hS9 hS10 hS11 hS12 _ _ _ _ _ _ _ (by assumption) | with_reducible exact (yz_hg_Cm_tries hS0 hS1 hS2 hS3 hS4 hS5 hS6 hS7 hS8 hS9 hS10 hS11 hS12 _).1 _ _ _ _ _ (by assumption) | with_reducible exact (yz_hg_Cm_tries hS0 hS1 hS2 hS3 hS4 hS5 hS6 hS7 hS8 hS9 hS10 hS11 hS12 _).2 _ _ _ _ (by assumption) | with_reducible refine Kz_ltv (fun _ => ?_) | with_reducible refine Kz_I ?_ (by decide) | with_reducible refine Kz_A ?_ (by decide))
        · have fr := hn.2.2.2.2.2.2.2.2
          rw [fr.2 20 (by omega), e5]
          refine pk_ck (fun _ => ?_)
          rw [decide_eq_false (p := I (c0 : Nat) = 0) (fun z => by have := (I_eq (x := (c0 : Nat)) (y := 0) (by omega) (by omega) (by omega) (by omega)).mp z; omega), br_fq]
          have kv : KPX li ni c0 mi v := by
            have kk : KPX lo n1 c0 m1 m3 := ⟨fun j h0 hj => ⟨(ck3.1 j h0 hj).1, fun _ => (ck3.1 j h0 hj).2⟩, ck3.2⟩
            exact KPX_f (KPX_tr t7 kk t4 t3) fr
          have cpv : CPR nm gd r q3 sc2 (max cm X) v := CPR_in (p := q2) (p2 := q3) (CPR_2 (p := q) (p2 := q3) (q := q2) (CPR_in cp (by omega)) hn ht.2 hX (by have := cp.2.2.2.2.2.2; omega)) (by omega)
          refine pk_ck (fun _ => pk_bnd (pk_mo (t8 d v (max cm X) 0 kv cpv) (fun w _ qw => pk_mo l57 (fun w3 _ x3 => ?_))))
          exact CPO_u (CPO_ext ⟨t5.1, t5.2, Nat.le_refl _⟩ t6 (fun j h1 h2 => absurd h2 (by omega)) qw) x3
end
end
section
set_option maxRecDepth 100000
def ARW (N : Nat) (K nm : Nat → Nat) (gd : Bool) (m2 : MS) (lo n2 : Nat) (W : Nat → Nat) : List (Nat × List Nat) → Nat → Nat → SCT → SCT → Nat → Bool → Bool → (MS → Prop) → Prop
  | [], p, p2, sc, sc2, X, Rf, Zf, BC => p = p2 ∧ sc2 = sc ∧ X = 0 ∧ Rf = false ∧ Zf = false ∧ ∀ m, ¬ BC m
  | (ν, l) :: r, p, p2, sc, sc2, X, Rf, Zf, BC => ∃ q q2 sc1 X1 X2 R1 R2 Z1 Z2 B1 B2, (p ≤ q ∧ q ≤ q2 ∧ q2 ≤ p2) ∧ (∀ j, p ≤ j → j < q → K j ≠ 3) ∧ (∃ mi li ni, ERW N K nm gd mi li ni W l q q2 sc sc1 X1 R1 Z1 B1 ∧ ((∀ j, li < j → j ≤ ni → nod m2 j = nod mi j ∧ m2.2.2.1 21 j = mi.2.2.1 21 j) ∧ Kcc mi m2) ∧ (lo ≤ li ∧ ni ≤ n2)) ∧ (lo < ν ∧ ν ≤ n2) ∧ m2.2.2.1 18 ν = I ((l.headD 0 : Nat) : Int) ∧ m2.2.2.1 21 ν = I (((r.headD (0, [])).1 : Nat) : Int) ∧ (tot sc1 ≤ tot sc + (q2 - q) ∧ sc1.length = sc.length ∧ X1 ≤ 1400) ∧ ARW N K nm gd m2 lo n2 W r q2 p2 sc1 sc2 X2 R2 Z2 B2 ∧ X = max X1 X2 ∧ Rf = (R1 || R2) ∧ Zf = (Z1 || Z2) ∧ (∀ m, BC m ↔ B1 m ∨ B2 m) ∧ STB B2
def cmpR (N : Nat) (S : SF_Cm_fun) (G : Unit) (u : MS) (v1 v2 : Int32) (u31 : MS) : Option (MS × Unit) := ck (inb v1 8016) (br (decide ((u31.2.2.1 16 v1.toNatClampNeg) = 8)) (ck (inb v1 8016) (bnd (S.2.2.2.1 u31 (u31.2.2.1 18 v1.toNatClampNeg) v2) (fun u42 r42 => bnd (hm_Cm_forget N u42 (u.1 706)) (fun u43 r43 => hb_Cm_compound_455 N S G u43)))) (br (decide ((u31.2.2.1 16 v1.toNatClampNeg) = 9)) (ck (inb v1 8016) (bnd (S.2.2.2.2.2.2.2.2.2.2.1 u31 (u31.2.2.1 18 v1.toNatClampNeg) 0) (fun u49 r49 => ck (inb v1 8016) (bnd (S.2.2.1 u49 (u49.2.2.1 19 v1.toNatClampNeg) (-1) 15 v2) (fun u55 r55 => bnd (hm_Co_put N u55 37) (fun u57 r57 => bnd (hm_Co_arrive N u57 r55) (fun u60 r60 => hb_Cm_compound_455 N S G u60))))))) (br (decide ((u31.2.2.1 16 v1.toNatClampNeg) = 10)) (ck (inb v1 8016) (bnd (S.2.2.1 u31 (u31.2.2.1 19 v1.toNatClampNeg) (-1) 0 v2) (fun u67 r67 => bnd (hm_Co_put N u67 38) (fun u69 r69 => bnd (hm_Co_arrive N u69 r67) (fun u72 r72 => hb_Cm_compound_455 N S G u72))))) (br (decide ((u31.2.2.1 16 v1.toNatClampNeg) = 11)) (bnd (S.2.1 u31 v1 v2) (fun u74 r74 => hb_Cm_compound_455 N S G u74)) (br (decide ((u31.2.2.1 16 v1.toNatClampNeg) = 12)) (bnd (S.1 u31 v1) (fun u75 r75 => hb_Cm_compound_455 N S G u75)) (br (decide ((u31.2.2.1 16 v1.toNatClampNeg) = 13)) (bnd (hm_Cm_funOf N u31 v1) (fun u76 r76 => hb_Cm_compound_455 N S G u76)) (br (decide ((u31.2.2.1 16 v1.toNatClampNeg) = 14)) (hb_Cm_compound_455 N S G u31) (br (decide ((u31.2.2.1 16 v1.toNatClampNeg) = 15)) (hb_Cm_compound_455 N S G u31) (br (decide ((u31.2.2.1 16 v1.toNatClampNeg) = 16)) (hb_Cm_compound_455 N S G u31) (br (decide ((u31.2.2.1 16 v1.toNatClampNeg) = 17)) (hb_Cm_compound_455 N S G u31) (br (decide ((u31.2.2.1 16 v1.toNatClampNeg) = 18)) (hb_Cm_compound_455 N S G u31) (br (decide ((u31.2.2.1 16 v1.toNatClampNeg) = 19)) (bnd (hm_Co_put N u31 29) (fun u78 r78 => bnd (hm_Co_hook N u78 0) (fun u81 r81 => ck (inb v1 8016) (bnd (S.2.2.2.2.2.2.2.2.2.2.1 u81 (u81.2.2.1 18 v1.toNatClampNeg) 0) (fun u88 r88 => bnd (hm_Co_put N u88 30) (fun u90 r90 => bnd (hm_Cm_forget N u90 (u.1 706)) (fun u92 r92 => bnd (hm_Co_arrive N u92 r81) (fun u94 r94 => hb_Cm_compound_455 N S G u94)))))))) (br (decide ((u31.2.2.1 16 v1.toNatClampNeg) = 20)) (ck (inb v1 8016) (bnd (S.2.2.2.2.2.2.2.2.2.2.1 u31 (u31.2.2.1 19 v1.toNatClampNeg) 0) (fun u101 r101 => bnd (hm_Co_put N u101 20) (fun u103 r103 => ck (inb v1 8016) (bnd (hr_Cm_pattern N u103 (u103.2.2.1 18 v1.toNatClampNeg)) (fun u110 r110 => bnd (hm_Co_put N u110 8) (fun u112 r112 => hb_Cm_compound_455 N S G u112))))))) (br (decide ((u31.2.2.1 16 v1.toNatClampNeg) = 21)) (ck (inb v1 8016) (bnd (S.2.2.2.2.2.2.2.2.2.2.1 u31 (u31.2.2.1 18 v1.toNatClampNeg) 0) (fun u119 r119 => ck (inb v1 8016) (bnd (S.2.2.2.2.2.2.2.2.2.2.1 u119 (u119.2.2.1 19 v1.toNatClampNeg) 0) (fun u125 r125 => bnd (hm_Co_put N u125 17) (fun u127 r127 => hb_Cm_compound_455 N S G u127)))))) (hb_Cm_compound_455 N S G u31)))))))))))))))
section
variable {m v u m1 m2 m3 : MS} {K nm W : Nat → Nat} {sc sc1 sc2 sc3 t : SCT} {s x y N i f tok cm cm2 p p2 q q2 q3 n1 n2 n3 ν μ lo li X X1 X2 k : Nat} {gd Zf Rf R1 R2 Z1 Z2 : Bool} {g : Nat → Int32} {B1 B2 BC : MS → Prop} {a b c e f : Int32} {l : List Nat}
theorem b2c_2 {h : Bool} : b2c h ≠ 2 := by cases h <;> decide
theorem b2c_1 {h : Bool} : b2c h = 1 ↔ h = true := by cases h <;> decide
theorem BADc_e (hp : hm_Cm_predefinedOf N m a b = some (m, c)) (hs : hm_Co_seek N m a b = some (m, e)) : BADc N m (a, b, b2c gd) ↔ (c = -1 ∧ e = -1) ∨ (gd = true ∧ (c < 17 ∨ ¬ c ≤ 28)) := by
  unfold BADc
  rw [if_neg b2c_2]
  show (hm_Cm_predefinedOf N m a b = some (m, -1) ∧ hm_Co_seek N m a b = some (m, -1)) ∨ (b2c gd = 1 ∧ ∃ id, hm_Cm_predefinedOf N m a b = some (m, id) ∧ (id < 17 ∨ ¬ id ≤ 28)) ↔ _
  rw [hp, hs, b2c_1]
  constructor
  · rintro (⟨h1, h2⟩ | ⟨h1, id, h2, h3⟩)
    · injection h1 with h1
      injection h2 with h2
      exact Or.inl ⟨(Prod.mk.inj h1).2, (Prod.mk.inj h2).2⟩
    · injection h2 with h2
      rw [(Prod.mk.inj h2).2]
      exact Or.inr ⟨h1, h3⟩
  · rintro (⟨h1, h2⟩ | ⟨h1, h3⟩)
    · rw [h1, h2]; exact Or.inl ⟨rfl, rfl⟩
    · exact Or.inr ⟨h1, c, rfl, h3⟩
theorem nig_p (cp : CPR nm gd p p2 sc cm m3) (ht : tok ≤ 4002) : PK (fun v (_ : Unit) => (gd = false ∧ v = m3) ∨ (gd = true ∧ v.1 714 < 1000000000 ∧ FRC m3 v)) (hm_Cm_notInGuard N m3 (I (tok : Nat))) := by
  unfold hm_Cm_notInGuard hb_Cm_notInGuard_0 hb_Cm_notInGuard_14
  rw [cp.2.2.2.2.2.1]
  cases gd with
  | false => exact pk_some (Or.inl ⟨rfl, rfl⟩)
  | true =>
    rw [show (!true) = false from rfl, br_fq]
    exact pk_bnd (pk_mo (fault_p (N := N) (tk := tok) (nb := 7) (by omega) (by omega)) (fun v r q => pk_some (Or.inr ⟨rfl, q.1, ⟨fun k hk => q.2.1 k (by omega), fun k _ => by rw [q.2.2]⟩⟩)))
theorem exn_call (hn : nod m2 ν = (I ((14 : Nat) : Int), I (tok : Nat), a, I ((l.headD 0 : Nat) : Int), b)) (htk : tok ≤ 4000) (hlo : lo < ν) (hν : ν ≤ n2) (hl : n2 ≤ 8015) (hq : p ≤ q ∧ q ≤ q2 ∧ q2 ≤ p2) (g1 : ∀ j, p ≤ j → j < q → K j ≠ 3) (g2 : ∀ j, q2 ≤ j → j < p2 → K j ≠ 3) (h : ERW N K nm gd m1 lo n1 W l q q2 sc sc2 X Rf Zf BC) (h1 : KPO n1 m1 m2) (hk : Kcc m1 m2) (hn1 : n1 < ν) : EXN N K nm gd m2 lo n2 ν p p2 sc sc2 X W Rf Zf (fun m => BC m ∨ BADc N m (a, b, b2c gd)) := by
  intro d m3 cm last kx cp
  cases d with
  | zero => exact pk_none
  | succ d =>
    have e0 := KPX_nod kx hlo hν
    rw [hn] at e0
    have e1 : m3.2.2.1 16 ν = I ((14 : Nat) : Int) := (Prod.mk.inj e0).1
    have e2 : m3.2.2.1 17 ν = I (tok : Nat) := (Prod.mk.inj (Prod.mk.inj e0).2).1
    have e3 : m3.2.2.1 18 ν = a := (Prod.mk.inj (Prod.mk.inj (Prod.mk.inj e0).2).2).1
    have e4 : m3.2.2.1 19 ν = I ((l.headD 0 : Nat) : Int) := (Prod.mk.inj (Prod.mk.inj (Prod.mk.inj (Prod.mk.inj e0).2).2).2).1
    have e5 : m3.2.2.1 20 ν = b := (Prod.mk.inj (Prod.mk.inj (Prod.mk.inj (Prod.mk.inj e0).2).2).2).2
    show PK _ (hm_Cm_expression N (hrc_Cm_fun N d) m3 (I (ν : Nat)) last)
    unfold hm_Cm_expression hb_Cm_expression_0 hb_Cm_expression_359
    rw [tnI (n := ν) rfl (by omega), e1]
    refine pk_ck (fun _ => pk_ck (fun _ => ?_))
    rw [show decide (I ((14 : Nat) : Int) = 1) = false from rfl, br_fq, show decide (I ((14 : Nat) : Int) = 2) = false from rfl, br_fq, show decide (I ((14 : Nat) : Int) = 3) = false from rfl, br_fq, show decide (I ((14 : Nat) : Int) = 4) = false from rfl, br_fq, show decide (I ((14 : Nat) : Int) = 5) = false from rfl, br_fq, show decide (I ((14 : Nat) : Int) = 6) = false from rfl, br_fq, show decide (I ((14 : Nat) : Int) = 7) = false from rfl, br_fq, show decide (I ((14 : Nat) : Int) = 8) = false from rfl, br_fq, show decide (I ((14 : Nat) : Int) = 9) = false from rfl, br_fq, show decide (I ((14 : Nat) : Int) = 10) = false from rfl, br_fq, show decide (I ((14 : Nat) : Int) = 11) = false from rfl, br_fq, show decide (I ((14 : Nat) : Int) = 12) = false from rfl, br_fq, show decide (I ((14 : Nat) : Int) = 13) = false from rfl, br_fq, show decide (I ((14 : Nat) : Int) = 14) = true from rfl, br_tq]
    cases d with
    | zero => exact pk_none
    | succ d =>
      refine pk_bnd ?_
      show PK _ (hm_Cm_call N (hrc_Cm_fun N d) m3 (I (ν : Nat)) last)
      refine pk_mo (Q := fun u (_ : Unit) => CPO K nm p p2 sc sc2 X W Rf Zf (fun m => BC m ∨ BADc N m (a, b, b2c gd)) cm m3 u) ?_ (fun v _ q => pk_some q)
      unfold hm_Cm_call hb_Cm_call_0
      rw [tnI (n := ν) rfl (by omega), e2, e3, e5]
      refine pk_ck (fun _ => pk_ck (fun _ => pk_ck (fun _ => pk_bnd (pk_mo (pre_c (N := N) (a := a) (b := b) FRC_rf) (fun u46 r46 h46 => pk_ck (fun _ => ?_))))))
      rw [h46.1, e3]
      refine pk_bnd (pk_mo (seek_c (N := N) (a := a) (b := b) FRC_rf) (fun u53 r53 h53 => ?_))
      rw [h53.1]
      have bd := BADc_e (gd := gd) h46.2 h53.2
      have z77 : ∀ v : MS, Kzc v v → KzE v (hb_Cm_call_77 N (hrc_Cm_fun N d) () v (I (ν : Nat)) last (I (tok : Nat)) b r46 r53) := fun v hv => by
        obtain ⟨hS0, hS1, hS2, hS3, hS4, hS5, hS6, hS7, hS8, hS9, hS10, hS11, hS12⟩ := yz_hrc_Cm_fun (u0 := v) (N := N) d
        exact yz_hb_Cm_call_77 hv hS0 hS1 hS2 hS3 hS4 hS5 hS6 hS7 hS8 hS9 hS10 hS11 hS12
      have z96 : ∀ v : MS, Kzc v v → KzE v (hb_Cm_call_96 N (hrc_Cm_fun N d) () v (I (ν : Nat)) last (I (tok : Nat)) b r46 r53) := fun v hv => by
        obtain ⟨hS0, hS1, hS2, hS3, hS4, hS5, hS6, hS7, hS8, hS9, hS10, hS11, hS12⟩ := yz_hrc_Cm_fun (u0 := v) (N := N) d
        exact yz_hb_Cm_call_96 hv hS0 hS1 hS2 hS3 hS4 hS5 hS6 hS7 hS8 hS9 hS10 hS11 hS12
      have m96 : ¬ BADc N m3 (a, b, b2c gd) → PK (fun u (_ : Unit) => CPO K nm p p2 sc sc2 X W Rf Zf (fun m => BC m ∨ BADc N m (a, b, b2c gd)) cm m3 u) (hb_Cm_call_96 N (hrc_Cm_fun N d) () m3 (I (ν : Nat)) last (I (tok : Nat)) b r46 r53) := fun nb => by
        unfold hb_Cm_call_96
        rw [tnI (n := ν) rfl (by omega), e4]
        refine pk_ck (fun _ => pk_bnd (pk_mo (erw_S h (by omega) (chi_k h1 hk hn1 hν kx) d (CPR_in cp (by omega))) (fun v _ q => ?_)))
        have q := CPO_bc (B2 := fun m => BC m ∨ BADc N m (a, b, b2c gd)) ⟨fun z => z.elim id (fun z => absurd z nb), Or.inl⟩ (CPO_ext hq g1 g2 q)
        refine pk_mo (Q := fun w (_ : Unit) => Kuc v w) ?_ (fun w _ x => CPO_u q x)
        intro w r x
        have h0 : Kuc v v := Ku_rf
        refine (?_ : KuE v _) w r x
        unfold hb_Cm_call_198 hb_Cm_call_147 hb_Cm_call_152 hb_Cm_call_170
        repeat' (first | with_reducible assumption | with_reducible refine Ku_br ?_ ?_ | with_reducible refine Ku_bnd ?_ (fun _ _ _ => ?_) | with_reducible refine Ku_ck ?_ | with_reducible refine Ku_some ?_ | with_reducible exact yu_hm_Co_arrive (by assumption) | with_reducible exact yu_hm_Co_hook (by assumption) | with_reducible exact yu_hm_Co_put (by assumption) | with_reducible exact yu_hm_Cm_term (by assumption) | with_reducible exact yu_hm_Cm_string (by assumption) | with_reducible exact yu_hm_Co_set (by assumption) | with_reducible exact yu_hm_Co_at (by assumption))
      have m91 : (r46 < 17 ∨ ¬ r46 ≤ 28) → ¬ (r46 = -1 ∧ r53 = -1) → PK (fun u (_ : Unit) => CPO K nm p p2 sc sc2 X W Rf Zf (fun m => BC m ∨ BADc N m (a, b, b2c gd)) cm m3 u) (hb_Cm_call_91 N (hrc_Cm_fun N d) () m3 (I (ν : Nat)) last (I (tok : Nat)) b r46 r53) := fun hr nn => by
        unfold hb_Cm_call_91
        refine pk_bnd (pk_mo (nig_p cp (by omega)) (fun v _ q => ?_))
        rcases q with ⟨q1, q2⟩ | ⟨q1, q2, q3⟩
        · rw [q2]
          refine m96 (fun z => ?_)
          rcases bd.mp z with z | z
          · exact nn z
          · rw [q1] at z; exact absurd z.1 (by decide)
        · exact pk_mo (fun w r x => z96 v ⟨q2, FRC_rf⟩ w r x) (fun w _ z => CPO_z (v := v) ⟨Or.inr (Or.inr (bd.mpr (Or.inr ⟨q1, hr⟩))), q2, q3⟩ z)
      have m77 : ¬ (r46 = -1 ∧ r53 = -1) → PK (fun u (_ : Unit) => CPO K nm p p2 sc sc2 X W Rf Zf (fun m => BC m ∨ BADc N m (a, b, b2c gd)) cm m3 u) (hb_Cm_call_77 N (hrc_Cm_fun N d) () m3 (I (ν : Nat)) last (I (tok : Nat)) b r46 r53) := fun nn => by
        unfold hb_Cm_call_77
        refine pk_br (fun z => m91 (Or.inl (of_decide_eq_true z)) nn) (fun z1 => pk_br (fun z => m96 (fun zb => ?_)) (fun z => m91 (Or.inr (of_decide_eq_false z)) nn))
        have z1 := of_decide_eq_false z1
        have z := of_decide_eq_true z
        rcases bd.mp zb with y | ⟨_, y | y⟩
        · exact nn y
        · exact z1 y
        · exact y z
      refine pk_br (fun z1 => pk_br (fun z2 => ?_) (fun z2 => ?_)) (fun z1 => ?_)
      · refine pk_bnd (pk_mo (fault_p (N := N) (tk := tok) (nb := 6) (by omega) (by omega)) (fun v r q => ?_))
        exact pk_mo (fun w r x => z77 v ⟨q.1, FRC_rf⟩ w r x) (fun w _ z => CPO_z (v := v) ⟨Or.inr (Or.inr (bd.mpr (Or.inl ⟨of_decide_eq_true z1, of_decide_eq_true z2⟩))), q.1, ⟨fun k hk => q.2.1 k (by omega), fun k _ => by rw [q.2.2]⟩⟩ z)
      · exact m77 (fun y => of_decide_eq_false z2 y.2)
      · exact m77 (fun y => of_decide_eq_false z1 y.1)
theorem ARW_len : ∀ {l : List (Nat × List Nat)} {p p2 : Nat} {sc sc2 : SCT} {X : Nat} {Rf Zf : Bool} {BC : MS → Prop}, ARW N K nm gd m2 lo n2 W l p p2 sc sc2 X Rf Zf BC → p ≤ p2 ∧ tot sc2 ≤ tot sc + (p2 - p) ∧ sc2.length = sc.length
  | [], _, _, _, _, _, _, _, _, ⟨h1, h2, _⟩ => by
    subst h1
    subst h2
    exact ⟨Nat.le_refl _, by omega, rfl⟩
  | (ν, l) :: r, p, p2, sc, sc2, X, Rf, Zf, BC, ⟨q, q2, sc1, X1, X2, R1, R2, Z1, Z2, B1, B2, h1, _, _, _, _, _, h2, h3, _⟩ => by
    obtain ⟨a, b, c⟩ := ARW_len h3
    exact ⟨by omega, by omega, by rw [c, h2.2.1]⟩
theorem arw_lp (hl : n2 ≤ 8015) : ∀ {l : List (Nat × List Nat)} {p p2 : Nat} {sc sc2 : SCT} {X : Nat} {Rf Zf : Bool} {BC : MS → Prop}, ARW N K nm gd m2 lo n2 W l p p2 sc sc2 X Rf Zf BC → ∀ (d M : Nat) (m3 : MS) (cm : Nat) (last tk : Int32), ((∀ j, lo < j → j ≤ n2 → nod m3 j = nod m2 j ∧ m3.2.2.1 21 j = m2.2.2.1 21 j) ∧ Kcc m2 m3) → CPR nm gd p p2 sc cm m3 → PK (fun m4 (_ : Unit) => CPO K nm p p2 sc sc2 X W Rf Zf BC cm m3 m4) (hg_Cm_apply N (hrc_Cm_fun N d) M m3 last tk (I (((l.headD (0, [])).1 : Nat) : Int)))
  | _, _, _, _, _, _, _, _, _, _, _, 0, _, _, _, _, _, _ => pk_none
  | [], p, p2, sc, sc2, X, Rf, Zf, BC, ⟨h1, h2, h3, h4, h5, h6⟩, d, M + 1, m3, cm, last, tk, _, cp => by
    subst h1
    subst h2
    subst h3
    subst h4
    subst h5
    show PK _ (hb_Cm_apply_40 N (hrc_Cm_fun N d) (hg_Cm_apply N (hrc_Cm_fun N d) M) m3 last tk 0)
    unfold hb_Cm_apply_40
    rw [show decide ((0 : Int32) = 0) = true from rfl, br_tq]
    refine pk_some (CPO_ok ⟨rfl, h6 m3⟩ ?_)
    rw [Nat.max_eq_left (Nat.zero_le cm), wup_0 (fun j h1 h2 => absurd h2 (by omega))]
    exact CPR_0 cp
  | (ν, l) :: r, p, p2, sc, sc2, X, Rf, Zf, BC, ⟨q, q2, sc1, X1, X2, R1, R2, Z1, Z2, B1, B2, h1, g1, ⟨mi, li, ni, h2, hx, hni⟩, h3, h4, h4b, h5, h6, h7, h8, h9, h10, h11⟩, d, M + 1, m3, cm, last, tk, kk, cp => by
    subst h7
    subst h8
    subst h9
    obtain ⟨a1, a2, a3⟩ := ARW_len h6
    have e0 := kk.1 ν h3.1 h3.2
    have e3 : m3.2.2.1 18 ν = I ((l.headD 0 : Nat) : Int) := by rw [← h4]; exact (Prod.mk.inj (Prod.mk.inj (Prod.mk.inj e0.1).2).2).1
    have e6 : m3.2.2.1 21 ν = I (((r.headD (0, [])).1 : Nat) : Int) := by rw [← h4b]; exact e0.2
    show PK _ (hb_Cm_apply_40 N (hrc_Cm_fun N d) (hg_Cm_apply N (hrc_Cm_fun N d) M) m3 last tk (I (ν : Nat)))
    unfold hb_Cm_apply_40
    rw [decide_eq_false (p := I (ν : Nat) = 0) (fun z => by have := (I_eq (x := (ν : Nat)) (y := 0) (by omega) (by omega) (by omega) (by omega)).mp z; omega), br_fq, tnI (n := ν) rfl (by omega), e3]
    have hx3 : (∀ j, li < j → j ≤ ni → nod m3 j = nod mi j ∧ m3.2.2.1 21 j = mi.2.2.1 21 j) ∧ Kcc mi m3 := ⟨fun j u1 u2 => ⟨(kk.1 j (by omega) (by omega)).1.trans (hx.1 j u1 u2).1, (kk.1 j (by omega) (by omega)).2.trans (hx.1 j u1 u2).2⟩, Kc_tr hx.2 kk.2⟩
    have row := erw_S h2 (by omega) hx3 d (CPR_in (q := q) (q2 := q2) cp (by omega))
    refine pk_ck (fun _ => ?_)
    refine pk_mo (Q := fun u (_ : Unit) => CPO K nm q p2 sc sc2 (max X1 X2) W (R1 || R2) (Z1 || Z2) (fun m => B1 m ∨ B2 m) cm m3 u) ?_ (fun v _ qq => CPO_bc (h10 m3) (CPO_ext ⟨h1.1, by omega, Nat.le_refl _⟩ g1 (fun j y1 y2 => absurd y2 (by omega)) qq))
    refine cpo_bnd row ⟨h1.2.1, h1.2.2⟩ h11 h5.2.1 (fun v r9 hv => ?_) (fun v r9 hv hn => ?_)
    · obtain ⟨hS0, hS1, hS2, hS3, hS4, hS5, hS6, hS7, hS8, hS9, hS10, hS11, hS12⟩ := yz_hrc_Cm_fun (u0 := v) (N := N) d
      unfold hb_Cm_apply_85 hb_Cm_apply_87
      repeat' (first | with_reducible assumption | with_reducible refine Kz_br ?_ ?_ | with_reducible refine Kz_bnd ?_ (fun _ _ _ => ?_) | with_reducible refine Kz_ck ?_ | with_reducible refine Kz_ltm ?_ (fun _ _ => ?_) | with_reducible refine Kz_some ?_ | with_reducible exact yz_hm_Cm_notInGuard (by assumption) | with_reducible exact yz_hr_Cm_pattern (by assumption) | with_reducible exact yz_hm_Cm_forget (by assumption) | with_reducible exact yz_hm_Co_arrive (by assumption) | with_reducible exact yz_hm_Cm_funOf (by assumption) | with_reducible exact yz_hm_Co_hook (by assumption) | with_reducible exact yz_hm_Co_put (by assumption) | with_reducible exact yz_hm_Cm_term (by assumption) | with_reducible exact yz_hm_Cm_string (by assumption) | with_reducible exact yz_hm_Co_seek (by assumption) | with_reducible exact yz_hm_Cm_predefinedOf (by assumption) | with_reducible exact yz_hm_Cm_fault (by assumption) | with_reducible exact yz_hm_Cm_joining (by assumption) | with_reducible exact yz_hm_Cm_hold (by assumption) | with_reducible exact yz_hm_Co_set (by assumption) | with_reducible exact yz_hm_Tr_length (by assumption) | with_reducible exact hS0 _ _ (by assumption) | with_reducible exact hS1 _ _ _ (by assumption) | with_reducible exact hS2 _ _ _ _ _ (by assumption) | with_reducible exact hS3 _ _ _ (by assumption) | with_reducible exact hS4 _ _ _ (by assumption) | with_reducible exact hS5 _ _ _ (by assumption) | with_reducible exact hS6 _ _ _ (by assumption) | with_reducible exact hS7 _ _ (by assumption) | with_reducible exact hS8 _ _ (by assumption) | with_reducible exact hS9 _ _ (by assumption) | with_reducible exact hS10 _ _ _ (by assumption) | with_reducible exact hS11 _ _ _ (by assumption) | with_reducible exact hS12 _ _ _ _ (by assumption) | with_reducible exact yz_hg_Cm_apply hS0 hS1 hS2 hS3 hS4 hS5 hS6 hS7 hS8 hS9 hS10 hS11 hS12 _ _ _ _ _ (by assumption) | with_reducible exact yz_hg_Cm_row hS0 hS1 hS2 hS3 hS4 hS5 hS6 hS7 hS8 hS9 hS10 hS11 hS12 _ _ _ (by assumption) | with_reducible exact yz_hg_Cm_signs hS0 hS1 hS2 hS3 hS4 hS5 hS6 hS7 hS8 hS9 hS10 hS11 hS12 _ _ _ _ _ _ _ (by assumption) | with_reducible exact yz_hg_Cm_body hS0 hS1 hS2 hS3 hS4 hS5 hS6 hS7 hS8 hS9 hS10 hS11 hS12 _ _ _ _ (by assumption) | with_reducible exact yz_hg_Cm_parts hS0 hS1 hS2 hS3 hS4 hS5 hS6 hS7 hS8 hS9 hS10 hS11 hS12 _ _ _ _ _ _ _ (by assumption) | with_reducible exact (yz_hg_Cm_tries hS0 hS1 hS2 hS3 hS4 hS5 hS6 hS7 hS8 hS9 hS10 hS11 hS12 _).1 _ _ _ _ _ (by assumption) | with_reducible exact (yz_hg_Cm_tries hS0 hS1 hS2 hS3 hS4 hS5 hS6 hS7 hS8 hS9 hS10 hS11 hS12 _).2 _ _ _ _ (by assumption) | with_reducible refine Kz_ltv (fun _ => ?_) | with_reducible refine Kz_I ?_ (by decide) | with_reducible refine Kz_A ?_ (by decide))
    · have fr := hn.2.2.2.2.2.2.2.2
      have nxt : ∀ t1, PK (fun u (_ : Unit) => CPO K nm q2 p2 sc1 sc2 X2 W R2 Z2 B2 (max cm X1) v u) (hb_Cm_apply_87 N (hrc_Cm_fun N d) (hg_Cm_apply N (hrc_Cm_fun N d) M) v last tk (I (ν : Nat)) t1) := fun t1 => by
        unfold hb_Cm_apply_87
        refine pk_bnd (fun w1 r1 x1 => pk_ck (fun _ => pk_bnd (fun w2 r2 x2 => pk_ck (fun _ => pk_bnd (fun w3 r3 x3 => pk_ck (fun _ => ?_))))))
        have f1 := yu_hm_Co_put (u0 := v) Ku_rf w1 r1 x1
        have f2 := yu_hm_Co_put (u0 := v) f1 w2 r2 x2
        have f3 := yu_hm_Co_put (u0 := v) f2 w3 r3 x3
        have fr3 := FRC_tr fr (FRC_u f3)
        rw [tnI (n := ν) rfl (by omega), fr3.2 21 (by omega), e6]
        have cp2 : CPR nm gd q2 p2 sc1 (max cm X1) w3 := CPR_u (CPR_2 (p := q) (p2 := p2) (q := q2) (CPR_in cp (by omega)) hn h5.2.1 h5.2.2 (by have := cp.2.2.2.2.2.2; omega)) f3
        have kk3 : (∀ j, lo < j → j ≤ n2 → nod w3 j = nod m2 j ∧ w3.2.2.1 21 j = m2.2.2.1 21 j) ∧ Kcc m2 w3 := by
          have k0 : KPX lo n2 0 m2 m3 := ⟨fun j h0 hj => ⟨(kk.1 j h0 hj).1, fun _ => (kk.1 j h0 hj).2⟩, kk.2⟩
          have k1 := KPX_f k0 fr3
          exact ⟨fun j h0 hj => ⟨(k1.1 j h0 hj).1, (k1.1 j h0 hj).2 (by omega)⟩, k1.2⟩
        exact pk_mo (arw_lp hl h6 d M w3 (max cm X1) last tk kk3 cp2) (fun u _ z => CPO_v f3 h11 z)
      unfold hb_Cm_apply_85
      exact pk_br (fun _ => nxt 27) (fun _ => pk_ck (fun _ => pk_br (fun _ => nxt 28) (fun _ => nxt 27)))
theorem exn_app {la : List (Nat × List Nat)} (hn : nod m2 ν = (I ((15 : Nat) : Int), I (tok : Nat), I (μ : Nat), I (((la.headD (0, [])).1 : Nat) : Int), e)) (htk : tok ≤ 4000) (hlo : lo < ν) (hν : ν ≤ n2) (hl : n2 ≤ 8015) (hq : p ≤ q ∧ q ≤ q2 ∧ q2 ≤ q3 ∧ q3 ≤ p2) (g1 : ∀ j, p ≤ j → j < q → K j ≠ 3) (g2 : ∀ j, q3 ≤ j → j < p2 → K j ≠ 3) (h : EXN N K nm gd m1 li n1 μ q q2 sc sc1 X1 W R1 Z1 B1) (hli : lo ≤ li) (kx1 : KPX li n1 μ m1 m2) (hn1 : n1 < ν) (hA : ARW N K nm gd m2 ν n2 W la q2 q3 sc1 sc2 X2 R2 Z2 B2) (s2 : STB B2) (ht : tot sc1 ≤ tot sc + (q2 - q) ∧ sc1.length = sc.length ∧ X1 ≤ 1400) : EXN N K nm gd m2 lo n2 ν p p2 sc sc2 (max X1 X2) W (gd || (R1 || R2)) (Z1 || Z2) (fun m => B1 m ∨ B2 m) := by
  intro d m3 cm last kx cp
  cases d with
  | zero => exact pk_none
  | succ d =>
    have e0 := KPX_nod kx hlo hν
    rw [hn] at e0
    have e1 : m3.2.2.1 16 ν = I ((15 : Nat) : Int) := (Prod.mk.inj e0).1
    have e2 : m3.2.2.1 17 ν = I (tok : Nat) := (Prod.mk.inj (Prod.mk.inj e0).2).1
    have e3 : m3.2.2.1 18 ν = I (μ : Nat) := (Prod.mk.inj (Prod.mk.inj (Prod.mk.inj e0).2).2).1
    have e4 : m3.2.2.1 19 ν = I (((la.headD (0, [])).1 : Nat) : Int) := (Prod.mk.inj (Prod.mk.inj (Prod.mk.inj (Prod.mk.inj e0).2).2).2).1
    show PK _ (hm_Cm_expression N (hrc_Cm_fun N d) m3 (I (ν : Nat)) last)
    unfold hm_Cm_expression hb_Cm_expression_0 hb_Cm_expression_359
    rw [tnI (n := ν) rfl (by omega), e1]
    refine pk_ck (fun _ => pk_ck (fun _ => ?_))
    rw [show decide (I ((15 : Nat) : Int) = 1) = false from rfl, br_fq, show decide (I ((15 : Nat) : Int) = 2) = false from rfl, br_fq, show decide (I ((15 : Nat) : Int) = 3) = false from rfl, br_fq, show decide (I ((15 : Nat) : Int) = 4) = false from rfl, br_fq, show decide (I ((15 : Nat) : Int) = 5) = false from rfl, br_fq, show decide (I ((15 : Nat) : Int) = 6) = false from rfl, br_fq, show decide (I ((15 : Nat) : Int) = 7) = false from rfl, br_fq, show decide (I ((15 : Nat) : Int) = 8) = false from rfl, br_fq, show decide (I ((15 : Nat) : Int) = 9) = false from rfl, br_fq, show decide (I ((15 : Nat) : Int) = 10) = false from rfl, br_fq, show decide (I ((15 : Nat) : Int) = 11) = false from rfl, br_fq, show decide (I ((15 : Nat) : Int) = 12) = false from rfl, br_fq, show decide (I ((15 : Nat) : Int) = 13) = false from rfl, br_fq, show decide (I ((15 : Nat) : Int) = 14) = false from rfl, br_fq, show decide (I ((15 : Nat) : Int) = 15) = true from rfl, br_tq]
    cases d with
    | zero => exact pk_none
    | succ d =>
      refine pk_bnd ?_
      show PK _ (hm_Cm_apply N (hrc_Cm_fun N d) m3 (I (ν : Nat)) last)
      refine pk_mo (Q := fun u (_ : Unit) => CPO K nm p p2 sc sc2 (max X1 X2) W (gd || (R1 || R2)) (Z1 || Z2) (fun m => B1 m ∨ B2 m) cm m3 u) ?_ (fun v _ q => pk_some q)
      unfold hm_Cm_apply hb_Cm_apply_0
      rw [tnI (n := ν) rfl (by omega), e2]
      refine pk_ck (fun _ => pk_bnd (pk_mo (nig_p cp (by omega)) (fun v _ qg => pk_ck (fun _ => ?_))))
      rcases qg with ⟨qg1, qg2⟩ | ⟨qg1, qg2, qg3⟩
      · rw [qg2, e3, qg1, Bool.false_or]
        refine pk_mo (Q := fun u (_ : Unit) => CPO K nm q q3 sc sc2 (max X1 X2) W (R1 || R2) (Z1 || Z2) (fun m => B1 m ∨ B2 m) cm m3 u) ?_ (fun v _ qq => CPO_ext ⟨hq.1, by omega, hq.2.2.2⟩ g1 g2 qq)
        have kc : KPX li n1 μ m1 m3 := ⟨fun j h0 hj => ⟨(kx.1 j (by omega) (by omega)).1.trans (kx1.1 j h0 hj).1, fun hne => ((kx.1 j (by omega) (by omega)).2 (by omega)).trans ((kx1.1 j h0 hj).2 hne)⟩, Kc_tr kx1.2 kx.2⟩
        refine cpo_bnd (h d m3 cm 0 kc (CPR_in cp (by omega))) ⟨hq.2.1, hq.2.2.1⟩ s2 ht.2.1 (fun v r9 hv => ?_) (fun v r9 hv hn => ?_)
        · obtain ⟨hS0, hS1, hS2, hS3, hS4, hS5, hS6, hS7, hS8, hS9, hS10, hS11, hS12⟩ := yz_hrc_Cm_fun (u0 := v) (N := N) d
          repeat' (first | with_reducible assumption | with_reducible refine Kz_br ?_ ?_ | with_reducible refine Kz_bnd ?_ (fun _ _ _ => ?_) | with_reducible refine Kz_ck ?_ | with_reducible refine Kz_ltm ?_ (fun _ _ => ?_) | with_reducible refine Kz_some ?_ | with_reducible exact yz_hm_Cm_notInGuard (by assumption) | with_reducible exact yz_hr_Cm_pattern (by assumption) | with_reducible exact yz_hm_Cm_forget (by assumption) | with_reducible exact yz_hm_Co_arrive (by assumption) | with_reducible exact yz_hm_Cm_funOf (by assumption) | with_reducible exact yz_hm_Co_hook (by assumption) | with_reducible exact yz_hm_Co_put (by assumption) | with_reducible exact yz_hm_Cm_term (by assumption) | with_reducible exact yz_hm_Cm_string (by assumption) | with_reducible exact yz_hm_Co_seek (by assumption) | with_reducible exact yz_hm_Cm_predefinedOf (by assumption) | with_reducible exact yz_hm_Cm_fault (by assumption) | with_reducible exact yz_hm_Cm_joining (by assumption) | with_reducible exact yz_hm_Cm_hold (by assumption) | with_reducible exact yz_hm_Co_set (by assumption) | with_reducible exact yz_hm_Tr_length (by assumption) | with_reducible exact hS0 _ _ (by assumption) | with_reducible exact hS1 _ _ _ (by assumption) | with_reducible exact hS2 _ _ _ _ _ (by assumption) | with_reducible exact hS3 _ _ _ (by assumption) | with_reducible exact hS4 _ _ _ (by assumption) | with_reducible exact hS5 _ _ _ (by assumption) | with_reducible exact hS6 _ _ _ (by assumption) | with_reducible exact hS7 _ _ (by assumption) | with_reducible exact hS8 _ _ (by assumption) | with_reducible exact hS9 _ _ (by assumption) | with_reducible exact hS10 _ _ _ (by assumption) | with_reducible exact hS11 _ _ _ (by assumption) | with_reducible exact hS12 _ _ _ _ (by assumption) | with_reducible exact yz_hg_Cm_apply hS0 hS1 hS2 hS3 hS4 hS5 hS6 hS7 hS8 hS9 hS10 hS11 hS12 _ _ _ _ _ (by assumption) | with_reducible exact yz_hg_Cm_row hS0 hS1 hS2 hS3 hS4 hS5 hS6 hS7 hS8 hS9 hS10 hS11 hS12 _ _ _ (by assumption) | with_reducible exact yz_hg_Cm_signs hS0 hS1 hS2 hS3 hS4 hS5 hS6 hS7 hS8 hS9 hS10 hS11 hS12 _ _ _ _ _ _ _ (by assumption) | with_reducible exact yz_hg_Cm_body hS0 hS1 hS2 hS3 hS4 hS5 hS6 hS7 hS8 hS9 hS10 hS11 hS12 _ _ _ _ (by assumption) | with_reducible exact yz_hg_Cm_parts hS0 hS1 hS2 hS3 hS4 hS5 hS6 hS7 hS8 hS9 hS10 hS11 hS12 _ _ _ _ _ _ _ (by assumption) | with_reducible exact (yz_hg_Cm_tries hS0 hS1 hS2 hS3 hS4 hS5 hS6 hS7 hS8 hS9 hS10 hS11 hS12 _).1 _ _ _ _ _ (by assumption) | with_reducible exact (yz_hg_Cm_tries hS0 hS1 hS2 hS3 hS4 hS5 hS6 hS7 hS8 hS9 hS10 hS11 hS12 _).2 _ _ _ _ (by assumption) | with_reducible refine Kz_ltv (fun _ => ?_) | with_reducible refine Kz_I ?_ (by decide) | with_reducible refine Kz_A ?_ (by decide))
        · have fr := hn.2.2.2.2.2.2.2.2
          refine pk_ck (fun _ => ?_)
          rw [fr.2 19 (by omega), e4]
          have k1 := KPX_f kx fr
          exact arw_lp hl hA d N v (max cm X1) last _ ⟨fun j h0 hj => ⟨(k1.1 j (by omega) hj).1, (k1.1 j (by omega) hj).2 (by omega)⟩, k1.2⟩ (CPR_2 (p := q) (p2 := q3) (q := q2) (CPR_in cp (by omega)) hn ht.2.1 ht.2.2 (by have := cp.2.2.2.2.2.2; omega))
      · refine pk_mo (Q := fun w (_ : Unit) => Kzc v w) ?_ (fun w _ z => CPO_z (v := v) ⟨Or.inl (by rw [qg1]; rfl), qg2, qg3⟩ z)
        intro w r x
        have hv : Kzc v v := ⟨qg2, FRC_rf⟩
        refine (?_ : KzE v _) w r x
        obtain ⟨hS0, hS1, hS2, hS3, hS4, hS5, hS6, hS7, hS8, hS9, hS10, hS11, hS12⟩ := yz_hrc_Cm_fun (u0 := v) (N := N) d
        repeat' (first | with_reducible assumption | with_reducible refine Kz_br ?_ ?_ | with_reducible refine Kz_bnd ?_ (fun _ _ _ => ?_) | with_reducible refine Kz_ck ?_ | with_reducible refine Kz_ltm ?_ (fun _ _ => ?_) | with_reducible refine Kz_some ?_ | with_reducible exact yz_hm_Cm_notInGuard (by assumption) | with_reducible exact yz_hr_Cm_pattern (by assumption) | with_reducible exact yz_hm_Cm_forget (by assumption) | with_reducible exact yz_hm_Co_arrive (by assumption) | with_reducible exact yz_hm_Cm_funOf (by assumption) | with_reducible exact yz_hm_Co_hook (by assumption) | with_reducible exact yz_hm_Co_put (by assumption) | with_reducible exact yz_hm_Cm_term (by assumption) | with_reducible exact yz_hm_Cm_string (by assumption) | with_reducible exact yz_hm_Co_seek (by assumption) | with_reducible exact yz_hm_Cm_predefinedOf (by assumption) | with_reducible exact yz_hm_Cm_fault (by assumption) | with_reducible exact yz_hm_Cm_joining (by assumption) | with_reducible exact yz_hm_Cm_hold (by assumption) | with_reducible exact yz_hm_Co_set (by assumption) | with_reducible exact yz_hm_Tr_length (by assumption) | with_reducible exact hS0 _ _ (by assumption) | with_reducible exact hS1 _ _ _ (by assumption) | with_reducible exact hS2 _ _ _ _ _ (by assumption) | with_reducible exact hS3 _ _ _ (by assumption) | with_reducible exact hS4 _ _ _ (by assumption) | with_reducible exact hS5 _ _ _ (by assumption) | with_reducible exact hS6 _ _ _ (by assumption) | with_reducible exact hS7 _ _ (by assumption) | with_reducible exact hS8 _ _ (by assumption) | with_reducible exact hS9 _ _ (by assumption) | with_reducible exact hS10 _ _ _ (by assumption) | with_reducible exact hS11 _ _ _ (by assumption) | with_reducible exact hS12 _ _ _ _ (by assumption) | with_reducible exact yz_hg_Cm_apply hS0 hS1 hS2 hS3 hS4 hS5 hS6 hS7 hS8 hS9 hS10 hS11 hS12 _ _ _ _ _ (by assumption) | with_reducible exact yz_hg_Cm_row hS0 hS1 hS2 hS3 hS4 hS5 hS6 hS7 hS8 hS9 hS10 hS11 hS12 _ _ _ (by assumption) | with_reducible exact yz_hg_Cm_signs hS0 hS1 hS2 hS3 hS4 hS5 hS6 hS7 hS8 hS9 hS10 hS11 hS12 _ _ _ _ _ _ _ (by assumption) | with_reducible exact yz_hg_Cm_body hS0 hS1 hS2 hS3 hS4 hS5 hS6 hS7 hS8 hS9 hS10 hS11 hS12 _ _ _ _ (by assumption) | with_reducible exact yz_hg_Cm_parts hS0 hS1 hS2 hS3 hS4 hS5 hS6 hS7 hS8 hS9 hS10 hS11 hS12 _ _ _ _ _ _ _ (by assumption) | with_reducible exact (yz_hg_Cm_tries hS0 hS1 hS2 hS3 hS4 hS5 hS6 hS7 hS8 hS9 hS10 hS11 hS12 _).1 _ _ _ _ _ (by assumption) | with_reducible exact (yz_hg_Cm_tries hS0 hS1 hS2 hS3 hS4 hS5 hS6 hS7 hS8 hS9 hS10 hS11 hS12 _).2 _ _ _ _ (by assumption) | with_reducible refine Kz_ltv (fun _ => ?_) | with_reducible refine Kz_I ?_ (by decide) | with_reducible refine Kz_A ?_ (by decide))
theorem cmpd_e {S : SF_Cm_fun} {v1 v2 : Int32} : hb_Cm_compound_0 N S () u v1 v2 = ck (inb v1 8016) (br (decide ((u.2.2.1 16 v1.toNatClampNeg) = 17)) (hb_Cm_compound_33 N S () u (v1)) (ck (inb v1 8016) (br (decide ((u.2.2.1 16 v1.toNatClampNeg) = 18)) (hb_Cm_compound_33 N S () u (v1)) (ck (inb v1 8016) (bnd (hm_Cm_notInGuard N u (u.2.2.1 17 v1.toNatClampNeg)) (fun u31 _ => cmpR N S () u v1 v2 u31)))))) := rfl
theorem exn_cmp (hk : CMK k) (hk1 : k ≠ 17 ∧ k ≠ 18) (hn : nod m2 ν = (I (k : Nat), I (tok : Nat), b, c, e)) (htk : tok ≤ 4000) (hlo : lo < ν) (hν : ν ≤ n2) (hl : n2 ≤ 8015) (h : gd = false → ∀ (d : Nat) (m3 : MS) (cm : Nat) (last : Int32), KPX lo n2 ν m2 m3 → CPR nm false p p2 sc cm m3 → (m3.2.2.1 16 ν = I (k : Nat) ∧ m3.2.2.1 17 ν = I (tok : Nat) ∧ m3.2.2.1 18 ν = b ∧ m3.2.2.1 19 ν = c ∧ m3.2.2.1 20 ν = e) → PK (fun m4 (_ : Unit) => CPO K nm p p2 sc sc2 X W Rf Zf BC cm m3 m4) (cmpR N (hrc_Cm_fun N d) () m3 (I (ν : Nat)) last m3)) : EXN N K nm gd m2 lo n2 ν p p2 sc sc2 X W (gd || Rf) Zf BC := by
  intro d m3 cm last kx cp
  cases d with
  | zero => exact pk_none
  | succ d =>
    have e0 := KPX_nod kx hlo hν
    rw [hn] at e0
    have e1 : m3.2.2.1 16 ν = I (k : Nat) := (Prod.mk.inj e0).1
    have e2 : m3.2.2.1 17 ν = I (tok : Nat) := (Prod.mk.inj (Prod.mk.inj e0).2).1
    have e3 : m3.2.2.1 18 ν = b := (Prod.mk.inj (Prod.mk.inj (Prod.mk.inj e0).2).2).1
    have e4 : m3.2.2.1 19 ν = c := (Prod.mk.inj (Prod.mk.inj (Prod.mk.inj (Prod.mk.inj e0).2).2).2).1
    have e5 : m3.2.2.1 20 ν = e := (Prod.mk.inj (Prod.mk.inj (Prod.mk.inj (Prod.mk.inj e0).2).2).2).2
    show PK _ (hm_Cm_expression N (hrc_Cm_fun N d) m3 (I (ν : Nat)) last)
    refine cE_cmp (k := k) hk e1 (by omega) ?_
    cases d with
    | zero => exact pk_none
    | succ d =>
      have k46 : k < 46 := by unfold CMK at hk; omega
      have d1 : decide (I (k : Nat) = 17) = false := decide_eq_false (fun z => hk1.1 (i_inj (b := 17) (by omega) (by omega) z))
      have d2 : decide (I (k : Nat) = 18) = false := decide_eq_false (fun z => hk1.2 (i_inj (b := 18) (by omega) (by omega) z))
      show PK _ (hm_Cm_compound N (hrc_Cm_fun N d) m3 (I (ν : Nat)) last)
      unfold hm_Cm_compound
      rw [cmpd_e, tnI (n := ν) rfl (by omega), e1, e2, d1, br_fq, d2, br_fq]
      refine pk_ck (fun _ => pk_ck (fun _ => pk_ck (fun _ => pk_bnd (pk_mo (nig_p cp (by omega)) (fun v _ qg => ?_)))))
      rcases qg with ⟨qg1, qg2⟩ | ⟨qg1, qg2, qg3⟩
      · rw [qg2, qg1, Bool.false_or]
        exact h qg1 d m3 cm last kx (by rw [qg1] at cp; exact cp) ⟨e1, e2, e3, e4, e5⟩
      · refine pk_mo (Q := fun w (_ : Unit) => Kzc v w) ?_ (fun w _ z => CPO_z (v := v) ⟨Or.inl (by rw [qg1]; rfl), qg2, qg3⟩ z)
        intro w r x
        have hv : Kzc v v := ⟨qg2, FRC_rf⟩
        refine (?_ : KzE v _) w r x
        obtain ⟨hS0, hS1, hS2, hS3, hS4, hS5, hS6, hS7, hS8, hS9, hS10, hS11, hS12⟩ := yz_hrc_Cm_fun (u0 := v) (N := N) d
        unfold cmpR hb_Cm_compound_455
        repeat' (first | with_reducible assumption | with_reducible refine Kz_br ?_ ?_ | with_reducible refine Kz_bnd ?_ (fun _ _ _ => ?_) | with_reducible refine Kz_ck ?_ | with_reducible refine Kz_ltm ?_ (fun _ _ => ?_) | with_reducible refine Kz_some ?_ | with_reducible exact yz_hm_Cm_notInGuard (by assumption) | with_reducible exact yz_hr_Cm_pattern (by assumption) | with_reducible exact yz_hm_Cm_forget (by assumption) | with_reducible exact yz_hm_Co_arrive (by assumption) | with_reducible exact yz_hm_Cm_funOf (by assumption) | with_reducible exact yz_hm_Co_hook (by assumption) | with_reducible exact yz_hm_Co_put (by assumption) | with_reducible exact yz_hm_Cm_term (by assumption) | with_reducible exact yz_hm_Cm_string (by assumption) | with_reducible exact yz_hm_Co_seek (by assumption) | with_reducible exact yz_hm_Cm_predefinedOf (by assumption) | with_reducible exact yz_hm_Cm_fault (by assumption) | with_reducible exact yz_hm_Cm_joining (by assumption) | with_reducible exact yz_hm_Cm_hold (by assumption) | with_reducible exact yz_hm_Co_set (by assumption) | with_reducible exact yz_hm_Tr_length (by assumption) | with_reducible exact hS0 _ _ (by assumption) | with_reducible exact hS1 _ _ _ (by assumption) | with_reducible exact hS2 _ _ _ _ _ (by assumption) | with_reducible exact hS3 _ _ _ (by assumption) | with_reducible exact hS4 _ _ _ (by assumption) | with_reducible exact hS5 _ _ _ (by assumption) | with_reducible exact hS6 _ _ _ (by assumption) | with_reducible exact hS7 _ _ (by assumption) | with_reducible exact hS8 _ _ (by assumption) | with_reducible exact hS9 _ _ (by assumption) | with_reducible exact hS10 _ _ _ (by assumption) | with_reducible exact hS11 _ _ _ (by assumption) | with_reducible exact hS12 _ _ _ _ (by assumption) | with_reducible exact yz_hg_Cm_apply hS0 hS1 hS2 hS3 hS4 hS5 hS6 hS7 hS8 hS9 hS10 hS11 hS12 _ _ _ _ _ (by assumption) | with_reducible exact yz_hg_Cm_row hS0 hS1 hS2 hS3 hS4 hS5 hS6 hS7 hS8 hS9 hS10 hS11 hS12 _ _ _ (by assumption) | with_reducible exact yz_hg_Cm_signs hS0 hS1 hS2 hS3 hS4 hS5 hS6 hS7 hS8 hS9 hS10 hS11 hS12 _ _ _ _ _ _ _ (by assumption) | with_reducible exact yz_hg_Cm_body hS0 hS1 hS2 hS3 hS4 hS5 hS6 hS7 hS8 hS9 hS10 hS11 hS12 _ _ _ _ (by assumption) | with_reducible exact yz_hg_Cm_parts hS0 hS1 hS2 hS3 hS4 hS5 hS6 hS7 hS8 hS9 hS10 hS11 hS12 _ _ _ _ _ _ _ (by assumption) | with_reducible exact (yz_hg_Cm_tries hS0 hS1 hS2 hS3 hS4 hS5 hS6 hS7 hS8 hS9 hS10 hS11 hS12 _).1 _ _ _ _ _ (by assumption) | with_reducible exact (yz_hg_Cm_tries hS0 hS1 hS2 hS3 hS4 hS5 hS6 hS7 hS8 hS9 hS10 hS11 hS12 _).2 _ _ _ _ (by assumption) | with_reducible refine Kz_ltv (fun _ => ?_) | with_reducible refine Kz_I ?_ (by decide) | with_reducible refine Kz_A ?_ (by decide))
end
end
section
set_option maxRecDepth 100000
def cutS (b : Nat) : SCT → SCT
  | [] => []
  | e :: t => (e.1.take b, e.2) :: t
section
variable {m v u m1 m2 m3 : MS} {K nm W : Nat → Nat} {sc sc1 sc2 sc3 t t2 : SCT} {e0 e2 : List Nat × List Nat × Nat} {s x y N i f tok cm cm2 p p2 q q2 q3 q4 n1 n2 n3 ν μ lo li X X1 X2 k : Nat} {gd Zf Rf R1 R2 Z1 Z2 : Bool} {g : Nat → Int32} {B1 B2 BC : MS → Prop} {a b c e f : Int32} {l : List Nat}
theorem cutS_len {b : Nat} : (cutS b sc).length = sc.length := by cases sc <;> rfl
theorem cutS_tot {b : Nat} (hb : b ≤ e2.1.length) : tot (cutS b (e2 :: t2)) = tot t2 + b := by
  show tot t2 + (e2.1.take b).length = _
  rw [List.length_take]
  omega
theorem cutS_le {b : Nat} : tot (cutS b sc) ≤ tot sc := by
  cases sc with
  | nil => exact Nat.le_refl _
  | cons e t =>
    show tot t + (e.1.take b).length ≤ tot t + e.1.length
    rw [List.length_take]
    omega
theorem fgt_v {mk : Int32} : PK (fun u (_ : Unit) => ∃ w, Kuc v w ∧ u = upI w 706 mk) (hm_Cm_forget N v mk) := by
  unfold hm_Cm_forget hb_Cm_forget_0 hb_Cm_forget_30
  refine pk_br (fun _ => pk_ltq (pk_some ⟨v, Ku_rf, rfl⟩)) (fun _ => pk_bnd (fun w1 r1 x1 => pk_bnd (fun w2 r2 x2 => pk_ltq (pk_some ⟨w2, ?_, rfl⟩))))
  exact yu_hm_Co_put (u0 := v) (yu_hm_Co_put (u0 := v) Ku_rf w1 r1 x1) w2 r2 x2
theorem NPE_cut {b : Nat} {mk : Int32} (h : NPE nm s (e2 :: t2) cm g Zf m v) (hb : b ≤ e2.1.length) (hm : mk = I ((tot t2 + b : Nat) : Int)) : NPE nm s (cutS b (e2 :: t2)) cm g Zf m (upI v 706 mk) := by
  obtain ⟨⟨c1, c2, c3, c4, c5⟩, a2, a3, a4, a5, a6, a7, a8, a9⟩ := h
  refine ⟨⟨by rw [cutS_len, upI_ne (by decide)]; exact c1, by rw [cutS_len]; exact c2, by rw [cutS_tot hb, upI_at]; exact hm, by have := cutS_le (b := b) (sc := e2 :: t2); omega, ?_⟩, a2, a3, a4, C11_e a5 (upI_ne (by decide)) (upI_ne (by decide)), by rw [upI_ne (by decide)]; exact a6, by rw [upI_ne (by decide)]; exact a7, by rw [upI_ne (by decide)]; exact a8, ⟨fun k hk => by rw [upI_ne (by omega)]; exact a9.1 k hk, a9.2⟩⟩
  have c5 : CNl v nm (e2 :: t2) := c5
  refine ⟨c5.1, fun k x hx => c5.2.1 k x ?_, CNl_fr c5.2.2 rfl (fun j _ => rfl)⟩
  rw [List.getElem?_take] at hx
  split at hx
  · exact hx
  · cases hx
theorem cpo_fgt {b : Nat} {mk : Int32} (h : CPO K nm p p2 sc (e2 :: t2) X W Rf Zf BC cm m v) (hb : b ≤ e2.1.length) (hm : mk = I ((tot t2 + b : Nat) : Int)) : PK (fun u (_ : Unit) => CPO K nm p p2 sc (cutS b (e2 :: t2)) X W Rf Zf BC cm m u) (hm_Cm_forget N v mk) := by
  refine pk_mo fgt_v (fun u _ q => ?_)
  obtain ⟨w, kw, rfl⟩ := q
  rcases CPO_u h kw with ⟨h1, h2, h3⟩ | ⟨h1, h2⟩
  · exact Or.inl ⟨h1, by rw [upI_ne (by decide)]; exact h2, ⟨fun k hk => by rw [upI_ne (by omega)]; exact h3.1 k hk, h3.2⟩⟩
  · exact Or.inr ⟨h1, NPE_cut h2 hb hm⟩
theorem cut_mk (h : SCX (e0 :: t) (e2 :: t2) X) : e0.1.length ≤ e2.1.length ∧ tot t2 + e0.1.length = tot (e0 :: t) := by
  have h2 := (BDs_len h.2.2).2
  refine ⟨h.1.length_le, ?_⟩
  show tot t2 + _ = tot t + _
  omega
theorem bod_lp (hl : n2 ≤ 8015) : ∀ {l : List Nat} {p p2 : Nat} {sc sc2 : SCT} {X : Nat} {Rf Zf : Bool} {BC : MS → Prop}, ERW N K nm gd m2 lo n2 W l p p2 sc sc2 X Rf Zf BC → ∀ (d M : Nat) (m3 : MS) (cm : Nat) (last : Int32), (∀ j, lo < j → j ≤ n2 → nod m3 j = nod m2 j ∧ m3.2.2.1 21 j = m2.2.2.1 21 j) → Kcc m2 m3 → CPR nm gd p p2 sc cm m3 → PK (fun m4 (_ : Unit) => CPO K nm p p2 sc sc2 X W Rf Zf BC cm m3 m4) (hg_Cm_body N (hrc_Cm_fun N d) M m3 last (I ((l.headD 0 : Nat) : Int)))
  | _, _, _, _, _, _, _, _, _, _, _, 0, _, _, _, _, _, _ => pk_none
  | [], p, p2, sc, sc2, X, Rf, Zf, BC, ⟨h1, h2, h3, h4, h5, h6⟩, d, M + 1, m3, cm, last, _, _, cp => by
    subst h1
    subst h2
    subst h3
    subst h4
    subst h5
    show PK _ (hb_Cm_body_2 N (hrc_Cm_fun N d) (hg_Cm_body N (hrc_Cm_fun N d) M) m3 last 0)
    unfold hb_Cm_body_2
    rw [show decide ((0 : Int32) = 0) = true from rfl, br_tq]
    refine pk_some (CPO_ok ⟨rfl, h6 m3⟩ ?_)
    rw [Nat.max_eq_left (Nat.zero_le cm), wup_0 (fun j h1 h2 => absurd h2 (by omega))]
    exact CPR_0 cp
  | ν :: l, p, p2, sc, sc2, X, Rf, Zf, BC, ⟨q, q2, sc1, X1, X2, R1, R2, Z1, Z2, B1, B2, h1, g1, ⟨mi, li, ni, h2, hx, hni, hli, _⟩, h3, h4, h5, h6, h7, h8, h9, h10, h11⟩, d, M + 1, m3, cm, last, k1, k2, cp => by
    subst h7
    subst h8
    subst h9
    obtain ⟨a1, a2, a3⟩ := ERW_len h6
    show PK _ (hb_Cm_body_2 N (hrc_Cm_fun N d) (hg_Cm_body N (hrc_Cm_fun N d) M) m3 last (I (ν : Nat)))
    unfold hb_Cm_body_2 hb_Cm_body_23 hb_Cm_body_40
    rw [decide_eq_false (p := I (ν : Nat) = 0) (fun z => by have := (I_eq (x := (ν : Nat)) (y := 0) (by omega) (by omega) (by omega) (by omega)).mp z; omega), br_fq]
    have kx : KPX lo n2 ν m2 m3 := ⟨fun j h0 hj => ⟨(k1 j h0 hj).1, fun _ => (k1 j h0 hj).2⟩, k2⟩
    have cp1 : CPR nm gd q q2 sc cm m3 := CPR_in cp (by omega)
    have m41 : ∀ v4 t2 : Int32, PK (fun m4 (_ : Unit) => CPO K nm p p2 sc sc2 (max X1 X2) W (R1 || R2) (Z1 || Z2) BC cm m3 m4) (hb_Cm_body_41 N (hrc_Cm_fun N d) (hg_Cm_body N (hrc_Cm_fun N d) M) m3 last (I (ν : Nat)) v4 (I (ν : Nat)) t2) := fun v4 t2 => by
      unfold hb_Cm_body_41
      refine pk_mo (Q := fun u (_ : Unit) => CPO K nm q p2 sc sc2 (max X1 X2) W (R1 || R2) (Z1 || Z2) (fun m => B1 m ∨ B2 m) cm m3 u) ?_ (fun v _ qq => CPO_bc (h10 m3) (CPO_ext ⟨h1.1, by omega, Nat.le_refl _⟩ g1 (fun j y1 y2 => absurd y2 (by omega)) qq))
      refine cpo_bnd (h2 d m3 cm t2 (KPX_tr hx kx hni.2 hni.1) cp1) ⟨h1.2.1, h1.2.2⟩ h11 h5.2.1 (fun v r9 hv => ?_) (fun v r9 hv hn => ?_)
      · obtain ⟨hS0, hS1, hS2, hS3, hS4, hS5, hS6, hS7, hS8, hS9, hS10, hS11, hS12⟩ := yz_hrc_Cm_fun (u0 := v) (N := N) d
        unfold hb_Cm_body_58
        repeat' (first | with_reducible assumption | with_reducible refine Kz_br ?_ ?_ | with_reducible refine Kz_bnd ?_ (fun _ _ _ => ?_) | with_reducible refine Kz_ck ?_ | with_reducible refine Kz_ltm ?_ (fun _ _ => ?_) | with_reducible refine Kz_some ?_ | with_reducible exact yz_hm_Cm_notInGuard (by assumption) | with_reducible exact yz_hr_Cm_pattern (by assumption) | with_reducible exact yz_hm_Cm_forget (by assumption) | with_reducible exact yz_hm_Co_arrive (by assumption) | with_reducible exact yz_hm_Cm_funOf (by assumption) | with_reducible exact yz_hm_Co_hook (by assumption) | with_reducible exact yz_hm_Co_put (by assumption) | with_reducible exact yz_hm_Cm_term (by assumption) | with_reducible exact yz_hm_Cm_string (by assumption) | with_reducible exact yz_hm_Co_seek (by assumption) | with_reducible exact yz_hm_Cm_predefinedOf (by assumption) | with_reducible exact yz_hm_Cm_fault (by assumption) | with_reducible exact yz_hm_Cm_joining (by assumption) | with_reducible exact yz_hm_Cm_hold (by assumption) | with_reducible exact yz_hm_Co_set (by assumption) | with_reducible exact yz_hm_Tr_length (by assumption) | with_reducible exact hS0 _ _ (by assumption) | with_reducible exact hS1 _ _ _ (by assumption) | with_reducible exact hS2 _ _ _ _ _ (by assumption) | with_reducible exact hS3 _ _ _ (by assumption) | with_reducible exact hS4 _ _ _ (by assumption) | with_reducible exact hS5 _ _ _ (by assumption) | with_reducible exact hS6 _ _ _ (by assumption) | with_reducible exact hS7 _ _ (by assumption) | with_reducible exact hS8 _ _ (by assumption) | with_reducible exact hS9 _ _ (by assumption) | with_reducible exact hS10 _ _ _ (by assumption) | with_reducible exact hS11 _ _ _ (by assumption) | with_reducible exact hS12 _ _ _ _ (by assumption) | with_reducible exact yz_hg_Cm_apply hS0 hS1 hS2 hS3 hS4 hS5 hS6 hS7 hS8 hS9 hS10 hS11 hS12 _ _ _ _ _ (by assumption) | with_reducible exact yz_hg_Cm_row hS0 hS1 hS2 hS3 hS4 hS5 hS6 hS7 hS8 hS9 hS10 hS11 hS12 _ _ _ (by assumption) | with_reducible exact yz_hg_Cm_signs hS0 hS1 hS2 hS3 hS4 hS5 hS6 hS7 hS8 hS9 hS10 hS11 hS12 _ _ _ _ _ _ _ (by assumption) | with_reducible exact yz_hg_Cm_body hS0 hS1 hS2 hS3 hS4 hS5 hS6 hS7 hS8 hS9 hS10 hS11 hS12 _ _ _ _ (by assumption) | with_reducible exact yz_hg_Cm_parts hS0 hS1 hS2 hS3 hS4 hS5 hS6 hS7 hS8 hS9 hS10 hS11 hS12 _ _ _ _ _ _ _ (by assumption) | with_reducible exact (yz_hg_Cm_tries hS0 hS1 hS2 hS3 hS4 hS5 hS6 hS7 hS8 hS9 hS10 hS11 hS12 _).1 _ _ _ _ _ (by assumption) | with_reducible exact (yz_hg_Cm_tries hS0 hS1 hS2 hS3 hS4 hS5 hS6 hS7 hS8 hS9 hS10 hS11 hS12 _).2 _ _ _ _ (by assumption) | with_reducible refine Kz_ltv (fun _ => ?_) | with_reducible refine Kz_I ?_ (by decide) | with_reducible refine Kz_A ?_ (by decide))
      · have fr := hn.2.2.2.2.2.2.2.2
        have m58 : ∀ w, Kuc v w → PK (fun u (_ : Unit) => CPO K nm q2 p2 sc1 sc2 X2 W R2 Z2 B2 (max cm X1) v u) (hb_Cm_body_58 N (hrc_Cm_fun N d) (hg_Cm_body N (hrc_Cm_fun N d) M) w last (I (ν : Nat))) := fun w f3 => by
          have fr3 := FRC_tr fr (FRC_u f3)
          have k1w := KPX_f kx fr3
          have k1v : ∀ j, lo < j → j ≤ n2 → nod w j = nod m2 j ∧ w.2.2.1 21 j = m2.2.2.1 21 j := fun j h0 hj => by
            refine ⟨(k1w.1 j h0 hj).1, ?_⟩
            rw [fr3.2 21 (by omega)]
            exact (k1 j h0 hj).2
          unfold hb_Cm_body_58
          refine pk_ck (fun _ => ?_)
          rw [tnI (n := ν) rfl (by omega), (k1v ν (by omega) h3.2).2, h4]
          have cp2 : CPR nm gd q2 p2 sc1 (max cm X1) w := CPR_u (CPR_2 (p := q) (p2 := p2) (q := q2) (CPR_in cp (by omega)) hn h5.2.1 h5.2.2 (by have := cp.2.2.2.2.2.2; omega)) f3
          exact pk_mo (bod_lp hl h6 d M w (max cm X1) last k1v k1w.2 cp2) (fun u _ z => CPO_v f3 h11 z)
        exact pk_br (fun _ => m58 v Ku_rf) (fun _ => pk_bnd (fun w1 r1 x1 => m58 w1 (yu_hm_Co_put (u0 := v) Ku_rf w1 r1 x1)))
    refine pk_ck (fun _ => pk_br (fun _ => ?_) (fun _ => ?_))
    · exact pk_br (fun _ => m41 _ _) (fun _ => pk_br (fun _ => m41 _ _) (fun _ => m41 _ _))
    · exact pk_br (fun _ => m41 _ _) (fun _ => pk_br (fun _ => m41 _ _) (fun _ => m41 _ _))
theorem bod_S (h : ERW N K nm gd m1 lo n1 W l p p2 sc sc2 X Rf Zf BC) (hl : n1 ≤ 8015) (kx : (∀ j, lo < j → j ≤ n1 → nod m3 j = nod m1 j ∧ m3.2.2.1 21 j = m1.2.2.1 21 j) ∧ Kcc m1 m3) (d : Nat) {last : Int32} (cp : CPR nm gd p p2 sc cm m3) : PK (fun m4 (_ : Unit) => CPO K nm p p2 sc sc2 X W Rf Zf BC cm m3 m4) ((hrc_Cm_fun N d).2.2.2.1 m3 (I ((l.headD 0 : Nat) : Int)) last) := by
  cases d with
  | zero => exact pk_none
  | succ d => exact bod_lp hl h d N m3 cm last kx.1 kx.2 cp
theorem exn_blk (hn : nod m2 ν = (I ((8 : Nat) : Int), I (tok : Nat), I ((l.headD 0 : Nat) : Int), c, e)) (htk : tok ≤ 4000) (hlo : lo < ν) (hν : ν ≤ n2) (hl : n2 ≤ 8015) (hq : p ≤ q ∧ q ≤ q2 ∧ q2 ≤ p2) (g1 : ∀ j, p ≤ j → j < q → K j ≠ 3) (g2 : ∀ j, q2 ≤ j → j < p2 → K j ≠ 3) (h : ERW N K nm false m1 lo n1 W l q q2 (e0 :: t) (e2 :: t2) X Rf Zf BC) (h1 : KPO n1 m1 m2) (hk : Kcc m1 m2) (hn1 : n1 < ν) (hs : SCX (e0 :: t) (e2 :: t2) X) : EXN N K nm gd m2 lo n2 ν p p2 (e0 :: t) (cutS e0.1.length (e2 :: t2)) X W (gd || Rf) Zf BC := by
  refine exn_cmp (k := 8) (by unfold CMK; omega) ⟨by decide, by decide⟩ hn htk hlo hν hl (fun _ d m3 cm last kx cp ee => ?_)
  unfold cmpR hb_Cm_compound_455
  rw [tnI (n := ν) rfl (by omega), ee.1, ee.2.2.1]
  refine pk_ck (fun _ => ?_)
  rw [show decide (I ((8 : Nat) : Int) = 8) = true from rfl, br_tq]
  refine pk_ck (fun _ => pk_bnd (pk_mo (bod_S h (by omega) (chi_k h1 hk hn1 hν kx) d (CPR_in cp (by omega))) (fun v _ q => ?_)))
  obtain ⟨z1, z2⟩ := cut_mk hs
  exact pk_bnd (pk_mo (cpo_fgt (CPO_ext hq g1 g2 q) z1 (by rw [z2]; exact cp.2.1.2.2.1)) (fun w _ x => pk_some x))
theorem exn_cat (hn : nod m2 ν = (I ((19 : Nat) : Int), I (tok : Nat), I (μ : Nat), c, e)) (htk : tok ≤ 4000) (hlo : lo < ν) (hν : ν ≤ n2) (hl : n2 ≤ 8015) (hq : p ≤ q ∧ q ≤ q2 ∧ q2 ≤ p2) (g1 : ∀ j, p ≤ j → j < q → K j ≠ 3) (g2 : ∀ j, q2 ≤ j → j < p2 → K j ≠ 3) (h : EXN N K nm false m1 li n1 μ q q2 (e0 :: t) (e2 :: t2) X W Rf Zf BC) (hli : lo ≤ li) (h1 : KPO n1 m1 m2) (hk : Kcc m1 m2) (hn1 : n1 < ν) (hs : SCX (e0 :: t) (e2 :: t2) X) (sB : STB BC) : EXN N K nm gd m2 lo n2 ν p p2 (e0 :: t) (cutS e0.1.length (e2 :: t2)) X W (gd || Rf) Zf BC := by
  refine exn_cmp (k := 19) (by unfold CMK; omega) ⟨by decide, by decide⟩ hn htk hlo hν hl (fun _ d m3 cm last kx cp ee => ?_)
  unfold cmpR hb_Cm_compound_455
  rw [tnI (n := ν) rfl (by omega), ee.1]
  refine pk_ck (fun _ => ?_)
  rw [show decide (I ((19 : Nat) : Int) = 8) = false from rfl, br_fq, show decide (I ((19 : Nat) : Int) = 9) = false from rfl, br_fq, show decide (I ((19 : Nat) : Int) = 10) = false from rfl, br_fq, show decide (I ((19 : Nat) : Int) = 11) = false from rfl, br_fq, show decide (I ((19 : Nat) : Int) = 12) = false from rfl, br_fq, show decide (I ((19 : Nat) : Int) = 13) = false from rfl, br_fq, show decide (I ((19 : Nat) : Int) = 14) = false from rfl, br_fq, show decide (I ((19 : Nat) : Int) = 15) = false from rfl, br_fq, show decide (I ((19 : Nat) : Int) = 16) = false from rfl, br_fq, show decide (I ((19 : Nat) : Int) = 17) = false from rfl, br_fq, show decide (I ((19 : Nat) : Int) = 18) = false from rfl, br_fq, show decide (I ((19 : Nat) : Int) = 19) = true from rfl, br_tq]
  refine pk_bnd (fun w1 r1 x1 => pk_bnd (fun w2 r2 x2 => pk_ck (fun _ => ?_)))
  have f1 := yu_hm_Co_put (u0 := m3) Ku_rf w1 r1 x1
  have f2 := yu_hm_Co_hook (u0 := m3) f1 w2 r2 x2
  rw [f2.2.1 18 (by decide), ee.2.2.1]
  have kx2 := KPX_f (KPX_di (ν := μ) h1 hk kx (by omega) hn1 hli) (FRC_u f2)
  refine pk_bnd (pk_mo (h d w2 cm 0 kx2 (CPR_u (CPR_in cp (by omega)) f2)) (fun v _ q => pk_bnd (fun w3 r3 x3 => ?_)))
  have q := CPO_v f2 sB (CPO_u (CPO_ext hq g1 g2 q) (yu_hm_Co_put (u0 := v) Ku_rf w3 r3 x3))
  obtain ⟨z1, z2⟩ := cut_mk hs
  exact pk_bnd (pk_mo (cpo_fgt q z1 (by rw [z2]; exact cp.2.1.2.2.1)) (fun w _ x => pk_bnd (fun w4 r4 x4 => pk_some (CPO_u x (yu_hm_Co_arrive (u0 := w) Ku_rf w4 r4 x4)))))
theorem exn_snd {m0 : MS} {n0 l0 : Nat} (hn : nod m2 ν = (I ((21 : Nat) : Int), I (tok : Nat), I (μ : Nat), I (x : Nat), e)) (htk : tok ≤ 4000) (hlo : lo < ν) (hν : ν ≤ n2) (hl : n2 ≤ 8015) (hq : p ≤ q ∧ q ≤ q2 ∧ q2 ≤ q3 ∧ q3 ≤ q4 ∧ q4 ≤ p2) (g1 : ∀ j, p ≤ j → j < q → K j ≠ 3) (g3 : ∀ j, q2 ≤ j → j < q3 → K j ≠ 3) (g2 : ∀ j, q4 ≤ j → j < p2 → K j ≠ 3) (h : EXN N K nm false m0 l0 n0 μ q q2 sc sc1 X1 W R1 Z1 B1) (hl0 : lo ≤ l0) (h01 : KPO n0 m0 m2) (hk0 : Kcc m0 m2) (hn0 : n0 < ν) (h' : EXN N K nm false m1 li n1 x q3 q4 sc1 sc2 X2 W R2 Z2 B2) (hli : lo ≤ li) (h1 : KPO n1 m1 m2) (hk : Kcc m1 m2) (hn1 : n1 < ν) (s2 : STB B2) (ht : tot sc1 ≤ tot sc + (q2 - q) ∧ sc1.length = sc.length ∧ X1 ≤ 1400) : EXN N K nm gd m2 lo n2 ν p p2 sc sc2 (max X1 X2) W (gd || (R1 || R2)) (Z1 || Z2) (fun m => B1 m ∨ B2 m) := by
  refine exn_cmp (k := 21) (by unfold CMK; omega) ⟨by decide, by decide⟩ hn htk hlo hν hl (fun _ d m3 cm last kx cp ee => ?_)
  unfold cmpR hb_Cm_compound_455
  rw [tnI (n := ν) rfl (by omega), ee.1, ee.2.2.1]
  refine pk_ck (fun _ => ?_)
  rw [show decide (I ((21 : Nat) : Int) = 8) = false from rfl, br_fq, show decide (I ((21 : Nat) : Int) = 9) = false from rfl, br_fq, show decide (I ((21 : Nat) : Int) = 10) = false from rfl, br_fq, show decide (I ((21 : Nat) : Int) = 11) = false from rfl, br_fq, show decide (I ((21 : Nat) : Int) = 12) = false from rfl, br_fq, show decide (I ((21 : Nat) : Int) = 13) = false from rfl, br_fq, show decide (I ((21 : Nat) : Int) = 14) = false from rfl, br_fq, show decide (I ((21 : Nat) : Int) = 15) = false from rfl, br_fq, show decide (I ((21 : Nat) : Int) = 16) = false from rfl, br_fq, show decide (I ((21 : Nat) : Int) = 17) = false from rfl, br_fq, show decide (I ((21 : Nat) : Int) = 18) = false from rfl, br_fq, show decide (I ((21 : Nat) : Int) = 19) = false from rfl, br_fq, show decide (I ((21 : Nat) : Int) = 20) = false from rfl, br_fq, show decide (I ((21 : Nat) : Int) = 21) = true from rfl, br_tq]
  refine pk_ck (fun _ => ?_)
  refine pk_mo (Q := fun u (_ : Unit) => CPO K nm q q4 sc sc2 (max X1 X2) W (R1 || R2) (Z1 || Z2) (fun m => B1 m ∨ B2 m) cm m3 u) ?_ (fun v _ qq => CPO_ext ⟨hq.1, by omega, hq.2.2.2.2⟩ g1 g2 qq)
  refine cpo_bnd (h d m3 cm 0 (KPX_di h01 hk0 kx (by omega) hn0 hl0) (CPR_in cp (by omega))) ⟨hq.2.1, by omega⟩ s2 ht.2.1 (fun v r9 hv => ?_) (fun v r9 hv hn => ?_)
  · obtain ⟨hS0, hS1, hS2, hS3, hS4, hS5, hS6, hS7, hS8, hS9, hS10, hS11, hS12⟩ := yz_hrc_Cm_fun (u0 := v) (N := N) d
    repeat' (first | with_reducible assumption | with_reducible refine Kz_br ?_ ?_ | with_reducible refine Kz_bnd ?_ (fun _ _ _ => ?_) | with_reducible refine Kz_ck ?_ | with_reducible refine Kz_ltm ?_ (fun _ _ => ?_) | with_reducible refine Kz_some ?_ | with_reducible exact yz_hm_Cm_notInGuard (by assumption) | with_reducible exact yz_hr_Cm_pattern (by assumption) | with_reducible exact yz_hm_Cm_forget (by assumption) | with_reducible exact yz_hm_Co_arrive (by assumption) | with_reducible exact yz_hm_Cm_funOf (by assumption) | with_reducible exact yz_hm_Co_hook (by assumption) | with_reducible exact yz_hm_Co_put (by assumption) | with_reducible exact yz_hm_Cm_term (by assumption) | with_reducible exact yz_hm_Cm_string (by assumption) | with_reducible exact yz_hm_Co_seek (by assumption) | with_reducible exact yz_hm_Cm_predefinedOf (by assumption) | with_reducible exact yz_hm_Cm_fault (by assumption) | with_reducible exact yz_hm_Cm_joining (by assumption) | with_reducible exact yz_hm_Cm_hold (by assumption) | with_reducible exact yz_hm_Co_set (by assumption) | with_reducible exact yz_hm_Tr_length (by assumption) | with_reducible exact hS0 _ _ (by assumption) | with_reducible exact hS1 _ _ _ (by assumption) | with_reducible exact hS2 _ _ _ _ _ (by assumption) | with_reducible exact hS3 _ _ _ (by assumption) | with_reducible exact hS4 _ _ _ (by assumption) | with_reducible exact hS5 _ _ _ (by assumption) | with_reducible exact hS6 _ _ _ (by assumption) | with_reducible exact hS7 _ _ (by assumption) | with_reducible exact hS8 _ _ (by assumption) | with_reducible exact hS9 _ _ (by assumption) | with_reducible exact hS10 _ _ _ (by assumption) | with_reducible exact hS11 _ _ _ (by assumption) | with_reducible exact hS12 _ _ _ _ (by assumption) | with_reducible exact yz_hg_Cm_apply hS0 hS1 hS2 hS3 hS4 hS5 hS6 hS7 hS8 hS9 hS10 hS11 hS12 _ _ _ _ _ (by assumption) | with_reducible exact yz_hg_Cm_row hS0 hS1 hS2 hS3 hS4 hS5 hS6 hS7 hS8 hS9 hS10 hS11 hS12 _ _ _ (by assumption) | with_reducible exact yz_hg_Cm_signs hS0 hS1 hS2 hS3 hS4 hS5 hS6 hS7 hS8 hS9 hS10 hS11 hS12 _ _ _ _ _ _ _ (by assumption) | with_reducible exact yz_hg_Cm_body hS0 hS1 hS2 hS3 hS4 hS5 hS6 hS7 hS8 hS9 hS10 hS11 hS12 _ _ _ _ (by assumption) | with_reducible exact yz_hg_Cm_parts hS0 hS1 hS2 hS3 hS4 hS5 hS6 hS7 hS8 hS9 hS10 hS11 hS12 _ _ _ _ _ _ _ (by assumption) | with_reducible exact (yz_hg_Cm_tries hS0 hS1 hS2 hS3 hS4 hS5 hS6 hS7 hS8 hS9 hS10 hS11 hS12 _).1 _ _ _ _ _ (by assumption) | with_reducible exact (yz_hg_Cm_tries hS0 hS1 hS2 hS3 hS4 hS5 hS6 hS7 hS8 hS9 hS10 hS11 hS12 _).2 _ _ _ _ (by assumption) | with_reducible refine Kz_ltv (fun _ => ?_) | with_reducible refine Kz_I ?_ (by decide) | with_reducible refine Kz_A ?_ (by decide))
  · have fr := hn.2.2.2.2.2.2.2.2
    refine pk_ck (fun _ => ?_)
    rw [fr.2 19 (by omega), ee.2.2.2.1]
    refine pk_bnd (pk_mo (h' d v (max cm X1) 0 (KPX_f (KPX_di (ν := x) h1 hk kx (by omega) hn1 hli) fr) (CPR_in (CPR_2 (p := q) (p2 := q4) (q := q2) (CPR_in cp (by omega)) hn ht.2.1 ht.2.2 (by have := cp.2.2.2.2.2.2; omega)) (by omega))) (fun w _ qw => pk_bnd (fun w1 r1 x1 => pk_some ?_)))
    exact CPO_u (CPO_ext ⟨hq.2.2.1, hq.2.2.2.1, Nat.le_refl _⟩ g3 (fun j y1 y2 => absurd y2 (by omega)) qw) (yu_hm_Co_put (u0 := w) Ku_rf w1 r1 x1)
theorem wup_sw {g : Nat → Int32} (h1 : p ≤ q) (h2 : q ≤ q2) (h3 : q2 ≤ p2) (g3 : ∀ j, q ≤ j → j < q2 → K j ≠ 3) : wup (wup g K W q2 p2) K W p q = wup g K W p p2 := by
  funext j
  unfold wup
  by_cases a1 : p ≤ j ∧ j < q ∧ K j = 3
  · rw [if_pos a1, if_pos ⟨a1.1, by omega, a1.2.2⟩]
  · rw [if_neg a1]
    by_cases a2 : q2 ≤ j ∧ j < p2 ∧ K j = 3
    · rw [if_pos a2, if_pos ⟨by omega, a2.2⟩]
    · rw [if_neg a2, if_neg (fun z => ?_)]
      by_cases b1 : j < q
      · exact a1 ⟨z.1, b1, z.2.2⟩
      · by_cases b2 : j < q2
        · exact g3 j (by omega) b2 z.2.2
        · exact a2 ⟨by omega, z.2⟩
theorem NPQ_E (c : CPR nm gd p p2 sc cm m) (h : NPQ nm (sc.length - 1) sc2 cm2 g m v) (fr : FRC m v) (mo : m.1 441 ≤ v.1 441) : NPE nm (sc.length - 1) sc2 cm2 g false m v := by
  obtain ⟨h1, h2, h3, h4⟩ := h
  exact ⟨h1, by rw [h2, upd_at], fun j hj => by rw [h2, upd_no (by omega)], h3, C11_m mo (h4.1 711 (by decide) (by omega)), h4.1 714 (by decide) (by omega), h4.1 712 (by decide) (by omega), h4.1 713 (by decide) (by omega), fr⟩
theorem exn_mat {m0 : MS} {n0 l0 : Nat} (hn : nod m2 ν = (I ((20 : Nat) : Int), I (tok : Nat), I (μ : Nat), I (x : Nat), e)) (htk : tok ≤ 4000) (hlo : lo < ν) (hν : ν ≤ n2) (hl : n2 ≤ 8015) (hq : p ≤ q ∧ q ≤ q2 ∧ q2 ≤ q3 ∧ q3 ≤ q4 ∧ q4 ≤ p2) (g1 : ∀ j, p ≤ j → j < q → K j ≠ 3) (g3 : ∀ j, q2 ≤ j → j < q3 → K j ≠ 3) (g2 : ∀ j, q4 ≤ j → j < p2 → K j ≠ 3) (h : PTN N K nm m0 l0 n0 μ false q q2 sc1 sc2 X2 W) (hl0 : lo ≤ l0) (h01 : KPO n0 m0 m2) (hk0 : Kcc m0 m2) (hn0 : n0 < ν) (h' : EXN N K nm false m1 li n1 x q3 q4 sc sc1 X1 W R1 Z1 B1) (hli : lo ≤ li) (h1 : KPO n1 m1 m2) (hk : Kcc m1 m2) (hn1 : n1 < ν) (ht : tot sc1 ≤ tot sc + (q4 - q3) ∧ sc1.length = sc.length ∧ X1 ≤ 1400) : EXN N K nm gd m2 lo n2 ν p p2 sc sc2 (max X1 X2) W (gd || R1) Z1 B1 := by
  refine exn_cmp (k := 20) (by unfold CMK; omega) ⟨by decide, by decide⟩ hn htk hlo hν hl (fun _ d m3 cm last kx cp ee => ?_)
  unfold cmpR hb_Cm_compound_455
  rw [tnI (n := ν) rfl (by omega), ee.1, ee.2.2.2.1]
  refine pk_ck (fun _ => ?_)
  rw [show decide (I ((20 : Nat) : Int) = 8) = false from rfl, br_fq, show decide (I ((20 : Nat) : Int) = 9) = false from rfl, br_fq, show decide (I ((20 : Nat) : Int) = 10) = false from rfl, br_fq, show decide (I ((20 : Nat) : Int) = 11) = false from rfl, br_fq, show decide (I ((20 : Nat) : Int) = 12) = false from rfl, br_fq, show decide (I ((20 : Nat) : Int) = 13) = false from rfl, br_fq, show decide (I ((20 : Nat) : Int) = 14) = false from rfl, br_fq, show decide (I ((20 : Nat) : Int) = 15) = false from rfl, br_fq, show decide (I ((20 : Nat) : Int) = 16) = false from rfl, br_fq, show decide (I ((20 : Nat) : Int) = 17) = false from rfl, br_fq, show decide (I ((20 : Nat) : Int) = 18) = false from rfl, br_fq, show decide (I ((20 : Nat) : Int) = 19) = false from rfl, br_fq, show decide (I ((20 : Nat) : Int) = 20) = true from rfl, br_tq]
  refine pk_ck (fun _ => pk_bnd (pk_mo (h' d m3 cm 0 (KPX_di h1 hk kx (by omega) hn1 hli) (CPR_in cp (by omega))) (fun v _ qv => ?_)))
  rcases qv with ⟨qf, qs, qr⟩ | ⟨⟨qf, qb⟩, qn⟩
  · refine pk_mo (Q := fun w (_ : Unit) => Kzc v w) ?_ (fun w _ z => CPO_z (v := v) ⟨qf, qs, qr⟩ z)
    intro w r x
    have hv : Kzc v v := ⟨qs, FRC_rf⟩
    refine (?_ : KzE v _) w r x
    obtain ⟨hS0, hS1, hS2, hS3, hS4, hS5, hS6, hS7, hS8, hS9, hS10, hS11, hS12⟩ := yz_hrc_Cm_fun (u0 := v) (N := N) d
    repeat' (first | with_reducible assumption | with_reducible refine Kz_br ?_ ?_ | with_reducible refine Kz_bnd ?_ (fun _ _ _ => ?_) | with_reducible refine Kz_ck ?_ | with_reducible refine Kz_ltm ?_ (fun _ _ => ?_) | with_reducible refine Kz_some ?_ | with_reducible exact yz_hm_Cm_notInGuard (by assumption) | with_reducible exact yz_hr_Cm_pattern (by assumption) | with_reducible exact yz_hm_Cm_forget (by assumption) | with_reducible exact yz_hm_Co_arrive (by assumption) | with_reducible exact yz_hm_Cm_funOf (by assumption) | with_reducible exact yz_hm_Co_hook (by assumption) | with_reducible exact yz_hm_Co_put (by assumption) | with_reducible exact yz_hm_Cm_term (by assumption) | with_reducible exact yz_hm_Cm_string (by assumption) | with_reducible exact yz_hm_Co_seek (by assumption) | with_reducible exact yz_hm_Cm_predefinedOf (by assumption) | with_reducible exact yz_hm_Cm_fault (by assumption) | with_reducible exact yz_hm_Cm_joining (by assumption) | with_reducible exact yz_hm_Cm_hold (by assumption) | with_reducible exact yz_hm_Co_set (by assumption) | with_reducible exact yz_hm_Tr_length (by assumption) | with_reducible exact hS0 _ _ (by assumption) | with_reducible exact hS1 _ _ _ (by assumption) | with_reducible exact hS2 _ _ _ _ _ (by assumption) | with_reducible exact hS3 _ _ _ (by assumption) | with_reducible exact hS4 _ _ _ (by assumption) | with_reducible exact hS5 _ _ _ (by assumption) | with_reducible exact hS6 _ _ _ (by assumption) | with_reducible exact hS7 _ _ (by assumption) | with_reducible exact hS8 _ _ (by assumption) | with_reducible exact hS9 _ _ (by assumption) | with_reducible exact hS10 _ _ _ (by assumption) | with_reducible exact hS11 _ _ _ (by assumption) | with_reducible exact hS12 _ _ _ _ (by assumption) | with_reducible exact yz_hg_Cm_apply hS0 hS1 hS2 hS3 hS4 hS5 hS6 hS7 hS8 hS9 hS10 hS11 hS12 _ _ _ _ _ (by assumption) | with_reducible exact yz_hg_Cm_row hS0 hS1 hS2 hS3 hS4 hS5 hS6 hS7 hS8 hS9 hS10 hS11 hS12 _ _ _ (by assumption) | with_reducible exact yz_hg_Cm_signs hS0 hS1 hS2 hS3 hS4 hS5 hS6 hS7 hS8 hS9 hS10 hS11 hS12 _ _ _ _ _ _ _ (by assumption) | with_reducible exact yz_hg_Cm_body hS0 hS1 hS2 hS3 hS4 hS5 hS6 hS7 hS8 hS9 hS10 hS11 hS12 _ _ _ _ (by assumption) | with_reducible exact yz_hg_Cm_parts hS0 hS1 hS2 hS3 hS4 hS5 hS6 hS7 hS8 hS9 hS10 hS11 hS12 _ _ _ _ _ _ _ (by assumption) | with_reducible exact (yz_hg_Cm_tries hS0 hS1 hS2 hS3 hS4 hS5 hS6 hS7 hS8 hS9 hS10 hS11 hS12 _).1 _ _ _ _ _ (by assumption) | with_reducible exact (yz_hg_Cm_tries hS0 hS1 hS2 hS3 hS4 hS5 hS6 hS7 hS8 hS9 hS10 hS11 hS12 _).2 _ _ _ _ (by assumption) | with_reducible refine Kz_ltv (fun _ => ?_) | with_reducible refine Kz_I ?_ (by decide) | with_reducible refine Kz_A ?_ (by decide))
  · refine pk_bnd (fun w1 r1 x1 => pk_ck (fun _ => ?_))
    have f1 := yu_hm_Co_put (u0 := v) Ku_rf w1 r1 x1
    have fr := qn.2.2.2.2.2.2.2.2
    have fr1 := FRC_tr fr (FRC_u f1)
    rw [fr1.2 18 (by omega), ee.2.2.1]
    have qn1 := NPE_u qn f1
    obtain ⟨a1, a2, a3, a4, a5, a6, a7, a8, a9⟩ := qn1
    have cp1 : CPR nm false q q2 sc1 (max cm X1) w1 := ⟨by rw [a6]; exact cp.1, a1, by rw [ht.2.1]; exact a2, by have := cp.2.2.2.1; omega, by rw [a8]; exact cp.2.2.2.2.1, by rw [a7]; exact cp.2.2.2.2.2.1, by have := cp.2.2.2.2.2.2; omega⟩
    refine pk_bnd (fun w2 r2 x2 => pk_bnd (fun w3 r3 x3 => pk_some ?_))
    have pt := h 300 w1 (max cm X1) (KPX_f (KPX_di (ν := μ) h01 hk0 kx (by omega) hn0 hl0) fr1) a1 cp1.2.2.1 cp1.2.2.2.1 (by rw [cp1.2.2.2.2.1]; rfl) cp1.2.2.2.2.2.2 w2 r2 x2
    have f2 : FRC w1 w2 := yq_hr_Cm_pattern (u0 := w1) FRC_rf w2 r2 x2
    have ne := NPQ_E cp1 pt f2 (yw_hr_Cm_pattern (u0 := w1) (Int32.le_refl _) w2 r2 x2)
    refine CPO_u (v := w2) (CPO_ok ⟨qf, qb⟩ ?_) (yu_hm_Co_put (u0 := w2) Ku_rf w3 r3 x3)
    rw [ht.2.1, a4, wup_sw hq.2.1 hq.2.2.1 hq.2.2.2.1 g3] at ne
    rw [wup_ext ⟨hq.1, by omega, hq.2.2.2.2⟩ g1 g2, show max cm (max X1 X2) = max (max cm X1) X2 by omega]
    have := NPE_tr ⟨a1, a2, a3, a4, a5, a6, a7, a8, a9⟩ ne
    rw [Bool.or_false] at this
    exact this
theorem exn_fof (hn : nod m2 ν = (I ((13 : Nat) : Int), I (tok : Nat), a, b, e)) (htk : tok ≤ 4000) (hlo : lo < ν) (hν : ν ≤ n2) (hl : n2 ≤ 8015) (g1 : ∀ j, p ≤ j → j < p2 → K j ≠ 3) : EXN N K nm gd m2 lo n2 ν p p2 sc sc 0 W (gd || false) false (fun m => BADc N m (a, b, 2)) := by
  refine exn_cmp (k := 13) (by unfold CMK; omega) ⟨by decide, by decide⟩ hn htk hlo hν hl (fun _ d m3 cm last kx cp ee => ?_)
  unfold cmpR hb_Cm_compound_455
  rw [tnI (n := ν) rfl (by omega), ee.1]
  refine pk_ck (fun _ => ?_)
  rw [show decide (I ((13 : Nat) : Int) = 8) = false from rfl, br_fq, show decide (I ((13 : Nat) : Int) = 9) = false from rfl, br_fq, show decide (I ((13 : Nat) : Int) = 10) = false from rfl, br_fq, show decide (I ((13 : Nat) : Int) = 11) = false from rfl, br_fq, show decide (I ((13 : Nat) : Int) = 12) = false from rfl, br_fq, show decide (I ((13 : Nat) : Int) = 13) = true from rfl, br_tq]
  refine pk_bnd (pk_mo (Q := fun u (_ : Unit) => CPO K nm p p2 sc sc 0 W false false (fun m => BADc N m (a, b, 2)) cm m3 u) ?_ (fun v _ q => pk_some q))
  unfold hm_Cm_funOf hb_Cm_funOf_0 hb_Cm_funOf_48
  rw [tnI (n := ν) rfl (by omega), ee.2.2.1, ee.2.2.2.1]
  refine pk_ck (fun _ => pk_ck (fun _ => pk_bnd (pk_mo (seek_c (N := N) (a := a) (b := b) FRC_rf) (fun u53 r53 h53 => ?_))))
  rw [h53.1]
  have bd : BADc N m3 (a, b, 2) ↔ r53 = -1 := by
    unfold BADc
    rw [if_pos rfl, h53.2]
    exact ⟨fun z => by injection z with z; exact (Prod.mk.inj z).2, fun z => by rw [z]⟩
  refine pk_br (fun z => pk_ck (fun _ => ?_)) (fun z => ?_)
  · rw [ee.2.1, i_suc]
    refine pk_bnd (pk_mo (fault_p (N := N) (tk := tok + 1) (nb := 6) (by omega) (by omega)) (fun v r q => pk_bnd (fun w1 r1 x1 => pk_bnd (fun w2 r2 x2 => pk_some ?_))))
    have f2 := yu_hm_Co_put (u0 := v) (yu_hm_Co_put (u0 := v) Ku_rf w1 r1 x1) w2 r2 x2
    exact Or.inl ⟨Or.inr (bd.mpr (of_decide_eq_true z)), Ku_s q.1 f2, FRC_tr ⟨fun k hk => q.2.1 k (by omega), fun k _ => by rw [q.2.2]⟩ (FRC_u f2)⟩
  · refine pk_bnd (fun w1 r1 x1 => pk_bnd (fun w2 r2 x2 => pk_some ?_))
    have f2 := yu_hm_Co_put (u0 := m3) (yu_hm_Co_put (u0 := m3) Ku_rf w1 r1 x1) w2 r2 x2
    refine CPO_u (CPO_ok ⟨rfl, fun y => of_decide_eq_false z (bd.mp y)⟩ ?_) f2
    rw [Nat.max_eq_left (Nat.zero_le cm), wup_0 g1]
    exact CPR_0 cp
end
end
section
set_option maxRecDepth 100000
def TRB (N : Nat) (K nm : Nat → Nat) (own : Bool) (m2 : MS) (lo n2 π p p2 : Nat) (sc sc2 : SCT) (X : Nat) (W : Nat → Nat) (Rf Zf : Bool) (BC : MS → Prop) : Prop := ∀ (d : Nat) (m3 : MS) (cm : Nat) (what : Int32), decide (what < 0) = !own → KPX lo n2 π m2 m3 → CPR nm false p p2 sc cm m3 → PK (fun m4 _ => CPO K nm p p2 sc sc2 X W Rf Zf BC cm m3 m4) ((hrc_Cm_fun N d).2.2.2.2.2.2.2.2.2.2.2.1 m3 what (I (π : Nat)))
def BDB (N : Nat) (K nm : Nat → Nat) (m2 : MS) (lo n2 π p p2 : Nat) (sc sc2 : SCT) (X : Nat) (W : Nat → Nat) (Rf Zf : Bool) (BC : MS → Prop) : Prop := ∀ (d : Nat) (m3 : MS) (cm : Nat) (last : Int32), KPX lo n2 π m2 m3 → CPR nm false p p2 sc cm m3 → PK (fun m4 _ => CPO K nm p p2 sc sc2 X W Rf Zf BC cm m3 m4) ((hrc_Cm_fun N d).2.2.2.1 m3 (m3.2.2.1 20 π) last)
def CPG (K nm : Nat → Nat) (p p2 : Nat) (sc sc2 : SCT) (X : Nat) (W : Nat → Nat) (Rf Zf : Bool) (BC : MS → Prop) (cm : Nat) (ar : Int32) (m u : MS) : Prop := ((Rf = true ∨ BC m) ∧ u.1 714 < 1000000000 ∧ FRC m u) ∨ ((Rf = false ∧ ¬ BC m) ∧ ∃ w, NPE nm (sc.length - 1) sc2 (max cm X) (wup (m.2.2.1 42) K W p p2) Zf m w ∧ u = upI w 712 ar)
section
variable {m v u m1 m2 m3 mi : MS} {K nm W : Nat → Nat} {sc sc1 sc2 sc3 t t2 : SCT} {e0 e2 : List Nat × List Nat × Nat} {s x y N i f tok cm cm2 p p2 q q2 q3 q4 n1 n2 n3 ν μ π lo li ni X X1 X2 k : Nat} {gd Zf Rf R1 R2 Z1 Z2 own : Bool} {g : Nat → Int32} {B1 B2 BC : MS → Prop} {a b c e f : Int32} {l lp lg lb : List Nat} {S : SF_Cm_fun}
theorem tri_p (hl : n2 ≤ 8015) : ∀ {l : List Nat} {p p2 : Nat} {sc sc2 : SCT} {X : Nat}, PRW N K nm m2 lo n2 own W l p p2 sc sc2 X → ∀ (M : Nat) (m3 : MS) (cm : Nat) (pt mk fl : Int32) (Q : MS → Int32 → Prop), (∀ j, lo < j → j ≤ n2 → nod m3 j = nod m2 j ∧ m3.2.2.1 21 j = m2.2.2.1 21 j) → Kcc m2 m3 → CNs m3 nm sc → m3.2.2.1 41 (sc.length - 1) = I (cm : Nat) → cm ≤ 4000 → (cm ≤ 4000 → max cm X ≤ 4000) → decide (m3.1 713 = 0) = !own → tot sc + (p2 - p) ≤ 4000 → (∀ M' v, NPQ nm (sc.length - 1) sc2 (max cm X) (wup (m3.2.2.1 42) K W p p2) m3 v → FRC m3 v ∧ m3.1 441 ≤ v.1 441 → PK Q (lt (upI v 713 0) (fun w36 => bnd (hm_Co_put N w36 8) (fun u38 _ => hb_Cm_tries_111 N S (hg_Cm_tries N S M') u38 pt mk fl)))) → PK Q ((hg_Cm_tries N S M).1 m3 pt mk fl (I ((l.headD 0 : Nat) : Int)))
  | _, _, _, _, _, _, _, 0, _, _, _, _, _, _, _, _, _, _, _, _, _, _, _ => pk_none
  | [], p, p2, sc, sc2, X, ⟨h1, h2, h3⟩, M + 1, m3, cm, pt, mk, fl, Q, _, _, cn, hm, hc, _, ho, ht, kk => by
    subst h1
    subst h2
    subst h3
    show PK _ (hb_Cm_tries_71 N S (hg_Cm_tries N S M) m3 pt mk fl 0)
    unfold hb_Cm_tries_71
    rw [show decide ((0 : Int32) = 0) = true from rfl, br_tq]
    refine kk M m3 ?_ ⟨FRC_rf, Int32.le_refl _⟩
    rw [Nat.max_eq_left (Nat.zero_le cm), wup_0 (fun j h1 h2 => absurd h2 (by omega))]
    exact NPQ_rf cn hm
  | ν :: l, p, p2, sc, sc2, X, ⟨q, q2, sc1, X1, X2, h1, g1, h2, h3, h4, h5, h6, h7⟩, M + 1, m3, cm, pt, mk, fl, Q, k1, k2, cn, hm, hc, hX, ho, ht, kk => by
    subst h7
    obtain ⟨a1, a2, a3⟩ := PRW_len h6
    show PK _ (hb_Cm_tries_71 N S (hg_Cm_tries N S M) m3 pt mk fl (I (ν : Nat)))
    unfold hb_Cm_tries_71
    have hX := hX hc
    rw [decide_eq_false (p := I (ν : Nat) = 0) (fun z => by have := (I_eq (x := (ν : Nat)) (y := 0) (by omega) (by omega) (by omega) (by omega)).mp z; omega), br_fq]
    have kx : KPX lo n2 ν m2 m3 := ⟨fun j h0 hj => ⟨(k1 j h0 hj).1, fun _ => (k1 j h0 hj).2⟩, k2⟩
    obtain ⟨mi, li, ni, h2, hx2, hni, hli, -⟩ := h2
    refine pk_bnd (fun v r9 x9 => pk_ck (fun _ => ?_))
    have qv := h2 300 m3 cm (KPX_tr hx2 kx hni.2 hni.1) cn hm hc ho (by omega) v r9 x9
    have fr : FRC m3 v := yq_hr_Cm_pattern (u0 := m3) FRC_rf v r9 x9
    have k1w := KPX_f kx fr
    have k1v : ∀ j, lo < j → j ≤ n2 → nod v j = nod m2 j ∧ v.2.2.1 21 j = m2.2.2.1 21 j := fun j h0 hj => by
      refine ⟨(k1w.1 j h0 hj).1, ?_⟩
      rw [fr.2 21 (by omega)]
      exact (k1 j h0 hj).2
    rw [tnI (n := ν) rfl (by omega), (k1v ν (by omega) h3.2).2, h4]
    have o13 : v.1 713 = m3.1 713 := qv.2.2.2.1 713 (by decide) (by decide)
    refine tri_p hl h6 M v (max cm X1) pt mk fl Q k1v k1w.2 qv.1 (by rw [h5.2, qv.2.1, upd_at]) (by omega) (fun _ => by omega) (by rw [o13]; exact ho) (by omega) (fun M' u qu fu => kk M' u ?_ ⟨FRC_tr fr fu.1, Int32.le_trans (yw_hr_Cm_pattern (u0 := m3) (Int32.le_refl _) v r9 x9) fu.2⟩)
    rw [h5.2] at qu
    rw [← wup_tr (g := m3.2.2.1 42) (K := K) (W := W) (q := q) h1.1 (by omega), wup_0 (p := p) (p2 := q) g1, ← wup_tr (g := m3.2.2.1 42) (K := K) (W := W) (p := q) (q := q2) h1.2.1 h1.2.2, ← qv.2.2.1, show max cm (max X1 X2) = max (max cm X1) X2 by omega]
    exact NPQ_tr qv qu
theorem tri_g (hl : n2 ≤ 8015) : ∀ {l : List Nat} {p p2 : Nat} {sc sc2 : SCT} {X : Nat} {Rf Zf : Bool} {BC : MS → Prop}, ERW N K nm gd m2 lo n2 W l p p2 sc sc2 X Rf Zf BC → ∀ (d M : Nat) (m3 : MS) (cm : Nat) (fl ar : Int32), (∀ j, lo < j → j ≤ n2 → nod m3 j = nod m2 j ∧ m3.2.2.1 21 j = m2.2.2.1 21 j) → Kcc m2 m3 → CPR nm gd p p2 sc cm m3 → PK (fun m4 (_ : Int32) => CPG K nm p p2 sc sc2 X W Rf Zf BC cm ar m3 m4) ((hg_Cm_tries N (hrc_Cm_fun N d) M).2 m3 fl ar (I ((l.headD 0 : Nat) : Int)))
  | _, _, _, _, _, _, _, _, _, _, _, 0, _, _, _, _, _, _, _ => pk_none
  | [], p, p2, sc, sc2, X, Rf, Zf, BC, ⟨h1, h2, h3, h4, h5, h6⟩, d, M + 1, m3, cm, fl, ar, _, _, cp => by
    subst h1
    subst h2
    subst h3
    subst h4
    subst h5
    show PK _ (hb_Cm_tries_181 N (hrc_Cm_fun N d) (hg_Cm_tries N (hrc_Cm_fun N d) M) m3 fl ar 0)
    unfold hb_Cm_tries_181
    rw [show decide ((0 : Int32) = 0) = true from rfl, br_tq]
    refine pk_bnd (fun w1 r1 x1 => pk_ck (fun _ => pk_ltq (pk_some (Or.inr ⟨⟨rfl, h6 m3⟩, w1, ?_, rfl⟩))))
    rw [Nat.max_eq_left (Nat.zero_le cm), wup_0 (fun j h1 h2 => absurd h2 (by omega))]
    exact NPE_u (CPR_0 cp) (yu_hm_Co_put (u0 := m3) Ku_rf w1 r1 x1)
  | ν :: l, p, p2, sc, sc2, X, Rf, Zf, BC, ⟨q, q2, sc1, X1, X2, R1, R2, Z1, Z2, B1, B2, h1, g1, ⟨mi, li, ni, h2, hx, hni, hli, _⟩, h3, h4, h5, h6, h7, h8, h9, h10, h11⟩, d, M + 1, m3, cm, fl, ar, k1, k2, cp => by
    subst h7
    subst h8
    subst h9
    obtain ⟨a1, a2, a3⟩ := ERW_len h6
    show PK _ (hb_Cm_tries_181 N (hrc_Cm_fun N d) (hg_Cm_tries N (hrc_Cm_fun N d) M) m3 fl ar (I (ν : Nat)))
    unfold hb_Cm_tries_181
    rw [decide_eq_false (p := I (ν : Nat) = 0) (fun z => by have := (I_eq (x := (ν : Nat)) (y := 0) (by omega) (by omega) (by omega) (by omega)).mp z; omega), br_fq]
    have kx : KPX lo n2 ν m2 m3 := ⟨fun j h0 hj => ⟨(k1 j h0 hj).1, fun _ => (k1 j h0 hj).2⟩, k2⟩
    have cp1 : CPR nm gd q q2 sc cm m3 := CPR_in cp (by omega)
    refine pk_bnd (pk_mo (h2 d m3 cm 0 (KPX_tr hx kx hni.2 hni.1) cp1) (fun v _ qv => ?_))
    rcases qv with ⟨qf, qs, qr⟩ | ⟨⟨qf, qb⟩, qn⟩
    · refine pk_mo (Q := fun w (_ : Int32) => Kzc v w) ?_ (fun w _ z => Or.inl ⟨?_, z.1, FRC_tr qr z.2⟩)
      · intro w r x
        have hv : Kzc v v := ⟨qs, FRC_rf⟩
        refine (?_ : KzE v _) w r x
        obtain ⟨hS0, hS1, hS2, hS3, hS4, hS5, hS6, hS7, hS8, hS9, hS10, hS11, hS12⟩ := yz_hrc_Cm_fun (u0 := v) (N := N) d
        repeat' (first | with_reducible assumption | with_reducible refine Kz_br ?_ ?_ | with_reducible refine Kz_bnd ?_ (fun _ _ _ => ?_) | with_reducible refine Kz_ck ?_ | with_reducible refine Kz_ltm ?_ (fun _ _ => ?_) | with_reducible refine Kz_some ?_ | with_reducible exact yz_hm_Cm_notInGuard (by assumption) | with_reducible exact yz_hr_Cm_pattern (by assumption) | with_reducible exact yz_hm_Cm_forget (by assumption) | with_reducible exact yz_hm_Co_arrive (by assumption) | with_reducible exact yz_hm_Cm_funOf (by assumption) | with_reducible exact yz_hm_Co_hook (by assumption) | with_reducible exact yz_hm_Co_put (by assumption) | with_reducible exact yz_hm_Cm_term (by assumption) | with_reducible exact yz_hm_Cm_string (by assumption) | with_reducible exact yz_hm_Co_seek (by assumption) | with_reducible exact yz_hm_Cm_predefinedOf (by assumption) | with_reducible exact yz_hm_Cm_fault (by assumption) | with_reducible exact yz_hm_Cm_joining (by assumption) | with_reducible exact yz_hm_Cm_hold (by assumption) | with_reducible exact yz_hm_Co_set (by assumption) | with_reducible exact yz_hm_Tr_length (by assumption) | with_reducible exact hS0 _ _ (by assumption) | with_reducible exact hS1 _ _ _ (by assumption) | with_reducible exact hS2 _ _ _ _ _ (by assumption) | with_reducible exact hS3 _ _ _ (by assumption) | with_reducible exact hS4 _ _ _ (by assumption) | with_reducible exact hS5 _ _ _ (by assumption) | with_reducible exact hS6 _ _ _ (by assumption) | with_reducible exact hS7 _ _ (by assumption) | with_reducible exact hS8 _ _ (by assumption) | with_reducible exact hS9 _ _ (by assumption) | with_reducible exact hS10 _ _ _ (by assumption) | with_reducible exact hS11 _ _ _ (by assumption) | with_reducible exact hS12 _ _ _ _ (by assumption) | with_reducible exact yz_hg_Cm_apply hS0 hS1 hS2 hS3 hS4 hS5 hS6 hS7 hS8 hS9 hS10 hS11 hS12 _ _ _ _ _ (by assumption) | with_reducible exact yz_hg_Cm_row hS0 hS1 hS2 hS3 hS4 hS5 hS6 hS7 hS8 hS9 hS10 hS11 hS12 _ _ _ (by assumption) | with_reducible exact yz_hg_Cm_signs hS0 hS1 hS2 hS3 hS4 hS5 hS6 hS7 hS8 hS9 hS10 hS11 hS12 _ _ _ _ _ _ _ (by assumption) | with_reducible exact yz_hg_Cm_body hS0 hS1 hS2 hS3 hS4 hS5 hS6 hS7 hS8 hS9 hS10 hS11 hS12 _ _ _ _ (by assumption) | with_reducible exact yz_hg_Cm_parts hS0 hS1 hS2 hS3 hS4 hS5 hS6 hS7 hS8 hS9 hS10 hS11 hS12 _ _ _ _ _ _ _ (by assumption) | with_reducible exact (yz_hg_Cm_tries hS0 hS1 hS2 hS3 hS4 hS5 hS6 hS7 hS8 hS9 hS10 hS11 hS12 _).1 _ _ _ _ _ (by assumption) | with_reducible exact (yz_hg_Cm_tries hS0 hS1 hS2 hS3 hS4 hS5 hS6 hS7 hS8 hS9 hS10 hS11 hS12 _).2 _ _ _ _ (by assumption) | with_reducible refine Kz_ltv (fun _ => ?_) | with_reducible refine Kz_I ?_ (by decide) | with_reducible refine Kz_A ?_ (by decide))
      · rcases qf with qf | qf
        · exact Or.inl (by rw [qf]; rfl)
        · exact Or.inr ((h10 m3).mpr (Or.inl qf))
    · refine pk_bnd (fun w1 r1 x1 => pk_ck (fun _ => ?_))
      have f1 := yu_hm_Co_put (u0 := v) Ku_rf w1 r1 x1
      have qn := NPE_u qn f1
      have fr := qn.2.2.2.2.2.2.2.2
      have k1w := KPX_f kx fr
      have k1v : ∀ j, lo < j → j ≤ n2 → nod w1 j = nod m2 j ∧ w1.2.2.1 21 j = m2.2.2.1 21 j := fun j h0 hj => by
        refine ⟨(k1w.1 j h0 hj).1, ?_⟩
        rw [fr.2 21 (by omega)]
        exact (k1 j h0 hj).2
      rw [tnI (n := ν) rfl (by omega), (k1v ν (by omega) h3.2).2, h4]
      have cp2 : CPR nm gd q2 p2 sc1 (max cm X1) w1 := CPR_2 (p := q) (p2 := p2) (q := q2) (CPR_in cp (by omega)) qn h5.2.1 h5.2.2 (by have := cp.2.2.2.2.2.2; omega)
      refine pk_mo (tri_g hl h6 d M w1 (max cm X1) fl ar k1v k1w.2 cp2) (fun u _ qu => ?_)
      rcases qu with ⟨qf2, qs2, qr2⟩ | ⟨⟨qf2, qb2⟩, w, qn2, qu⟩
      · refine Or.inl ⟨?_, qs2, FRC_tr fr qr2⟩
        rcases qf2 with z | z
        · exact Or.inl (by rw [z]; simp)
        · exact Or.inr ((h10 m3).mpr (Or.inr ((h11 m3 w1 fr).mp z)))
      · refine Or.inr ⟨⟨by rw [qf, qf2]; rfl, fun z => ?_⟩, w, ?_, qu⟩
        · rcases (h10 m3).mp z with z | z
          · exact qb z
          · exact qb2 ((h11 m3 w1 fr).mpr z)
        · rw [h5.2.1, qn.2.2.2.1] at qn2
          rw [← wup_tr (g := m3.2.2.1 42) (K := K) (W := W) (q := q) h1.1 (by omega), wup_0 (p := p) (p2 := q) g1, ← wup_tr (g := m3.2.2.1 42) (K := K) (W := W) (p := q) (q := q2) h1.2.1 h1.2.2, show max cm (max X1 X2) = max (max cm X1) X2 by omega]
          exact NPE_tr qn qn2
theorem upI_FRC {y : Int32} (hk : k ≠ 442 ∧ 440 ≤ k ∧ (k < 720 ∨ 740 ≤ k)) : FRC m (upI m k y) := ⟨fun j hj => upI_ne (by omega), fun _ _ => rfl⟩
theorem tri_111 {M d : Nat} {mk fl : Int32} (hπ : π ≤ 8015) (e19 : m3.2.2.1 19 π = I ((lg.headD 0 : Nat) : Int)) (h : ERW N K nm true mi li ni W lg p p2 sc sc2 X Rf Zf BC) (hni : ni ≤ 8015) (kx : (∀ j, li < j → j ≤ ni → nod m3 j = nod mi j ∧ m3.2.2.1 21 j = mi.2.2.1 21 j) ∧ Kcc mi m3) (cp : CPR nm false p p2 sc cm m3) (sB : STB BC) : PK (fun m4 (_ : Int32) => CPO K nm p p2 sc sc2 X W Rf Zf BC cm m3 m4) (hb_Cm_tries_111 N (hrc_Cm_fun N d) (hg_Cm_tries N (hrc_Cm_fun N d) M) m3 (I (π : Nat)) mk fl) := by
  unfold hb_Cm_tries_111
  rw [tnI (n := π) rfl (by omega), e19]
  refine pk_ck (fun _ => ?_)
  cases lg with
  | nil =>
    obtain ⟨h1, h2, h3, h4, h5, h6⟩ := h
    subst h1
    subst h2
    subst h3
    subst h4
    subst h5
    rw [show decide (I ((([] : List Nat).headD 0 : Nat) : Int) = 0) = true from rfl, br_tq]
    refine pk_some (CPO_ok ⟨rfl, h6 m3⟩ ?_)
    rw [Nat.max_eq_left (Nat.zero_le cm), wup_0 (fun j h1 h2 => absurd h2 (by omega))]
    exact CPR_0 cp
  | cons ν l =>
    have hν : 1 ≤ ν ∧ ν ≤ ni := by
      obtain ⟨q, q2, sc1, X1, X2, R1, R2, Z1, Z2, B1, B2, h1, g1, _, h3, _⟩ := h
      exact h3
    rw [decide_eq_false (p := I (((ν :: l).headD 0 : Nat) : Int) = 0) (fun z => by have := (I_eq (x := (ν : Nat)) (y := 0) (by omega) (by omega) (by omega) (by omega)).mp z; omega), br_fq]
    refine pk_ltq (pk_bnd (fun w1 r1 x1 => pk_bnd (fun w2 r2 x2 => pk_bnd (fun w3 r3 x3 => pk_ck (fun _ => ?_)))))
    have f1 := yu_hm_Co_put (u0 := upI m3 712 1) Ku_rf w1 r1 x1
    have f2 := yu_hm_Co_put (u0 := upI m3 712 1) f1 w2 r2 x2
    have f3 := yu_hm_Co_hook (u0 := upI m3 712 1) f2 w3 r3 x3
    have f0 : FRC m3 (upI m3 712 1) := upI_FRC (by decide)
    have fr := FRC_tr f0 (FRC_u f3)
    have cpG : CPR nm true p p2 sc cm (upI m3 712 1) := ⟨by rw [upI_ne (by decide)]; exact cp.1, ⟨by rw [upI_ne (by decide)]; exact cp.2.1.1, cp.2.1.2.1, by rw [upI_ne (by decide)]; exact cp.2.1.2.2.1, cp.2.1.2.2.2.1, CNl_fr cp.2.1.2.2.2.2 rfl (fun _ _ => rfl)⟩, cp.2.2.1, cp.2.2.2.1, by rw [upI_ne (by decide)]; exact cp.2.2.2.2.1, by rw [upI_at]; rfl, cp.2.2.2.2.2.2⟩
    rw [fr.2 19 (by omega), e19]
    have k0 : KPX li ni 0 mi m3 := ⟨fun j h0 hj => ⟨(kx.1 j h0 hj).1, fun _ => (kx.1 j h0 hj).2⟩, kx.2⟩
    have k1 := KPX_f k0 fr
    have kk : ∀ j, li < j → j ≤ ni → nod w3 j = nod mi j ∧ w3.2.2.1 21 j = mi.2.2.1 21 j := fun j h0 hj => by
      refine ⟨(k1.1 j h0 hj).1, ?_⟩
      rw [fr.2 21 (by omega)]
      exact (kx.1 j h0 hj).2
    refine pk_mo (tri_g hni h d M w3 cm r3 (m3.1 712) kk k1.2 (CPR_u cpG f3)) (fun u _ qu => ?_)
    have eB := sB m3 w3 fr
    rcases qu with ⟨qf, qs, qr⟩ | ⟨⟨qf, qb⟩, w, qn, rfl⟩
    · exact Or.inl ⟨qf.elim Or.inl (fun z => Or.inr (eB.mp z)), qs, FRC_tr fr qr⟩
    · refine CPO_ok ⟨qf, fun z => qb (eB.mpr z)⟩ ?_
      obtain ⟨⟨c1, c2, c3, c4, c5⟩, a2, a3, a4, a5, a6, a7, a8, a9⟩ := qn
      have i3 : ∀ k, k ≠ 441 → k ≠ 712 → w3.1 k = m3.1 k := fun k h1 h2 => by rw [f3.1 k h1, upI_ne h2]
      refine ⟨⟨by rw [upI_ne (by decide)]; exact c1, c2, by rw [upI_ne (by decide)]; exact c3, c4, CNl_fr c5 rfl (fun _ _ => rfl)⟩, a2, fun j hj => (a3 j hj).trans (congrFun (f3.2.1 41 (by decide)) j), by rw [show w3.2.2.1 42 = m3.2.2.1 42 from f3.2.1 42 (by decide)] at a4; exact a4, C11_e (C11_b a5 (by have := f3.2.2; rw [upI_ne (by decide)] at this; exact this) (i3 711 (by decide) (by decide))) (upI_ne (by decide)) (upI_ne (by decide)), by rw [upI_ne (by decide), a6, i3 714 (by decide) (by decide)], upI_at, by rw [upI_ne (by decide), a8, i3 713 (by decide) (by decide)], FRC_tr (FRC_tr fr a9) (upI_FRC (by decide))⟩
theorem CPO_nx (hn : NPE nm (sc.length - 1) sc1 (max cm X1) (wup (m.2.2.1 42) K W p q) Z1 m v) (h2 : CPO K nm q p2 sc1 sc2 X2 W R2 Z2 B2 (max cm X1) v u) (hpq : p ≤ q ∧ q ≤ p2) (hl : sc1.length = sc.length) (s2 : STB B2) : CPO K nm p p2 sc sc2 (max X1 X2) W R2 (Z1 || Z2) B2 cm m u := by
  have fr := hn.2.2.2.2.2.2.2.2
  rcases h2 with ⟨qf2, qs2, qr2⟩ | ⟨⟨qf2, qb2⟩, qn2⟩
  · refine Or.inl ⟨?_, qs2, FRC_tr fr qr2⟩
    rcases qf2 with z | z
    · exact Or.inl z
    · exact Or.inr ((s2 m v fr).mp z)
  · refine CPO_ok ⟨qf2, fun z => qb2 ((s2 m v fr).mpr z)⟩ ?_
    rw [hl, hn.2.2.2.1, wup_tr hpq.1 hpq.2] at qn2
    rw [show max cm (max X1 X2) = max (max cm X1) X2 by omega]
    exact NPE_tr hn qn2
theorem trb_mk {mp mg : MS} {l1 l2 np ng : Nat} (hn : nod m2 π = (a, b, I ((lp.headD 0 : Nat) : Int), I ((lg.headD 0 : Nat) : Int), c)) (hlo : lo < π) (hπ : π ≤ n2) (hl : n2 ≤ 8015) (hp : PRW N K nm mp l1 np own W lp p q sc sc1 X1) (kp : (∀ j, l1 < j → j ≤ np → nod m2 j = nod mp j ∧ m2.2.2.1 21 j = mp.2.2.1 21 j) ∧ Kcc mp m2) (hl1 : lo ≤ l1) (hnp : np < π) (hX1 : X1 ≤ 1400) (hg : ERW N K nm true mg l2 ng W lg q p2 sc1 sc2 X2 Rf Zf BC) (kg : (∀ j, l2 < j → j ≤ ng → nod m2 j = nod mg j ∧ m2.2.2.1 21 j = mg.2.2.1 21 j) ∧ Kcc mg m2) (hl2 : lo ≤ l2) (hng : ng < π) (sB : STB BC) : TRB N K nm own m2 lo n2 π p p2 sc sc2 (max X1 X2) W Rf Zf BC := by
  intro d m3 cm what hw kx cp
  obtain ⟨i1, i2, i3⟩ := PRW_len hp
  obtain ⟨i4, i5, i6⟩ := ERW_len hg
  cases d with
  | zero => exact pk_none
  | succ d =>
    have e0 := KPX_nod kx hlo hπ
    rw [hn] at e0
    have e18 : m3.2.2.1 18 π = I ((lp.headD 0 : Nat) : Int) := (Prod.mk.inj (Prod.mk.inj (Prod.mk.inj e0).2).2).1
    have e19 : m3.2.2.1 19 π = I ((lg.headD 0 : Nat) : Int) := (Prod.mk.inj (Prod.mk.inj (Prod.mk.inj (Prod.mk.inj e0).2).2).2).1
    have kp3 : (∀ j, l1 < j → j ≤ np → nod m3 j = nod mp j ∧ m3.2.2.1 21 j = mp.2.2.1 21 j) ∧ Kcc mp m3 := ⟨fun j u1 u2 => ⟨(kx.1 j (by omega) (by omega)).1.trans (kp.1 j u1 u2).1, ((kx.1 j (by omega) (by omega)).2 (by omega)).trans (kp.1 j u1 u2).2⟩, Kc_tr kp.2 kx.2⟩
    have kg3 : (∀ j, l2 < j → j ≤ ng → nod m3 j = nod mg j ∧ m3.2.2.1 21 j = mg.2.2.1 21 j) ∧ Kcc mg m3 := ⟨fun j u1 u2 => ⟨(kx.1 j (by omega) (by omega)).1.trans (kg.1 j u1 u2).1, ((kx.1 j (by omega) (by omega)).2 (by omega)).trans (kg.1 j u1 u2).2⟩, Kc_tr kg.2 kx.2⟩
    have kgv : ∀ v, FRC m3 v → (∀ j, l2 < j → j ≤ ng → nod v j = nod mg j ∧ v.2.2.1 21 j = mg.2.2.1 21 j) ∧ Kcc mg v := fun v fr => by
      have k0 : KPX l2 ng 0 mg m3 := ⟨fun j h0 hj => ⟨(kg3.1 j h0 hj).1, fun _ => (kg3.1 j h0 hj).2⟩, kg3.2⟩
      have k1 := KPX_f k0 fr
      refine ⟨fun j h0 hj => ⟨(k1.1 j h0 hj).1, ?_⟩, k1.2⟩
      rw [fr.2 21 (by omega)]
      exact (kg3.1 j h0 hj).2
    show PK _ (hm_Cm_tries N (hrc_Cm_fun N d) m3 what (I (π : Nat)))
    unfold hm_Cm_tries hb_Cm_tries_0 hb_Cm_tries_57
    rw [tnI (n := π) rfl (by omega), e18]
    refine pk_ck (fun _ => ?_)
    cases lp with
    | nil =>
      obtain ⟨h1, h2, h3⟩ := hp
      subst h1
      subst h2
      subst h3
      rw [show decide (I ((([] : List Nat).headD 0 : Nat) : Int) = 0) = true from rfl, br_tq, Nat.max_eq_right (Nat.zero_le X2)]
      exact tri_111 (by omega) e19 hg (by omega) (kgv m3 FRC_rf) cp sB
    | cons ν l =>
      have hν : 1 ≤ ν ∧ ν ≤ np := by
        obtain ⟨q, q2, sc1, X1, X2, h1, g1, _, h3, _⟩ := hp
        exact h3
      rw [decide_eq_false (p := I (((ν :: l).headD 0 : Nat) : Int) = 0) (fun z => by have := (I_eq (x := (ν : Nat)) (y := 0) (by omega) (by omega) (by omega) (by omega)).mp z; omega), br_fq]
      refine pk_bnd (fun w1 r1 x1 => pk_bnd (fun w2 r2 x2 => pk_bnd (fun w3 r3 x3 => ?_)))
      have f1 := yu_hm_Co_put (u0 := m3) Ku_rf w1 r1 x1
      have f2 := yu_hm_Co_put (u0 := m3) f1 w2 r2 x2
      have f3 := yu_hm_Co_hook (u0 := m3) f2 w3 r3 x3
      have cp3 := CPR_u cp f3
      have go : ∀ t1 : Int32, decide (t1 = 0) = !own → PK (fun m4 (_ : Int32) => CPO K nm p p2 sc sc2 (max X1 X2) W Rf Zf BC cm m3 m4) (ck (isb t1) (lt (upI w3 713 t1) (fun w46 => ck (inb (I (π : Nat)) 8016) ((hg_Cm_tries N (hrc_Cm_fun N d) N).1 w46 (I (π : Nat)) (m3.1 706) r3 (w46.2.2.1 18 π))))) := fun t1 ht1 => by
        refine pk_ck (fun _ => pk_ltq (pk_ck (fun _ => ?_)))
        have fr46 : FRC m3 (upI w3 713 t1) := FRC_tr (FRC_u f3) (upI_FRC (by decide))
        rw [show (upI w3 713 t1).2.2.1 18 π = I (((ν :: l).headD 0 : Nat) : Int) from by rw [fr46.2 18 (by omega)]; exact e18]
        have k0 : KPX l1 np 0 mp m3 := ⟨fun j h0 hj => ⟨(kp3.1 j h0 hj).1, fun _ => (kp3.1 j h0 hj).2⟩, kp3.2⟩
        have k1 := KPX_f k0 fr46
        refine tri_p (by omega) hp N (upI w3 713 t1) cm _ _ _ _ (fun j h0 hj => ⟨(k1.1 j h0 hj).1, ?_⟩) k1.2 ⟨by rw [upI_ne (by decide)]; exact cp3.2.1.1, cp3.2.1.2.1, by rw [upI_ne (by decide)]; exact cp3.2.1.2.2.1, cp3.2.1.2.2.2.1, CNl_fr cp3.2.1.2.2.2.2 rfl (fun _ _ => rfl)⟩ cp3.2.2.1 cp3.2.2.2.1 (fun _ => by have := cp3.2.2.2.1; omega) (by rw [upI_at]; exact ht1) (by have := cp.2.2.2.2.2.2; omega) (fun M' v qv fv => ?_)
        · rw [fr46.2 21 (by omega)]
          exact (kp3.1 j h0 hj).2
        · refine pk_ltq (pk_bnd (fun w5 r5 x5 => ?_))
          have f5 := yu_hm_Co_put (u0 := upI v 713 0) Ku_rf w5 r5 x5
          have ne : NPE nm (sc.length - 1) sc1 (max cm X1) (wup (m3.2.2.1 42) K W p q) false m3 w5 := by
            refine NPE_u ?_ f5
            obtain ⟨⟨c1, c2, c3, c4, c5⟩, b2, b3, b4⟩ := qv
            have j3 : ∀ k, k ≠ 441 → k ≠ 713 → k ≠ 706 → (k < 440 ∨ 460 ≤ k) → v.1 k = m3.1 k := fun k h1 h2 h3 h4 => by rw [b4.1 k h3 h4, upI_ne h2, f3.1 k h1]
            have r41 : (upI w3 713 t1).2.2.1 41 = m3.2.2.1 41 := f3.2.1 41 (by decide)
            have r42 : (upI w3 713 t1).2.2.1 42 = m3.2.2.1 42 := f3.2.1 42 (by decide)
            rw [r41] at b2
            rw [r42] at b3
            exact ⟨⟨by rw [upI_ne (by decide)]; exact c1, c2, by rw [upI_ne (by decide)]; exact c3, c4, CNl_fr c5 rfl (fun _ _ => rfl)⟩, (congrFun b2 _).trans upd_at, fun j hj => (congrFun b2 j).trans (upd_no (by omega)), b3, C11_e (C11_m (Int32.le_trans f3.2.2 (by have := fv.2; rw [upI_ne (by decide)] at this; exact this)) (j3 711 (by decide) (by decide) (by decide) (by decide))) (upI_ne (by decide)) (upI_ne (by decide)), by rw [upI_ne (by decide), j3 714 (by decide) (by decide) (by decide) (by decide)], by rw [upI_ne (by decide), j3 712 (by decide) (by decide) (by decide) (by decide)], by rw [upI_at]; exact cp.2.2.2.2.1.symm, FRC_tr (FRC_tr fr46 fv.1) (upI_FRC (by decide))⟩
          have fr5 := ne.2.2.2.2.2.2.2.2
          refine pk_mo (tri_111 (by omega) (by rw [fr5.2 19 (by omega)]; exact e19) hg (by omega) (kgv w5 fr5) (CPR_2 (p := p) (p2 := p2) (q := q) cp ne i3 hX1 (by have := cp.2.2.2.2.2.2; omega)) sB) (fun u _ qu => ?_)
          have := CPO_nx ne qu ⟨i1, i4⟩ i3 sB
          rw [Bool.false_or] at this
          exact this
      refine pk_br (fun z => go 0 ?_) (fun z => go 1 ?_)
      · rw [← hw, z]; rfl
      · rw [← hw, z]; rfl
theorem bdb_mk {mb : MS} {l3 nb : Nat} (hn : nod m2 π = (a, b, c, e, I ((lb.headD 0 : Nat) : Int))) (hlo : lo < π) (hπ : π ≤ n2) (hl : n2 ≤ 8015) (hb : ERW N K nm false mb l3 nb W lb p p2 sc sc2 X Rf Zf BC) (kb : (∀ j, l3 < j → j ≤ nb → nod m2 j = nod mb j ∧ m2.2.2.1 21 j = mb.2.2.1 21 j) ∧ Kcc mb m2) (hl3 : lo ≤ l3) (hnb : nb < π) : BDB N K nm m2 lo n2 π p p2 sc sc2 X W Rf Zf BC := by
  intro d m3 cm last kx cp
  have e0 := KPX_nod kx hlo hπ
  rw [hn] at e0
  have e20 : m3.2.2.1 20 π = I ((lb.headD 0 : Nat) : Int) := (Prod.mk.inj (Prod.mk.inj (Prod.mk.inj (Prod.mk.inj e0).2).2).2).2
  rw [e20]
  exact bod_S hb (by omega) ⟨fun j u1 u2 => ⟨(kx.1 j (by omega) (by omega)).1.trans (kb.1 j u1 u2).1, ((kx.1 j (by omega) (by omega)).2 (by omega)).trans (kb.1 j u1 u2).2⟩, Kc_tr kb.2 kx.2⟩ d cp
end
end
section
set_option maxRecDepth 100000
def nms (sc : SCT) : List (List Nat) := sc.map (fun e => e.1)
def PLW (N : Nat) (K nm : Nat → Nat) (m2 : MS) (lo n2 : Nat) (W : Nat → Nat) (b : Nat) : List Nat → Nat → Nat → SCT → SCT → Nat → Bool → Bool → (MS → Prop) → Prop
  | [], p, p2, sc, sc2, X, Rf, Zf, BC => p = p2 ∧ sc2 = sc ∧ X = 0 ∧ Rf = false ∧ Zf = false ∧ ∀ m, ¬ BC m
  | π :: l, p, p2, sc, sc2, X, Rf, Zf, BC => ∃ q q1 q2 sc1 e3 t3 X1 X2 X3 R1 R2 R3 Z1 Z2 Z3 B1 B2 B3, (p ≤ q ∧ q ≤ q1 ∧ q1 ≤ q2 ∧ q2 ≤ p2) ∧ (∀ j, p ≤ j → j < q → K j ≠ 3) ∧ (∃ mi li ni, TRB N K nm false mi li ni π q q1 sc sc1 X1 W R1 Z1 B1 ∧ BDB N K nm mi li ni π q1 q2 sc1 (e3 :: t3) X2 W R2 Z2 B2 ∧ KPX li ni π mi m2 ∧ (lo ≤ li ∧ ni ≤ n2) ∧ (li < π ∧ π ≤ ni)) ∧ (1 ≤ π ∧ π ≤ n2) ∧ m2.2.2.1 21 π = I ((l.headD 0 : Nat) : Int) ∧ ((tot sc1 ≤ tot sc + (q1 - q) ∧ sc1.length = sc.length ∧ X1 ≤ 1400) ∧ tot (e3 :: t3) ≤ tot sc1 + (q2 - q1) ∧ (e3 :: t3).length = sc1.length ∧ X2 ≤ 1400) ∧ (b ≤ e3.1.length ∧ tot t3 + b = tot sc) ∧ PLW N K nm m2 lo n2 W b l q2 p2 (cutS b (e3 :: t3)) sc2 X3 R3 Z3 B3 ∧ X = max X1 (max X2 X3) ∧ Rf = (R1 || (R2 || R3)) ∧ Zf = (Z1 || (Z2 || Z3)) ∧ (∀ m, BC m ↔ B1 m ∨ B2 m ∨ B3 m) ∧ STB B2 ∧ STB B3
section
variable {m v u m1 m2 m3 mi : MS} {K nm W : Nat → Nat} {sc sc1 sc2 sc3 t t2 : SCT} {e0 e2 : List Nat × List Nat × Nat} {s x y N i f tok cm cm2 p p2 q q2 q3 q4 n1 n2 n3 ν μ π lo li ni X X1 X2 k : Nat} {gd Zf Rf R1 R2 Z1 Z2 own : Bool} {g : Nat → Int32} {B1 B2 BC : MS → Prop} {a b c e f : Int32} {l lp lg lb : List Nat} {S : SF_Cm_fun}
theorem nms_len : ∀ {a b : SCT}, nms a = nms b → a.length = b.length := fun {a b} h => by
  have := congrArg List.length h
  unfold nms at this
  rw [List.length_map, List.length_map] at this
  exact this
theorem nms_tot : ∀ {a b : SCT}, nms a = nms b → tot a = tot b
  | [], [], _ => rfl
  | [], _ :: _, h => by cases h
  | _ :: _, [], h => by cases h
  | e :: t, e2 :: t2, h => by
    have h : e.1 :: nms t = e2.1 :: nms t2 := h
    injection h with h1 h2
    show tot t + e.1.length = tot t2 + e2.1.length
    rw [nms_tot h2, h1]
theorem CNl_nm : ∀ {a b : SCT}, nms a = nms b → CNl m nm a → CNl m nm b
  | [], [], _, _ => trivial
  | [], _ :: _, h, _ => by cases h
  | _ :: _, [], h, _ => by cases h
  | e :: t, e2 :: t2, h, c => by
    have h : e.1 :: nms t = e2.1 :: nms t2 := h
    injection h with h1 h2
    obtain ⟨c1, c2, c3⟩ := c
    refine ⟨?_, ?_, CNl_nm h2 c3⟩
    · rw [← nms_len h2, ← nms_tot h2]; exact c1
    · rw [← h1, ← nms_tot h2]; exact c2
theorem CNs_nm (h : nms sc = nms sc2) (c : CNs m nm sc) : CNs m nm sc2 := ⟨by rw [← nms_len h]; exact c.1, by rw [← nms_len h]; exact c.2.1, by rw [← nms_tot h]; exact c.2.2.1, by rw [← nms_tot h]; exact c.2.2.2.1, CNl_nm h c.2.2.2.2⟩
theorem CPR_nm (h : nms sc = nms sc2) (c : CPR nm gd p p2 sc cm m) : CPR nm gd p p2 sc2 cm m := ⟨c.1, CNs_nm h c.2.1, by rw [← nms_len h]; exact c.2.2.1, c.2.2.2.1, c.2.2.2.2.1, c.2.2.2.2.2.1, by rw [← nms_tot h]; exact c.2.2.2.2.2.2⟩
theorem BDs_nm : ∀ {a b : SCT}, BDs a b → nms b = nms a
  | [], [], _ => rfl
  | [], _ :: _, h => h.elim
  | _ :: _, [], h => h.elim
  | e :: t, e2 :: t2, h => by
    show e2.1 :: nms t2 = e.1 :: nms t
    rw [h.1.1, BDs_nm h.2]
theorem cut_nm (h : SCX (e0 :: t) (e2 :: t2) X) : nms (cutS e0.1.length (e2 :: t2)) = nms (e0 :: t) := by
  show e2.1.take e0.1.length :: nms t2 = e0.1 :: nms t
  rw [BDs_nm h.2.2, ← List.prefix_iff_eq_take.mp h.1]
theorem CPO_b (hl : sc1.length = sc.length) (i : ∀ k, k ∈ [711, 712, 713, 714] → v.1 k = m.1 k) (r41 : v.2.2.1 41 = m.2.2.1 41) (r42 : v.2.2.1 42 = m.2.2.1 42) (fr : FRC m v) (mo : m.1 441 ≤ v.1 441) (sB : STB BC) (h : CPO K nm p p2 sc1 sc2 X W Rf Zf BC cm v u) : CPO K nm p p2 sc sc2 X W Rf Zf BC cm m u := by
  have e := sB m v fr
  rcases h with ⟨h1, h2, h3⟩ | ⟨h1, h2⟩
  · exact Or.inl ⟨h1.elim Or.inl (fun z => Or.inr (e.mp z)), h2, FRC_tr fr h3⟩
  · obtain ⟨a1, a2, a3, a4, a5, a6, a7, a8, a9⟩ := h2
    rw [hl] at a2 a3
    exact Or.inr ⟨⟨h1.1, fun z => h1.2 (e.mpr z)⟩, a1, a2, fun j hj => by rw [a3 j hj, r41], by rw [a4, r42], C11_b a5 mo (i 711 (by decide)), by rw [a6, i 714 (by decide)], by rw [a7, i 712 (by decide)], by rw [a8, i 713 (by decide)], FRC_tr fr a9⟩
theorem fgt_b {w : MS} {mk : Int32} (k : Kuc v w) : (∀ k, k ∈ [711, 712, 713, 714] → (upI w 706 mk).1 k = v.1 k) ∧ (upI w 706 mk).2.2.1 41 = v.2.2.1 41 ∧ (upI w 706 mk).2.2.1 42 = v.2.2.1 42 ∧ FRC v (upI w 706 mk) ∧ v.1 441 ≤ (upI w 706 mk).1 441 := ⟨fun j hj => by simp only [List.mem_cons, List.not_mem_nil, or_false] at hj; rw [upI_ne (by omega)]; exact k.1 j (by omega), k.2.1 41 (by decide), k.2.1 42 (by decide), FRC_tr (FRC_u k) (upI_FRC (by decide)), by rw [upI_ne (by decide)]; exact k.2.2⟩
theorem CPR_cut {b : Nat} {w : MS} {mk : Int32} (c : CPR nm gd p p2 (e2 :: t2) cm v) (k : Kuc v w) (hb : b ≤ e2.1.length) (hm : mk = I ((tot t2 + b : Nat) : Int)) : CPR nm gd p p2 (cutS b (e2 :: t2)) cm (upI w 706 mk) := by
  have h := NPE_cut (NPE_u (CPR_0 c) k) hb hm
  obtain ⟨z1, z2, z3, z4, z5⟩ := fgt_b (mk := mk) k
  exact ⟨by rw [z1 714 (by decide)]; exact c.1, h.1, by rw [cutS_len]; exact h.2.1, c.2.2.2.1, by rw [z1 713 (by decide)]; exact c.2.2.2.2.1, by rw [z1 712 (by decide)]; exact c.2.2.2.2.2.1, by have := c.2.2.2.2.2.2; have := cutS_le (b := b) (sc := e2 :: t2); omega⟩
theorem PLW_len {b : Nat} : ∀ {l : List Nat} {p p2 : Nat} {sc sc2 : SCT} {X : Nat} {Rf Zf : Bool} {BC : MS → Prop}, PLW N K nm m2 lo n2 W b l p p2 sc sc2 X Rf Zf BC → p ≤ p2 ∧ tot sc2 ≤ tot sc ∧ sc2.length = sc.length
  | [], _, _, _, _, _, _, _, _, ⟨h1, h2, _⟩ => by
    subst h1
    subst h2
    exact ⟨Nat.le_refl _, Nat.le_refl _, rfl⟩
  | π :: l, p, p2, sc, sc2, X, Rf, Zf, BC, ⟨q, q1, q2, sc1, e3, t3, X1, X2, X3, R1, R2, R3, Z1, Z2, Z3, B1, B2, B3, h1, _, _, _, _, h2, h3, h4, _⟩ => by
    obtain ⟨a, b, c⟩ := PLW_len h4
    rw [cutS_tot h3.1] at b
    rw [cutS_len] at c
    exact ⟨by omega, by omega, by rw [c, h2.2.2.1, h2.1.2.1]⟩
theorem prt_lp {b : Nat} (hl : n2 ≤ 8015) : ∀ {l : List Nat} {p p2 : Nat} {sc sc2 : SCT} {X : Nat} {Rf Zf : Bool} {BC : MS → Prop}, PLW N K nm m2 lo n2 W b l p p2 sc sc2 X Rf Zf BC → ∀ (d M : Nat) (m3 : MS) (cm : Nat) (wh tk last en : Int32), decide (wh < 0) = true → (∀ j, lo < j → j ≤ n2 → nod m3 j = nod m2 j ∧ m3.2.2.1 21 j = m2.2.2.1 21 j) → Kcc m2 m3 → CPR nm false p p2 sc cm m3 → PK (fun m4 (_ : Int32) => CPO K nm p p2 sc sc2 X W Rf Zf BC cm m3 m4) (hg_Cm_parts N (hrc_Cm_fun N d) M m3 wh tk last en (I ((l.headD 0 : Nat) : Int)))
  | _, _, _, _, _, _, _, _, _, _, _, 0, _, _, _, _, _, _, _, _, _, _ => pk_none
  | [], p, p2, sc, sc2, X, Rf, Zf, BC, ⟨h1, h2, h3, h4, h5, h6⟩, d, M + 1, m3, cm, wh, tk, last, en, _, _, _, cp => by
    subst h1
    subst h2
    subst h3
    subst h4
    subst h5
    show PK _ (hb_Cm_parts_6 N (hrc_Cm_fun N d) (hg_Cm_parts N (hrc_Cm_fun N d) M) m3 wh tk last en 0)
    unfold hb_Cm_parts_6
    rw [show decide ((0 : Int32) = 0) = true from rfl, br_tq]
    refine pk_some (CPO_ok ⟨rfl, h6 m3⟩ ?_)
    rw [Nat.max_eq_left (Nat.zero_le cm), wup_0 (fun j h1 h2 => absurd h2 (by omega))]
    exact CPR_0 cp
  | π :: l, p, p2, sc, sc2, X, Rf, Zf, BC, ⟨q, q1, q2, sc1, e3, t3, X1, X2, X3, R1, R2, R3, Z1, Z2, Z3, B1, B2, B3, h1, g1, ⟨mi, li, ni, hT, hB, hx, hni, hli⟩, h3, h4, h5, hb, h6, h7, h8, h9, h10, s2, s3⟩, d, M + 1, m3, cm, wh, tk, last, en, hw, k1, k2, cp => by
    subst h7
    subst h8
    subst h9
    obtain ⟨a1, a2, a3⟩ := PLW_len h6
    show PK _ (hb_Cm_parts_6 N (hrc_Cm_fun N d) (hg_Cm_parts N (hrc_Cm_fun N d) M) m3 wh tk last en (I (π : Nat)))
    unfold hb_Cm_parts_6
    rw [decide_eq_false (p := I (π : Nat) = 0) (fun z => by have := (I_eq (x := (π : Nat)) (y := 0) (by omega) (by omega) (by omega) (by omega)).mp z; omega), br_fq]
    have kx : KPX lo n2 π m2 m3 := ⟨fun j h0 hj => ⟨(k1 j h0 hj).1, fun _ => (k1 j h0 hj).2⟩, k2⟩
    have kxi := KPX_tr hx kx hni.2 hni.1
    have c706 := cp.2.1.2.2.1
    refine pk_mo (Q := fun u (_ : Int32) => CPO K nm q p2 sc sc2 (max X1 (max X2 X3)) W (R1 || (R2 || R3)) (Z1 || (Z2 || Z3)) (fun m => B1 m ∨ (B2 m ∨ B3 m)) cm m3 u) ?_ (fun v _ qq => CPO_bc (h10 m3) (CPO_ext ⟨h1.1, by omega, Nat.le_refl _⟩ g1 (fun j y1 y2 => absurd y2 (by omega)) qq))
    have sB : STB (fun m => B2 m ∨ B3 m) := fun m v f => by
      show (B2 v ∨ B3 v) ↔ (B2 m ∨ B3 m)
      rw [s2 m v f, s3 m v f]
    refine cpo_bnd (hT d m3 cm wh (by rw [hw]; rfl) kxi (CPR_in cp (by omega))) ⟨h1.2.1, by omega⟩ sB h5.1.2.1 (fun v r9 hv => ?_) (fun v r9 hv hn => ?_)
    · obtain ⟨hS0, hS1, hS2, hS3, hS4, hS5, hS6, hS7, hS8, hS9, hS10, hS11, hS12⟩ := yz_hrc_Cm_fun (u0 := v) (N := N) d
      unfold hb_Cm_parts_38
      repeat' (first | with_reducible assumption | with_reducible refine Kz_br ?_ ?_ | with_reducible refine Kz_bnd ?_ (fun _ _ _ => ?_) | with_reducible refine Kz_ck ?_ | with_reducible refine Kz_ltm ?_ (fun _ _ => ?_) | with_reducible refine Kz_some ?_ | with_reducible exact yz_hm_Cm_notInGuard (by assumption) | with_reducible exact yz_hr_Cm_pattern (by assumption) | with_reducible exact yz_hm_Cm_forget (by assumption) | with_reducible exact yz_hm_Co_arrive (by assumption) | with_reducible exact yz_hm_Cm_funOf (by assumption) | with_reducible exact yz_hm_Co_hook (by assumption) | with_reducible exact yz_hm_Co_put (by assumption) | with_reducible exact yz_hm_Cm_term (by assumption) | with_reducible exact yz_hm_Cm_string (by assumption) | with_reducible exact yz_hm_Co_seek (by assumption) | with_reducible exact yz_hm_Cm_predefinedOf (by assumption) | with_reducible exact yz_hm_Cm_fault (by assumption) | with_reducible exact yz_hm_Cm_joining (by assumption) | with_reducible exact yz_hm_Cm_hold (by assumption) | with_reducible exact yz_hm_Co_set (by assumption) | with_reducible exact yz_hm_Tr_length (by assumption) | with_reducible exact hS0 _ _ (by assumption) | with_reducible exact hS1 _ _ _ (by assumption) | with_reducible exact hS2 _ _ _ _ _ (by assumption) | with_reducible exact hS3 _ _ _ (by assumption) | with_reducible exact hS4 _ _ _ (by assumption) | with_reducible exact hS5 _ _ _ (by assumption) | with_reducible exact hS6 _ _ _ (by assumption) | with_reducible exact hS7 _ _ (by assumption) | with_reducible exact hS8 _ _ (by assumption) | with_reducible exact hS9 _ _ (by assumption) | with_reducible exact hS10 _ _ _ (by assumption) | with_reducible exact hS11 _ _ _ (by assumption) | with_reducible exact hS12 _ _ _ _ (by assumption) | with_reducible exact yz_hg_Cm_apply hS0 hS1 hS2 hS3 hS4 hS5 hS6 hS7 hS8 hS9 hS10 hS11 hS12 _ _ _ _ _ (by assumption) | with_reducible exact yz_hg_Cm_row hS0 hS1 hS2 hS3 hS4 hS5 hS6 hS7 hS8 hS9 hS10 hS11 hS12 _ _ _ (by assumption) | with_reducible exact yz_hg_Cm_signs hS0 hS1 hS2 hS3 hS4 hS5 hS6 hS7 hS8 hS9 hS10 hS11 hS12 _ _ _ _ _ _ _ (by assumption) | with_reducible exact yz_hg_Cm_body hS0 hS1 hS2 hS3 hS4 hS5 hS6 hS7 hS8 hS9 hS10 hS11 hS12 _ _ _ _ (by assumption) | with_reducible exact yz_hg_Cm_parts hS0 hS1 hS2 hS3 hS4 hS5 hS6 hS7 hS8 hS9 hS10 hS11 hS12 _ _ _ _ _ _ _ (by assumption) | with_reducible exact (yz_hg_Cm_tries hS0 hS1 hS2 hS3 hS4 hS5 hS6 hS7 hS8 hS9 hS10 hS11 hS12 _).1 _ _ _ _ _ (by assumption) | with_reducible exact (yz_hg_Cm_tries hS0 hS1 hS2 hS3 hS4 hS5 hS6 hS7 hS8 hS9 hS10 hS11 hS12 _).2 _ _ _ _ (by assumption) | with_reducible refine Kz_ltv (fun _ => ?_) | with_reducible refine Kz_I ?_ (by decide) | with_reducible refine Kz_A ?_ (by decide))
    · have m38 : ∀ w, Kuc v w → PK (fun u (_ : Int32) => CPO K nm q1 p2 sc1 sc2 (max X2 X3) W (R2 || R3) (Z2 || Z3) (fun m => B2 m ∨ B3 m) (max cm X1) v u) (hb_Cm_parts_38 N (hrc_Cm_fun N d) (hg_Cm_parts N (hrc_Cm_fun N d) M) w wh tk last en (I (π : Nat)) (m3.1 706) r9) := fun w f3 => by
        refine pk_mo (Q := fun u (_ : Int32) => CPO K nm q1 p2 sc1 sc2 (max X2 X3) W (R2 || R3) (Z2 || Z3) (fun m => B2 m ∨ B3 m) (max cm X1) w u) ?_ (fun u _ z => CPO_v f3 sB z)
        have hn := NPE_u hn f3
        have fr := hn.2.2.2.2.2.2.2.2
        have cp2 : CPR nm false q1 p2 sc1 (max cm X1) w := CPR_2 (p := q) (p2 := p2) (q := q1) (CPR_in cp (by omega)) hn h5.1.2.1 h5.1.2.2 (by have := cp.2.2.2.2.2.2; omega)
        unfold hb_Cm_parts_38
        rw [tnI (n := π) rfl (by omega)]
        refine pk_ck (fun _ => ?_)
        refine cpo_bnd (hB d w (max cm X1) last (KPX_f kxi fr) (CPR_in cp2 (by omega))) ⟨h1.2.2.1, h1.2.2.2⟩ s3 h5.2.2.1 (fun v r9 hv => ?_) (fun v2 r9 hv2 hn2 => ?_)
        · obtain ⟨hS0, hS1, hS2, hS3, hS4, hS5, hS6, hS7, hS8, hS9, hS10, hS11, hS12⟩ := yz_hrc_Cm_fun (u0 := v) (N := N) d
          repeat' (first | with_reducible assumption | with_reducible refine Kz_br ?_ ?_ | with_reducible refine Kz_bnd ?_ (fun _ _ _ => ?_) | with_reducible refine Kz_ck ?_ | with_reducible refine Kz_ltm ?_ (fun _ _ => ?_) | with_reducible refine Kz_some ?_ | with_reducible exact yz_hm_Cm_notInGuard (by assumption) | with_reducible exact yz_hr_Cm_pattern (by assumption) | with_reducible exact yz_hm_Cm_forget (by assumption) | with_reducible exact yz_hm_Co_arrive (by assumption) | with_reducible exact yz_hm_Cm_funOf (by assumption) | with_reducible exact yz_hm_Co_hook (by assumption) | with_reducible exact yz_hm_Co_put (by assumption) | with_reducible exact yz_hm_Cm_term (by assumption) | with_reducible exact yz_hm_Cm_string (by assumption) | with_reducible exact yz_hm_Co_seek (by assumption) | with_reducible exact yz_hm_Cm_predefinedOf (by assumption) | with_reducible exact yz_hm_Cm_fault (by assumption) | with_reducible exact yz_hm_Cm_joining (by assumption) | with_reducible exact yz_hm_Cm_hold (by assumption) | with_reducible exact yz_hm_Co_set (by assumption) | with_reducible exact yz_hm_Tr_length (by assumption) | with_reducible exact hS0 _ _ (by assumption) | with_reducible exact hS1 _ _ _ (by assumption) | with_reducible exact hS2 _ _ _ _ _ (by assumption) | with_reducible exact hS3 _ _ _ (by assumption) | with_reducible exact hS4 _ _ _ (by assumption) | with_reducible exact hS5 _ _ _ (by assumption) | with_reducible exact hS6 _ _ _ (by assumption) | with_reducible exact hS7 _ _ (by assumption) | with_reducible exact hS8 _ _ (by assumption) | with_reducible exact hS9 _ _ (by assumption) | with_reducible exact hS10 _ _ _ (by assumption) | with_reducible exact hS11 _ _ _ (by assumption) | with_reducible exact hS12 _ _ _ _ (by assumption) | with_reducible exact yz_hg_Cm_apply hS0 hS1 hS2 hS3 hS4 hS5 hS6 hS7 hS8 hS9 hS10 hS11 hS12 _ _ _ _ _ (by assumption) | with_reducible exact yz_hg_Cm_row hS0 hS1 hS2 hS3 hS4 hS5 hS6 hS7 hS8 hS9 hS10 hS11 hS12 _ _ _ (by assumption) | with_reducible exact yz_hg_Cm_signs hS0 hS1 hS2 hS3 hS4 hS5 hS6 hS7 hS8 hS9 hS10 hS11 hS12 _ _ _ _ _ _ _ (by assumption) | with_reducible exact yz_hg_Cm_body hS0 hS1 hS2 hS3 hS4 hS5 hS6 hS7 hS8 hS9 hS10 hS11 hS12 _ _ _ _ (by assumption) | with_reducible exact yz_hg_Cm_parts hS0 hS1 hS2 hS3 hS4 hS5 hS6 hS7 hS8 hS9 hS10 hS11 hS12 _ _ _ _ _ _ _ (by assumption) | with_reducible exact (yz_hg_Cm_tries hS0 hS1 hS2 hS3 hS4 hS5 hS6 hS7 hS8 hS9 hS10 hS11 hS12 _).1 _ _ _ _ _ (by assumption) | with_reducible exact (yz_hg_Cm_tries hS0 hS1 hS2 hS3 hS4 hS5 hS6 hS7 hS8 hS9 hS10 hS11 hS12 _).2 _ _ _ _ (by assumption) | with_reducible refine Kz_ltv (fun _ => ?_) | with_reducible refine Kz_I ?_ (by decide) | with_reducible refine Kz_A ?_ (by decide))
        · have cp3 : CPR nm false q2 p2 (e3 :: t3) (max (max cm X1) X2) v2 := CPR_2 (p := q1) (p2 := p2) (q := q2) cp2 hn2 h5.2.2.1 h5.2.2.2 (by have := cp.2.2.2.2.2.2; omega)
          refine pk_bnd (pk_mo fgt_v (fun w1 _ qw => ?_))
          obtain ⟨w0, kw, rfl⟩ := qw
          have hmk : m3.1 706 = I ((tot t3 + b : Nat) : Int) := by rw [hb.2]; exact c706
          have cp4 := CPR_cut cp3 kw hb.1 hmk
          obtain ⟨z1, z2, z3, z4, z5⟩ := fgt_b (mk := m3.1 706) kw
          generalize upI w0 706 (m3.1 706) = w1 at cp4 z1 z2 z3 z4 z5
          refine pk_bnd (fun w5 r5 x5 => pk_bnd (fun w6 r6 x6 => pk_bnd (fun w7 r7 x7 => pk_ck (fun _ => ?_))))
          have f5 := yu_hm_Co_put (u0 := w1) Ku_rf w5 r5 x5
          have f6 := yu_hm_Co_hook (u0 := w1) f5 w6 r6 x6
          have f7 := yu_hm_Co_arrive (u0 := w1) f6 w7 r7 x7
          have fr7 := FRC_tr (FRC_tr (FRC_tr fr hn2.2.2.2.2.2.2.2.2) z4) (FRC_u f7)
          have k1w := KPX_f kx fr7
          have k1v : ∀ j, lo < j → j ≤ n2 → nod w7 j = nod m2 j ∧ w7.2.2.1 21 j = m2.2.2.1 21 j := fun j h0 hj => by
            refine ⟨(k1w.1 j h0 hj).1, ?_⟩
            rw [fr7.2 21 (by omega)]
            exact (k1 j h0 hj).2
          rw [(k1v π (by omega) h3.2).2, h4]
          refine pk_mo (prt_lp hl h6 d M w7 (max (max cm X1) X2) wh tk last r6 hw k1v k1w.2 (CPR_u cp4 f7)) (fun u _ qu => ?_)
          exact CPO_b (cutS_len) z1 z2 z3 z4 z5 s3 (CPO_v f7 s3 qu)
      exact pk_br (fun _ => m38 v Ku_rf) (fun _ => pk_bnd (fun w1 r1 x1 => m38 w1 (yu_hm_Co_put (u0 := v) Ku_rf w1 r1 x1)))
theorem prt_S {b : Nat} (h : PLW N K nm m1 lo n1 W b l p p2 sc sc2 X Rf Zf BC) (hl : n1 ≤ 8015) (kx : (∀ j, lo < j → j ≤ n1 → nod m3 j = nod m1 j ∧ m3.2.2.1 21 j = m1.2.2.1 21 j) ∧ Kcc m1 m3) (d : Nat) {wh tk last : Int32} (hw : decide (wh < 0) = true) (cp : CPR nm false p p2 sc cm m3) : PK (fun m4 (_ : Int32) => CPO K nm p p2 sc sc2 X W Rf Zf BC cm m3 m4) ((hrc_Cm_fun N d).2.2.1 m3 (I ((l.headD 0 : Nat) : Int)) wh tk last) := by
  cases d with
  | zero => exact pk_none
  | succ d => exact prt_lp hl h d N m3 cm wh tk last 0 hw kx.1 kx.2 cp
theorem exn_if {b : Nat} (hn : nod m2 ν = (I ((10 : Nat) : Int), I (tok : Nat), a, I ((l.headD 0 : Nat) : Int), e)) (htk : tok ≤ 4000) (hlo : lo < ν) (hν : ν ≤ n2) (hl : n2 ≤ 8015) (hq : p ≤ q ∧ q ≤ q2 ∧ q2 ≤ p2) (g1 : ∀ j, p ≤ j → j < q → K j ≠ 3) (g2 : ∀ j, q2 ≤ j → j < p2 → K j ≠ 3) (h : PLW N K nm m1 lo n1 W b l q q2 sc sc2 X Rf Zf BC) (h1 : KPO n1 m1 m2) (hk : Kcc m1 m2) (hn1 : n1 < ν) : EXN N K nm gd m2 lo n2 ν p p2 sc sc2 X W (gd || Rf) Zf BC := by
  refine exn_cmp (k := 10) (by unfold CMK; omega) ⟨by decide, by decide⟩ hn htk hlo hν hl (fun _ d m3 cm last kx cp ee => ?_)
  unfold cmpR hb_Cm_compound_455
  rw [tnI (n := ν) rfl (by omega), ee.1, ee.2.2.2.1]
  refine pk_ck (fun _ => ?_)
  rw [show decide (I ((10 : Nat) : Int) = 8) = false from rfl, br_fq, show decide (I ((10 : Nat) : Int) = 9) = false from rfl, br_fq, show decide (I ((10 : Nat) : Int) = 10) = true from rfl, br_tq]
  refine pk_ck (fun _ => pk_bnd (pk_mo (prt_S h (by omega) (chi_k h1 hk hn1 hν kx) d (wh := -1) rfl (CPR_in cp (by omega))) (fun v _ q => ?_)))
  have q := CPO_ext hq g1 g2 q
  exact pk_bnd (fun w1 r1 x1 => pk_bnd (fun w2 r2 x2 => pk_some (CPO_u (CPO_u q (yu_hm_Co_put (u0 := v) Ku_rf w1 r1 x1)) (yu_hm_Co_arrive (u0 := w1) Ku_rf w2 r2 x2))))
theorem exn_cas {m0 : MS} {n0 l0 b : Nat} (hn : nod m2 ν = (I ((9 : Nat) : Int), I (tok : Nat), I (μ : Nat), I ((l.headD 0 : Nat) : Int), e)) (htk : tok ≤ 4000) (hlo : lo < ν) (hν : ν ≤ n2) (hl : n2 ≤ 8015) (hq : p ≤ q ∧ q ≤ q2 ∧ q2 ≤ q3 ∧ q3 ≤ q4 ∧ q4 ≤ p2) (g1 : ∀ j, p ≤ j → j < q → K j ≠ 3) (g3 : ∀ j, q2 ≤ j → j < q3 → K j ≠ 3) (g2 : ∀ j, q4 ≤ j → j < p2 → K j ≠ 3) (h : EXN N K nm false m0 l0 n0 μ q q2 sc sc1 X1 W R1 Z1 B1) (hl0 : lo ≤ l0) (h01 : KPO n0 m0 m2) (hk0 : Kcc m0 m2) (hn0 : n0 < ν) (h' : PLW N K nm m1 li n1 W b l q3 q4 sc1 sc2 X2 R2 Z2 B2) (hli : lo ≤ li) (h1 : KPO n1 m1 m2) (hk : Kcc m1 m2) (hn1 : n1 < ν) (s2 : STB B2) (ht : tot sc1 ≤ tot sc + (q2 - q) ∧ sc1.length = sc.length ∧ X1 ≤ 1400) : EXN N K nm gd m2 lo n2 ν p p2 sc sc2 (max X1 X2) W (gd || (R1 || R2)) (Z1 || Z2) (fun m => B1 m ∨ B2 m) := by
  refine exn_cmp (k := 9) (by unfold CMK; omega) ⟨by decide, by decide⟩ hn htk hlo hν hl (fun _ d m3 cm last kx cp ee => ?_)
  unfold cmpR hb_Cm_compound_455
  rw [tnI (n := ν) rfl (by omega), ee.1, ee.2.2.1]
  refine pk_ck (fun _ => ?_)
  rw [show decide (I ((9 : Nat) : Int) = 8) = false from rfl, br_fq, show decide (I ((9 : Nat) : Int) = 9) = true from rfl, br_tq]
  refine pk_ck (fun _ => ?_)
  refine pk_mo (Q := fun u (_ : Unit) => CPO K nm q q4 sc sc2 (max X1 X2) W (R1 || R2) (Z1 || Z2) (fun m => B1 m ∨ B2 m) cm m3 u) ?_ (fun v _ qq => CPO_ext ⟨hq.1, by omega, hq.2.2.2.2⟩ g1 g2 qq)
  refine cpo_bnd (h d m3 cm 0 (KPX_di h01 hk0 kx (by omega) hn0 hl0) (CPR_in cp (by omega))) ⟨hq.2.1, by omega⟩ s2 ht.2.1 (fun v r9 hv => ?_) (fun v r9 hv hn => ?_)
  · obtain ⟨hS0, hS1, hS2, hS3, hS4, hS5, hS6, hS7, hS8, hS9, hS10, hS11, hS12⟩ := yz_hrc_Cm_fun (u0 := v) (N := N) d
    repeat' (first | with_reducible assumption | with_reducible refine Kz_br ?_ ?_ | with_reducible refine Kz_bnd ?_ (fun _ _ _ => ?_) | with_reducible refine Kz_ck ?_ | with_reducible refine Kz_ltm ?_ (fun _ _ => ?_) | with_reducible refine Kz_some ?_ | with_reducible exact yz_hm_Cm_notInGuard (by assumption) | with_reducible exact yz_hr_Cm_pattern (by assumption) | with_reducible exact yz_hm_Cm_forget (by assumption) | with_reducible exact yz_hm_Co_arrive (by assumption) | with_reducible exact yz_hm_Cm_funOf (by assumption) | with_reducible exact yz_hm_Co_hook (by assumption) | with_reducible exact yz_hm_Co_put (by assumption) | with_reducible exact yz_hm_Cm_term (by assumption) | with_reducible exact yz_hm_Cm_string (by assumption) | with_reducible exact yz_hm_Co_seek (by assumption) | with_reducible exact yz_hm_Cm_predefinedOf (by assumption) | with_reducible exact yz_hm_Cm_fault (by assumption) | with_reducible exact yz_hm_Cm_joining (by assumption) | with_reducible exact yz_hm_Cm_hold (by assumption) | with_reducible exact yz_hm_Co_set (by assumption) | with_reducible exact yz_hm_Tr_length (by assumption) | with_reducible exact hS0 _ _ (by assumption) | with_reducible exact hS1 _ _ _ (by assumption) | with_reducible exact hS2 _ _ _ _ _ (by assumption) | with_reducible exact hS3 _ _ _ (by assumption) | with_reducible exact hS4 _ _ _ (by assumption) | with_reducible exact hS5 _ _ _ (by assumption) | with_reducible exact hS6 _ _ _ (by assumption) | with_reducible exact hS7 _ _ (by assumption) | with_reducible exact hS8 _ _ (by assumption) | with_reducible exact hS9 _ _ (by assumption) | with_reducible exact hS10 _ _ _ (by assumption) | with_reducible exact hS11 _ _ _ (by assumption) | with_reducible exact hS12 _ _ _ _ (by assumption) | with_reducible exact yz_hg_Cm_apply hS0 hS1 hS2 hS3 hS4 hS5 hS6 hS7 hS8 hS9 hS10 hS11 hS12 _ _ _ _ _ (by assumption) | with_reducible exact yz_hg_Cm_row hS0 hS1 hS2 hS3 hS4 hS5 hS6 hS7 hS8 hS9 hS10 hS11 hS12 _ _ _ (by assumption) | with_reducible exact yz_hg_Cm_signs hS0 hS1 hS2 hS3 hS4 hS5 hS6 hS7 hS8 hS9 hS10 hS11 hS12 _ _ _ _ _ _ _ (by assumption) | with_reducible exact yz_hg_Cm_body hS0 hS1 hS2 hS3 hS4 hS5 hS6 hS7 hS8 hS9 hS10 hS11 hS12 _ _ _ _ (by assumption) | with_reducible exact yz_hg_Cm_parts hS0 hS1 hS2 hS3 hS4 hS5 hS6 hS7 hS8 hS9 hS10 hS11 hS12 _ _ _ _ _ _ _ (by assumption) | with_reducible exact (yz_hg_Cm_tries hS0 hS1 hS2 hS3 hS4 hS5 hS6 hS7 hS8 hS9 hS10 hS11 hS12 _).1 _ _ _ _ _ (by assumption) | with_reducible exact (yz_hg_Cm_tries hS0 hS1 hS2 hS3 hS4 hS5 hS6 hS7 hS8 hS9 hS10 hS11 hS12 _).2 _ _ _ _ (by assumption) | with_reducible refine Kz_ltv (fun _ => ?_) | with_reducible refine Kz_I ?_ (by decide) | with_reducible refine Kz_A ?_ (by decide))
  · have fr := hn.2.2.2.2.2.2.2.2
    refine pk_ck (fun _ => ?_)
    rw [fr.2 19 (by omega), ee.2.2.2.1]
    have kc := chi_k h1 hk hn1 hν (KPX_f kx fr)
    refine pk_bnd (pk_mo (prt_S h' (by omega) ⟨fun j u1 u2 => kc.1 j (by omega) u2, kc.2⟩ d (wh := -1) rfl (CPR_in (CPR_2 (p := q) (p2 := q4) (q := q2) (CPR_in cp (by omega)) hn ht.2.1 ht.2.2 (by have := cp.2.2.2.2.2.2; omega)) (by omega))) (fun w _ qw => ?_))
    have qw := CPO_ext ⟨hq.2.2.1, hq.2.2.2.1, Nat.le_refl _⟩ g3 (fun j y1 y2 => absurd y2 (by omega)) qw
    exact pk_bnd (fun w1 r1 x1 => pk_bnd (fun w2 r2 x2 => pk_some (CPO_u (CPO_u qw (yu_hm_Co_put (u0 := w) Ku_rf w1 r1 x1)) (yu_hm_Co_arrive (u0 := w1) Ku_rf w2 r2 x2))))
end
end
section
set_option maxRecDepth 100000
def CPA (nm : Nat → Nat) (s : Nat) (sc2 : SCT) (c2 : Nat) (G : (Nat → Int32) → (Nat → Int32)) (Rf Zf : Bool) (BC : MS → Prop) (m v : MS) : Prop := ((Rf = true ∨ BC m) ∧ v.1 714 < 1000000000 ∧ FRC m v) ∨ ((Rf = false ∧ ¬ BC m) ∧ NPE nm s sc2 c2 (G (m.2.2.1 42)) Zf m v)
section
variable {m v u m1 m2 m3 mi : MS} {K nm W : Nat → Nat} {sc sc1 sc2 sc3 t t2 : SCT} {e0 e2 : List Nat × List Nat × Nat} {s x y N i f tok cm cm2 c1 c2 p p2 q q2 q3 q4 q5 q6 n1 n2 n3 ν μ π lo li ni X X1 X2 k : Nat} {gd Zf Rf R1 R2 Z1 Z2 own : Bool} {g : Nat → Int32} {G G1 G2 : (Nat → Int32) → (Nat → Int32)} {B1 B2 BC : MS → Prop} {a b c e f : Int32} {l lp lg lb : List Nat} {S : SF_Cm_fun}
theorem CPA_of (h : CPO K nm p p2 sc sc2 X W Rf Zf BC cm m v) : CPA nm (sc.length - 1) sc2 (max cm X) (fun g => wup g K W p p2) Rf Zf BC m v := h
theorem CPA_z (h : (Rf = true ∨ BC m) ∧ v.1 714 < 1000000000 ∧ FRC m v) (k : Kzc v u) : CPA nm s sc2 c2 G Rf Zf BC m u := Or.inl ⟨h.1, k.1, FRC_tr h.2.2 k.2⟩
theorem CPA_u (h : CPA nm s sc2 c2 G Rf Zf BC m v) (k : Kuc v u) : CPA nm s sc2 c2 G Rf Zf BC m u := by
  rcases h with ⟨h1, h2, h3⟩ | ⟨h1, h2⟩
  · exact Or.inl ⟨h1, Ku_s h2 k, FRC_tr h3 (FRC_u k)⟩
  · exact Or.inr ⟨h1, NPE_u h2 k⟩
theorem CPA_v (k : Kuc m v) (hb : STB BC) (h : CPA nm s sc2 c2 G Rf Zf BC v u) : CPA nm s sc2 c2 G Rf Zf BC m u := by
  have e := hb m v (FRC_u k)
  rcases h with ⟨h1, h2, h3⟩ | ⟨h1, h2⟩
  · exact Or.inl ⟨h1.elim Or.inl (fun z => Or.inr (e.mp z)), h2, FRC_tr (FRC_u k) h3⟩
  · obtain ⟨a1, a2, a3, a4, a5, a6, a7, a8, a9⟩ := h2
    exact Or.inr ⟨⟨h1.1, fun z => h1.2 (e.mpr z)⟩, a1, a2, fun j hj => by rw [a3 j hj, k.2.1 41 (by decide)], by rw [a4, k.2.1 42 (by decide)], C11_b a5 k.2.2 (k.1 711 (by decide)), by rw [a6, k.1 714 (by decide)], by rw [a7, k.1 712 (by decide)], by rw [a8, k.1 713 (by decide)], FRC_tr (FRC_u k) a9⟩
theorem CPA_b (i : ∀ k, k ∈ [711, 712, 713, 714] → v.1 k = m.1 k) (r41 : v.2.2.1 41 = m.2.2.1 41) (r42 : v.2.2.1 42 = m.2.2.1 42) (fr : FRC m v) (mo : m.1 441 ≤ v.1 441) (sB : STB BC) (h : CPA nm s sc2 c2 G Rf Zf BC v u) : CPA nm s sc2 c2 G Rf Zf BC m u := by
  have e := sB m v fr
  rcases h with ⟨h1, h2, h3⟩ | ⟨h1, h2⟩
  · exact Or.inl ⟨h1.elim Or.inl (fun z => Or.inr (e.mp z)), h2, FRC_tr fr h3⟩
  · obtain ⟨a1, a2, a3, a4, a5, a6, a7, a8, a9⟩ := h2
    exact Or.inr ⟨⟨h1.1, fun z => h1.2 (e.mpr z)⟩, a1, a2, fun j hj => by rw [a3 j hj, r41], by rw [a4, r42], C11_b a5 mo (i 711 (by decide)), by rw [a6, i 714 (by decide)], by rw [a7, i 712 (by decide)], by rw [a8, i 713 (by decide)], FRC_tr fr a9⟩
theorem cpa_fgt {b : Nat} {mk : Int32} (h : CPA nm s (e2 :: t2) c2 G Rf Zf BC m v) (hb : b ≤ e2.1.length) (hm : mk = I ((tot t2 + b : Nat) : Int)) : PK (fun u (_ : Unit) => CPA nm s (cutS b (e2 :: t2)) c2 G Rf Zf BC m u) (hm_Cm_forget N v mk) := by
  refine pk_mo fgt_v (fun u _ q => ?_)
  obtain ⟨w, kw, rfl⟩ := q
  rcases CPA_u h kw with ⟨h1, h2, h3⟩ | ⟨h1, h2⟩
  · exact Or.inl ⟨h1, by rw [upI_ne (by decide)]; exact h2, ⟨fun k hk => by rw [upI_ne (by omega)]; exact h3.1 k hk, h3.2⟩⟩
  · exact Or.inr ⟨h1, NPE_cut h2 hb hm⟩
theorem cpa_bnd {α β : Type} {o : Option (MS × α)} {f : MS → α → Option (MS × β)} (h1 : PK (fun v _ => CPA nm s sc1 c1 G1 R1 Z1 B1 m v) o) (s2 : STB B2) (hz : ∀ v r, Kzc v v → KzE v (f v r)) (h2 : ∀ v r, o = some (v, r) → NPE nm s sc1 c1 (G1 (m.2.2.1 42)) Z1 m v → PK (fun u _ => CPA nm s sc2 c2 G2 R2 Z2 B2 v u) (f v r)) : PK (fun u _ => CPA nm s sc2 c2 (fun g => G2 (G1 g)) (R1 || R2) (Z1 || Z2) (fun m => B1 m ∨ B2 m) m u) (bnd o f) := by
  refine pk_bnd (fun v r e => ?_)
  rcases h1 v r e with ⟨hf, hs, hr⟩ | ⟨⟨hf, hb⟩, hn⟩
  · refine pk_mo (fun u r2 e2 => hz v r ⟨hs, FRC_rf⟩ u r2 e2) (fun u _ z => ?_)
    refine CPA_z (v := v) ⟨?_, hs, hr⟩ z
    rcases hf with hf | hf
    · exact Or.inl (by rw [hf]; rfl)
    · exact Or.inr (Or.inl hf)
  · have fr := hn.2.2.2.2.2.2.2.2
    refine pk_mo (h2 v r e hn) (fun u _ qu => ?_)
    rcases qu with ⟨qf2, qs2, qr2⟩ | ⟨⟨qf2, qb2⟩, qn2⟩
    · refine Or.inl ⟨?_, qs2, FRC_tr fr qr2⟩
      rcases qf2 with z | z
      · exact Or.inl (by rw [z]; simp)
      · exact Or.inr (Or.inr ((s2 m v fr).mp z))
    · refine Or.inr ⟨⟨by rw [hf, qf2]; rfl, fun z => ?_⟩, ?_⟩
      · rcases z with z | z
        · exact hb z
        · exact qb2 ((s2 m v fr).mpr z)
      · rw [hn.2.2.2.1] at qn2
        exact NPE_tr hn qn2
theorem STB_or (h1 : STB B1) (h2 : STB B2) : STB (fun m => B1 m ∨ B2 m) := fun m v f => by
  show (B1 v ∨ B2 v) ↔ (B1 m ∨ B2 m)
  rw [h1 m v f, h2 m v f]
theorem exn_rc0 {b : Nat} (hn : nod m2 ν = (I ((11 : Nat) : Int), I (tok : Nat), I ((0 : Nat) : Int), I ((l.headD 0 : Nat) : Int), e)) (htk : tok ≤ 4000) (hlo : lo < ν) (hν : ν ≤ n2) (hl : n2 ≤ 8015) (hq : p ≤ q ∧ q ≤ q2 ∧ q2 ≤ p2) (g1 : ∀ j, p ≤ j → j < q → K j ≠ 3) (g2 : ∀ j, q2 ≤ j → j < p2 → K j ≠ 3) (h : PLW N K nm m1 lo n1 W b l q q2 sc sc2 X Rf Zf BC) (h1 : KPO n1 m1 m2) (hk : Kcc m1 m2) (hn1 : n1 < ν) (sB : STB BC) : EXN N K nm gd m2 lo n2 ν p p2 sc sc2 X W (gd || Rf) Zf BC := by
  refine exn_cmp (k := 11) (by unfold CMK; omega) ⟨by decide, by decide⟩ hn htk hlo hν hl (fun _ d m3 cm last kx cp ee => ?_)
  unfold cmpR hb_Cm_compound_455
  rw [tnI (n := ν) rfl (by omega), ee.1]
  refine pk_ck (fun _ => ?_)
  rw [show decide (I ((11 : Nat) : Int) = 8) = false from rfl, br_fq, show decide (I ((11 : Nat) : Int) = 9) = false from rfl, br_fq, show decide (I ((11 : Nat) : Int) = 10) = false from rfl, br_fq, show decide (I ((11 : Nat) : Int) = 11) = true from rfl, br_tq]
  cases d with
  | zero => exact pk_none
  | succ d =>
    refine pk_bnd ?_
    show PK _ (hm_Cm_receive N (hrc_Cm_fun N d) m3 (I (ν : Nat)) last)
    refine pk_mo (Q := fun u (_ : Unit) => CPO K nm p p2 sc sc2 X W Rf Zf BC cm m3 u) ?_ (fun v _ q => pk_some q)
    unfold hm_Cm_receive hb_Cm_receive_0 hb_Cm_receive_22 hb_Cm_receive_48 hb_Cm_receive_71 hb_Cm_receive_173
    rw [tnI (n := ν) rfl (by omega), ee.2.2.1, show decide (I ((0 : Nat) : Int) = 0) = true from rfl, br_tq, show decide ((0 : Int32) = 0) = true from rfl, br_tq]
    simp only [br_tq]
    refine pk_ck (fun _ => pk_bnd (fun w0 r0 x0 => pk_bnd (fun w1 r1 x1 => pk_bnd (fun w2 r2 x2 => pk_bnd (fun w3 r3 x3 => pk_ck (fun _ => ?_))))))
    have f0 := yu_hm_Co_put (u0 := m3) Ku_rf w0 r0 x0
    have f1 := yu_hm_Co_put (u0 := m3) f0 w1 r1 x1
    have f2 := yu_hm_Co_put (u0 := m3) f1 w2 r2 x2
    have f3 := yu_hm_Co_hook (u0 := m3) f2 w3 r3 x3
    rw [f3.2.1 19 (by decide), ee.2.2.2.1]
    refine pk_bnd (pk_mo (prt_S h (by omega) (chi_k h1 hk hn1 hν (KPX_f kx (FRC_u f3))) d (wh := -2) rfl (CPR_u (CPR_in cp (by omega)) f3)) (fun v _ q => ?_))
    have q := CPO_v f3 sB (CPO_ext hq g1 g2 q)
    refine pk_bnd (fun w4 r4 x4 => pk_bnd (fun w5 r5 x5 => pk_bnd (fun w6 r6 x6 => pk_bnd (fun w7 r7 x7 => pk_some ?_))))
    have f4 := yu_hm_Co_put (u0 := v) Ku_rf w4 r4 x4
    have f5 := yu_hm_Co_put (u0 := v) f4 w5 r5 x5
    have f6 := yu_hm_Co_arrive (u0 := v) f5 w6 r6 x6
    have f7 := yu_hm_Co_arrive (u0 := v) f6 w7 r7 x7
    exact CPO_u q f7
theorem exn_rc1 {mt mb : MS} {nt lt' nb lb' Xt X3 : Nat} {et e3 : List Nat × List Nat × Nat} {tt t3 : SCT} {Rt Zt R3 Z3 : Bool} {Bt B3 : MS → Prop} (hn : nod m2 ν = (I ((11 : Nat) : Int), I (tok : Nat), I (μ : Nat), I ((l.headD 0 : Nat) : Int), I ((lb.headD 0 : Nat) : Int))) (hμ : 1 ≤ μ ∧ μ ≤ n2) (htk : tok ≤ 4000) (hlo : lo < ν) (hν : ν ≤ n2) (hl : n2 ≤ 8015) (hq : p ≤ q ∧ q ≤ q2 ∧ q2 ≤ q3 ∧ q3 ≤ q4 ∧ q4 ≤ q5 ∧ q5 ≤ q6 ∧ q6 ≤ p2) (g1 : ∀ j, p ≤ j → j < q → K j ≠ 3) (g3 : ∀ j, q2 ≤ j → j < q3 → K j ≠ 3) (g4 : ∀ j, q4 ≤ j → j < q5 → K j ≠ 3) (g2 : ∀ j, q6 ≤ j → j < p2 → K j ≠ 3) (h : PLW N K nm m1 li n1 W e0.1.length l q q2 (e0 :: t) sc1 X1 R1 Z1 B1) (hli : lo ≤ li) (h1 : KPO n1 m1 m2) (hk : Kcc m1 m2) (hn1 : n1 < ν) (s1 : STB B1) (hm1 : nms sc1 = nms (e0 :: t)) (hX1 : X1 ≤ 1400) (hT : EXN N K nm false mt lt' nt μ q3 q4 sc1 (et :: tt) Xt W Rt Zt Bt) (hlt : lo ≤ lt') (ht1 : KPO nt mt m2) (htk2 : Kcc mt m2) (hnt : nt < ν) (hXt : Xt ≤ 1400) (hbt : e0.1.length ≤ et.1.length ∧ tot tt + e0.1.length = tot (e0 :: t)) (hmt : nms (cutS e0.1.length (et :: tt)) = nms (e0 :: t)) (htt : tot (et :: tt) ≤ tot sc1 + (q4 - q3) ∧ (et :: tt).length = sc1.length) (hB : ERW N K nm false mb lb' nb W lb q5 q6 (cutS e0.1.length (et :: tt)) (e3 :: t3) X3 R3 Z3 B3) (hlb : lo ≤ lb') (hb1 : KPO nb mb m2) (hbk : Kcc mb m2) (hnb : nb < ν) (s3 : STB B3) (hb3 : e0.1.length ≤ e3.1.length ∧ tot t3 + e0.1.length = tot (e0 :: t)) : EXN N K nm gd m2 lo n2 ν p p2 (e0 :: t) (cutS e0.1.length (e3 :: t3)) (max Xt (max X1 X3)) W (gd || (Rt || (R1 || R3))) (Zt || (Z1 || Z3)) (fun m => Bt m ∨ (B1 m ∨ B3 m)) := by
  refine exn_cmp (k := 11) (by unfold CMK; omega) ⟨by decide, by decide⟩ hn htk hlo hν hl (fun _ d m3 cm last kx cp ee => ?_)
  unfold cmpR hb_Cm_compound_455
  rw [tnI (n := ν) rfl (by omega), ee.1]
  refine pk_ck (fun _ => ?_)
  rw [show decide (I ((11 : Nat) : Int) = 8) = false from rfl, br_fq, show decide (I ((11 : Nat) : Int) = 9) = false from rfl, br_fq, show decide (I ((11 : Nat) : Int) = 10) = false from rfl, br_fq, show decide (I ((11 : Nat) : Int) = 11) = true from rfl, br_tq]
  have sl1 := nms_len hm1
  have stt := nms_len hmt
  have tl1 := nms_tot hm1
  have tlt := nms_tot hmt
  obtain ⟨i1, i2, i3⟩ := ERW_len hB
  rw [cutS_len] at stt
  cases d with
  | zero => exact pk_none
  | succ d =>
    refine pk_bnd ?_
    show PK _ (hm_Cm_receive N (hrc_Cm_fun N d) m3 (I (ν : Nat)) last)
    have c706 := cp.2.1.2.2.1
    refine pk_mo (Q := fun u (_ : Unit) => CPA nm ((e0 :: t).length - 1) (cutS e0.1.length (e3 :: t3)) (max (max (max cm Xt) X1) X3) (fun g => wup (wup (wup g K W q3 q4) K W q q2) K W q5 q6) (Rt || (R1 || R3)) (Zt || (Z1 || Z3)) (fun m => Bt m ∨ (B1 m ∨ B3 m)) m3 u) ?_ (fun v _ qq => pk_some ?_)
    rotate_left
    · have eG : (fun g => wup (wup (wup g K W q3 q4) K W q q2) K W q5 q6) (m3.2.2.1 42) = wup (m3.2.2.1 42) K W p p2 := by
        show wup (wup (wup (m3.2.2.1 42) K W q3 q4) K W q q2) K W q5 q6 = _
        rw [wup_sw (g := m3.2.2.1 42) (p := q) (q := q2) (q2 := q3) (p2 := q4) hq.2.1 hq.2.2.1 hq.2.2.2.1 g3, wup_ext (p := p) (q := q) (q2 := q6) (p2 := p2) ⟨hq.1, by omega, hq.2.2.2.2.2.2⟩ g1 g2, ← wup_tr (p := q) (q := q4) (p2 := q6) (by omega) (by omega), wup_ext (p := q4) (q := q5) (q2 := q6) (p2 := q6) ⟨hq.2.2.2.2.1, hq.2.2.2.2.2.1, Nat.le_refl _⟩ g4 (fun j y1 y2 => absurd y2 (by omega))]
      unfold CPA at qq
      rw [eG, show max (max (max cm Xt) X1) X3 = max cm (max Xt (max X1 X3)) by omega] at qq
      exact qq
    unfold hm_Cm_receive hb_Cm_receive_0 hb_Cm_receive_22
    rw [tnI (n := ν) rfl (by omega), ee.2.2.1, decide_eq_false (p := I (μ : Nat) = 0) (fun z => by have := (I_eq (x := (μ : Nat)) (y := 0) (by omega) (by omega) (by omega) (by omega)).mp z; omega), br_fq, show decide ((1 : Int32) = 0) = false from rfl, br_fq]
    refine pk_ck (fun _ => pk_ck (fun _ => ?_))
    have cpT := CPR_nm hm1.symm (CPR_in (q := q3) (q2 := q4) cp (by omega))
    refine cpa_bnd (c1 := max cm Xt) (G1 := fun g => wup g K W q3 q4) (G2 := fun g => wup (wup g K W q q2) K W q5 q6) (sc1 := et :: tt) (pk_mo (hT d m3 cm 0 (KPX_di ht1 htk2 kx (by omega) hnt hlt) cpT) (fun v _ z => ?_)) (STB_or s1 s3) (fun v r9 hv => ?_) (fun v r9 hv hn => ?_)
    · have z := CPA_of z
      rw [sl1] at z
      exact z
    · obtain ⟨hS0, hS1, hS2, hS3, hS4, hS5, hS6, hS7, hS8, hS9, hS10, hS11, hS12⟩ := yz_hrc_Cm_fun (u0 := v) (N := N) d
      unfold hb_Cm_receive_48 hb_Cm_receive_71 hb_Cm_receive_173
      repeat' (first | with_reducible assumption | with_reducible refine Kz_br ?_ ?_ | with_reducible refine Kz_bnd ?_ (fun _ _ _ => ?_) | with_reducible refine Kz_ck ?_ | with_reducible refine Kz_ltm ?_ (fun _ _ => ?_) | with_reducible refine Kz_some ?_ | with_reducible exact yz_hm_Cm_notInGuard (by assumption) | with_reducible exact yz_hr_Cm_pattern (by assumption) | with_reducible exact yz_hm_Cm_forget (by assumption) | with_reducible exact yz_hm_Co_arrive (by assumption) | with_reducible exact yz_hm_Cm_funOf (by assumption) | with_reducible exact yz_hm_Co_hook (by assumption) | with_reducible exact yz_hm_Co_put (by assumption) | with_reducible exact yz_hm_Cm_term (by assumption) | with_reducible exact yz_hm_Cm_string (by assumption) | with_reducible exact yz_hm_Co_seek (by assumption) | with_reducible exact yz_hm_Cm_predefinedOf (by assumption) | with_reducible exact yz_hm_Cm_fault (by assumption) | with_reducible exact yz_hm_Cm_joining (by assumption) | with_reducible exact yz_hm_Cm_hold (by assumption) | with_reducible exact yz_hm_Co_set (by assumption) | with_reducible exact yz_hm_Tr_length (by assumption) | with_reducible exact hS0 _ _ (by assumption) | with_reducible exact hS1 _ _ _ (by assumption) | with_reducible exact hS2 _ _ _ _ _ (by assumption) | with_reducible exact hS3 _ _ _ (by assumption) | with_reducible exact hS4 _ _ _ (by assumption) | with_reducible exact hS5 _ _ _ (by assumption) | with_reducible exact hS6 _ _ _ (by assumption) | with_reducible exact hS7 _ _ (by assumption) | with_reducible exact hS8 _ _ (by assumption) | with_reducible exact hS9 _ _ (by assumption) | with_reducible exact hS10 _ _ _ (by assumption) | with_reducible exact hS11 _ _ _ (by assumption) | with_reducible exact hS12 _ _ _ _ (by assumption) | with_reducible exact yz_hg_Cm_apply hS0 hS1 hS2 hS3 hS4 hS5 hS6 hS7 hS8 hS9 hS10 hS11 hS12 _ _ _ _ _ (by assumption) | with_reducible exact yz_hg_Cm_row hS0 hS1 hS2 hS3 hS4 hS5 hS6 hS7 hS8 hS9 hS10 hS11 hS12 _ _ _ (by assumption) | with_reducible exact yz_hg_Cm_signs hS0 hS1 hS2 hS3 hS4 hS5 hS6 hS7 hS8 hS9 hS10 hS11 hS12 _ _ _ _ _ _ _ (by assumption) | with_reducible exact yz_hg_Cm_body hS0 hS1 hS2 hS3 hS4 hS5 hS6 hS7 hS8 hS9 hS10 hS11 hS12 _ _ _ _ (by assumption) | with_reducible exact yz_hg_Cm_parts hS0 hS1 hS2 hS3 hS4 hS5 hS6 hS7 hS8 hS9 hS10 hS11 hS12 _ _ _ _ _ _ _ (by assumption) | with_reducible exact (yz_hg_Cm_tries hS0 hS1 hS2 hS3 hS4 hS5 hS6 hS7 hS8 hS9 hS10 hS11 hS12 _).1 _ _ _ _ _ (by assumption) | with_reducible exact (yz_hg_Cm_tries hS0 hS1 hS2 hS3 hS4 hS5 hS6 hS7 hS8 hS9 hS10 hS11 hS12 _).2 _ _ _ _ (by assumption) | with_reducible refine Kz_ltv (fun _ => ?_) | with_reducible refine Kz_I ?_ (by decide) | with_reducible refine Kz_A ?_ (by decide))
    have hn' : NPE nm (sc1.length - 1) (et :: tt) (max cm Xt) (wup (m3.2.2.1 42) K W q3 q4) Zt m3 v := by rw [sl1]; exact hn
    have cpv : CPR nm false q4 q4 (et :: tt) (max cm Xt) v := CPR_2 (p := q3) (p2 := q4) (q := q4) cpT hn' htt.2 hXt (by have := cp.2.2.2.2.2.2; omega)
    refine pk_bnd (pk_mo fgt_v (fun w1 _ qw => ?_))
    obtain ⟨w0, kw, rfl⟩ := qw
    have cpc := CPR_cut (mk := m3.1 706) cpv kw hbt.1 (by rw [hbt.2]; exact c706)
    obtain ⟨z1, z2, z3, z4, z5⟩ := fgt_b (mk := m3.1 706) kw
    have nec : NPE nm ((e0 :: t).length - 1) (cutS e0.1.length (et :: tt)) (max cm Xt) (wup (m3.2.2.1 42) K W q3 q4) Zt m3 (upI w0 706 (m3.1 706)) := NPE_cut (NPE_u hn kw) hbt.1 (by rw [hbt.2]; exact c706)
    generalize upI w0 706 (m3.1 706) = w1 at cpc z1 z2 z3 z4 z5 nec
    refine pk_mo (Q := fun u (_ : Unit) => CPA nm ((e0 :: t).length - 1) (cutS e0.1.length (e3 :: t3)) (max (max (max cm Xt) X1) X3) (fun g => wup (wup g K W q q2) K W q5 q6) (R1 || R3) (Z1 || Z3) (fun m => B1 m ∨ B3 m) w1 u) ?_ (fun u _ z => CPA_b z1 z2 z3 z4 z5 (STB_or s1 s3) z)
    unfold hb_Cm_receive_48 hb_Cm_receive_71 hb_Cm_receive_173
    rw [show decide ((1 : Int32) = 0) = false from rfl]
    simp only [br_fq]
    refine pk_bnd (fun w2 r2 x2 => pk_bnd (fun w3 r3 x3 => pk_bnd (fun w4 r4 x4 => pk_bnd (fun w5 r5 x5 => pk_ck (fun _ => ?_)))))
    have f2 := yu_hm_Co_put (u0 := w1) Ku_rf w2 r2 x2
    have f3 := yu_hm_Co_put (u0 := w1) f2 w3 r3 x3
    have f4 := yu_hm_Co_put (u0 := w1) f3 w4 r4 x4
    have f5 := yu_hm_Co_hook (u0 := w1) f4 w5 r5 x5
    have fr1 := nec.2.2.2.2.2.2.2.2
    have fr5 := FRC_tr fr1 (FRC_u f5)
    rw [tnI (n := ν) rfl (by omega), fr5.2 19 (by omega), ee.2.2.2.1]
    refine pk_mo (Q := fun u (_ : Unit) => CPA nm ((e0 :: t).length - 1) (cutS e0.1.length (e3 :: t3)) (max (max (max cm Xt) X1) X3) (fun g => wup (wup g K W q q2) K W q5 q6) (R1 || R3) (Z1 || Z3) (fun m => B1 m ∨ B3 m) w5 u) ?_ (fun u _ z => CPA_v f5 (STB_or s1 s3) z)
    have cp5 : CPR nm false q q2 (e0 :: t) (max cm Xt) w5 := by
      have c := CPR_u cpc f5
      exact ⟨c.1, CNs_nm hmt c.2.1, by rw [← nms_len hmt]; exact c.2.2.1, c.2.2.2.1, c.2.2.2.2.1, c.2.2.2.2.2.1, by have := cp.2.2.2.2.2.2; omega⟩
    have kc5 := chi_k h1 hk hn1 hν (KPX_f kx fr5)
    refine cpa_bnd (c1 := max (max cm Xt) X1) (G1 := fun g => wup g K W q q2) (G2 := fun g => wup g K W q5 q6) (sc1 := sc1) (pk_mo (prt_S h (by omega) ⟨fun j u1 u2 => kc5.1 j (by omega) u2, kc5.2⟩ d (wh := -2) rfl cp5) (fun v _ z => CPA_of z)) s3 (fun v r9 hv => ?_) (fun v r9 hv hn2 => ?_)
    · obtain ⟨hS0, hS1, hS2, hS3, hS4, hS5, hS6, hS7, hS8, hS9, hS10, hS11, hS12⟩ := yz_hrc_Cm_fun (u0 := v) (N := N) d
      repeat' (first | with_reducible assumption | with_reducible refine Kz_br ?_ ?_ | with_reducible refine Kz_bnd ?_ (fun _ _ _ => ?_) | with_reducible refine Kz_ck ?_ | with_reducible refine Kz_ltm ?_ (fun _ _ => ?_) | with_reducible refine Kz_some ?_ | with_reducible exact yz_hm_Cm_notInGuard (by assumption) | with_reducible exact yz_hr_Cm_pattern (by assumption) | with_reducible exact yz_hm_Cm_forget (by assumption) | with_reducible exact yz_hm_Co_arrive (by assumption) | with_reducible exact yz_hm_Cm_funOf (by assumption) | with_reducible exact yz_hm_Co_hook (by assumption) | with_reducible exact yz_hm_Co_put (by assumption) | with_reducible exact yz_hm_Cm_term (by assumption) | with_reducible exact yz_hm_Cm_string (by assumption) | with_reducible exact yz_hm_Co_seek (by assumption) | with_reducible exact yz_hm_Cm_predefinedOf (by assumption) | with_reducible exact yz_hm_Cm_fault (by assumption) | with_reducible exact yz_hm_Cm_joining (by assumption) | with_reducible exact yz_hm_Cm_hold (by assumption) | with_reducible exact yz_hm_Co_set (by assumption) | with_reducible exact yz_hm_Tr_length (by assumption) | with_reducible exact hS0 _ _ (by assumption) | with_reducible exact hS1 _ _ _ (by assumption) | with_reducible exact hS2 _ _ _ _ _ (by assumption) | with_reducible exact hS3 _ _ _ (by assumption) | with_reducible exact hS4 _ _ _ (by assumption) | with_reducible exact hS5 _ _ _ (by assumption) | with_reducible exact hS6 _ _ _ (by assumption) | with_reducible exact hS7 _ _ (by assumption) | with_reducible exact hS8 _ _ (by assumption) | with_reducible exact hS9 _ _ (by assumption) | with_reducible exact hS10 _ _ _ (by assumption) | with_reducible exact hS11 _ _ _ (by assumption) | with_reducible exact hS12 _ _ _ _ (by assumption) | with_reducible exact yz_hg_Cm_apply hS0 hS1 hS2 hS3 hS4 hS5 hS6 hS7 hS8 hS9 hS10 hS11 hS12 _ _ _ _ _ (by assumption) | with_reducible exact yz_hg_Cm_row hS0 hS1 hS2 hS3 hS4 hS5 hS6 hS7 hS8 hS9 hS10 hS11 hS12 _ _ _ (by assumption) | with_reducible exact yz_hg_Cm_signs hS0 hS1 hS2 hS3 hS4 hS5 hS6 hS7 hS8 hS9 hS10 hS11 hS12 _ _ _ _ _ _ _ (by assumption) | with_reducible exact yz_hg_Cm_body hS0 hS1 hS2 hS3 hS4 hS5 hS6 hS7 hS8 hS9 hS10 hS11 hS12 _ _ _ _ (by assumption) | with_reducible exact yz_hg_Cm_parts hS0 hS1 hS2 hS3 hS4 hS5 hS6 hS7 hS8 hS9 hS10 hS11 hS12 _ _ _ _ _ _ _ (by assumption) | with_reducible exact (yz_hg_Cm_tries hS0 hS1 hS2 hS3 hS4 hS5 hS6 hS7 hS8 hS9 hS10 hS11 hS12 _).1 _ _ _ _ _ (by assumption) | with_reducible exact (yz_hg_Cm_tries hS0 hS1 hS2 hS3 hS4 hS5 hS6 hS7 hS8 hS9 hS10 hS11 hS12 _).2 _ _ _ _ (by assumption) | with_reducible refine Kz_ltv (fun _ => ?_) | with_reducible refine Kz_I ?_ (by decide) | with_reducible refine Kz_A ?_ (by decide))
    refine pk_bnd (fun w6 r6 x6 => pk_bnd (fun w7 r7 x7 => pk_bnd (fun w8 r8 x8 => pk_ck (fun _ => ?_))))
    have f6 := yu_hm_Co_put (u0 := v) Ku_rf w6 r6 x6
    have f7 := yu_hm_Co_put (u0 := v) f6 w7 r7 x7
    have f8 := yu_hm_Co_arrive (u0 := v) f7 w8 r8 x8
    have fr8 := FRC_tr (FRC_tr fr5 hn2.2.2.2.2.2.2.2.2) (FRC_u f8)
    rw [fr8.2 20 (by omega), ee.2.2.2.2]
    have cp8 : CPR nm false q5 q6 (cutS e0.1.length (et :: tt)) (max (max cm Xt) X1) w8 := by
      have c := CPR_u (CPR_2 (p := q) (p2 := q2) (q := q2) cp5 hn2 sl1 hX1 (by have := cp.2.2.2.2.2.2; omega)) f8
      have e2 := hm1.trans hmt.symm
      exact ⟨c.1, CNs_nm e2 c.2.1, by rw [← nms_len e2]; exact c.2.2.1, c.2.2.2.1, c.2.2.2.2.1, c.2.2.2.2.2.1, by have := cp.2.2.2.2.2.2; omega⟩
    have kc8 := chi_k hb1 hbk hnb hν (KPX_f kx fr8)
    refine pk_bnd (pk_mo (bod_S hB (by omega) ⟨fun j u1 u2 => kc8.1 j (by omega) u2, kc8.2⟩ d cp8) (fun v2 _ q2' => ?_))
    have q2' := CPA_of q2'
    rw [cutS_len, stt] at q2'
    refine pk_bnd (pk_mo (cpa_fgt q2' hb3.1 (by rw [hb3.2]; exact c706)) (fun w9 _ q9 => pk_bnd (fun wa ra xa => pk_some ?_)))
    exact CPA_v f8 s3 (CPA_u q9 (yu_hm_Co_arrive (u0 := w9) Ku_rf wa ra xa))
end
end

