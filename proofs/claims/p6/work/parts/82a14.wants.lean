section
variable {h h2 : Nat → Int64} {n n2 p N opM bnM bxM : Nat} {ow kd ow2 kd2 : Nat → Nat} {Fv : Int64 → Int64 → Prop} {P : Int64 → Prop} {u w : MS} {fd : Int64 → Int64} {R : Int64 → Prop}
theorem HOM_gt (m : HOM h n ow kd h2 n2 ow2 kd2 P fd R) {t : Int64} (g : GT n ow kd P t) (r : isH t → R t) : GT n2 ow2 kd2 P (fd t) := by
  by_cases ht : isH t
  · exact (m.2 t ht (r ht)).2.2.1
  · rw [m.1 t ht]
    rcases g with z | ⟨z, -⟩
    · exact Or.inl z
    · exact absurd z ht
theorem HOM_id (g : HP h n ow kd Fv P) : HOM h n ow kd h n ow kd P (fun t => t) (fun t => GT n ow kd P t) := by
  refine ⟨fun _ _ => rfl, fun t ht r => ⟨r, rfl, r, rfl, fun _ _ => rfl, fun j h1 h2 => ⟨rfl, fun _ => (HP_bk g ht r).2 j h1 h2⟩⟩⟩
def WNT (u : MS) (p : Nat) (n : Nat) (ow kd : Nat → Nat) (Fv : Int64 → Int64 → Prop) (P : Int64 → Prop) (opM bnM bxM : Nat) (w : MS) (n2 : Nat) (ow2 kd2 : Nat → Nat) (fd : Int64 → Int64) (R : Int64 → Prop) : Prop :=
  HOM (hp u p) n ow kd (hp w p) n2 ow2 kd2 P fd R ∧ (∀ t, isH t → R t → vn (fd t) + blk (hp w p) (fd t) ≤ n2 ∧ ∀ j, j < blk (hp w p) (fd t) → ow2 (vn (fd t) + j) = vn (fd t)) ∧ CX w p (hp w p) n2 ow2 kd2 Fv P opM bnM bxM ∧ n2 ≤ n ∧ (∀ q, A w 89 q = if q = p then (n2 : Int) else A u 89 q) ∧ FR [136, 138] [139] [89, 90, 135] [88, 91, 93, 107, 134, 137] u w ∧ (∀ i, ¬ (500 * p ≤ i ∧ i < 500 * p + 500) → w.2.2.2 88 i = u.2.2.2 88 i) ∧ RTS u w fd R 91 (46000 * p) opM ∧ RTS u w fd R 93 (2500 * p) bnM ∧ RTS u w fd R 107 (30 * p) bxM ∧ (F u 140 = p → w.2.1 139 = fd (u.2.1 139) ∧ (isH (u.2.1 139) → R (u.2.1 139))) ∧ (F u 140 ≠ p → w.2.1 139 = u.2.1 139)
theorem WNT_of (cx : CX u p h n ow kd Fv P opM bnM bxM) (c : CLR u p h n ow kd Fv P opM bnM bxM w) : ∃ n2 ow2 kd2 fd R, WNT u p n ow kd Fv P opM bnM bxM w n2 ow2 kd2 fd R := by
  obtain ⟨x1, x2, x3, x4, x5, x6, x7, x8, x9, x10, x11⟩ := cx
  obtain ⟨U, ow2, kd2, fd, R, c1, c2, c3, c4, c5, c6, c7, c8, c9, c10, c11, c12⟩ := c
  subst x1
  have root : ∀ K b M, RTS u w fd R K b M → (∀ i, i < M → GT n ow kd P (u.2.2.2 K (b + i))) → ∀ i, i < M → GT U ow2 kd2 P (w.2.2.2 K (b + i)) := fun K b M r g i hi => by
    obtain ⟨a, b2⟩ := (r (b + i)).1 ⟨by omega, by omega⟩
    rw [a]
    exact HOM_gt c1 (g i hi) b2
  exact ⟨U, ow2, kd2, fd, R, c1, c3, ⟨rfl, c2, by omega, x4, ⟨by rw [FR.A c6 (by decide)]; exact x5.1, x5.2⟩, ⟨by rw [FR.A c6 (by decide)]; exact x6.1, x6.2⟩, ⟨by rw [FR.A c6 (by decide)]; exact x7.1, x7.2⟩, root _ _ _ c8 x8, root _ _ _ c9 x9, root _ _ _ c10 x10, fun z => by rw [FR.F c6 (by decide)] at z; rw [(c11 z).1]; exact HOM_gt c1 (x11 z) (c11 z).2⟩, c4, c5, c6, c7, c8, c9, c10, c11, c12⟩
theorem WNT_id (cx : CX u p (hp u p) n ow kd Fv P opM bnM bxM) (hu : A u 89 p = n) : WNT u p n ow kd Fv P opM bnM bxM u n ow kd (fun t => t) (fun t => GT n ow kd P t) := by
  have cx' := cx
  obtain ⟨x1, x2, x3, x4, x5, x6, x7, x8, x9, x10, x11⟩ := cx
  have rt : ∀ K b M, (∀ i, i < M → GT n ow kd P (u.2.2.2 K (b + i))) → RTS u u (fun t => t) (fun t => GT n ow kd P t) K b M := fun K b M g i => ⟨fun z => ⟨rfl, fun _ => by have := g (i - b) (by omega); rw [show b + (i - b) = i from by omega] at this; exact this⟩, fun _ => rfl⟩
  refine ⟨HOM_id x2, fun t ht r => ?_, cx', Nat.le_refl _, fun q => ?_, FR.rf, fun _ _ => rfl, rt _ _ _ x8, rt _ _ _ x9, rt _ _ _ x10, fun z => ⟨rfl, fun _ => x11 z⟩, fun _ => rfl⟩
  · have := (HP_bk x2 ht r).1
    exact ⟨this.2.2.2.1, this.2.2.2.2.2⟩
  · by_cases e : q = p
    · rw [if_pos e, e]; exact hu
    · rw [if_neg e]
theorem wants_ok (cx : CX u p (hp u p) n ow kd Fv P opM bnM bxM) (hu : A u 89 p = n) {k : Nat} (hk : k ≤ 100000) (hN : 60000 ≤ N) :
    OK (fun w r => ∃ n2 ow2 kd2 fd R, WNT u p n ow kd Fv P opM bnM bxM w n2 ow2 kd2 fd R ∧ ((r = I 1 ∧ n2 + k ≤ 500) ∨ (r = I 0 ∧ 500 < n2 + k))) (fm_M_wants N u (I p) (I k)) := by
  have x4 := cx.2.2.2.1
  have x3 := cx.2.2.1
  have last : ∀ (w : MS) n2 ow2 kd2 fd R, WNT u p n ow kd Fv P opM bnM bxM w n2 ow2 kd2 fd R → OK (fun w r => ∃ n2 ow2 kd2 fd R, WNT u p n ow kd Fv P opM bnM bxM w n2 ow2 kd2 fd R ∧ ((r = I 1 ∧ n2 + k ≤ 500) ∨ (r = I 0 ∧ 500 < n2 + k))) (fb_M_wants_19 N () w (I p) (I k)) := by
    intro w n2 ow2 kd2 fd R hw
    have e9 := hw.2.2.2.2.1 p
    rw [if_pos rfl] at e9
    have hn2 := hw.2.2.2.1
    unfold fb_M_wants_19 fb_M_wants_38
    rw [inb_at (k := 89) (n := 25) rfl (by omega) (by omega) (by decide), ck_t, I_tn (by omega) (by omega), Int.toNat_natCast, I_A' e9, I_add, lit500, decL (by omega) (by omega) (by omega) (by omega)]
    by_cases e : 500 < n2 + k
    · rw [decide_eq_true (by omega), br_tq]
      exact ok_ck.mpr ⟨rfl, ok_some.mpr ⟨n2, ow2, kd2, fd, R, hw, Or.inr ⟨rfl, e⟩⟩⟩
    · rw [decide_eq_false (by omega), br_fq]
      exact ok_ck.mpr ⟨rfl, ok_some.mpr ⟨n2, ow2, kd2, fd, R, hw, Or.inl ⟨rfl, by omega⟩⟩⟩
  unfold fm_M_wants fb_M_wants_0
  rw [inb_at (k := 89) (n := 25) rfl (by omega) (by omega) (by decide), ck_t, I_tn (by omega) (by omega), Int.toNat_natCast, I_A' hu, I_add, lit500, decI (by omega) (by omega) (by omega) (by omega)]
  by_cases e : n + k ≤ 500
  · rw [decide_eq_true (by omega), br_tq]
    exact last u _ _ _ _ _ (WNT_id cx hu)
  · rw [decide_eq_false (by omega), br_fq]
    refine ok_bnd.mpr (ok_mono (clear_ok cx hN) (fun w _ hc => ?_))
    obtain ⟨n2, ow2, kd2, fd, R, hw⟩ := WNT_of cx hc
    exact last w _ _ _ _ _ hw
end
