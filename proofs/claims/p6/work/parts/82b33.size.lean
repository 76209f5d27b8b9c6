set_option maxRecDepth 100000
section
variable {h : Nat → Int64} {n N b : Nat} {ow kd : Nat → Nat} {Fv : Int64 → Int64 → Prop} {P : Int64 → Prop} {u v w : MS} {t : Int64}
theorem smm_add {c : Nat → Nat} {a : Nat} : ∀ {x y : Nat}, smm c a (x + y) = smm c a x + smm c (a + x) y
  | x, 0 => by rfl
  | x, y + 1 => by
    show smm c a (x + y) + c (a + (x + y)) = smm c a x + (smm c (a + x) y + c (a + x + y))
    rw [smm_add, show a + (x + y) = a + x + y by omega]; omega
theorem FRj {is ls as js : List Nat} {u w : MS} (f : FR is ls as js u w) {k : Nat} (hk : k ∉ js) : w.2.2.2 k = u.2.2.2 k := f.2.2.2 k hk
theorem wj_row {k i : Nat} {x : Int64} {j : Nat} : (wj u k i x).2.2.2 k j = if j = i then x else u.2.2.2 k j := by
  rw [J_wj, if_pos rfl]
def STKc (h : Nat → Int64) (n : Nat) (ow kd : Nat → Nat) (Fv : Int64 → Int64 → Prop) (P : Int64 → Prop) (u : MS) (c : Nat → Nat) (top : Nat) : Prop := ∀ j, j < top → (∃ f, SZc h n ow kd Fv P f (u.2.2.2 45 j) (c j)) ∧ (top = 1 ∨ isH (u.2.2.2 45 j))
theorem SZ_blkc {f s : Nat} (z : SZc h n ow kd Fv P f t s) (ht : isH t) : ∃ f2 c, BKc h n ow kd Fv t ∧ (∀ j, prt t ≤ j → j < blk h t → SZc h n ow kd Fv P f2 (h (vn t + j)) (c j)) ∧ s = blk h t + smm c (prt t) (blk h t - prt t) := by
  cases f with
  | zero => exact z.elim
  | succ f =>
    rcases z with z | ⟨-, z2, c, z3, z4⟩
    · exact absurd ht z.1
    · exact ⟨f, c, z2, z3, z4⟩
theorem SZ_nhc {f s : Nat} (z : SZc h n ow kd Fv P f t s) (ht : ¬ isH t) : s = 0 := by
  cases f with
  | zero => exact z.elim
  | succ f =>
    rcases z with z | z
    · exact z.2.2
    · exact absurd z.1 ht
theorem SZ_posc {f s : Nat} (z : SZc h n ow kd Fv P f t s) (ht : isH t) : 1 ≤ s := by
  obtain ⟨f2, c, -, -, e⟩ := SZ_blkc z ht
  have := blk_pos (h := h) ht
  omega
theorem head_nh (k : BKc h n ow kd Fv t) (ht : isH t) (hF : ∀ a b, Fv a b → so a = 8 ∧ so b = 8) {j : Nat} (hj : j < prt t) : ¬ isH (h (vn t + j)) := by
  obtain ⟨k1, k2, k3, -⟩ := k
  apply nh_so
  rcases ht with z | z | z
  · have hp : prt t = 2 := by unfold prt; rw [if_neg (by omega), if_neg (by omega)]
    have := hF _ _ (k3 z).2
    rcases (show j = 0 ∨ j = 1 by omega) with rfl | rfl
    · rw [Nat.add_zero]; omega
    · omega
  · have hp : prt t = 1 := by unfold prt; rw [if_neg (by omega), if_pos z]
    have := (k2 z).2
    rw [show j = 0 by omega, Nat.add_zero]; omega
  · have hp : prt t = 0 := by unfold prt; rw [if_pos z]
    omega
theorem smm_le_mono {c : Nat → Nat} {a : Nat} : ∀ {x y : Nat}, x ≤ y → smm c a x ≤ smm c a y
  | x, 0, hh => by rw [show x = 0 by omega]; exact Nat.le_refl _
  | x, y + 1, hh => by
    by_cases e : x = y + 1
    · rw [e]; exact Nat.le_refl _
    · exact Nat.le_trans (smm_le_mono (y := y) (by omega)) (Nat.le_add_right _ _)
theorem stk_top {c : Nat → Nat} {top : Nat} (hs : STKc h n ow kd Fv P u c top) : top ≤ 1 + smm c 0 top := by
  by_cases e : top ≤ 1
  · omega
  · have : ∀ k, k ≤ top → k ≤ smm c 0 k := by
      intro k
      induction k with
      | zero => intro _; exact Nat.zero_le _
      | succ k ih =>
        intro hk
        obtain ⟨⟨f, z⟩, y⟩ := hs k (by omega)
        have := SZ_posc z (y.resolve_left (by omega))
        have := ih (by omega)
        show k + 1 ≤ smm c 0 k + c (0 + k)
        rw [Nat.zero_add]; omega
    have := this top (Nat.le_refl _)
    omega
def wgt (d : Nat → Nat) (p : Nat) : Nat → Nat := fun j => if j < p then 0 else d j
theorem wgt_0 {d : Nat → Nat} {p : Nat} : ∀ {k : Nat}, k ≤ p → smm (wgt d p) 0 k = 0
  | 0, _ => rfl
  | k + 1, hk => by
    show smm (wgt d p) 0 k + wgt d p (0 + k) = 0
    rw [wgt_0 (by omega), Nat.zero_add]
    exact if_pos (by omega)
theorem wgt_sum {d : Nat → Nat} {p m : Nat} (h : p ≤ m) : smm (wgt d p) 0 m = smm d p (m - p) := by
  have e : m = p + (m - p) := by omega
  have e2 := smm_add (c := wgt d p) (a := 0) (x := p) (y := m - p)
  rw [← e, wgt_0 (Nat.le_refl _), Nat.zero_add, Nat.zero_add] at e2
  rw [e2]
  exact smm_eq (fun j h1 _ => if_neg (by omega))
theorem smm_cut {c : Nat → Nat} {i m : Nat} (h : i < m) : smm c i (m - i) = c i + smm c (i + 1) (m - (i + 1)) := by
  have := smm_add (c := c) (a := i) (x := 1) (y := m - (i + 1))
  rw [show 1 + (m - (i + 1)) = m - i by omega] at this
  rw [this]
  show 0 + c (i + 0) + _ = _
  rw [Nat.add_zero, Nat.zero_add]
theorem GT_of_sz {f s : Nat} (z : SZc h n ow kd Fv P f t s) : GT n ow kd P t := SZ_gtc z
theorem size_loop {s : Nat} {u0 : MS} (hb : b ≠ 45) (hh : u0.2.2.2 b = h) (hn : n ≤ 512) (hF : ∀ a b, Fv a b → so a = 8 ∧ so b = 8) (hs : s ≤ 1900) : ∀ M : Nat,
    (∀ (w : MS) (tot top cn : Nat) (c : Nat → Nat), FR [] [] [] [45] u0 w → STKc h n ow kd Fv P w c top → tot + smm c 0 top = s → cn ≤ tot + (if top = 0 then 2000 else 0) → 3 * smm c 0 top + 2 * top + 3 ≤ M → OK (fun w r => FR [] [] [] [45] u0 w ∧ r = I s) ((hg_Te_size N M).1 w b (I tot) (I top) (I cn))) ∧
    (∀ (w : MS) (x : Int64) (tot top cn i : Nat) (c d : Nat → Nat), FR [] [] [] [45] u0 w → isH x → BKc h n ow kd Fv x → (∃ f, ∀ j, prt x ≤ j → j < blk h x → SZc h n ow kd Fv P f (h (vn x + j)) (d j)) → (∀ j, j < top → (∃ f, SZc h n ow kd Fv P f (w.2.2.2 45 j) (c j)) ∧ isH (w.2.2.2 45 j)) → i ≤ blk h x → tot + smm c 0 top + smm (wgt d (prt x)) i (blk h x - i) = s → cn + 1 ≤ tot → 3 * smm c 0 top + 2 * top + 3 * smm (wgt d (prt x)) i (blk h x - i) + 3 * (blk h x - i) + 4 ≤ M → OK (fun w r => FR [] [] [] [45] u0 w ∧ r = I s) ((hg_Te_size N M).2 w b (I tot) (I top) (I cn) (I (va x)) (I (blk h x)) (I i))) := by
  intro M
  induction M with
  | zero => exact ⟨fun w tot top cn c _ _ _ _ hM => by omega, fun w x tot top cn i c d _ _ _ _ _ _ _ _ hM => by omega⟩
  | succ M ih =>
    refine ⟨fun w tot top cn c f hst hsum hcn hM => ?_, fun w x tot top cn i c d f hx hk hd hst hi hsum hcn hM => ?_⟩
    · show OK _ (hb_Te_size_16 N (hg_Te_size N M) w b (I tot) (I top) (I cn))
      have ht := stk_top hst
      unfold hb_Te_size_16 hb_Te_size_140
      have hw : w.2.2.2 b = h := by rw [FRj f (by simpa using hb)]; exact hh
      rw [I_lit (n := 1000000000), m1I, lit0q]
      have hcn2 : cn ≤ 10000 := by split at hcn <;> omega
      refine k_le ⟨by decide, by decide⟩ ⟨by omega, by omega⟩ (fun y => ?_) (fun _ => ?_)
      · exact absurd y (by show ¬ (1000000000 : Int) ≤ _; omega)
      refine k_le ⟨by omega, by omega⟩ ⟨by decide, by decide⟩ (fun y => ?_) (fun y => ?_)
      · have e0 : top = 0 := by omega
        subst e0
        refine ok_some.mpr ⟨f, ?_⟩
        have : smm c 0 0 = 0 := rfl
        rw [show tot = s by omega]
      · have e1 : I ((top : Int)) + I (-1) = I (((top - 1 : Nat) : Int)) := by rw [I_add]; congr 1; omega
        rw [e1]
        refine e_in ⟨by omega, by omega⟩ (by decide) (e_in ⟨by omega, by omega⟩ (by decide) ?_)
        rw [tnI (n := top - 1) rfl (by omega)]
        obtain ⟨⟨fz, z⟩, hor⟩ := hst (top - 1) (by omega)
        have hsplit : smm c 0 top = smm c 0 (top - 1) + c (top - 1) := by
          have := smm_add (c := c) (a := 0) (x := top - 1) (y := 1)
          rw [show top - 1 + 1 = top by omega] at this
          rw [this]
          show _ + (0 + c (0 + (top - 1) + 0)) = _
          rw [Nat.zero_add, Nat.zero_add, Nat.add_zero]
        have hcn3 : cn ≤ tot := by have := hcn; rw [if_neg (show ¬ top = 0 by omega)] at this; omega
        by_cases hx : isH (w.2.2.2 45 (top - 1))
        · obtain ⟨f2, d, k1, k2, k3⟩ := SZ_blkc z hx
          have hbp := blk_pos (h := h) hx
          have hbl := k1.2.2.2.1
          rw [cellsAt_h hw hn hx k1, bnd_so, I_add, valI, show (0 : Int) = ((0 : Nat) : Int) from rfl, show ((tot : Nat) : Int) + ((blk h (w.2.2.2 45 (top - 1)) : Nat) : Int) = ((tot + blk h (w.2.2.2 45 (top - 1)) : Nat) : Int) by omega]
          have hp := prt_le (h := h) hx
          have hwg := wgt_sum (d := d) hp
          refine ih.2 w (w.2.2.2 45 (top - 1)) _ (top - 1) cn 0 c d f hx k1 ⟨f2, k2⟩ (fun j hj => ?_) (Nat.zero_le _) ?_ ?_ ?_
          · obtain ⟨a, a2⟩ := hst j (by omega)
            exact ⟨a, a2.resolve_left (by omega)⟩
          · rw [Nat.sub_zero]; omega
          · omega
          · rw [Nat.sub_zero]; omega
        · have e0 := SZ_nhc z hx
          have et : top = 1 := hor.resolve_right hx
          rw [cellsAt_n hx, bnd_so, lit0q, I_add, valI, Int.add_zero]
          subst et
          cases M with
          | zero => omega
          | succ M2 =>
            show OK _ (hb_Te_size_64 N (hg_Te_size N M2) w b (I tot) (I ((1 - 1 : Nat) : Int)) (I cn) (I (va (w.2.2.2 45 (1 - 1)))) (I 0) (I 0))
            unfold hb_Te_size_64 hb_Te_size_134
            refine k_le ⟨by decide, by decide⟩ ⟨by decide, by decide⟩ (fun _ => ?_) (fun y => absurd y (by decide))
            rw [lit1q, I_add]
            cases M2 with
            | zero => omega
            | succ M3 =>
              show OK _ (hb_Te_size_16 N (hg_Te_size N M3) w b (I tot) (I ((1 - 1 : Nat) : Int)) (I _))
              unfold hb_Te_size_16 hb_Te_size_140
              rw [I_lit (n := 1000000000), m1I, lit0q]
              refine k_le ⟨by decide, by decide⟩ ⟨by omega, by omega⟩ (fun y => ?_) (fun _ => ?_)
              · exact absurd y (by show ¬ (1000000000 : Int) ≤ _; omega)
              refine k_le ⟨by decide, by decide⟩ ⟨by decide, by decide⟩ (fun _ => ?_) (fun y => absurd y (by decide))
              refine ok_some.mpr ⟨f, ?_⟩
              have h0 : smm c 0 (1 - 1) = 0 := rfl
              rw [show tot = s by omega]
    · show OK _ (hb_Te_size_64 N (hg_Te_size N M) w b (I tot) (I top) (I cn) (I (va x)) (I (blk h x)) (I i))
      have hw : w.2.2.2 b = h := by rw [FRj f (by simpa using hb)]; exact hh
      have hbl := hk.2.2.2.1
      have hvx := vn_e hk.1
      have hp := prt_le (h := h) hx
      obtain ⟨fd, hd⟩ := hd
      have ht : top ≤ smm c 0 top + 1 := by
        have := stk_top (h := h) (n := n) (ow := ow) (kd := kd) (Fv := Fv) (P := P) (u := w) (c := c) (top := top) (fun j hj => ⟨(hst j hj).1, Or.inr (hst j hj).2⟩)
        omega
      unfold hb_Te_size_64 hb_Te_size_134 hb_Te_size_128 hb_Te_size_111
      have stepN : ∀ w2 : MS, FR [] [] [] [45] u0 w2 → (∀ j, j < top → w2.2.2.2 45 j = w.2.2.2 45 j) → i < blk h x → wgt d (prt x) i = 0 → OK (fun w r => FR [] [] [] [45] u0 w ∧ r = I s) ((hg_Te_size N M).2 w2 b (I tot) (I top) (I cn) (I (va x)) (I (blk h x)) (I i + 1)) := by
        intro w2 f2 e2 hi2 h0
        rw [lit1q, I_add, show ((i : Nat) : Int) + 1 = ((i + 1 : Nat) : Int) by omega]
        have hc := smm_cut (c := wgt d (prt x)) hi2
        refine ih.2 w2 x tot top cn (i + 1) c d f2 hx hk ⟨fd, hd⟩ (fun j hj => by rw [e2 j hj]; exact hst j hj) (by omega) (by omega) hcn (by omega)
      refine k_le ⟨by omega, by omega⟩ ⟨by omega, by omega⟩ (fun y => ?_) (fun y => ?_)
      · have ei : i = blk h x := by omega
        subst ei
        rw [lit1q, I_add, show ((cn : Nat) : Int) + 1 = ((cn + 1 : Nat) : Int) by omega]
        have h0 : smm (wgt d (prt x)) (blk h x) (blk h x - blk h x) = 0 := by rw [Nat.sub_self]; rfl
        refine ih.1 w tot top (cn + 1) c f (fun j hj => ⟨(hst j hj).1, Or.inr (hst j hj).2⟩) (by omega) ?_ (by omega)
        split <;> omega
      · have hi2 : i < blk h x := by omega
        rw [I_lit (n := 2048)]
        refine k_le ⟨by decide, by decide⟩ ⟨by omega, by omega⟩ (fun y => absurd y (by show ¬ (2048 : Int) ≤ _; omega)) (fun _ => ?_)
        rw [I_add, hvx, show ((vn x : Nat) : Int) + ((i : Nat) : Int) = ((vn x + i : Nat) : Int) by omega]
        refine e_in ⟨by omega, by omega⟩ (by decide) (ok_lt.mpr ?_)
        rw [tnI (n := vn x + i) rfl (by omega), hw, tagI]
        have hr := so_r (h (vn x + i))
        have push : isH (h (vn x + i)) → OK (fun w r => FR [] [] [] [45] u0 w ∧ r = I s) (ck (inb (I ((vn x + i : Nat) : Int)) 512) (ck (inb (I (top : Int)) 2048) (lt (upJ w 45 (vp_updL (w.2.2.2 45) (I (top : Int)).toNatClampNeg (h (vn x + i)))) fun w5 => (hg_Te_size N M).2 w5 b (I tot) (I (top : Int) + 1) (I cn) (I (vn x : Int)) (I (blk h x : Int)) (I (i : Int) + 1)))) := by
          intro hy
          have hip : prt x ≤ i := by
            by_cases e : prt x ≤ i
            · exact e
            · exact absurd hy (head_nh hk hx hF (by omega))
          refine e_in ⟨by omega, by omega⟩ (by decide) (e_in ⟨by omega, by omega⟩ (by decide) (ok_lt.mpr ?_))
          rw [tnI (n := top) rfl (by omega), wj_e, lit1q, I_add, I_add, show ((i : Nat) : Int) + 1 = ((i + 1 : Nat) : Int) by omega, show ((top : Nat) : Int) + 1 = ((top + 1 : Nat) : Int) by omega, ← hvx]
          have hc := smm_cut (c := wgt d (prt x)) hi2
          have hwi : wgt d (prt x) i = d i := if_neg (by omega)
          have hsm : smm (fun j => if j = top then d i else c j) 0 (top + 1) = smm c 0 top + d i := by
            show smm _ 0 top + (if 0 + top = top then d i else c (0 + top)) = _
            rw [if_pos (by omega), smm_eq (d := c) (fun j _ h2 => if_neg (by omega))]
          have hpos := SZ_posc (hd i hip hi2) hy
          refine ih.2 _ x tot (top + 1) cn (i + 1) (fun j => if j = top then d i else c j) d (FR.wj f (by decide)) hx hk ⟨fd, hd⟩ (fun j hj => ?_) (by omega) (by rw [hsm]; omega) hcn (by rw [hsm]; omega)
          rw [wj_row]
          by_cases e : j = top
          · rw [if_pos e, if_pos e]; exact ⟨⟨fd, hd i hip hi2⟩, hy⟩
          · rw [if_neg e, if_neg e]; exact hst j (by omega)
        rw [I_lit (n := 7), I_lit (n := 5), I_lit (n := 3)]
        refine k_eq hr ⟨by decide, by decide⟩ (fun y => push (Or.inr (Or.inr y))) (fun y7 => ?_)
        refine k_eq hr ⟨by decide, by decide⟩ (fun y => push (Or.inr (Or.inl y))) (fun y5 => ?_)
        refine k_eq hr ⟨by decide, by decide⟩ (fun y => push (Or.inl y)) (fun y3 => ?_)
        have hnh : ¬ isH (h (vn x + i)) := by
          intro hy
          rcases hy with hy | hy | hy
          · exact y3 hy
          · exact y5 hy
          · exact y7 hy
        rw [← hvx]
        refine stepN w f (fun _ _ => rfl) hi2 ?_
        unfold wgt
        by_cases e : i < prt x
        · exact if_pos e
        · rw [if_neg e]
          exact SZ_nhc (hd i (by omega) hi2) hnh
theorem size_ok {f s : Nat} (hb : b ≠ 45) (hh : u.2.2.2 b = h) (hn : n ≤ 512) (hF : ∀ a b, Fv a b → so a = 8 ∧ so b = 8) (hs : s ≤ 1900) (z : SZc h n ow kd Fv P f t s) (hN : 6000 ≤ N) : OK (fun w r => FR [] [] [] [45] u w ∧ r = I s) (hm_Te_size N u b t) := by
  unfold hm_Te_size hb_Te_size_0
  refine e_in (x := 0) ⟨by decide, by decide⟩ (by decide) (ok_lt.mpr ?_)
  rw [show (0 : Int32).toNatClampNeg = 0 from rfl, wj_e, lit0q, lit1q, show (0 : Int) = ((0 : Nat) : Int) from rfl, show (1 : Int) = ((1 : Nat) : Int) from rfl]
  have e1 : smm (fun _ => s) 0 1 = s := by show 0 + s = s; omega
  refine (size_loop (N := N) (u0 := u) (b := b) (ow := ow) (kd := kd) (P := P) hb hh hn hF hs N).1 _ 0 1 0 (fun _ => s) (FR.wj FR.rf (by decide)) (fun j hj => ⟨⟨f, ?_⟩, Or.inl rfl⟩) (by rw [e1]; omega) (by split <;> omega) (by rw [e1]; omega)
  rw [wj_row, if_pos (by omega)]; exact z
end
