theorem smm_split {c : Nat → Nat} {a : Nat} : ∀ n, smm c a (n + 1) = c a + smm c (a + 1) n
  | 0 => by show 0 + c (a + 0) = c a + 0; simp
  | n + 1 => by
    show smm c a (n + 1) + c (a + (n + 1)) = c a + (smm c (a + 1) n + c (a + 1 + n))
    rw [smm_split n, show a + 1 + n = a + (n + 1) from by omega]; omega
theorem smm_upd {c : Nat → Nat} {x m : Nat} : smm (fun i => if i = m then x else c i) 0 (m + 1) = smm c 0 m + x := by
  show smm _ 0 m + _ = _
  rw [smm_eq (d := c) (fun j _ h2 => if_neg (by omega))]
  simp
theorem decI {x y : Int} (h1 : -2147483648 ≤ x) (h2 : x < 2147483648) (h3 : -2147483648 ≤ y) (h4 : y < 2147483648) : decide (I x ≤ I y) = decide (x ≤ y) := decide_eq_decide.mpr (I_le h1 h2 h3 h4)
theorem decL {x y : Int} (h1 : -2147483648 ≤ x) (h2 : x < 2147483648) (h3 : -2147483648 ≤ y) (h4 : y < 2147483648) : decide (I x < I y) = decide (x < y) := decide_eq_decide.mpr (I_lt h1 h2 h3 h4)
theorem decE {x y : Int} (h1 : -2147483648 ≤ x) (h2 : x < 2147483648) (h3 : -2147483648 ≤ y) (h4 : y < 2147483648) : decide (I x = I y) = decide (x = y) := decide_eq_decide.mpr (I_eq h1 h2 h3 h4)
theorem inb_at {k n : Nat} {x : Int} (hk : ln k = n) (h1 : 0 ≤ x) (h2 : x < n) (h3 : n < 2147483648) : inb (I x) (ln k) = true := by rw [hk]; exact (I_inb (by omega) (by omega)).mpr ⟨h1, h2⟩
theorem lit0q : (0 : Int32) = I 0 := rfl
theorem lit1q : (1 : Int32) = I 1 := rfl
theorem lit500 : (500 : Int32) = I 500 := rfl
theorem lit501 : (501 : Int32) = I 501 := rfl
theorem litm1q : (-1 : Int32) = I (-1) := rfl
section
variable {h : Nat → Int64} {n p s f N : Nat} {ow kd : Nat → Nat} {Fv : Int64 → Int64 → Prop} {P : Int64 → Prop}
theorem cs_end {u : MS} {x : Nat} {G : (MS → Int32 → Int32 → Int32 → Option (MS × Int32)) × (MS → Int32 → Int32 → Int32 → Int64 → Int32 → Int32 → Option (MS × Int32))} (hx : x ≤ 1000) : fb_M_copySize_116 N G u (I x) = some (u, I ((if x ≤ 500 then x else 501 : Nat))) := by
  unfold fb_M_copySize_116
  rw [lit500, decI (by omega) (by omega) (by omega) (by omega)]
  by_cases e : x ≤ 500
  · rw [if_pos e, decide_eq_true (by omega)]; rfl
  · rw [if_neg e, decide_eq_false (by omega)]; rfl
theorem cs_loop (hn : n ≤ 500) (hp1 : p < 25) (hs : s ≤ 1000) : ∀ (m : Nat),
    (∀ (u : MS) (c : Nat → Nat) (many cn : Nat), hp u p = h → (∀ i, i < many → SZ h n ow kd Fv P f (u.2.2.2 141 i) (c i)) → cn + smm c 0 many = s → many ≤ cn + 1 → smm (fun i => 2 + 3 * c i) 0 many < m → OK (fun w r => FR [] [] [] [141] u w ∧ r = I ((if s ≤ 500 then s else 501 : Nat))) ((gg_M_copySize N m).1 u (I p) (I cn) (I many))) ∧
    (∀ (u : MS) (c d : Nat → Nat) (many cn j : Nat) (y : Int64), hp u p = h → (∀ i, i < many → SZ h n ow kd Fv P f (u.2.2.2 141 i) (c i)) → isH y → BK h n ow kd Fv y → prt y ≤ j → j ≤ blk h y → (∀ i, j ≤ i → i < blk h y → SZ h n ow kd Fv P f (h (vn y + i)) (d i)) → cn + smm c 0 many + smm d j (blk h y - j) = s → many + (blk h y - j) ≤ cn + 1 → smm (fun i => 2 + 3 * c i) 0 many + smm (fun i => 3 + 3 * d i) j (blk h y - j) + 1 < m → OK (fun w r => FR [] [] [] [141] u w ∧ r = I ((if s ≤ 500 then s else 501 : Nat))) ((gg_M_copySize N m).2 u (I p) (I cn) (I many) y (I (blk h y)) (I j))) := by
  intro m
  induction m with
  | zero => exact ⟨fun u c many cn _ _ _ _ z => absurd z (Nat.not_lt_zero _), fun u c d many cn j y _ _ _ _ _ _ _ _ _ z => absurd z (Nat.not_lt_zero _)⟩
  | succ m ih =>
    obtain ⟨ih1, ih2⟩ := ih
    refine ⟨fun u c many cn hu hc hsum hmc hfu => ?_, fun u c d many cn j y hu hc hy hb hj1 hj2 hd hsum hmc hfu => ?_⟩
    · show OK _ (fb_M_copySize_13 N (gg_M_copySize N m) u (I p) (I cn) (I many))
      unfold fb_M_copySize_13
      rw [lit0q, lit500, decI (by omega) (by omega) (by omega) (by omega), decL (by omega) (by omega) (by omega) (by omega)]
      cases many with
      | zero =>
        rw [decide_eq_true (by omega), br_tq]
        have e : cn = s := by rw [← hsum]; rfl
        rw [e, cs_end hs]
        exact ok_some.mpr ⟨FR.rf, rfl⟩
      | succ many =>
        rw [decide_eq_false (by omega), br_fq]
        have hlast : smm c 0 (many + 1) = smm c 0 many + c many := by show smm c 0 many + c (0 + many) = _; rw [Nat.zero_add]
        have hphi : smm (fun i => 2 + 3 * c i) 0 (many + 1) = smm (fun i => 2 + 3 * c i) 0 many + (2 + 3 * c many) := by show smm _ 0 many + (2 + 3 * c (0 + many)) = _; rw [Nat.zero_add]
        by_cases e5 : 500 < cn
        · rw [decide_eq_true (by omega), br_tq, cs_end (by omega)]
          rw [if_neg (by omega), if_neg (by omega)]
          exact ok_some.mpr ⟨FR.rf, rfl⟩
        rw [decide_eq_false (by omega), br_fq, litm1q, I_add, show ((many + 1 : Nat) : Int) + -1 = (many : Int) from by omega]
        rw [inb_at (k := 141) (n := 3000) rfl (by omega) (by omega) (by decide), ck_t, lt_e, I_tn (by omega) (by omega), Int.toNat_natCast]
        generalize hy : u.2.2.2 141 many = y
        have zy := hc many (by omega)
        rw [hy] at zy
        by_cases hh : isH y
        · rw [inHeap_e.1 hh, bnd_so, decE (by omega) (by omega) (by omega) (by omega), decide_eq_false (by omega), br_fq]
          cases f with
          | zero => exact zy.elim
          | succ f =>
            rcases zy with ⟨z1, -⟩ | ⟨-, b, d, z3, z4⟩
            · exact absurd hh z1
            have bn := b.2.2.2.1
            have hu' : BK (hp u p) n ow kd Fv y := by rw [hu]; exact b
            rw [sizeOf_e hp1 hn hh hu', bnd_so, partsFrom_e hh, bnd_so, hu, I_add]
            have pl := prt_le (h := h) hh
            have hsd : smm (fun i => 3 + 3 * d i) (prt y) (blk h y - prt y) = 3 * (blk h y - prt y) + 3 * smm d (prt y) (blk h y - prt y) := by
              generalize blk h y - prt y = q
              induction q with
              | zero => rfl
              | succ q iq =>
                show smm (fun i => 3 + 3 * d i) (prt y) q + (3 + 3 * d (prt y + q)) = 3 * (q + 1) + 3 * (smm d (prt y) q + d (prt y + q))
                rw [iq]; omega
            have := ih2 u c d many (cn + blk h y) (prt y) y hu (fun i hi => hc i (by omega)) hh b (Nat.le_refl _) pl (fun i a b => SZ_mono (z3 i a b)) (by omega) (by omega) (by omega)
            rw [show ((cn + blk h y : Nat) : Int) = (cn : Int) + (blk h y : Int) from by omega] at this
            exact this
        · rw [inHeap_e.2 hh, bnd_so, decE (by omega) (by omega) (by omega) (by omega), decide_eq_true rfl, br_tq]
          have c0 : c many = 0 := by
            cases f with
            | zero => exact zy.elim
            | succ f =>
              rcases zy with ⟨-, -, z⟩ | ⟨z, -⟩
              · exact z
              · exact absurd z hh
          exact ih1 u c many cn hu (fun i hi => hc i (by omega)) (by omega) (by omega) (by omega)
    · show OK _ (fb_M_copySize_69 N (gg_M_copySize N m) u (I p) (I cn) (I many) y (I (blk h y)) (I j))
      have bn := hb.2.2.2.1
      unfold fb_M_copySize_69 fb_M_copySize_113
      rw [lit500, decI (by omega) (by omega) (by omega) (by omega), decL (by omega) (by omega) (by omega) (by omega)]
      by_cases ej : blk h y ≤ j
      · rw [decide_eq_true (by omega), br_tq]
        have e0 : blk h y - j = 0 := by omega
        rw [e0] at hsum hfu
        exact ih1 u c many cn hu hc (by rw [← hsum]; rfl) (by omega) (by omega)
      rw [decide_eq_false (by omega), br_fq]
      obtain ⟨q, hq⟩ : ∃ q, blk h y - j = q + 1 := ⟨blk h y - j - 1, by omega⟩
      have hq2 : blk h y - (j + 1) = q := by omega
      rw [hq, smm_split] at hsum hfu
      by_cases e5 : 500 < cn
      · rw [decide_eq_true (by omega), br_tq]
        cases m with
        | zero => omega
        | succ m =>
          show OK _ (fb_M_copySize_13 N (gg_M_copySize N m) u (I p) (I cn) (I many))
          unfold fb_M_copySize_13
          rw [lit0q, lit500, decI (by omega) (by omega) (by omega) (by omega), decL (by omega) (by omega) (by omega) (by omega), cs_end (by omega), if_neg (by omega), if_neg (by omega), decide_eq_true (show (500 : Int) < cn by omega), br_tq]
          cases decide ((many : Int) ≤ 0) <;> exact ok_some.mpr ⟨FR.rf, rfl⟩
      rw [decide_eq_false (by omega), br_fq, valueOf_e, bnd_so]
      have ev : va y = (vn y : Int) := by have := hb.1; unfold vn; omega
      rw [ev, I_add, show (vn y : Int) + (j : Int) = ((vn y + j : Nat) : Int) from by omega, cell_e hp1 (by omega), bnd_so, hu]
      rw [inb_at (k := 141) (n := 3000) rfl (by omega) (by omega) (by decide), ck_t, lt_e, I_tn (by omega) (by omega), Int.toNat_natCast, lit1q, I_add, I_add]
      have wu : hp (wj u 141 many (h (vn y + j))) p = h := by rw [← hu]; rfl
      have := ih2 (wj u 141 many (h (vn y + j))) (fun i => if i = many then d j else c i) d (many + 1) cn (j + 1) y wu (fun i hi => by
        by_cases e : i = many
        · subst e
          rw [J_wj, if_pos rfl, if_pos rfl]
          simp only [if_true]
          exact hd j (Nat.le_refl _) (by omega)
        · rw [J_wj, if_pos rfl, if_neg e]
          simp only [if_neg e]
          exact hc i (by omega)) hy hb (by omega) (by omega) (fun i a b => hd i (by omega) b) (by rw [smm_upd, hq2]; omega) (by omega) (by
          have e1 : smm (fun i => 2 + 3 * (if i = many then d j else c i)) 0 (many + 1) = smm (fun i => 2 + 3 * c i) 0 many + (2 + 3 * d j) := by
            show smm _ 0 many + _ = _
            rw [smm_eq (d := fun i => 2 + 3 * c i) (fun i _ h2 => by simp only [if_neg (show ¬ i = many by omega)])]
            simp
          rw [e1, hq2]; omega)
      refine ok_mono this (fun w r hw => ⟨FR.tr (FR.wj FR.rf (by decide)) hw.1, hw.2⟩)
theorem copySize_ok {u : MS} {t : Int64} (g : HP (hp u p) n ow kd Fv P) (hn : n ≤ 500) (hp1 : p < 25) (z : SZ (hp u p) n ow kd Fv P f t s) (hN : 3100 ≤ N) : OK (fun w r => FR [] [] [] [141] u w ∧ r = I ((if s ≤ 500 then s else 501 : Nat))) (fm_M_copySize N u (I p) t) := by
  have hs := SZ_1000 g hn z
  unfold fm_M_copySize fb_M_copySize_0
  rw [lit0q, lit1q, inb_at (k := 141) (n := 3000) rfl (by omega) (by omega) (by decide), ck_t, lt_e, I_tn (by omega) (by omega)]
  have := (cs_loop (h := hp u p) (N := N) (f := f) (P := P) (Fv := Fv) (ow := ow) (kd := kd) hn hp1 hs N).1 (wj u 141 0 t) (fun _ => s) 1 0 rfl (fun i hi => by
    have e : i = 0 := by omega
    subst e
    rw [J_wj, if_pos rfl, if_pos rfl]; exact z) (by show 0 + (0 + s) = s; omega) (by omega) (by show 0 + (2 + 3 * s) < N; omega)
  exact ok_mono this (fun w r hw => ⟨FR.tr (FR.wj FR.rf (by decide)) hw.1, hw.2⟩)
end
