section
variable {h : Nat → Int64} {n p N f : Nat} {ow kd : Nat → Nat} {Fv : Int64 → Int64 → Prop} {P : Int64 → Prop} {u0 : MS}
theorem smm_lin {d : Nat → Nat} {a q : Nat} (k l : Nat) : smm (fun i => k + l * d i) a q = k * q + l * smm d a q := by
  induction q with
  | zero => show 0 = k * 0 + l * 0; omega
  | succ q iq =>
    show smm (fun i => k + l * d i) a q + (k + l * d (a + q)) = k * (q + 1) + l * (smm d a q + d (a + q))
    rw [iq, Nat.mul_add, Nat.mul_add]; omega
theorem ord_loop (hn : n ≤ 500) (hp1 : p < 24) (hF : FVH Fv) (hat : ATM u0) (hP : ∀ t, P t → PA u0 t) (hme : F u0 133 = p) (h0 : hp u0 p = h) (g : HP h n ow kd Fv P) (hN : 5100 ≤ N) : ∀ (m : Nat),
    (∀ (u : MS) (c : Nat → Nat) (q : Nat), FR [] [] [] [141] u0 u → (∀ i, i < q → GT n ow kd P (u.2.2.2 141 (2 * i)) ∧ SZ h n ow kd Fv P f (u.2.2.2 141 (2 * i + 1)) (c i)) → q + smm c 0 q ≤ 1001 → 2 * q + 3 * smm c 0 q < m → OK (fun w _ => FR [] [] [] [141] u0 w) ((gg_M_order N m).1 u (I ((2 * q : Nat) : Int)))) ∧
    (∀ (u : MS) (c d : Nat → Nat) (q r : Nat) (x y : Int64), FR [] [] [] [141] u0 u → (∀ i, i < q → GT n ow kd P (u.2.2.2 141 (2 * i)) ∧ SZ h n ow kd Fv P f (u.2.2.2 141 (2 * i + 1)) (c i)) → isH x → GT n ow kd P x → GT n ow kd P y → so y = so x → blk h y = blk h x → prt x + r ≤ blk h x → (∀ i, prt x ≤ i → i < prt x + r → SZ h n ow kd Fv P f (h (vn x + i)) (d i)) → q + smm c 0 q + (r + smm d (prt x) r) ≤ 1001 → 2 * q + 3 * smm c 0 q + (3 * r + 3 * smm d (prt x) r) + 1 < m → OK (fun w _ => FR [] [] [] [141] u0 w) ((gg_M_order N m).2 u (I ((2 * q : Nat) : Int)) x y (I ((prt x : Int) + r - 1)))) := by
  intro m
  induction m with
  | zero => exact ⟨fun u c q _ _ _ z => absurd z (Nat.not_lt_zero _), fun u c d q r x y _ _ _ _ _ _ _ _ _ _ z => absurd z (Nat.not_lt_zero _)⟩
  | succ m ih =>
    obtain ⟨ih1, ih2⟩ := ih
    refine ⟨fun u c q hu hc hb hm => ?_, fun u c d q r x y hu hc hx gx gy es eb hr hd hb hm => ?_⟩
    · show OK _ (fb_M_order_17 N (gg_M_order N m) u (I ((2 * q : Nat) : Int)))
      unfold fb_M_order_17 fb_M_order_158
      rw [lit0q, decI (by omega) (by omega) (by omega) (by omega)]
      cases q with
      | zero =>
        rw [decide_eq_true (by omega), br_tq]
        exact ok_some.mpr hu
      | succ q =>
        have hlast : smm c 0 (q + 1) = smm c 0 q + c q := by show smm c 0 q + c (0 + q) = _; rw [Nat.zero_add]
        obtain ⟨gy, zx⟩ := hc q (by omega)
        rw [decide_eq_false (by omega), br_fq, lit1q, I_sub, show (2 : Int32) = I 2 from rfl, I_sub, inb_at (k := 141) (n := 3000) rfl (by omega) (by omega) (by decide), ck_t, lt_e, inb_at (k := 141) (n := 3000) rfl (by omega) (by omega) (by decide), ck_t, lt_e, I_tn (by omega) (by omega), I_tn (by omega) (by omega), show (((2 * (q + 1) : Nat) : Int) - 1).toNat = 2 * q + 1 from by omega, show (((2 * (q + 1) : Nat) : Int) - 2).toNat = 2 * q from by omega]
        generalize u.2.2.2 141 (2 * q + 1) = x at *
        generalize u.2.2.2 141 (2 * q) = y at *
        have eh : hp u p = h := by rw [← h0]; unfold hp; rw [hu.2.2.2 88 (by decide)]
        have hat2 : ATM u := by
          obtain ⟨t1, t2, t3⟩ := hat
          unfold ATM
          rw [FR.F hu (by decide)]
          exact ⟨t1, t2, fun k hk => by rw [FR.A hu (by decide), FR.A hu (by decide)]; exact t3 k hk⟩
        have hP2 : ∀ t, P t → PA u t := fun t z => by unfold PA; rw [FR.F hu (by decide)]; exact hP t z
        refine ok_bnd.mpr (ok_mono (orderOne_ok (p := p) (n := n) (ow := ow) (kd := kd) (P := P) (Fv := Fv) (by rw [eh]; exact g) hn hp1 (by rw [FR.F hu (by decide)]; exact hme) hF hat2 hP2 (SZ_gt zx) gy hN) (fun w r hw => ?_))
        obtain ⟨e1, e2⟩ := hw
        subst e1
        rw [eh] at e2
        refine ok_br.mpr ⟨fun h1 => ?_, fun _ => ok_some.mpr hu⟩
        have r0 : r = 0 := of_decide_eq_true h1
        by_cases hh : isH x
        · rw [inHeap_e.1 hh, bnd_so, decE (by omega) (by omega) (by omega) (by omega), decide_eq_false (by omega), br_fq]
          obtain ⟨es, eb⟩ := e2 r0 hh
          obtain ⟨bx, -⟩ := HP_bk g hh (SZ_gt zx)
          have pl := prt_le (h := h) hh
          have bp := blk_pos (h := h) hh
          have bn := bx.2.2.2.1
          rw [I_F' (show F w 133 = p by rw [FR.F hu (by decide)]; exact hme), sizeOf_e (n := n) (ow := ow) (kd := kd) (Fv := Fv) (by omega) hn hh (by rw [eh]; exact bx), bnd_so, eh, I_neg, I_add, I_sub]
          cases f with
          | zero => exact zx.elim
          | succ f =>
            have zx' := zx
            rcases zx with ⟨z1, -⟩ | ⟨-, b, d, z3, z4⟩
            · exact absurd hh z1
            have := ih2 w c d q (blk h x - prt x) x y hu (fun i hi => hc i (by omega)) hh (SZ_gt zx') gy es eb (by omega) (fun i a b2 => SZ_mono (z3 i a (by omega))) (by omega) (by omega)
            rw [show ((prt x : Int) + ((blk h x - prt x : Nat) : Int) - 1) = (blk h x : Int) - 1 from by omega] at this
            rw [show ((2 * (q + 1) : Nat) : Int) + -2 = ((2 * q : Nat) : Int) from by omega]
            exact this
        · rw [inHeap_e.2 hh, bnd_so, decE (by omega) (by omega) (by omega) (by omega), decide_eq_true rfl, br_tq, I_neg, I_add, show ((2 * (q + 1) : Nat) : Int) + -2 = ((2 * q : Nat) : Int) from by omega]
          exact ih1 w c q hu (fun i hi => hc i (by omega)) (by omega) (by omega)
    · show OK _ (fb_M_order_91 N (gg_M_order N m) u (I ((2 * q : Nat) : Int)) x y (I ((prt x : Int) + r - 1)))
      unfold fb_M_order_91 fb_M_order_158
      have hy : isH y := by unfold isH; rw [es]; exact hx
      obtain ⟨bx, px⟩ := HP_bk g hx gx
      obtain ⟨by', py⟩ := HP_bk g hy gy
      have bn := bx.2.2.2.1
      have bn2 := by'.2.2.2.1
      have eh : hp u p = h := by rw [← h0]; unfold hp; rw [hu.2.2.2 88 (by decide)]
      rw [partsFrom_e hx, bnd_so, decL (by omega) (by omega) (by omega) (by omega)]
      cases r with
      | zero =>
        rw [decide_eq_true (by omega), br_tq]
        exact ih1 u c q hu hc (by omega) (by omega)
      | succ r =>
        have hsd : smm d (prt x) (r + 1) = smm d (prt x) r + d (prt x + r) := rfl
        have vx : va x = (vn x : Int) := by have := bx.1; unfold vn; omega
        have vy : va y = (vn y : Int) := by have := by'.1; unfold vn; omega
        have hme2 : F u 133 = p := by rw [FR.F hu (by decide)]; exact hme
        rw [decide_eq_false (by omega), br_fq, valueOf_e, bnd_so, I_F' hme2, vy, I_add, show (vn y : Int) + ((prt x : Int) + ((r + 1 : Nat) : Int) - 1) = ((vn y + (prt x + r) : Nat) : Int) from by omega, cell_e (by omega) (by omega), bnd_so, inb_at (k := 141) (n := 3000) rfl (by omega) (by omega) (by decide), ck_t, lt_e, I_tn (by omega) (by omega), Int.toNat_natCast, wj_e, valueOf_e, bnd_so, show (wj u 141 (2 * q) (hp u p (vn y + (prt x + r)))).1 133 = I p from I_F' hme2, vx, I_add, show (vn x : Int) + ((prt x : Int) + ((r + 1 : Nat) : Int) - 1) = ((vn x + (prt x + r) : Nat) : Int) from by omega, cell_e (by omega) (by omega), bnd_so, lit1q, I_add, inb_at (k := 141) (n := 3000) rfl (by omega) (by omega) (by decide), ck_t, lt_e, I_tn (by omega) (by omega), show (((2 * q : Nat) : Int) + 1).toNat = 2 * q + 1 from by omega, wj_e, show (2 : Int32) = I 2 from rfl, I_add, I_neg, I_add]
        have ew : hp (wj u 141 (2 * q) (hp u p (vn y + (prt x + r)))) p = h := eh
        rw [ew, eh]
        have sz := hd (prt x + r) (by omega) (by omega)
        have gyp := py (prt x + r) (by rw [prt_so es]; omega) (by rw [eb]; omega)
        have := ih2 (wj (wj u 141 (2 * q) (h (vn y + (prt x + r)))) 141 (2 * q + 1) (h (vn x + (prt x + r)))) (fun i => if i = q then d (prt x + r) else c i) d (q + 1) r x y (FR.wj (FR.wj hu (by decide)) (by decide)) (fun i hi => by
          rw [J_wj, if_pos rfl, if_neg (by omega), J_wj, if_pos rfl, J_wj, if_pos rfl]
          by_cases e : i = q
          · subst e
            rw [if_pos rfl, if_pos rfl]
            simp only [if_true]
            exact ⟨gyp, sz⟩
          · rw [if_neg (by omega), if_neg (by omega), J_wj, if_pos rfl, if_neg (by omega)]
            simp only [if_neg e]
            exact hc i (by omega)) hx gx gy es eb (by omega) (fun i a b2 => hd i a (by omega)) (by rw [smm_upd]; omega) (by rw [smm_upd]; omega)
        rw [show ((2 * q : Nat) : Int) + 2 = ((2 * (q + 1) : Nat) : Int) from by omega, show (prt x : Int) + ((r + 1 : Nat) : Int) - 1 + -1 = (prt x : Int) + (r : Int) - 1 from by omega]
        exact this
theorem order_ok {a b : Int64} (hn : n ≤ 500) (hp1 : p < 24) (hF : FVH Fv) (hat : ATM u0) (hP : ∀ t, P t → PA u0 t) (hme : F u0 133 = p) (g : HP (hp u0 p) n ow kd Fv P) (ga : GT n ow kd P a) (gb : GT n ow kd P b) (hN : 5100 ≤ N) : OK (fun w _ => FR [] [] [] [141] u0 w) (fm_M_order N u0 a b) := by
  obtain ⟨f, s, z⟩ := HP_sz g ga
  have hs := SZ_1000 g hn z
  unfold fm_M_order fb_M_order_0
  rw [lit0q, lit1q, inb_at (k := 141) (n := 3000) rfl (by omega) (by omega) (by decide), ck_t, lt_e, I_tn (by omega) (by omega), wj_e, inb_at (k := 141) (n := 3000) rfl (by omega) (by omega) (by decide), ck_t, lt_e, I_tn (by omega) (by omega), wj_e]
  exact (ord_loop (f := f) (h := hp u0 p) hn hp1 hF hat hP hme rfl g hN N).1 (wj (wj u0 141 0 b) 141 1 a) (fun _ => s) 1 (FR.wj (FR.wj FR.rf (by decide)) (by decide)) (fun i hi => by
    have e : i = 0 := by omega
    subst e
    rw [J_wj, if_pos rfl, if_neg (by decide), J_wj, if_pos rfl, if_pos rfl, J_wj, if_pos rfl, if_pos rfl]
    exact ⟨gb, z⟩) (by show 1 + (0 + s) ≤ 1001; omega) (by show 2 * 1 + 3 * (0 + s) < N; omega)
end
