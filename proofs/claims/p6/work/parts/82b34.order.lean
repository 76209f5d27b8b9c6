set_option maxRecDepth 100000
def tlc (h : Nat → Int64) (t : Int64) : Nat → Int64
  | 0 => t
  | k + 1 => h (vn (tlc h t k) + 1)
theorem tlc_s {h : Nat → Int64} {t : Int64} : ∀ {k : Nat}, tlc h (h (vn t + 1)) k = tlc h t (k + 1)
  | 0 => rfl
  | k + 1 => by show h (vn (tlc h (h (vn t + 1)) k) + 1) = h (vn (tlc h t (k + 1)) + 1); rw [tlc_s]
section
variable {h : Nat → Int64} {n N b : Nat} {ow kd : Nat → Nat} {Fv : Int64 → Int64 → Prop} {P : Int64 → Prop} {u v w : MS} {t : Int64}
def LSTc (h : Nat → Int64) (n : Nat) (ow kd : Nat → Nat) (Fv : Int64 → Int64 → Prop) (P : Int64 → Prop) (t : Int64) (k : Nat) : Prop := so (tlc h t k) = 6 ∧ ∀ j, j < k → so (tlc h t j) = 7 ∧ BKc h n ow kd Fv (tlc h t j) ∧ ∃ f s, SZc h n ow kd Fv P f (tlc h t j) s
theorem ll_loop (hh : u.2.2.2 b = h) (hn : n ≤ 512) : ∀ (M s f cn : Nat) (t : Int64), SZc h n ow kd Fv P f t s → s < M → s ≤ 1900 → cn + s ≤ 10000 → OK (fun w r => w = u ∧ (r = I (-1) ∨ ∃ k : Nat, r = I ((cn + k : Nat) : Int) ∧ 2 * k ≤ s ∧ LSTc h n ow kd Fv P t k)) (hg_Te_listLength N M u b t (I cn)) := by
  intro M
  induction M with
  | zero => intro s f cn t z hm; omega
  | succ M ih =>
    intro s f cn t z hm hs hcn
    show OK _ (hb_Te_listLength_6 N (hg_Te_listLength N M) u b t (I cn))
    unfold hb_Te_listLength_6
    have hr := so_r t
    have fin : OK (fun w r => w = u ∧ (r = I (-1) ∨ ∃ k : Nat, r = I ((cn + k : Nat) : Int) ∧ 2 * k ≤ s ∧ LSTc h n ow kd Fv P t k)) (hb_Te_listLength_38 N (hg_Te_listLength N M) u t (I cn)) := by
      unfold hb_Te_listLength_38 hb_Te_listLength_54
      rw [e_tag, bnd_so, I_lit (n := 6)]
      refine k_eq hr ⟨by decide, by decide⟩ (fun y => ok_some.mpr ⟨rfl, Or.inr ⟨0, rfl, by omega, y, fun j hj => by omega⟩⟩) (fun _ => ok_some.mpr ⟨rfl, Or.inl rfl⟩)
    rw [I_lit (n := 1000000000)]
    refine k_le ⟨by decide, by decide⟩ ⟨by omega, by omega⟩ (fun _ => fin) (fun _ => ?_)
    rw [e_tag, bnd_so, I_lit (n := 7)]
    refine k_eq hr ⟨by decide, by decide⟩ (fun y => ?_) (fun _ => fin)
    have y7 : so t = 7 := y
    have hH : isH t := Or.inr (Or.inr y7)
    obtain ⟨f2, c, k1, k2, k3⟩ := SZ_blkc z hH
    have hb2 : blk h t = 2 := by unfold blk; rw [if_pos y7]
    have hp : prt t = 0 := by unfold prt; rw [if_pos y7]
    have hv := vn_e k1.1
    have hbl := k1.2.2.2.1
    rw [hb2, hp] at k3
    have e2 : smm c 0 (2 - 0) = c 0 + c 1 := by show 0 + c (0 + 0) + c (0 + 1) = _; simp
    rw [valI, lit1q, I_add, hv, show ((vn t : Nat) : Int) + 1 = ((vn t + 1 : Nat) : Int) by omega]
    refine e_in ⟨by omega, by omega⟩ (by decide) ?_
    rw [tnI (n := vn t + 1) rfl (by omega), hh, I_add, show ((cn : Nat) : Int) + 1 = ((cn + 1 : Nat) : Int) by omega]
    refine ok_mono (ih (c 1) f2 (cn + 1) (h (vn t + 1)) (k2 1 (by omega) (by omega)) (by omega) (by omega) (by omega)) (fun w r hw => ⟨hw.1, ?_⟩)
    rcases hw.2 with e | ⟨k, r1, r2, r3, r4⟩
    · exact Or.inl e
    · refine Or.inr ⟨k + 1, by rw [r1]; congr 1; omega, by omega, by rw [← tlc_s]; exact r3, fun j hj => ?_⟩
      cases j with
      | zero => exact ⟨y7, k1, f, s, z⟩
      | succ j => rw [← tlc_s]; exact r4 j (by omega)
theorem listLength_ok {f s : Nat} (hh : u.2.2.2 b = h) (hn : n ≤ 512) (z : SZc h n ow kd Fv P f t s) (hs : s ≤ 1900) (hN : 6000 ≤ N) : OK (fun w r => w = u ∧ (r = I (-1) ∨ ∃ k : Nat, r = I k ∧ 2 * k ≤ s ∧ LSTc h n ow kd Fv P t k)) (hm_Te_listLength N u b t) := by
  unfold hm_Te_listLength hb_Te_listLength_0
  rw [lit0q, show (0 : Int) = ((0 : Nat) : Int) from rfl]
  refine ok_mono (ll_loop (N := N) (ow := ow) (kd := kd) (Fv := Fv) (P := P) hh hn N s f 0 t z (by omega) hs (by omega)) (fun w r hw => ⟨hw.1, ?_⟩)
  rcases hw.2 with e | ⟨k, r1, r2⟩
  · exact Or.inl e
  · exact Or.inr ⟨k, by rw [r1, Nat.zero_add], r2⟩
end
def WDc (u : MS) (v : Nat) : Prop := 0 ≤ F u (20 * v + 2) ∧ F u (20 * v + 2) + 1 ≤ il (v + 2) ∧ il (v + 2) ≤ 100000 ∧ bl (v + 1) ≤ 100000 ∧ ∀ k : Nat, (k : Int) < F u (20 * v + 2) → 0 ≤ A u (v + 2) k ∧ A u (v + 2) k ≤ A u (v + 2) (k + 1) ∧ A u (v + 2) (k + 1) ≤ bl (v + 1)
section
variable {N : Nat} {u w : MS} {v : Nat}
theorem WDc_fr {is ls as js : List Nat} (h : WDc u v) (f : FR is ls as js u w) (h1 : 20 * v + 2 ∉ is) (h2 : v + 2 ∉ as) : WDc w v := by
  unfold WDc
  rw [FR.F f h1]
  simp only [FR.A f h2]
  exact h
theorem wsign_ok {a k : Int} (h : WDc u v) (ha : RG a) (hk : RG k) : OK (fun w _ => w = u) (hm_Wo_sign N u v (I a) (I k)) := by
  obtain ⟨h1, h2, h3, h3b, h4⟩ := h
  unfold hm_Wo_sign hb_Wo_sign_0 hb_Wo_sign_35
  simp only [I_F, I_A, lit0q, lit1q, I_add, I_sub]
  have non : OK (fun w _ => w = u) (some (u, (-1 : Int32))) := ok_some.mpr rfl
  refine k_lt ha ⟨by decide, by decide⟩ (fun _ => non) (fun a0 => k_le (FRG1 u _) ha (fun _ => non) (fun a1 => k_lt hk ⟨by decide, by decide⟩ (fun _ => non) (fun k0 => ?_)))
  have hr := ha.2
  obtain ⟨n, rfl⟩ : ∃ n : Nat, a = n := ⟨a.toNat, by omega⟩
  obtain ⟨g1, g2, g3⟩ := h4 n a1
  have hkr := hk.2
  refine e_in ⟨by omega, by omega⟩ (by omega) (e_in ⟨by omega, by omega⟩ (by omega) ?_)
  rw [show ((n : Nat) : Int) + 1 = ((n + 1 : Nat) : Int) by omega, tnI (n := n + 1) rfl (by omega), tnI (n := n) rfl (by omega)]
  refine k_lt hk ⟨by omega, by omega⟩ (fun k1 => e_in ⟨by omega, by omega⟩ (by omega) (e_in ⟨by omega, by omega⟩ (by omega) (ok_some.mpr rfl))) (fun _ => non)
theorem wlength_ok {a : Int} (h : WDc u v) (ha : RG a) : OK (fun w r => w = u ∧ ∃ k : Int, r = I k ∧ 0 ≤ k ∧ k ≤ 100000) (hm_Wo_length N u v (I a)) := by
  obtain ⟨h1, h2, h3, h3b, h4⟩ := h
  unfold hm_Wo_length hb_Wo_length_0 hb_Wo_length_12 hb_Wo_length_31
  simp only [I_F, I_A, lit0q, lit1q, I_add, I_sub]
  have non : OK (fun w r => w = u ∧ ∃ k : Int, r = I k ∧ 0 ≤ k ∧ k ≤ 100000) (some (u, I 0)) := ok_some.mpr ⟨rfl, 0, rfl, by omega, by omega⟩
  refine k_lt ha ⟨by decide, by decide⟩ (fun _ => non) (fun a0 => k_lt ha (FRG1 u _) (fun a1 => ?_) (fun _ => non))
  have hr := ha.2
  obtain ⟨n, rfl⟩ : ∃ n : Nat, a = n := ⟨a.toNat, by omega⟩
  obtain ⟨g1, g2, g3⟩ := h4 n a1
  refine e_in ⟨by omega, by omega⟩ (by omega) (e_in ⟨by omega, by omega⟩ (by omega) ?_)
  rw [show ((n : Nat) : Int) + 1 = ((n + 1 : Nat) : Int) by omega, tnI (n := n + 1) rfl (by omega), tnI (n := n) rfl (by omega)]
  exact ok_some.mpr ⟨rfl, _, rfl, by omega, by omega⟩
theorem wo_loop_c {a b : Nat} (h : WDc u v) (ha : (a : Int) < F u (20 * v + 2)) (hb : (b : Int) < F u (20 * v + 2)) : ∀ (M k : Nat), (k : Int) ≤ A u (v + 2) (a + 1) - A u (v + 2) a → (A u (v + 2) (a + 1) - A u (v + 2) a - k).toNat < M → OK (fun w _ => w = u) (hg_Wo_order N M u v (I a) (I b) (I (A u (v + 2) (a + 1) - A u (v + 2) a)) (I (A u (v + 2) (b + 1) - A u (v + 2) b)) (I k)) := by
  intro M
  have ha2 := h.2.2.2.2 a ha
  have hb2 := h.2.2.2.2 b hb
  obtain ⟨h1, h2, h3, h3b, h4⟩ := h
  induction M with
  | zero => intro k _ z; omega
  | succ M ih =>
    intro k hk hm
    show OK _ (hb_Wo_order_36 N (hg_Wo_order N M) u v _ _ _ _ _)
    unfold hb_Wo_order_36 hb_Wo_order_94
    refine k_le ⟨by omega, by omega⟩ ⟨by omega, by omega⟩ (fun _ => ok_some.mpr rfl) (fun k1 => k_le ⟨by omega, by omega⟩ ⟨by omega, by omega⟩ (fun _ => ok_some.mpr rfl) (fun k2 => ?_))
    rw [tnI (n := a) rfl (by omega), tnI (n := b) rfl (by omega), I_A (k := v + 2) (i := a), I_A (k := v + 2) (i := b), I_add, I_add]
    refine e_in ⟨by omega, by omega⟩ (by omega) (e_in ⟨by omega, by omega⟩ (by omega) (e_in ⟨by omega, by omega⟩ (by omega) (e_in ⟨by omega, by omega⟩ (by omega) (ok_br.mpr ⟨fun _ => ?_, fun _ => ok_some.mpr rfl⟩))))
    rw [lit1q, I_add, show ((k : Nat) : Int) + 1 = ((k + 1 : Nat) : Int) by omega]
    exact ih (k + 1) (by omega) (by omega)
theorem worder_ok {a b : Nat} (h : WDc u v) (ha : (a : Int) < F u (20 * v + 2)) (hb : (b : Int) < F u (20 * v + 2)) (hN : 200000 ≤ N) : OK (fun w _ => w = u) (hm_Wo_order N u v (I a) (I b)) := by
  have ha2 := h.2.2.2.2 a ha
  have hb2 := h.2.2.2.2 b hb
  have h' := h
  obtain ⟨h1, h2, h3, h3b, h4⟩ := h
  unfold hm_Wo_order hb_Wo_order_0
  simp only [I_A, lit0q, lit1q, I_add, I_sub]
  refine e_in ⟨by omega, by omega⟩ (by omega) (e_in ⟨by omega, by omega⟩ (by omega) (e_in ⟨by omega, by omega⟩ (by omega) (e_in ⟨by omega, by omega⟩ (by omega) ?_)))
  rw [tnI (n := a) rfl (by omega), tnI (n := b) rfl (by omega), tnI (n := a + 1) (by omega) (by omega), tnI (n := b + 1) (by omega) (by omega)]
  exact wo_loop_c (N := N) h' ha hb N 0 (by omega) (by omega)
end
def PT (u : MS) (t : Int64) : Prop := (so t = 0 ∨ so t = 1 ∨ so t = 2 ∨ so t = 4 ∨ so t = 6) ∧ (so t = 1 → 0 ≤ va t ∧ va t < F u 22)
def FVc (Fv : Int64 → Int64 → Prop) : Prop := (∀ a b, Fv a b → so a = 8 ∧ so b = 8) ∧ ∀ a b a2 b2, Fv a b → Fv a2 b2 → va a = va a2 → va b = va b2
section
variable {h : Nat → Int64} {n N b : Nat} {ow kd : Nat → Nat} {Fv : Int64 → Int64 → Prop} {P : Int64 → Prop} {u v w : MS} {t x y : Int64}
theorem GT_so (hP : ∀ t, P t → PT u t) (g : GT n ow kd P t) : 0 ≤ so t ∧ so t ≤ 7 := by
  rcases g with z | z
  · have := (hP t z.2).1; omega
  · have := z.1; unfold isH at this; omega
theorem cmpI {a c : Int} (ha : RG a) (hc : RG c) : OK (fun w r => w = u ∧ (r = 0 → a = c)) (hm_JI_compare N u (I a) (I c)) := by
  unfold hm_JI_compare hb_JI_compare_0 hb_JI_compare_19
  refine k_le hc ha (fun _ => k_eq ha hc (fun e => ok_some.mpr ⟨rfl, fun _ => e⟩) (fun _ => ok_some.mpr ⟨rfl, fun z => absurd z (by decide)⟩)) (fun _ => ok_some.mpr ⟨rfl, fun z => absurd z (by decide)⟩)
theorem orderAlone_ok (hh : u.2.2.2 b = h) (hn : n ≤ 512) (g : HPc h n ow kd Fv P) (hP : ∀ t, P t → PT u t) (hA : WDc u 1) (gx : GT n ow kd P x) (gy : GT n ow kd P y) (hN : 200000 ≤ N) : OK (fun w r => w = u ∧ (r = 0 → so x = so y ∧ (so x = 5 ∨ so x = 3 → va (h (vn x)) = va (h (vn y))))) (hm_Te_orderAlone N u b x y) := by
  unfold hm_Te_orderAlone hb_Te_orderAlone_0 hb_Te_orderAlone_62 hb_Te_orderAlone_107
  have hx := so_r x
  have hy := so_r y
  have vx := va_r x
  have vy := va_r y
  simp only [e_tag, bnd_so, valI]
  refine k_eq hx hy (fun e => ?_) (fun e => ?_)
  · rw [I_lit (n := 1), I_lit (n := 5), I_lit (n := 3), I_lit (n := 7)]
    refine k_eq hx ⟨by decide, by decide⟩ (fun e1 => ?_) (fun n1 => ?_)
    · have e1 : so x = 1 := e1
      refine k_eq vx vy (fun e2 => ok_some.mpr ⟨rfl, fun _ => ⟨e, fun z => by omega⟩⟩) (fun _ => ?_)
      have qx : PT u x := by
        rcases gx with z | z
        · exact hP x z.2
        · have := z.1; unfold isH at this; omega
      have qy : PT u y := by
        rcases gy with z | z
        · exact hP y z.2
        · have := z.1; unfold isH at this; omega
      have q1 := qx.2 e1
      have q2 := qy.2 (by omega)
      rw [vn_e q1.1, vn_e q2.1]
      refine ok_bnd.mpr (ok_mono (worder_ok (N := N) (a := vn x) (b := vn y) hA (by have := vn_e q1.1; show _ < F u 22; omega) (by have := vn_e q2.1; show _ < F u 22; omega) hN) (fun w r hw => ok_some.mpr ⟨hw, fun _ => ⟨e, fun z => by omega⟩⟩))
    · have heads : so x = 5 ∨ so x = 3 → OK (fun w r => w = u ∧ (r = 0 → so x = so y ∧ (so x = 5 ∨ so x = 3 → va (h (vn x)) = va (h (vn y))))) (hb_Te_orderAlone_75 N () u b (I (va x)) (I (va y))) := by
        intro hz
        have bx := (HP_bkc g (by unfold isH; omega) gx).1
        have bY := (HP_bkc g (t := y) (by unfold isH; omega) gy).1
        have px := blk_pos (h := h) (t := x) (by unfold isH; omega)
        have py := blk_pos (h := h) (t := y) (by unfold isH; omega)
        have b1 := bx.2.2.2.1
        have b2 := bY.2.2.2.1
        unfold hb_Te_orderAlone_75
        rw [vn_e bx.1, vn_e bY.1]
        refine e_in ⟨by omega, by omega⟩ (by decide) (e_in ⟨by omega, by omega⟩ (by decide) ?_)
        rw [tnI (n := vn x) rfl (by omega), tnI (n := vn y) rfl (by omega), hh, valI, valI]
        refine ok_bnd.mpr (ok_mono (cmpI (va_r _) (va_r _)) (fun w r hw => ok_some.mpr ⟨hw.1, fun z => ⟨e, fun _ => hw.2 z⟩⟩))
      refine k_eq hx ⟨by decide, by decide⟩ (fun e1 => heads (Or.inl e1)) (fun n5 => ?_)
      refine k_eq hx ⟨by decide, by decide⟩ (fun e1 => heads (Or.inr e1)) (fun n3 => ?_)
      have nn : ¬ (so x = 5 ∨ so x = 3) := fun z => z.elim n5 n3
      refine k_eq hx ⟨by decide, by decide⟩ (fun e1 => ok_some.mpr ⟨rfl, fun _ => ⟨e, fun z => absurd z nn⟩⟩) (fun n7 => ?_)
      exact ok_bnd.mpr (ok_mono (cmpI vx vy) (fun w r hw => ok_some.mpr ⟨hw.1, fun _ => ⟨e, fun z => absurd z nn⟩⟩))
  · refine ok_some.mpr ⟨rfl, fun z => ?_⟩
    have qx := GT_so hP gx
    have qy := GT_so hP gy
    rw [I_sub, lit0q, I_eq (by omega) (by omega) (by decide) (by decide)] at z
    exact absurd (by omega) e
theorem partsOf_e {k : Int} : hm_Te_partsOf N u t (I k) = some (u, I (k - (if so t = 5 then 1 else if so t = 3 then 2 else 0))) := by
  have hr := so_r t
  unfold hm_Te_partsOf hb_Te_partsOf_0 hb_Te_partsOf_28
  rw [e_tag, bnd_so, I_lit (n := 5), I_lit (n := 3), I_lit (n := 1), I_lit (n := 2), decE hr.1 hr.2 (by decide) (by decide), decE hr.1 hr.2 (by decide) (by decide), I_sub, I_sub]
  by_cases e5 : so t = 5
  · rw [decide_eq_true (show so t = OfNat.ofNat 5 from e5), br_tq, if_pos e5]
  · rw [decide_eq_false (show ¬ so t = OfNat.ofNat 5 from e5), br_fq, if_neg e5]
    by_cases e3 : so t = 3
    · rw [decide_eq_true (show so t = OfNat.ofNat 3 from e3), br_tq, if_pos e3]
    · rw [decide_eq_false (show ¬ so t = OfNat.ofNat 3 from e3), br_fq, if_neg e3]
      congr 3
      omega
theorem blk_same (hF : FVc Fv) (kx : BKc h n ow kd Fv x) (ky : BKc h n ow kd Fv y) (hx : isH x) (e : so x = so y) (e2 : so x = 5 ∨ so x = 3 → va (h (vn x)) = va (h (vn y))) : blk h x = blk h y := by
  unfold blk
  rw [← e]
  rcases hx with z | z | z
  · rw [if_neg (by omega), if_neg (by omega), if_pos z, if_neg (by omega), if_neg (by omega), if_pos z]
    have := hF.2 _ _ _ _ (kx.2.2.1 z).2 (ky.2.2.1 (by omega)).2 (e2 (Or.inr z))
    unfold vn at this ⊢
    rw [this]
  · rw [if_neg (by omega), if_pos z, if_neg (by omega), if_pos z]
    have := e2 (Or.inl z)
    unfold vn at this ⊢
    rw [this]
  · rw [if_pos z, if_pos z]
theorem order_loop {u0 : MS} (hb : b ≠ 45 ∧ b ≠ 46) (hh : u0.2.2.2 b = h) (hn : n ≤ 512) (g : HPc h n ow kd Fv P) (hP : ∀ t, P t → PT u0 t) (hF : FVc Fv) (hA : WDc u0 1) (hN : 200000 ≤ N) : ∀ M : Nat,
    (∀ (w : MS) (top cn : Nat), FR [] [] [] [45, 46] u0 w → top ≤ 2048 → (∀ j, j < top → GT n ow kd P (w.2.2.2 45 j) ∧ GT n ow kd P (w.2.2.2 46 j)) → cn ≤ 1000000000 → (1000000000 - cn) * 600 + 3 ≤ M → OK (fun w _ => FR [] [] [] [45, 46] u0 w) ((hg_Te_order N M).1 w b (I top) (I cn))) ∧
    (∀ (w : MS) (x y : Int64) (top cn : Nat) (i f0 : Int), FR [] [] [] [45, 46] u0 w → top ≤ 2048 → (∀ j, j < top → GT n ow kd P (w.2.2.2 45 j) ∧ GT n ow kd P (w.2.2.2 46 j)) → cn < 1000000000 → (isH x → GT n ow kd P x ∧ GT n ow kd P y ∧ isH y ∧ blk h y = blk h x ∧ (prt x : Int) = f0 ∧ prt y = prt x) → (¬ isH x → i < f0) → 0 ≤ f0 ∧ f0 ≤ 600 → -1 ≤ i → i < blk h x ∨ i < f0 → i ≤ 520 → (1000000000 - cn - 1) * 600 + 4 + (i + 2).toNat ≤ M → OK (fun w _ => FR [] [] [] [45, 46] u0 w) ((hg_Te_order N M).2 w b (I top) (I cn) (I (va x)) (I (va y)) (I f0) (I i))) := by
  intro M
  induction M with
  | zero => exact ⟨fun w top cn _ _ _ _ hM => by omega, fun w x y top cn i f0 _ _ _ _ _ _ _ _ _ _ hM => by omega⟩
  | succ M ih =>
    refine ⟨fun w top cn f ht hst hcn hM => ?_, fun w x y top cn i f0 f ht hst hcn hxy hnx hf0 hi0 hi1 hi2 hM => ?_⟩
    · show OK _ (hb_Te_order_21 N (hg_Te_order N M) w b (I top) (I cn))
      unfold hb_Te_order_21 hb_Te_order_179
      have hw : w.2.2.2 b = h := by rw [FRj f (by simp; omega)]; exact hh
      rw [I_lit (n := 1000000000), m1I, lit0q]
      refine k_le ⟨by decide, by decide⟩ ⟨by omega, by omega⟩ (fun _ => ok_some.mpr f) (fun y => ?_)
      have y : (cn : Int) < 1000000000 := y
      refine k_le ⟨by omega, by omega⟩ ⟨by decide, by decide⟩ (fun _ => ok_some.mpr f) (fun y2 => ?_)
      have e1 : I ((top : Int)) + I (-1) = I (((top - 1 : Nat) : Int)) := by rw [I_add]; congr 1; omega
      rw [e1]
      refine e_in ⟨by omega, by omega⟩ (by decide) (e_in ⟨by omega, by omega⟩ (by decide) ?_)
      rw [tnI (n := top - 1) rfl (by omega)]
      obtain ⟨gx, gy⟩ := hst (top - 1) (by omega)
      have hPw : ∀ t, P t → PT w t := fun t ht => by have := hP t ht; unfold PT at this ⊢; rw [FR.F f (by simp)]; exact this
      refine ok_bnd.mpr (ok_mono (orderAlone_ok (N := N) hw hn g hPw (WDc_fr hA f (by simp) (by simp)) gx gy hN) (fun w2 r hw2 => ?_))
      obtain ⟨e2, hr⟩ := hw2
      subst e2
      refine ok_br.mpr ⟨fun hz => ?_, fun _ => ok_some.mpr f⟩
      obtain ⟨q1, q2⟩ := hr (of_decide_eq_true hz)
      refine e_in ⟨by omega, by omega⟩ (by decide) (e_in ⟨by omega, by omega⟩ (by decide) (e_in ⟨by omega, by omega⟩ (by decide) ?_))
      obtain ⟨x, hxe⟩ : ∃ x, w2.2.2.2 45 (top - 1) = x := ⟨_, rfl⟩
      obtain ⟨yy, hye⟩ : ∃ x, w2.2.2.2 46 (top - 1) = x := ⟨_, rfl⟩
      rw [hxe] at gx q1 q2 ⊢
      rw [hye] at gy q1 q2 ⊢
      by_cases hx : isH x
      · have hy : isH yy := by unfold isH at hx ⊢; rw [← q1]; exact hx
        have bx := (HP_bkc g hx gx).1
        have bY := (HP_bkc g hy gy).1
        have hbs := blk_same hF bx bY hx q1 q2
        have hpp : prt yy = prt x := by unfold prt; rw [q1]
        rw [cellsAt_h hw hn hx bx, bnd_so]
        refine e_in ⟨by omega, by omega⟩ (by decide) ?_
        rw [hxe, partsOf_e, bnd_so, I_sub, valI, valI, lit1q, I_sub]
        have hp := prt_le (h := h) hx
        have hbl := bx.2.2.2.1
        have hpx : (prt x : Int) = (blk h x : Int) - ((blk h x : Int) - (if so x = 5 then 1 else if so x = 3 then 2 else 0)) := by
          unfold isH at hx
          unfold prt
          split <;> split <;> (try split) <;> (try split) <;> omega
        refine ih.2 w2 x yy (top - 1) cn _ _ f (by omega) (fun j hj => hst j (by omega)) (by omega) (fun _ => ⟨gx, gy, hy, hbs.symm, hpx, hpp⟩) (fun z => absurd hx z) (by omega) (by omega) (by omega) (by omega) (by omega)
      · rw [cellsAt_n hx, bnd_so]
        refine e_in ⟨by omega, by omega⟩ (by decide) ?_
        rw [hxe, lit0q, partsOf_e, bnd_so, I_sub, valI, valI, lit1q, I_sub]
        have hnp : (if so x = 5 then (1 : Int) else if so x = 3 then 2 else 0) = 0 := by
          unfold isH at hx
          rw [if_neg (by omega), if_neg (by omega)]
        rw [hnp]
        refine ih.2 w2 x yy (top - 1) cn _ _ f (by omega) (fun j hj => hst j (by omega)) (by omega) (fun z => absurd z hx) (fun _ => by omega) (by omega) (by omega) (by omega) (by omega) (by omega)
    · show OK _ (hb_Te_order_121 N (hg_Te_order N M) w b (I top) (I cn) (I (va x)) (I (va y)) (I f0) (I i))
      unfold hb_Te_order_121 hb_Te_order_173
      have hw : w.2.2.2 b = h := by rw [FRj f (by simp; omega)]; exact hh
      have back : OK (fun w _ => FR [] [] [] [45, 46] u0 w) ((hg_Te_order N M).1 w b (I top) (I cn + 1)) := by
        rw [lit1q, I_add, show ((cn : Nat) : Int) + 1 = ((cn + 1 : Nat) : Int) by omega]
        exact ih.1 w top (cn + 1) f ht hst (by omega) (by omega)
      refine k_lt ⟨by omega, by omega⟩ ⟨by omega, by omega⟩ (fun _ => back) (fun h1 => ?_)
      have hx : isH x := by
        by_cases e : isH x
        · exact e
        · have := hnx e; omega
      obtain ⟨gx, gy, hy, hbs, hpx, hpp⟩ := hxy hx
      rw [I_lit (n := 2048)]
      refine k_le ⟨by decide, by decide⟩ ⟨by omega, by omega⟩ (fun _ => back) (fun h2 => ?_)
      have h2 : (top : Int) < 2048 := h2
      obtain ⟨bx, px⟩ := HP_bkc g hx gx
      obtain ⟨bY, py⟩ := HP_bkc g hy gy
      have b1 := bx.2.2.2.1
      have b2 := bY.2.2.2.1
      obtain ⟨k, rfl⟩ : ∃ k : Nat, i = k := ⟨i.toNat, by omega⟩
      rw [vn_e bx.1, vn_e bY.1, I_add, I_add, show ((vn x : Nat) : Int) + ((k : Nat) : Int) = ((vn x + k : Nat) : Int) by omega, show ((vn y : Nat) : Int) + ((k : Nat) : Int) = ((vn y + k : Nat) : Int) by omega]
      refine e_in ⟨by omega, by omega⟩ (by decide) (e_in ⟨by omega, by omega⟩ (by decide) (ok_lt.mpr ?_))
      rw [tnI (n := top) rfl (by omega), tnI (n := vn x + k) rfl (by omega), wj_e, hw]
      refine e_in ⟨by omega, by omega⟩ (by decide) (e_in ⟨by omega, by omega⟩ (by decide) (ok_lt.mpr ?_))
      rw [tnI (n := vn y + k) rfl (by omega), wj_e, m1I, I_add, lit1q, I_add, show ((top : Nat) : Int) + 1 = ((top + 1 : Nat) : Int) by omega, ← vn_e bx.1, ← vn_e bY.1]
      have hw2 : (wj w 45 top (h (vn x + k))).2.2.2 b = h := by
        rw [show (wj w 45 top (h (vn x + k))).2.2.2 b = w.2.2.2 b from if_neg hb.1]; exact hw
      rw [hw2]
      refine ih.2 _ x y (top + 1) cn _ f0 (FR.wj (FR.wj f (by decide)) (by decide)) (by omega) (fun j hj => ?_) hcn hxy (fun z => absurd hx z) hf0 (by omega) (by omega) (by omega) (by omega)
      rw [wj_row, show (wj (wj w 45 top (h (vn x + k))) 46 top (h (vn y + k))).2.2.2 45 = (wj w 45 top (h (vn x + k))).2.2.2 45 from rfl, wj_row, show (wj w 45 top (h (vn x + k))).2.2.2 46 = w.2.2.2 46 from rfl]
      by_cases e : j = top
      · rw [if_pos e, if_pos e]
        exact ⟨px k (by omega) (by omega), py k (by omega) (by omega)⟩
      · rw [if_neg e, if_neg e]
        exact hst j (by omega)
theorem orderc_ok (hb : b ≠ 45 ∧ b ≠ 46) (hh : u.2.2.2 b = h) (hn : n ≤ 512) (g : HPc h n ow kd Fv P) (hP : ∀ t, P t → PT u t) (hF : FVc Fv) (hA : WDc u 1) (gx : GT n ow kd P x) (gy : GT n ow kd P y) (hN : 600000000010 ≤ N) : OK (fun w _ => FR [] [] [] [45, 46] u w) (hm_Te_order N u b x y) := by
  unfold hm_Te_order hb_Te_order_0
  refine e_in (x := 0) ⟨by decide, by decide⟩ (by decide) (ok_lt.mpr ?_)
  rw [show (0 : Int32).toNatClampNeg = 0 from rfl, wj_e]
  refine e_in (x := 0) ⟨by decide, by decide⟩ (by decide) (ok_lt.mpr ?_)
  rw [wj_e, lit0q, lit1q, show (0 : Int) = ((0 : Nat) : Int) from rfl, show (1 : Int) = ((1 : Nat) : Int) from rfl]
  refine (order_loop (N := N) (u0 := u) (b := b) (ow := ow) (kd := kd) (P := P) hb hh hn g hP hF hA (by omega) N).1 _ 1 0 (FR.wj (FR.wj FR.rf (by decide)) (by decide)) (by omega) (fun j hj => ?_) (by omega) (by omega)
  rw [wj_row, show (wj (wj u 45 0 x) 46 0 y).2.2.2 45 = (wj u 45 0 x).2.2.2 45 from rfl, wj_row, if_pos (by omega), if_pos (by omega)]
  exact ⟨gx, gy⟩
end
