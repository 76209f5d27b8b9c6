set_option maxRecDepth 100000
section
variable {T : Nat → Option (Nat × Nat × List Nat × Nat × Nat)} {Fv : Int64 → Int64 → Prop} {P : Int64 → Prop} {u v w w1 : MS} {PR N q r n B W Y i h m g x j wb nb cb rk c f i2 h2 m2 k a U d : Nat} {L : List Nat} {ow kd : Nat → Nat} {t rest : Int64} {gi gl ga ki kl ka kj : List Nat}
theorem procAt_ok {y : Int} (M : MIc T Fv P PR q u i h m L g x j wb nb cb rk) (p : PTQ u q n ow kd Fv P (nb + m) (wb + h) Y) (hy : y = ((k : Nat) : Int)) (hk : k < h) : OK (fun w r => w = u ∧ ∀ j, r = some j → j < PR) (hm_Ma_processAt N u q (I y)) := by
  obtain ⟨b0, g0⟩ := below_m (N := N) M p hy hk
  unfold hm_Ma_processAt hb_Ma_processAt_0 hb_Ma_processAt_30
  rw [b0, bnd_so, e_tag, bnd_so]
  refine ok_br.mpr ⟨fun _ => ?_, fun _ => ok_some.mpr ⟨rfl, fun _ z => by cases z⟩⟩
  rw [valI]
  exact ok_bnd.mpr (ok_mono (findc_ok (N := N) M.1.1.1 (ti_rng _)) (fun w r hw => ok_some.mpr hw))
theorem SRC_top (M : MIc T Fv P PR q u i h m L g x j wb nb cb rk) (p : PTQ u q n ow kd Fv P (nb + m) (wb + h) Y) (hk : 1 ≤ h) : SRCc Fv P PR u r (u.2.2.2 (pq q 35) (wb + h - 1)) (some q) := by
  refine Or.inr ⟨q, n, ow, kd, rfl, M.1.2.2.2.2.2.2.1, by have := p.1.2.1; omega, p.1.2.2, p.2.2.1.2 _ (by omega), fun e => ?_⟩
  rw [← e]
  exact ⟨nb + m, wb + h - 1, Y, by rw [show wb + h - 1 + 1 = wb + h by omega]; exact p, rfl⟩
theorem below_w (M : MIc T Fv P PR q u i h m L g x j wb nb cb rk) (k : WQ Fv P PR u w) (hk : 1 ≤ h) : ∃ t, hm_Fr_below N w q 0 = some (w, t) ∧ (F w (pq q 9) ≠ 3 → ∀ n ow kd Y, PTQ w q n ow kd Fv P (nb + m) (wb + h) Y → GT n ow kd P t) := by
  obtain ⟨n, ow, kd, Y, p⟩ := MI_p M
  obtain ⟨l, l1, l2, l3⟩ := p.2.2.2.2.2.1
  refine ⟨w.2.2.2 (pq q 35) (wb + h - 1), below_e (x := 0) (k := 0) (by rw [k.2.1.F (by omega) (by simp)]; exact p.2.2.1.1) (by rw [k.2.1.F (by omega) (by simp)]; exact l1) l2 l3 rfl (by omega), fun _ n ow kd Y p2 => p2.2.2.1.2 _ (by omega)⟩
theorem sendTo_ok (M : MIc T Fv P PR q u i h m L g x j wb nb cb rk) (hx : x < i) (t9 : F u 1109 = 0) (t8 : F u 1108 = 0) (hf : PHc T u q i x rk ≤ c) (hk : 2 ≤ h) (t2 : T (i + 1) = some (h - 1, m, L, g, x)) (hN : 3000000 ≤ N) : OK (fun w _ => OPQ T Fv P PR q c w) (hm_Ma_sendTo N u q) := by
  obtain ⟨n, ow, kd, Y, p⟩ := MI_p M
  obtain ⟨b0, g0⟩ := below_0 (N := N) M p (by omega)
  obtain ⟨b1, g1⟩ := below_1 (N := N) M p (by omega)
  have hq := M.1.1.1.1.2
  have hq2 := M.1.2.2.2.2.2.2.1
  have main : ∀ r : Option Nat, (∀ j, r = some j → j < PR) → OK (fun w _ => OPQ T Fv P PR q c w) (hb_Ma_sendTo_34 N () u q r) := by
    intro r hr
    unfold hb_Ma_sendTo_34
    rcases r with _ | jj
    · exact ok_br.mpr ⟨fun _ => ERR_o (a := 11) M t9 t8 hf (by omega), fun z => absurd z (by decide)⟩
    · refine ok_br.mpr ⟨fun z => absurd z (by simp), fun _ => ?_⟩
      rw [b0, bnd_so, bo_s, show Int32.ofNat q = I ((q : Nat) : Int) from rfl, lit0q]
      refine ok_bnd.mpr (ok_mono (postc_ok (N := N) (a := 0) (v4 := 0) M.1.1 M.1.2.1 (hr jj rfl) (Or.inl rfl) ⟨by omega, by omega⟩ ⟨by decide, by decide⟩ (fun _ => SRC_top M p (by omega)) hN) (fun w1 _ hw1 => ?_))
      obtain ⟨t, e1, e2⟩ := below_w (N := N) M hw1.1 (by omega)
      rw [← lit0q, e1, bnd_so, I_lit (n := 2)]
      exact ok_bnd.mpr (ok_mono (wans_ok (N := N) (y := 2) (z := 1) (k := 2) (wd := 1) M hx t9 t8 hf hw1.1 rfl hk e2 rfl (by omega) (by rw [show h - 2 + 1 = h - 1 by omega]; exact t2)) (fun w _ hw => ok_lt.mpr (ok_some.mpr hw.2)))
  unfold hm_Ma_sendTo hb_Ma_sendTo_0
  rw [b1, bnd_so, e_tag, bnd_so]
  refine ok_br.mpr ⟨fun _ => ?_, fun _ => ?_⟩
  · rw [valI]
    refine ok_bnd.mpr (ok_mono (namedc_ok (N := N) M.1.1.1 (ti_rng _) (by omega)) (fun w r hw => ?_))
    obtain ⟨rfl, hr⟩ := hw
    exact main r (fun j hj => (hr j hj).1)
  · rw [lit1q]
    refine ok_bnd.mpr (ok_mono (procAt_ok (N := N) (y := 1) (k := 1) M p rfl (by omega)) (fun w r hw => ?_))
    obtain ⟨rfl, hr⟩ := hw
    exact main r hr
theorem val8 : hm_Ma_value N u q (I 8) = bnd (hm_Co_at N u ((u.1 1105) + 1)) (fun u4 r4 => bnd (hm_Fr_below N u4 q 1) (fun u11 r11 => bnd (hm_Fr_below N u11 q 0) (fun u14 r14 => bnd (hm_Te_order N u14 (pq q 2) r11 r14) (fun u16 r16 => bnd (hm_Ma_holds N u16 r4 r16) (fun u18 r18 => bnd (hm_Ma_truth N u18 r18) (fun u19 r19 => bnd (hm_Ma_answer N u19 q 2 r19) (fun u20 _ => lt (upI u20 1105 ((u20.1 1105) + 2)) (fun w22 => some (w22, ()))))))))) := rfl
theorem val9 : hm_Ma_value N u q (I 9) = bnd (hm_Co_at N u ((u.1 1105) + 1)) (fun u4 r4 => bnd (hm_Ma_arithmetic N u4 q r4) (fun u23 _ => some (u23, ()))) := rfl
theorem val10 : hm_Ma_value N u q (I 10) = bnd (hm_Co_at N u ((u.1 1105) + 1)) (fun u4 r4 => br (decide (r4 = 43)) (bnd (hm_Ma_join N u4 q) (fun u25 _ => some (u25, ()))) (bnd (hm_Ma_without N u4 q) (fun u24 _ => some (u24, ())))) := rfl
theorem val11 : hm_Ma_value N u q (I 11) = bnd (hm_Co_at N u ((u.1 1105) + 1)) (fun u4 _ => bnd (hm_Ma_negate N u4 q) (fun u23 _ => some (u23, ()))) := rfl
theorem val12 : hm_Ma_value N u q (I 12) = bnd (hm_Co_at N u ((u.1 1105) + 1)) (fun u4 _ => bnd (hm_Ma_not N u4 q) (fun u23 _ => some (u23, ()))) := rfl
theorem val13 : hm_Ma_value N u q (I 13) = bnd (hm_Co_at N u ((u.1 1105) + 1)) (fun u4 r4 => bnd (hm_Ma_hinge N u4 q 1 r4) (fun u23 _ => some (u23, ()))) := rfl
theorem val14 : hm_Ma_value N u q (I 14) = bnd (hm_Co_at N u ((u.1 1105) + 1)) (fun u4 r4 => bnd (hm_Ma_hinge N u4 q 0 r4) (fun u23 _ => some (u23, ()))) := rfl
theorem val15 : hm_Ma_value N u q (I 15) = bnd (hm_Co_at N u ((u.1 1105) + 1)) (fun u4 _ => bnd (hm_Fr_drop N u4 q 1) (fun u29 _ => lt (upI u29 1105 ((u29.1 1105) + 1)) (fun w32 => some (w32, ())))) := rfl
theorem val16 : hm_Ma_value N u q (I 16) = bnd (hm_Co_at N u ((u.1 1105) + 1)) (fun u4 r4 => bnd (hm_Fr_forget N u4 q r4) (fun u29 _ => lt (upI u29 1105 ((u29.1 1105) + 2)) (fun w32 => some (w32, ())))) := rfl
theorem val17 : hm_Ma_value N u q (I 17) = bnd (hm_Co_at N u ((u.1 1105) + 1)) (fun u4 _ => bnd (hm_Ma_sendTo N u4 q) (fun u23 _ => some (u23, ()))) := rfl
theorem value_ok (M : MIc T Fv P PR q u i h m L g x j wb nb cb rk) (t9 : F u 1109 = 0) (t8 : F u 1108 = 0) (hf : PHc T u q i x rk ≤ c) (h8 : 8 ≤ A u 23 i) (h18 : A u 23 i < 18) (hN : 600000000010 ≤ N) : OK (fun w _ => OPQ T Fv P PR q c w) (hm_Ma_value N u q (I (A u 23 i))) := by
  obtain ⟨n, ow, kd, Y, p⟩ := MI_p M
  have mb := MI_b M
  have ln := MI_ln M
  have cx := M.1.2.1
  obtain ⟨b1, b2, -, -, ⟨b5, b6⟩, ins⟩ := M.1.2.2.1 _ _ _ _ _ _ M.2.2.2.1.1
  have hx : x < i := b6 (by omega)
  have ok1 : ∀ {o : Option (MS × Unit)}, OK (fun w _ => OPQ T Fv P PR q c w) o → OK (fun w _ => OPQ T Fv P PR q c w) (bnd o (fun u15 _ => some (u15, ()))) := fun h => ok_bnd.mpr (ok_mono h (fun w _ hw => ok_some.mpr hw))
  have bd : ∀ {k y}, T k = some y → k < 24000 := fun {k y} e => by
    obtain ⟨a, b, c, d, e2⟩ := y
    exact (M.1.2.2.1 _ _ _ _ _ _ e).1.2
  rcases ins with ins | ins | ins
  · rcases ins with ⟨o, -⟩ | ⟨o, -⟩ | ⟨o, -⟩ | ⟨o, -⟩ | ⟨o, -⟩ | ⟨o, -⟩ | ⟨o, -⟩ | ⟨o, o1, o2⟩ | ⟨o, o1, o2⟩ | ⟨o, o1, o2, e, o3, o4, o5⟩ | ⟨o, o1, o2⟩ | ⟨o, o0, s, o1, o2, o3⟩ | ⟨o, o1, o2⟩
    · omega
    · omega
    · omega
    · omega
    · omega
    · omega
    · omega
    · have := bd o2
      obtain ⟨c0, gc0⟩ := below_0 (N := N) M p (by omega)
      obtain ⟨c1, gc1⟩ := below_1 (N := N) M p (by omega)
      rcases o with o | o | o
      · rw [o, val8, opd1 M (by omega), bnd_so, c1, bnd_so, c0, bnd_so]
        refine ok_bnd.mpr (ok_mono (orderc_ok (N := N) (n := n) (ow := ow) (kd := kd) (Fv := Fv) (P := P) (b := pq q 2) (by unfold pq; omega) rfl (by have := p.1.2.1; omega) p.1.2.2 cx.2.1 cx.1 cx.2.2.1 gc1 gc0 hN) (fun w r hw => ?_))
        have fr : FR [] [] [] [44, 45, 46] u w := FR.mo hw (by simp) (by simp) (by simp) (by simp)
        obtain ⟨M1, ph1, s9, s8⟩ := MI_fr M hx fr
        have p1 := PT_fr (q := q) fr p
        obtain ⟨r2, e2⟩ := holds_any (N := N) (u := w) (I (A u 23 (i + 1))) r
        rw [e2, bnd_so]
        obtain ⟨a, ha, e3⟩ := truth_e (N := N) (u := w) r2
        rw [e3, bnd_so, I_lit (n := 2)]
        exact ok_bnd.mpr (ok_mono (ans_ok (N := N) (y := 2) (z := 2) (k := 2) (wd := 2) M1 hx (by rw [s9]; exact t9) (by rw [s8]; exact t8) (by rw [ph1]; exact hf) p1 (GT_at M1.1.2.1 ha) rfl o1 rfl (by omega) (by rw [show h - 2 + 1 = h - 1 by omega]; exact o2)) (fun w _ hw => ok_lt.mpr (ok_some.mpr hw.2)))
      · rw [o, val9, opd1 M (by omega), bnd_so]
        exact ok1 (arith_ok M hx t9 t8 hf o1 o2)
      · rw [o, val10, opd1 M (by omega), bnd_so]
        exact ok_br.mpr ⟨fun _ => ok1 (joinc_ok M hx t9 t8 hf o1 o2 (by omega)), fun _ => ok1 (without_ok M hx t9 t8 hf o1 o2 hN)⟩
    · have := bd o2
      rcases o with o | o
      · rw [o, val11, opd1 M (by omega), bnd_so]
        exact ok1 (negate_ok M hx t9 t8 hf o1 o2)
      · rw [o, val12, opd1 M (by omega), bnd_so]
        exact ok1 (not_okc M hx t9 t8 hf o1 o2)
    · have := bd o2
      rcases o with o | o
      · rw [o, val13, opd1 M (by omega), bnd_so, o3]
        exact ok1 (hinge_ok M hx t9 t8 hf o1 o2 o4 o5)
      · rw [o, val14, opd1 M (by omega), bnd_so, o3]
        exact ok1 (hinge_ok M hx t9 t8 hf o1 o2 o4 o5)
    · have := bd o2
      rw [o, val15, opd1 M (by omega), bnd_so, lit1q, drop_e (x := 1) (k := 1) p.2.2.1.1 rfl (by omega), bnd_so]
      refine ok_lt.mpr (ok_some.mpr ?_)
      obtain ⟨f1, p1⟩ := drop_t (k := 1) p (by omega)
      rw [show wb + h - 1 = wb + (h - 1) by omega] at p1 f1 ⊢
      exact fin_t M t9 t8 hf hx f1 p1 (LNB_m ln (by simp) (by omega)) o2 (by omega) (by omega) (by omega)
    · have := bd o3
      rw [o, val16, opd1 M (by omega), bnd_so, o1, forgetc_e (k := s) p.2.1.1 rfl (by omega), bnd_so]
      refine ok_lt.mpr (ok_some.mpr ?_)
      obtain ⟨f1, p1⟩ := forget_t (k := s) p (by omega)
      rw [show nb + m - s = nb + (m - s) by omega] at p1 f1 ⊢
      rw [I_lit (n := 2)]
      exact fin_t M t9 t8 hf hx f1 p1 (LNB_m ln (by simp) (by omega)) o3 (by show _ + (2 : Int) = _; omega) (by omega) (by omega)
    · have := bd o2
      rw [o, val17, opd1 M (by omega), bnd_so]
      exact ok1 (sendTo_ok M hx t9 t8 hf o1 o2 (by omega))
  · exfalso
    rcases ins with ⟨o, -⟩ | ⟨o, -⟩ | ⟨o, -⟩ | ⟨o, -⟩ | ⟨o, -⟩ | ⟨o, -⟩ | ⟨o, -⟩ | ⟨o, -⟩ | ⟨o, -⟩ | ⟨o, -⟩ | ⟨o, -⟩ <;> omega
  · exfalso
    rcases ins with ⟨o, -⟩ | ⟨o, -⟩ | ⟨o, -⟩ | ⟨o, -⟩ | ⟨o, -⟩ | o | ⟨o, -⟩ | ⟨o, -⟩ | ⟨o, -⟩ <;> omega
end
