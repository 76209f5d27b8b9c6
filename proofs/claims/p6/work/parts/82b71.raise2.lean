set_option maxRecDepth 100000
section
variable {T : Nat → Option (Nat × Nat × List Nat × Nat × Nat)} {Fv : Int64 → Int64 → Prop} {P : Int64 → Prop} {u v w w1 : MS} {PR N q r n B W Y i h m g x j wb nb cb rk c f i2 h2 m2 g2 x2 j2 wb2 nb2 cb2 rk2 k a U d b e s l : Nat} {L L2 : List Nat} {ow kd : Nat → Nat} {t rest : Int64} {gi gl ga ki kl ka kj : List Nat}
theorem endsP_ok {n2 : Nat} {ow2 kd2 : Nat → Nat} (G : GEN T Fv P PR q u) (h9 : F u (pq q 9) = 0) (t9 : F u 1109 = 0) (h21 : 0 ≤ F u (pq q 21) ∧ F u (pq q 21) ≤ 60) (f : FC q [] [] [] [4] [] [] [2] u w) (hn : n2 ≤ 512) (g : HPc (w.2.2.2 (pq q 2)) n2 ow2 kd2 Fv P) (gt : GT n2 ow2 kd2 P t) : OK (fun w _ => ENDc T Fv P PR q w) (hm_Wl_endsWith N w q t q) := by
  have hq := G.2.2.2.2.2.2.1
  have h92 : F w (pq q 9) = 0 := by rw [f.Fq (by omega) (by simp)]; exact h9
  have dw : DWo Fv P PR q w := DWo_fc (DWo_of G.1) f hq (by rw [h9]; decide) (by rw [h92]; decide) (SMQ_up (G.1.2 q hq).1 (f.Fq (by omega) (by simp)) (f.Fq (by omega) (by simp)) (by rw [f.Fq (by omega) (by simp)]; exact Int.le_refl _) (by rw [h9]; decide)) (by simp) (by simp)
  refine ok_mono (endsWith_ok (N := N) dw hq (by rw [h92]; decide) hq (Or.inl rfl) hn g gt) (fun w3 _ hw3 => ?_)
  obtain ⟨k1, k2, k3, k4, k5, k6, k7⟩ := hw3
  obtain ⟨g1, g2, g3, g4, g5, g6, g7, g8⟩ := G
  have s1 : SCQ u w := SCQ_f f (by simp) (by simp)
  have s2 := SCQ_w k2
  have s12 : SCQ u w3 := ⟨fun k hk => (s2.1 k hk).trans (s1.1 k hk), fun k hk => (s2.2 k hk).trans (s1.2 k hk)⟩
  refine ⟨⟨k1, CTX_s s12 g2, WFT_s s12 g3, CDT_s s12 g4, fun r hr hrq hal => ?_, ALN_k g6 ((k2.2.2.2.1 1948 (by omega) (by simp)).trans (f.2.2.1 1948 (by omega) (by simp))) (fun r hr h1 => ?_), g7, ?_⟩, k3, ?_, by rw [k2.F (by omega) (by simp), f.Fq (by omega) (by simp)]; exact h21⟩
  · exact PSQ_w (PSQ_o (g5 r hr hrq (by rw [← f.Fo hrq (by omega), ← k4 r hrq]; exact hal)) f hrq (by simp)) k2
  · refine LNB_w ?_ k2
    by_cases e : r = q
    · rw [e] at h1 hr ⊢; exact LNB_k h1 f (by simp)
    · exact LNB_o h1 f e
  · rw [k2.G (by omega) (by simp), k2.G (by omega) (by simp), f.Fg (by omega) (by simp), f.Fg (by omega) (by simp)]; exact g8
  · rw [k2.G (by omega) (by simp), f.Fg (by omega) (by simp)]; exact t9
theorem raise65_ok {how : Int} (G : GEN T Fv P PR q u) (h9 : F u (pq q 9) = 0) (t9 : F u 1109 = 0) (t8 : F u 1108 = 0) (st : STc T u q j wb nb cb rk L) (ti : T i = some (h, m, L, 0, x)) (p : PTQ u q n ow kd Fv P (nb + m) W Y) (hW : wb + h ≤ W ∧ W ≤ 65530) (gt : GT n ow kd P (u.2.1 1110)) (gd : F u 1112 = 0) (hh : how = 1 ∨ how = 2 ∨ how = 3) (hf : PHc T u q i x rk ≤ c) (hN : 3000000 ≤ N) : OK (fun w _ => NRM T Fv P PR q c w ∨ ENDc T Fv P PR q w) (hb_Ma_raise_65 N () u q (I how)) := by
  have hq := G.2.2.2.2.2.2.1
  have ln := GEN_ln G hq
  have wt := G.2.2.1
  have fb := FBc_b wt st.1
  have hj := st.2.1.2
  have tb := (wt _ _ _ _ _ _ ti)
  unfold hb_Ma_raise_65
  refine k_F (y := 0) rfl ⟨by decide, by decide⟩ (fun _ => ?_) (fun e28 => ?_)
  · 
    have e110 : ∀ (w : MS) (t : Int64) (n2 : Nat) (ow2 kd2 : Nat → Nat), FC q [] [] [] [4] [] [] [2] u w → n2 ≤ 512 → HPc (w.2.2.2 (pq q 2)) n2 ow2 kd2 Fv P → GT n2 ow2 kd2 P t → OK (fun w _ => NRM T Fv P PR q c w ∨ ENDc T Fv P PR q w) (hb_Ma_raise_110 N () w q t) := by
      intro w t n2 ow2 kd2 f hn g gt
      unfold hb_Ma_raise_110
      exact ok_bnd.mpr (ok_mono (endsP_ok (N := N) G h9 t9 (by have := st.2.1; omega) f hn g gt) (fun w3 _ hw3 => ok_some.mpr (Or.inr hw3)))
    have pn := p.1.2.1
    have e103 : ∀ a : Nat, a < 22 → OK (fun w _ => NRM T Fv P PR q c w ∨ ENDc T Fv P PR q w) (hb_Ma_raise_103 N () u q q (I ((a : Nat) : Int))) := by
      intro a ha
      unfold hb_Ma_raise_103
      refine ok_bnd.mpr (ok_mono (pair_t (N := N) G.2.1 p.1.1 (by omega) p.1.2.2 gt ha) (fun w3 r3 hw3 => ?_))
      obtain ⟨f3, e4, r3o, ow3, kd3, g1, g2, g3⟩ := hw3
      exact e110 w3 r3 (n + 3) ow3 kd3 f3 (by omega) g1 g2
    rw [I_lit (n := 2)]
    refine k_eq ⟨by omega, by omega⟩ ⟨by decide, by decide⟩ (fun _ => e110 u _ n ow kd FC.rf (by omega) p.1.2.2 gt) (fun _ => ?_)
    exact ok_br.mpr ⟨fun _ => e103 7 (by omega), fun _ => e103 19 (by omega)⟩
  · 
    have c28 := st.2.2.2.1
    have hc : 1 ≤ cb + L.length := by
      rcases Nat.eq_zero_or_pos (cb + L.length) with z | z
      · exfalso; rw [z] at c28; exact e28 c28
      · exact z
    obtain ⟨j2, wb2, nb2, cb2, rk2, tg, h2, m2, L2, u1, u2, u3, u4, u5, u6, u7, ⟨u8, u9, u10, u11⟩, u12, u13, u14⟩ := UNW_top wt st ti hc (tr := (F u (pq q 8)).toNat)
    have tgb := wt _ _ _ _ _ _ u5
    obtain ⟨l, l1, l2, l3, l4⟩ := LNB_47 ln
    have lc := LNB_c ln
    rw [c28, l1] at lc
    refine ok_bnd.mpr ?_
    unfold hm_Fr_unwind hb_Fr_unwind_0
    rw [I_F (k := pq q 28), c28, lit0q]
    refine k_eq ⟨by omega, by omega⟩ ⟨by decide, by decide⟩ (fun z => absurd z (by omega)) (fun _ => ok_lt.mpr ?_)
    rw [lit1q, I_sub, show ((cb + L.length : Nat) : Int) - 1 = ((cb2 + L2.length : Nat) : Int) by omega, wi_e]
    have x28 : (wi u (pq q 28) ((cb2 + L2.length : Nat) : Int)).1 (pq q 28) = I ((cb2 + L2.length : Nat) : Int) := by show (if pq q 28 = pq q 28 then _ else _) = _; rw [if_pos rfl]
    have xl : lnQ (wi u (pq q 28) ((cb2 + L2.length : Nat) : Int)) q 47 = l := lnQ_e (by rw [F_wi (by omega) (by omega), if_neg (pq_inj (by decide))]; exact l1)
    rw [x28, xl, I_lit (n := 4), I_mul, show ((cb2 + L2.length : Nat) : Int) * (OfNat.ofNat 4 : Int) = ((4 * (cb2 + L2.length) : Nat) : Int) by show _ * (4 : Int) = _; omega]
    refine e_in ⟨by omega, by omega⟩ (by omega) (ok_lt.mpr ?_)
    rw [tnI (n := 4 * (cb2 + L2.length)) rfl (by omega), I_A (k := pq q 37), A_wi, u8, wi_e]
    have xl2 : lnQ (wi (wi u (pq q 28) ((cb2 + L2.length : Nat) : Int)) (pq q 21) ((j2 + 1 : Nat) : Int)) q 47 = l := lnQ_e (by rw [F_wi (by omega) (by omega), if_neg (pq_inj (by decide)), F_wi (by omega) (by omega), if_neg (pq_inj (by decide))]; exact l1)
    rw [xl2, I_add]
    refine e_in ⟨by omega, by omega⟩ (by omega) (ok_lt.mpr ?_)
    rw [tnI (n := 4 * (cb2 + L2.length) + 1) (by omega) (by omega), I_A (k := pq q 37), A_wi, A_wi, u9, wi_e]
    have xl3 : lnQ (wi (wi (wi u (pq q 28) ((cb2 + L2.length : Nat) : Int)) (pq q 21) ((j2 + 1 : Nat) : Int)) (pq q 24) ((nb2 + m2 : Nat) : Int)) q 47 = l := lnQ_e (by rw [F_wi (by omega) (by omega), if_neg (pq_inj (by decide)), F_wi (by omega) (by omega), if_neg (pq_inj (by decide)), F_wi (by omega) (by omega), if_neg (pq_inj (by decide))]; exact l1)
    rw [xl3, I_lit (n := 2), I_add]
    refine e_in ⟨by show 0 ≤ _ + (2 : Int); omega, by show _ + (2 : Int) < _; omega⟩ (by omega) (ok_lt.mpr ?_)
    rw [tnI (n := 4 * (cb2 + L2.length) + 2) (by show _ + (2 : Int) = _; omega) (by omega), I_A (k := pq q 37), A_wi, A_wi, A_wi, u10, wi_e]
    have xl4 : lnQ (wi (wi (wi (wi u (pq q 28) ((cb2 + L2.length : Nat) : Int)) (pq q 21) ((j2 + 1 : Nat) : Int)) (pq q 24) ((nb2 + m2 : Nat) : Int)) (pq q 26) ((wb2 + h2 : Nat) : Int)) q 47 = l := lnQ_e (by rw [F_wi (by omega) (by omega), if_neg (pq_inj (by decide)), F_wi (by omega) (by omega), if_neg (pq_inj (by decide)), F_wi (by omega) (by omega), if_neg (pq_inj (by decide)), F_wi (by omega) (by omega), if_neg (pq_inj (by decide))]; exact l1)
    rw [xl4, I_lit (n := 3), I_add]
    refine e_in ⟨by show 0 ≤ _ + (3 : Int); omega, by show _ + (3 : Int) < _; omega⟩ (by omega) (ok_some.mpr (ok_lt.mpr ?_))
    rw [tnI (n := 4 * (cb2 + L2.length) + 3) (by show _ + (3 : Int) = _; omega) (by omega), I_A (k := pq q 37), A_wi, A_wi, A_wi, A_wi, u11, wi_e]
    have f1 : FC q [1105] [] [] [21, 24, 26, 28] [] [] [] u (wi (wi (wi (wi (wi u (pq q 28) ((cb2 + L2.length : Nat) : Int)) (pq q 21) ((j2 + 1 : Nat) : Int)) (pq q 24) ((nb2 + m2 : Nat) : Int)) (pq q 26) ((wb2 + h2 : Nat) : Int)) 1105 ((tg : Nat) : Int)) := FC.wi_g (FC.wi_q (FC.wi_q (FC.wi_q (FC.wi_q FC.rf (by omega) (by simp)) (by omega) (by simp)) (by omega) (by simp)) (by omega) (by simp)) (by omega) (by simp)
    have y28 : F (wi (wi (wi (wi (wi u (pq q 28) ((cb2 + L2.length : Nat) : Int)) (pq q 21) ((j2 + 1 : Nat) : Int)) (pq q 24) ((nb2 + m2 : Nat) : Int)) (pq q 26) ((wb2 + h2 : Nat) : Int)) 1105 ((tg : Nat) : Int)) (pq q 28) = ((cb2 + L2.length : Nat) : Int) := by rw [F_wi (by omega) (by omega), if_neg (by unfold pq; omega), F_wi (by omega) (by omega), if_neg (pq_inj (by decide)), F_wi (by omega) (by omega), if_neg (pq_inj (by decide)), F_wi (by omega) (by omega), if_neg (pq_inj (by decide)), F_wi (by omega) (by omega), if_pos rfl]
    have y21 : F (wi (wi (wi (wi (wi u (pq q 28) ((cb2 + L2.length : Nat) : Int)) (pq q 21) ((j2 + 1 : Nat) : Int)) (pq q 24) ((nb2 + m2 : Nat) : Int)) (pq q 26) ((wb2 + h2 : Nat) : Int)) 1105 ((tg : Nat) : Int)) (pq q 21) = ((j2 + 1 : Nat) : Int) := by rw [F_wi (by omega) (by omega), if_neg (by unfold pq; omega), F_wi (by omega) (by omega), if_neg (pq_inj (by decide)), F_wi (by omega) (by omega), if_neg (pq_inj (by decide)), F_wi (by omega) (by omega), if_pos rfl]
    have y24 : F (wi (wi (wi (wi (wi u (pq q 28) ((cb2 + L2.length : Nat) : Int)) (pq q 21) ((j2 + 1 : Nat) : Int)) (pq q 24) ((nb2 + m2 : Nat) : Int)) (pq q 26) ((wb2 + h2 : Nat) : Int)) 1105 ((tg : Nat) : Int)) (pq q 24) = ((nb2 + m2 : Nat) : Int) := by rw [F_wi (by omega) (by omega), if_neg (by unfold pq; omega), F_wi (by omega) (by omega), if_neg (pq_inj (by decide)), F_wi (by omega) (by omega), if_pos rfl]
    have y26 : F (wi (wi (wi (wi (wi u (pq q 28) ((cb2 + L2.length : Nat) : Int)) (pq q 21) ((j2 + 1 : Nat) : Int)) (pq q 24) ((nb2 + m2 : Nat) : Int)) (pq q 26) ((wb2 + h2 : Nat) : Int)) 1105 ((tg : Nat) : Int)) (pq q 26) = ((wb2 + h2 : Nat) : Int) := by rw [F_wi (by omega) (by omega), if_neg (by unfold pq; omega), F_wi (by omega) (by omega), if_pos rfl]
    have y5 : F (wi (wi (wi (wi (wi u (pq q 28) ((cb2 + L2.length : Nat) : Int)) (pq q 21) ((j2 + 1 : Nat) : Int)) (pq q 24) ((nb2 + m2 : Nat) : Int)) (pq q 26) ((wb2 + h2 : Nat) : Int)) 1105 ((tg : Nat) : Int)) 1105 = ((tg : Nat) : Int) := at_F (by omega)
    have yr : (wi (wi (wi (wi (wi u (pq q 28) ((cb2 + L2.length : Nat) : Int)) (pq q 21) ((j2 + 1 : Nat) : Int)) (pq q 24) ((nb2 + m2 : Nat) : Int)) (pq q 26) ((wb2 + h2 : Nat) : Int)) 1105 ((tg : Nat) : Int)).2 = u.2 := rfl
    generalize wi (wi (wi (wi (wi u (pq q 28) ((cb2 + L2.length : Nat) : Int)) (pq q 21) ((j2 + 1 : Nat) : Int)) (pq q 24) ((nb2 + m2 : Nat) : Int)) (pq q 26) ((wb2 + h2 : Nat) : Int)) 1105 ((tg : Nat) : Int) = w1 at f1 y28 y21 y24 y26 y5 yr ⊢
    have p1 : PTQ w1 q n ow kd Fv P (nb2 + m2) (wb2 + h2) Y := by
      obtain ⟨⟨p1, p2, p3⟩, ⟨p4, p5⟩, ⟨p6, p7⟩, ⟨p8, p9⟩, ⟨l, a1, a2⟩, ⟨l2, b1, b2⟩, cc⟩ := p
      exact ⟨⟨by rw [f1.Fq (by omega) (by simp)]; exact p1, p2, by rw [yr]; exact p3⟩, ⟨y24, fun k hk => by rw [yr]; exact p5 k (by omega)⟩, ⟨y26, fun k hk => by rw [yr]; exact p7 k (by omega)⟩, ⟨by rw [f1.Fq (by omega) (by simp)]; exact p8, by rw [yr]; exact p9⟩, ⟨l, by rw [f1.Fq (by omega) (by simp)]; exact a1, by omega⟩, ⟨l2, by rw [f1.Fq (by omega) (by simp)]; exact b1, by omega⟩, cc⟩
    have ln1 : LNB w1 q := LNB_28 ln (fun k hk => f1.2.2.2.2.1 q k (by simp at hk; omega) (fun _ => by simp at hk ⊢; omega)) (by rw [y28, l1]; omega)
    have f1t : w1.2.1 1110 = u.2.1 1110 := by rw [yr]
    have fb2 := FBc_b wt u2
    rw [f1t]
    refine ok_bnd.mpr (ok_mono (push_t (N := N) p1 ln1 (by omega) gt) (fun w2 _ hw2 => ?_))
    obtain ⟨f2, p2, ln2, -⟩ := hw2
    have f3 : FC q [1105] [] [] [4, 5, 21, 24, 26, 28, 42, 43, 45] [] [32] [2, 3, 33, 35, 6] u w2 := FC.tr (FC.mo f1 (by simp) (by simp) (by simp) (by simp) (by simp) (by simp) (by simp)) (FC.mo f2 (by simp) (by simp) (by simp) (by simp) (by simp) (by simp) (by simp))
    have r30 := f3.2.2.2.2.2.2.1 q 30 (by omega) (by simp)
    have r37 := f3.2.2.2.2.2.2.1 q 37 (by omega) (by simp)
    rw [show wb2 + h2 + 1 = wb2 + (h2 + 1) by omega] at p2
    have h92 : F w2 (pq q 9) = 0 := by rw [f3.Fq (by omega) (by simp)]; exact h9
    have dw : DWc Fv P PR w2 := DWc_fc G.1 f3 hq (by rw [h9]; decide) (by rw [h92]; decide) (SMQ_up (G.1.2 q hq).1 (f3.Fq (by omega) (by simp)) (f3.Fq (by omega) (by simp)) (by rw [f3.Fq (by omega) (by simp)]; exact Int.le_refl _) (by rw [h9]; decide)) ⟨n, ow, kd, _, _, Y, p2⟩ (by simp) (by simp)
    have M2 : MIc T Fv P PR q w2 tg (h2 + 1) m2 L2 0 0 j2 wb2 nb2 cb2 rk2 := ⟨GEN_f G f3 dw (by simp) (by simp) ln2, h92, ⟨FBc_s r30 r37 u2, ⟨by rw [f2.Fq (by omega) (by simp)]; exact y21, by omega⟩, ⟨by rw [f3.aq (by omega) (by simp)]; exact u3, by rw [f3.aq (by omega) (by simp)]; exact u4⟩, by rw [f2.Fq (by omega) (by simp)]; exact y28, ENT_s r37 u6⟩, ⟨u5, by rw [f2.Fg (by omega) (by simp)]; exact y5⟩, ⟨p2.2.2.1.1, p2.2.1.1⟩, ⟨fun _ => by rw [f3.Fg (by omega) (by simp)]; exact gd, fun z => absurd rfl z⟩, fun z => absurd rfl z, fun z => absurd rfl z⟩
    have s9 : F w2 1109 = 0 := by rw [f3.Fg (by omega) (by simp)]; exact t9
    have s8 : F w2 1108 = 0 := by rw [f3.Fg (by omega) (by simp)]; exact t8
    have e0 : ∀ tr, potc T tg 0 tr = 32 * cKc T tg 24000 := fun tr => by unfold potc; rw [if_pos rfl]
    have hph : PHc T w2 q tg 0 rk2 < c := by
      unfold PHc at hf ⊢
      rw [e0, f3.Fg (k := 1107) (by omega) (by simp), f3.Fg (k := 1106) (by omega) (by simp)]; omega
    have nr : NRM T Fv P PR q c w2 := ⟨⟨tg, h2 + 1, m2, L2, 0, 0, j2, wb2, nb2, cb2, rk2, M2, hph⟩, s9, s8⟩
    have wr : ∀ a : Nat, a < 22 → OK (fun w _ => NRM T Fv P PR q c w ∨ ENDc T Fv P PR q w) (hb_Ma_raise_168 N () w2 q (I ((a : Nat) : Int))) := by
      intro a ha
      unfold hb_Ma_raise_168 hb_Ma_raise_172
      refine ok_bnd.mpr (ok_mono (wrap_g (N := N) (W := wb2 + h2) M2.1 h92 p2 (by omega) ha hN) (fun w3 r hw3 => ok_some.mpr ?_))
      rcases hw3 with ⟨-, k1, k2, k3⟩ | ⟨-, k1, k2, k3, U, ow2, kd2, k4⟩
      · exact Or.inr ⟨k1, k2, by rw [k3.1]; exact s9, by rw [k3.2]; exact M21 M2⟩
      · obtain ⟨M3, ph3⟩ := MI_f M2 (by omega) k2.toM k4 k3 u5 (k2.at5 M2)
        refine Or.inl ⟨⟨tg, h2 + 1, m2, L2, 0, 0, j2, wb2, nb2, cb2, rk2, M3, ?_⟩, by rw [k2.Fg (by omega) (by simp)]; exact s9, by rw [k2.Fg (by omega) (by simp)]; exact s8⟩
        rw [ph3]; exact hph
    unfold hb_Ma_raise_172
    refine k_eq ⟨by omega, by omega⟩ ⟨by decide, by decide⟩ (fun _ => ok_some.mpr (Or.inl nr)) (fun _ => ?_)
    exact ok_br.mpr ⟨fun _ => wr 7 (by omega), fun _ => wr 8 (by omega)⟩
theorem raise_ok (er : ERR T Fv P PR q c u) (hN : 3000000 ≤ N) : OK (fun w _ => NRM T Fv P PR q c w ∨ ENDc T Fv P PR q w) (hm_Ma_raise N u q) := by
  obtain ⟨v, how, ar, t, ⟨i, h, m, L, g, x, j, wb, nb, cb, rk, M, hf⟩, t9, t8, ⟨n, ow, kd, B, W, Y, p, gt⟩, hhow, har, rfl⟩ := er
  have eB : B = nb + m := by have := p.2.1.1; have := M.2.2.2.2.1.2; omega
  have eW : W = wb + h := by have := p.2.2.1.1; have := M.2.2.2.2.1.1; omega
  subst eB; subst eW
  have mb := MI_b M
  have ln := MI_ln M
  obtain ⟨b1, b2, -, gr, ⟨b5, b6⟩, ins⟩ := M.1.2.2.1 _ _ _ _ _ _ M.2.2.2.1.1
  unfold hm_Ma_raise hb_Ma_raise_0
  refine ok_lt.mpr ?_
  rw [lit0q, wi_e]
  have e09 : (wl (wi (wi v 1109 how) 1111 ar) 1110 t).1 1109 = I how := by
    rw [I_F]
    rw [show F (wl (wi (wi v 1109 how) 1111 ar) 1110 t) 1109 = F (wi (wi v 1109 how) 1111 ar) 1109 from rfl, F_wi (by omega) (by omega), if_neg (by decide), F_wi (by omega) (by omega), if_pos rfl]
  rw [e09]
  have f1 : FGc q v (wi (wl (wi (wi v 1109 how) 1111 ar) 1110 t) 1109 0) := FC.wi_g (FC.wl_g (FC.wi_g (FC.wi_g FC.rf (by omega) (by simp)) (by omega) (by simp)) (by omega) (by simp)) (by omega) (by simp)
  have y9 : F (wi (wl (wi (wi v 1109 how) 1111 ar) 1110 t) 1109 0) 1109 = 0 := by rw [F_wi (by decide) (by decide), if_pos rfl]
  have y11 : F (wi (wl (wi (wi v 1109 how) 1111 ar) 1110 t) 1109 0) 1111 = ar := by
    rw [F_wi (by decide) (by decide), if_neg (by decide)]
    show F (wi (wi v 1109 how) 1111 ar) 1111 = ar
    rw [F_wi (by omega) (by omega), if_pos rfl]
  have y12 : ∀ k, k ≠ 1109 → k ≠ 1111 → F (wi (wl (wi (wi v 1109 how) 1111 ar) 1110 t) 1109 0) k = F v k := fun k h1 h2 => by
    rw [F_wi (by decide) (by decide), if_neg h1]
    show F (wi (wi v 1109 how) 1111 ar) k = _
    rw [F_wi (by omega) (by omega), if_neg h2, F_wi (by omega) (by omega), if_neg h1]
  have yt : (wi (wl (wi (wi v 1109 how) 1111 ar) 1110 t) 1109 0).2.1 1110 = t := by rw [L_wi, L_wl, if_pos rfl]
  have yp : PTQ (wi (wl (wi (wi v 1109 how) 1111 ar) 1110 t) 1109 0) q n ow kd Fv P (nb + m) (wb + h) Y := PT_g (k := 1109) (by omega) (PTQ_same (PT_g (k := 1111) (y := ar) (by omega) (PT_g (k := 1109) (y := how) (by omega) p)) (fun _ _ => rfl) (fun _ _ => rfl))
  have yl : LNB (wi (wl (wi (wi v 1109 how) 1111 ar) 1110 t) 1109 0) q := LNB_g (k := 1109) (LNB_fc (LNB_g (k := 1111) (y := ar) (LNB_g (k := 1109) (y := how) ln (by omega)) (by omega)) (fun _ _ => rfl)) (by omega)
  generalize wi (wl (wi (wi v 1109 how) 1111 ar) 1110 t) 1109 0 = w at f1 y9 y11 y12 yt yp yl ⊢
  have a5 : F w 1105 = ((i : Nat) : Int) := by rw [y12 1105 (by decide) (by decide)]; exact M.2.2.2.1.2
  have gd : GDS T w g wb := by
    have := M.2.2.2.2.2.1
    unfold GDS at this ⊢
    rw [y12 1112 (by decide) (by decide), y12 1113 (by decide) (by decide), y12 1114 (by decide) (by decide), f1.ag (by omega) (by simp), f1.ag (by omega) (by simp)]
    exact this
  have s8 : F w 1108 = 0 := by rw [y12 1108 (by decide) (by decide)]; exact t8
  have hn32 : g ≠ 0 → x < i := fun hg => b6 (fun z => by
    rcases ins with ins | ins | ins
    · rcases ins with ⟨o, -⟩ | ⟨o, -⟩ | ⟨o, -⟩ | ⟨o, -⟩ | ⟨o, -⟩ | ⟨o, -⟩ | ⟨o, -⟩ | ⟨o, -⟩ | ⟨o, -⟩ | ⟨o, -⟩ | ⟨o, -⟩ | ⟨o, -⟩ | ⟨o, -⟩ <;> omega
    · rcases ins with ⟨o, -⟩ | ⟨o, -⟩ | ⟨o, -⟩ | ⟨o, -⟩ | ⟨o, -⟩ | ⟨o, -⟩ | ⟨o, -⟩ | ⟨o, -⟩ | ⟨o, -⟩ | ⟨o, -⟩ | ⟨o, -⟩ <;> omega
    · rcases ins with ⟨o, -⟩ | ⟨o, o1, -⟩ | ⟨o, -⟩ | ⟨o, -⟩ | ⟨o, -⟩ | o | ⟨o, -⟩ | ⟨o, -⟩ | ⟨o, -⟩
      · omega
      · exact hg o1
      all_goals omega)
  by_cases hg : g = 0
  · subst hg
    have d0 := gd.1 rfl
    have h9 : F w (pq q 9) = 0 := by rw [f1.Fq (by omega) (by simp)]; exact M.2.1
    have hq := M.1.2.2.2.2.2.2.1
    have dw : DWc Fv P PR w := DWc_fc M.1.1 f1 hq (by rw [M.2.1]; decide) (by rw [h9]; decide) (SMQ_g f1 (M.1.1.2 q hq).1 (by rw [M.2.1]; decide)) ⟨n, ow, kd, _, _, Y, yp⟩ (by simp) (by simp)
    have G : GEN T Fv P PR q w := GEN_f M.1 f1 dw (by simp) (by simp) yl
    have st : STc T w q j wb nb cb rk L := STc_s M.2.2.1 (f1.2.2.2.2.2.2.1 q 30 (by omega) (by simp)) (f1.2.2.2.2.2.2.1 q 37 (by omega) (by simp)) (f1.2.2.2.2.1 q 21 (by omega) (by simp)) (f1.2.2.2.2.1 q 28 (by omega) (by simp))
    have hf2 : PHc T w q i x rk ≤ c := by
      unfold PHc at hf ⊢
      rw [f1.Fq (by omega) (by simp), f1.Fg (k := 1107) (by omega) (by simp), f1.Fg (k := 1106) (by omega) (by simp)]; exact hf
    refine k_F (y := 0) rfl ⟨by decide, by decide⟩ (fun _ => ?_) (fun z => absurd d0 z)
    rw [m1I, I_F (k := 1111), y11]
    refine k_eq ⟨by omega, by omega⟩ ⟨by decide, by decide⟩ (fun _ => ?_) (fun hne => ?_)
    · exact raise65_ok G h9 y9 s8 st M.2.2.2.1.1 yp ⟨Nat.le_refl _, by omega⟩ (by rw [yt]; exact gt) d0 hhow hf2 hN
    · obtain ⟨a, rfl⟩ : ∃ a : Nat, ar = ((a : Nat) : Int) := ⟨ar.toNat, by omega⟩
      rw [yt]
      refine ok_bnd.mpr (ok_mono (push_t (N := N) yp yl (by omega) gt) (fun w2 _ hw2 => ?_))
      obtain ⟨f2, p2, ln2, -⟩ := hw2
      have h92 : F w2 (pq q 9) = 0 := by rw [f2.Fq (by omega) (by simp)]; exact h9
      have G2 : GEN T Fv P PR q w2 := GEN_f G f2 (DWc_m G.1 hq (by rw [h9]; decide) f2.toM p2) (by simp) (by simp) ln2
      rw [I_F (k := 1111), f2.Fg (by omega) (by simp), y11]
      refine ok_bnd.mpr (ok_mono (wrap_g (N := N) (W := wb + h) G2 h92 p2 (by omega) (by omega) hN) (fun w3 r hw3 => ?_))
      rcases hw3 with ⟨rfl, k1, k2, k3⟩ | ⟨rfl, k1, k2, k3, U, ow2, kd2, k4⟩
      · refine ok_br.mpr ⟨fun _ => ok_some.mpr (Or.inr ⟨k1, k2, ?_⟩), fun z => absurd z (by decide)⟩
        rw [k3.1, f2.Fg (by omega) (by simp), k3.2, f2.Fq (by omega) (by simp)]; exact ⟨y9, by have := st.2.1; omega⟩
      · refine ok_br.mpr ⟨fun z => absurd z (by decide), fun _ => ?_⟩
        obtain ⟨l, l1, l2, l3⟩ := k4.2.2.2.2.2.1
        have f23 := FNc.tr f2 k2
        rw [below_e (x := 0) (k := 0) k4.2.2.1.1 l1 l2 l3 rfl (by omega), bnd_so]
        refine ok_lt.mpr ?_
        rw [wl_e]
        have f4 : FC q [] [1110] [] [4, 5, 24, 26, 42, 43, 45] [] [32] [2, 3, 33, 35, 6] w (wl w3 1110 (w3.2.2.2 (pq q 35) (wb + h + 1 - 1 - 0))) := FC.wl_g (FC.mo f23 (by simp) (by simp) (by simp) (by simp) (by simp) (by simp) (by simp)) (by omega) (by simp)
        have p4 : PTQ (wl w3 1110 (w3.2.2.2 (pq q 35) (wb + h + 1 - 1 - 0))) q U ow2 kd2 Fv P (nb + m) (wb + h + 1) Y := PTQ_same k4 (fun _ _ => rfl) (fun _ _ => rfl)
        have e1110 : (wl w3 1110 (w3.2.2.2 (pq q 35) (wb + h + 1 - 1 - 0))).2.1 1110 = w3.2.2.2 (pq q 35) (wb + h + 1 - 1 - 0) := by rw [L_wl, if_pos rfl]
        have gt4 := k4.2.2.1.2 (wb + h + 1 - 1 - 0) (by omega)
        have ln4 : LNB (wl w3 1110 (w3.2.2.2 (pq q 35) (wb + h + 1 - 1 - 0))) q := LNB_fc k3 (fun _ _ => rfl)
        generalize wl w3 1110 (w3.2.2.2 (pq q 35) (wb + h + 1 - 1 - 0)) = w4 at f4 p4 e1110 ln4 ⊢
        have h94 : F w4 (pq q 9) = 0 := by rw [f4.Fq (by omega) (by simp)]; exact h9
        have dw4 : DWc Fv P PR w4 := DWc_fc G.1 f4 hq (by rw [h9]; decide) (by rw [h94]; decide) (SMQ_up (G.1.2 q hq).1 (f4.Fq (by omega) (by simp)) (f4.Fq (by omega) (by simp)) (by rw [f4.Fq (by omega) (by simp)]; exact Int.le_refl _) (by rw [h9]; decide)) ⟨U, ow2, kd2, _, _, Y, p4⟩ (by simp) (by simp)
        have G4 : GEN T Fv P PR q w4 := GEN_f G f4 dw4 (by simp) (by simp) ln4
        have st4 : STc T w4 q j wb nb cb rk L := STc_s st (f4.2.2.2.2.2.2.1 q 30 (by omega) (by simp)) (f4.2.2.2.2.2.2.1 q 37 (by omega) (by simp)) (f4.2.2.2.2.1 q 21 (by omega) (by simp)) (f4.2.2.2.2.1 q 28 (by omega) (by simp))
        refine raise65_ok G4 h94 (by rw [f4.Fg (by omega) (by simp)]; exact y9) (by rw [f4.Fg (by omega) (by simp)]; exact s8) st4 M.2.2.2.1.1 p4 ⟨by omega, by omega⟩ (by rw [e1110]; exact gt4) (by rw [f4.Fg (by omega) (by simp)]; exact d0) hhow ?_ hN
        unfold PHc at hf2 ⊢
        rw [f4.Fq (by omega) (by simp), f4.Fg (k := 1107) (by omega) (by simp), f4.Fg (k := 1106) (by omega) (by simp)]; exact hf2
  · have hx := hn32 hg
    obtain ⟨Mw, phw⟩ := MI_g M f1 yp yl M.2.2.2.1.1 hx a5 gd
    obtain ⟨g1, hg1, nn, tt, g2, g3, g4, g5, g6, g7, g8⟩ := gr hg
    obtain ⟨d1, -⟩ := gd.2 hg
    refine k_F (y := 0) rfl ⟨by decide, by decide⟩ (fun z => ?_) (fun _ => ?_)
    · exfalso
      rw [d1, f1.ag (by omega) (by simp), g6] at z
      omega
    · exact ok_bnd.mpr (ok_mono (guardFailsc_ok (N := N) Mw hx y9 s8 (by rw [phw]; exact hf) hg) (fun w3 _ hw3 => ok_some.mpr (Or.inl hw3)))
end
