set_option maxRecDepth 100000
section
variable {T : Nat → Option (Nat × Nat × List Nat × Nat × Nat)} {Fv : Int64 → Int64 → Prop} {P : Int64 → Prop} {u v w w1 : MS} {PR N q r n B W Y i h m g x j wb nb cb rk c f i2 h2 m2 g2 x2 j2 wb2 nb2 cb2 rk2 k a U d b e s l : Nat} {L L2 : List Nat} {ow kd : Nat → Nat} {t rest : Int64} {gi gl ga ki kl ka kj : List Nat}
theorem pair_hp {h h2 : Nat → Int64} (cx : CTX Fv P u) (g : HPc h n ow kd Fv P) (hh : ∀ i, i < n → h2 i = h i) (h8 : h2 n = mk 8 2) (h1 : h2 (n + 1) = mk 1 ((a : Nat) : Int)) (ha : a < 22) (gt : GT n ow kd P (h2 (n + 2))) (hn : n ≤ 1000) : ∃ ow2 kd2, HPc h2 (n + 3) ow2 kd2 Fv P ∧ GT (n + 3) ow2 kd2 P (mk 5 ((n : Nat) : Int)) ∧ ∀ t, GT n ow kd P t → GT (n + 3) ow2 kd2 P t := by
  obtain ⟨m1, m2, m3⟩ := mk5 (k := n) (by omega)
  obtain ⟨e1, e2, e3⟩ := mk8 (k := 2) (by omega)
  have bk : blk h2 (mk 5 ((n : Nat) : Int)) = 3 := by unfold blk; rw [if_neg (by omega), if_pos m1, m3, h8]; show 1 + vn (mk 8 ((2 : Nat) : Int)) = 3; rw [e3]
  have pr : prt (mk 5 ((n : Nat) : Int)) = 1 := by unfold prt; rw [if_neg (by omega), if_pos m1]
  have ga : ¬ isH (h2 (n + 1)) ∧ P (h2 (n + 1)) := by
    rw [h1]
    rcases GT_at (n := n) (ow := ow) (kd := kd) cx ha with z | z
    · exact z
    · exact absurd z.1 (nh_so (by rw [so_mk (by decide) (by decide)]; decide))
  obtain ⟨ow2, kd2, a1, a2, a3, -⟩ := HP_newc g hh (Or.inr (Or.inl m1)) (by omega) m3 bk (fun _ => by rw [h8]; exact ⟨by show 0 ≤ va (mk 8 ((2 : Nat) : Int)); omega, e1⟩) (fun z => by omega) (fun j j1 j2 => by
    rw [pr] at j1
    rcases (show j = 1 ∨ j = 2 by omega) with rfl | rfl
    · exact Or.inl ga
    · exact gt) (Or.inl ⟨m1, rfl, ga.1⟩)
  exact ⟨ow2, kd2, a1, a2, a3⟩
theorem pair_t (cx : CTX Fv P u) (h4 : F u (pq q 4) = ((n : Nat) : Int)) (hn : n ≤ 509) (g : HPc (u.2.2.2 (pq q 2)) n ow kd Fv P) (gt : GT n ow kd P t) (ha : a < 22) : OK (fun w r => FC q [] [] [] [4] [] [] [2] u w ∧ F w (pq q 4) = ((n + 3 : Nat) : Int) ∧ (∀ k, k ≠ pq q 2 → w.2.2.2 k = u.2.2.2 k) ∧ ∃ ow2 kd2, HPc (w.2.2.2 (pq q 2)) (n + 3) ow2 kd2 Fv P ∧ GT (n + 3) ow2 kd2 P r ∧ ∀ t, GT n ow kd P t → GT (n + 3) ow2 kd2 P t) (hm_Pr_pair N u q (I ((a : Nat) : Int)) t) := by
  unfold hm_Pr_pair hb_Pr_pair_0
  have e4 : u.1 (pq q 4) = I ((n : Nat) : Int) := by rw [I_F, h4]
  rw [e4, I_lit (n := 3), I_add, I_lit (n := 512)]
  refine k_le ⟨by show _ ≤ _ + (3 : Int); omega, by show _ + (3 : Int) < _; omega⟩ ⟨by decide, by decide⟩ (fun _ => ?_) (fun z => absurd (show (512 : Int) < _ + 3 from z) (by omega))
  rw [I_lit (n := 8), I_lit (n := 2), e_make, bnd_so]
  refine e_in ⟨by omega, by omega⟩ (by decide) (ok_lt.mpr ?_)
  rw [tnI (n := n) rfl (by omega), wj_e, lit1q, e_make, bnd_so, I_add]
  refine e_in ⟨by omega, by omega⟩ (by decide) (ok_lt.mpr ?_)
  rw [tnI (n := n + 1) (by omega) (by omega), wj_e, I_add]
  refine e_in ⟨by show 0 ≤ _ + (2 : Int); omega, by show _ + (2 : Int) < _; omega⟩ (by decide) (ok_lt.mpr (ok_lt.mpr ?_))
  rw [tnI (n := n + 2) (by show _ + (2 : Int) = _; omega) (by omega), wj_e]
  have cl : CEL q u (wj (wj (wj u (pq q 2) n (mk (OfNat.ofNat 8) (OfNat.ofNat 2))) (pq q 2) (n + 1) (mk 1 ((a : Nat) : Int))) (pq q 2) (n + 2) t) := CEL.rf.put.put.put
  have row : ∀ k, (wj (wj (wj u (pq q 2) n (mk (OfNat.ofNat 8) (OfNat.ofNat 2))) (pq q 2) (n + 1) (mk 1 ((a : Nat) : Int))) (pq q 2) (n + 2) t).2.2.2 (pq q 2) k = if k = n + 2 then t else if k = n + 1 then mk 1 ((a : Nat) : Int) else if k = n then mk 8 2 else u.2.2.2 (pq q 2) k := fun k => by rw [CEL.row, CEL.row, CEL.row]
  generalize wj (wj (wj u (pq q 2) n (mk (OfNat.ofNat 8) (OfNat.ofNat 2))) (pq q 2) (n + 1) (mk 1 ((a : Nat) : Int))) (pq q 2) (n + 2) t = y at cl row ⊢
  rw [show y.1 (pq q 4) = I ((n : Nat) : Int) by rw [cl.2.1]; exact e4, I_add, show ((n : Nat) : Int) + (OfNat.ofNat 3 : Int) = ((n + 3 : Nat) : Int) by show _ + (3 : Int) = _; omega, wi_e, I_lit (n := 5), e_make, bnd_so]
  obtain ⟨ow2, kd2, k1, k2, k3⟩ := pair_hp (a := a) (h2 := y.2.2.2 (pq q 2)) cx g (fun i hi => by rw [row, if_neg (by omega), if_neg (by omega), if_neg (by omega)]) (by rw [row, if_neg (by omega), if_neg (by omega), if_pos rfl]) (by rw [row, if_neg (by omega), if_pos rfl]) ha (by rw [row, if_pos rfl]; exact gt) (by omega)
  exact ok_some.mpr ⟨FC.wi_q (FC.mo cl.1 (by simp) (by simp) (by simp) (by simp) (by simp) (by simp) (by simp)) (by omega) (by simp), by rw [F_wi (by omega) (by omega), if_pos rfl], cl.2.2.1, ow2, kd2, k1, k2, k3⟩
theorem room_g {y : Int} (G : GEN T Fv P PR q u) (h9 : F u (pq q 9) = 0) (p : PTQ u q n ow kd Fv P B W Y) (hy : 0 ≤ y ∧ y ≤ 100000) (hN : 3000000 ≤ N) : OK (fun w r => (r = 0 ∧ GEN T Fv P PR q w ∧ F w (pq q 9) = 3 ∧ (F w 1109 = F u 1109 ∧ F w (pq q 21) = F u (pq q 21))) ∨ (r = 1 ∧ GEN T Fv P PR q w ∧ FNc q u w ∧ ∃ U ow2 kd2, PTQ w q U ow2 kd2 Fv P B W Y ∧ (U : Int) + y ≤ 500)) (hm_Ma_room N u q (I y)) := by
  unfold hm_Ma_room hb_Ma_room_0
  refine ok_bnd.mpr (ok_mono (want_ok (N := N) p G.2.1 hy (by omega)) (fun w r hw => ?_))
  obtain ⟨hr, U, ow2, kd2, p2, hU, f2, sB, sW⟩ := hw
  have fc := FC_want f2
  have fm : FNc q u w := FNc.of fc (by simp) (by simp) (by simp) (by simp) (by simp) (by simp) (by simp)
  have G2 : GEN T Fv P PR q w := GEN_f G fc (DWc_m G.1 G.2.2.2.2.2.2.1 (by rw [h9]; decide) fm.toM p2) (by simp) (by simp) (LNB_k (GEN_ln G G.2.2.2.2.2.2.1) fc (by simp))
  rcases hr with rfl | rfl
  · refine ok_br.mpr ⟨fun _ => ?_, fun z => absurd z (by decide)⟩
    refine ok_bnd.mpr (ok_mono (endsBy_w (N := N) (a := 20) G2 (by rw [fc.Fq (by omega) (by simp), h9]; decide) (by omega)) (fun w3 _ hw3 => ok_ck.mpr ⟨by decide, ok_some.mpr (Or.inl ⟨rfl, GEN_w G2 hw3.1, hw3.2, ?_⟩)⟩))
    rw [hw3.1.2.1.G (by omega) (by simp), fc.Fg (by omega) (by simp), hw3.1.2.1.F (by omega) (by simp), fc.Fq (by omega) (by simp)]; exact ⟨rfl, rfl⟩
  · exact ok_br.mpr ⟨fun z => absurd z (by decide), fun _ => ok_ck.mpr ⟨by decide, ok_some.mpr (Or.inr ⟨rfl, G2, fm, U, ow2, kd2, p2, hU rfl⟩)⟩⟩
theorem wrap_g (G : GEN T Fv P PR q u) (h9 : F u (pq q 9) = 0) (p : PTQ u q n ow kd Fv P B (W + 1) Y) (hW : W ≤ 65530) (ha : a < 22) (hN : 3000000 ≤ N) : OK (fun w r => (r = 0 ∧ GEN T Fv P PR q w ∧ F w (pq q 9) = 3 ∧ (F w 1109 = F u 1109 ∧ F w (pq q 21) = F u (pq q 21))) ∨ (r = 1 ∧ GEN T Fv P PR q w ∧ FNc q u w ∧ LNB w q ∧ ∃ U ow2 kd2, PTQ w q U ow2 kd2 Fv P B (W + 1) Y)) (hm_Ma_wrap N u q (I ((a : Nat) : Int))) := by
  unfold hm_Ma_wrap hb_Ma_wrap_0
  rw [I_lit (n := 3)]
  refine ok_bnd.mpr (ok_mono (room_g (N := N) G h9 p ⟨by decide, by decide⟩ hN) (fun w r hw => ?_))
  rcases hw with ⟨rfl, e⟩ | ⟨rfl, G2, f2, U, ow2, kd2, p2, hU⟩
  · exact ok_br.mpr ⟨fun _ => ok_ck.mpr ⟨by decide, ok_some.mpr (Or.inl ⟨rfl, e⟩)⟩, fun z => absurd z (by decide)⟩
  · have hU : (U : Int) + 3 ≤ 500 := hU
    refine ok_br.mpr ⟨fun z => absurd z (by decide), fun _ => ?_⟩
    obtain ⟨l, l1, l2, l3⟩ := p2.2.2.2.2.2.1
    rw [lit0q, below_e (x := 0) (k := 0) p2.2.2.1.1 l1 l2 l3 rfl (by omega), bnd_so]
    refine ok_bnd.mpr (ok_mono (pair_t (N := N) G2.2.1 p2.1.1 (by omega) p2.1.2.2 (p2.2.2.1.2 (W + 1 - 1 - 0) (by omega)) ha) (fun w3 r3 hw3 => ?_))
    obtain ⟨f3, e4, r3o, ow3, kd3, g1, g2, g3⟩ := hw3
    have p3 := PTQ_cells p2 f3 e4 (by omega) g1 g3
    have ln2 := GEN_ln G2 G2.2.2.2.2.2.2.1
    have ln3 := LNB_k ln2 f3 (by simp)
    rw [lit1q]
    refine ok_bnd.mpr (ok_mono (answer_t (N := N) (y := 1) (k := 1) p3 ln3 rfl (by omega) (by omega) g2) (fun w5 _ hw5 => ok_ck.mpr ⟨by decide, ok_some.mpr (Or.inr ⟨rfl, ?_⟩)⟩))
    obtain ⟨fm5, p5, ln5⟩ := hw5
    have f3n : FNc q w w3 := FNc.of f3 (by simp) (by simp) (by simp) (by simp) (by simp) (by simp) (by simp)
    have fa := FNc.tr f2 (FNc.tr f3n fm5)
    have fb := FNc.tr f3n fm5
    rw [show W + 1 - 1 + 1 = W + 1 by omega] at p5
    have h92 : F w (pq q 9) ≠ 3 := by rw [f2.Fq (by omega) (by simp), h9]; decide
    exact ⟨GEN_f G2 fb (DWc_m G2.1 G2.2.2.2.2.2.2.1 h92 fb.toM p5) (by simp) (by simp) ln5, fa, ln5, U + 3, ow3, kd3, p5⟩
theorem UNW_low (wt : WFT T u) : ∀ {j wb nb cb rk : Nat}, FBc T u q j wb nb cb rk → 1 ≤ cb → ∃ j2 wb2 nb2 cb2 rk2 tg h2 m2 L2, j2 < j ∧ FBc T u q j2 wb2 nb2 cb2 rk2 ∧ A u (pq q 30) (5 * j2 + 2) = ((nb2 : Nat) : Int) ∧ A u (pq q 30) (5 * j2 + 3) = ((wb2 : Nat) : Int) ∧ T tg = some (h2 + 1, m2, L2, 0, 0) ∧ ENTc T u q (j2 + 1) wb2 nb2 cb2 L2 ∧ cb2 + L2.length + 1 = cb ∧ (A u (pq q 37) (4 * (cb2 + L2.length)) = ((j2 + 1 : Nat) : Int) ∧ A u (pq q 37) (4 * (cb2 + L2.length) + 1) = ((nb2 + m2 : Nat) : Int) ∧ A u (pq q 37) (4 * (cb2 + L2.length) + 2) = ((wb2 + h2 : Nat) : Int) ∧ A u (pq q 37) (4 * (cb2 + L2.length) + 3) = ((tg : Nat) : Int)) ∧ wb2 + h2 ≤ wb ∧ nb2 + m2 ≤ nb ∧ rk2 + 32 * cKc T tg 24000 < rk
  | 0, _, _, _, _, hh, hc => by obtain ⟨-, -, z, -⟩ := hh; omega
  | j + 1, wb, nb, cb, rk, hh, hc => by
    obtain ⟨wb0, nb0, cb0, rk0, h, m, L, a, b1, b2, b3, b4, b5, b6, b7, b8, b9, b9b, b10⟩ := hh
    cases L with
    | nil =>
      have b8 : cb = cb0 := b8
      obtain ⟨j2, wb2, nb2, cb2, rk2, tg, h2, m2, L2, c1, c2, c3, c4, c5, c6, c7, c8, c9, c10, c11⟩ := UNW_low wt b1 (by omega)
      exact ⟨j2, wb2, nb2, cb2, rk2, tg, h2, m2, L2, by omega, c2, c3, c4, c5, c6, by omega, c8, by omega, by omega, by omega⟩
    | cons tg M =>
      have b8 : cb = cb0 + (M.length + 1) := b8
      obtain ⟨⟨h2, m2, d1, d2, d3, d4, d5⟩, d6⟩ := b10
      obtain ⟨-, -, ⟨ch1, h3, m3, ch2, ch3, ch4⟩, -⟩ := wt _ _ _ _ _ _ b5
      obtain ⟨h4, m4, fl1, fl2⟩ := b9b
      rw [d1] at ch2 fl1
      injection ch2 with ch2
      injection ch2 with ch2 ch2b
      injection ch2b with ch2b _
      injection fl1 with fl1
      injection fl1 with fl1 _
      have ck := cKc_lt ch1 (key_0 b5) 24000 (wt _ _ _ _ _ _ b5).1.2
      exact ⟨j, wb0, nb0, cb0, rk0, tg, h2, m2, M, by omega, b1, b2, b3, d1, d6, by omega, ⟨d2, d3, d4, d5⟩, by omega, by omega, by omega⟩
theorem UNW_top (wt : WFT T u) (st : STc T u q j wb nb cb rk L) (ti : T i = some (h, m, L, 0, x)) (hc : 1 ≤ cb + L.length) {tr : Nat} : ∃ j2 wb2 nb2 cb2 rk2 tg h2 m2 L2, j2 ≤ j ∧ FBc T u q j2 wb2 nb2 cb2 rk2 ∧ A u (pq q 30) (5 * j2 + 2) = ((nb2 : Nat) : Int) ∧ A u (pq q 30) (5 * j2 + 3) = ((wb2 : Nat) : Int) ∧ T tg = some (h2 + 1, m2, L2, 0, 0) ∧ ENTc T u q (j2 + 1) wb2 nb2 cb2 L2 ∧ cb2 + L2.length + 1 = cb + L.length ∧ (A u (pq q 37) (4 * (cb2 + L2.length)) = ((j2 + 1 : Nat) : Int) ∧ A u (pq q 37) (4 * (cb2 + L2.length) + 1) = ((nb2 + m2 : Nat) : Int) ∧ A u (pq q 37) (4 * (cb2 + L2.length) + 2) = ((wb2 + h2 : Nat) : Int) ∧ A u (pq q 37) (4 * (cb2 + L2.length) + 3) = ((tg : Nat) : Int)) ∧ wb2 + h2 ≤ wb + h ∧ nb2 + m2 ≤ nb + m ∧ rk2 + 32 * cKc T tg 24000 < rk + potc T i x tr := by
  obtain ⟨s1, ⟨s2, s3⟩, ⟨s4, s5⟩, s6, s7⟩ := st
  cases L with
  | nil =>
    have hc : 1 ≤ cb := hc
    obtain ⟨j2, wb2, nb2, cb2, rk2, tg, h2, m2, L2, c1, c2, c3, c4, c5, c6, c7, c8, c9, c10, c11⟩ := UNW_low wt s1 hc
    exact ⟨j2, wb2, nb2, cb2, rk2, tg, h2, m2, L2, by omega, c2, c3, c4, c5, c6, by rw [c7]; rfl, c8, by omega, by omega, by omega⟩
  | cons tg M =>
    obtain ⟨⟨h2, m2, d1, d2, d3, d4, d5⟩, d6⟩ := s7
    obtain ⟨bi, -, ⟨ch1, h3, m3, ch2, ch3, ch4⟩, -, bx, -⟩ := wt _ _ _ _ _ _ ti
    rw [d1] at ch2
    injection ch2 with ch2
    injection ch2 with ch2 ch2b
    injection ch2b with ch2b _
    have pk := pot_0 (t := tr) (t2 := 0) ti bi.2 bx.1 ch1
    have e0 : potc T tg 0 0 = 32 * cKc T tg 24000 := by unfold potc; rw [if_pos rfl]
    rw [e0] at pk
    exact ⟨j, wb, nb, cb, rk, tg, h2, m2, M, Nat.le_refl _, s1, s4, s5, d1, d6, rfl, ⟨d2, d3, d4, d5⟩, by omega, by omega, by omega⟩
end
