def wdC (N : Nat) (G : MS → Int32 → Int32 → Option (MS × Unit)) (v1 v2 : Int32) (u5 : MS) : Option (MS × Unit) := bnd (fm_M_wordAt N u5 (u5.1 10) v2) (fun u6 r6 => br (decide (r6 = (-1))) (br (decide (v2 ≤ 16)) (bnd (fm_M_isSmall N u6 v1) (fun u7 r7 => br (decide (r7 = 0)) (bnd (fm_M_textOf N u7 15 16 (u7.1 17) 4 (u7.1 10) v2) (fun u8 r8 => br (decide (r8 = (u8.1 17))) (fb_M_wordToken_141 N G u8 (v2) (r8) (((u8.1 17) + 1))) (fb_M_wordToken_141 N G u8 (v2) (r8) ((u8.1 17))))) (bnd (fm_M_atom N u7 4 (u7.1 10) v2) (fun u9 r9 => bnd (fm_M_token N u9 1 r9) (fun u10 _ => fb_M_wordToken_151 N G u10 (v2)))))) (bnd (fm_M_token N u6 7 0) (fun u11 _ => fb_M_wordToken_151 N G u11 (v2)))) (bnd (fm_M_token N u6 3 r6) (fun u12 _ => fb_M_wordToken_151 N G u12 (v2))))
section
variable {u w x v : MS} {N tn e n : Nat} {p p2 s y : Int} {bw : Nat → Nat} {c r : Int32}
theorem TBI_at (h : TBI w p) (hi : inB (byI w p)) (hp : 0 ≤ p ∧ p < F w 5) (hn : 1 ≤ n) (q : AMQ w n v r) (hx : ¬ inB (byI v (p + n))) : TBI v (p + n) := by
  obtain ⟨f, ax, q1, q2, q3, q4, -⟩ := q
  have eF : ∀ k, k ∈ [5, 17, 20] → F v k = F w k := fun k hk => f.F (by
    have : ∀ k, k ∈ [5, 17, 20] → k ∉ [14] := by decide
    exact this k hk)
  have eA : ∀ r i, r ∈ [15, 16, 18, 19] → A v r i = A w r i := fun r i hr => f.A (by
    have : ∀ r, r ∈ [15, 16, 18, 19] → r ∉ [12, 13] := by decide
    exact this r hr)
  have e15 : ∀ i, v.2.2.1 15 i = w.2.2.1 15 i := fun i => by rw [f.2.2.1 15 (by decide)]
  obtain ⟨z0, ⟨a1, -, a5⟩, ⟨⟨b1, b2, b3⟩, b4, b5⟩, n1, n2, ⟨c1, ⟨c2, c3⟩, seen, c4, c5⟩, c6, c7, c8, c9⟩ := h
  have c9' := c9 hi
  refine ⟨⟨q4.trans z0.1, by rw [eA 16 _ (by decide)]; exact z0.2.1, by rw [eA 19 _ (by decide)]; exact z0.2.2⟩, ⟨by omega, ax, by omega⟩, ⟨⟨?_, ?_, fun k hk => ?_⟩, ?_, ?_⟩, n1, n2, ⟨?_, ⟨c2, fun k hk => ?_⟩, seen, c4, fun c hc => ?_⟩, ?_, ?_, ?_, fun q => absurd q hx⟩
  · rw [eF 20 (by decide)]; exact b1
  · rw [eF 20 (by decide)]; exact b2
  · rw [eF 20 (by decide)] at hk ⊢; rw [eA 19 _ (by decide), eA 19 _ (by decide)]; exact b3 k hk
  · rw [eF 20 (by decide)]; omega
  · rw [eF 20 (by decide), eA 19 _ (by decide)]; omega
  · rw [eF 17 (by decide)]; exact c1
  · rw [eA 16 _ (by decide), eA 16 _ (by decide)]; exact c3 k hk
  · obtain ⟨k, d1, d2, d3⟩ := c5 c hc
    exact ⟨k, d1, by rw [eA 16 _ (by decide), eA 16 _ (by decide)]; exact d2, by rw [eA 16 _ (by decide), e15]; exact d3⟩
  · rw [eA 16 _ (by decide)]; omega
  · rw [eF 5 (by decide)]; omega
  · omega
theorem TBI_nm {m : Nat} (h : TBI w p) (hb : BYT w) (hi : inB (byI w p)) (hg : grB (byI w p)) (hp : 0 ≤ p ∧ p < F w 5) (h5 : F w 5 ≤ 4000) (hn : 1 ≤ n ∧ p + n ≤ F w 5) (h17 : F w 17 = ((m : Nat) : Int)) (hno : ∀ k, k < m → ¬ TSM w 15 16 4 k p.toNat n) (q : TXN w 15 16 4 m p.toNat n v) (hx : ¬ inB (byI v (p + n))) : TBI (wi v 17 ((m : Int) + 1)) (p + n) := by
  obtain ⟨f, g2, g3, g4, g5⟩ := q
  have eF : ∀ k, k ≠ 17 → F (wi v 17 ((m : Int) + 1)) k = F w k := fun k hk => (wi_ne hk).trans (f.F (by intro z; cases z))
  have eA : ∀ r i, r ∈ [12, 13, 18, 19] → A (wi v 17 ((m : Int) + 1)) r i = A w r i := fun r i hr => f.A (by
    have : ∀ r, r ∈ [12, 13, 18, 19] → r ∉ [15, 16] := by decide
    exact this r hr)
  have by1 : byI (wi v 17 ((m : Int) + 1)) (p + n) = byI v (p + n) := byI_fr (fun _ => rfl) (wi_ne (by decide)) _
  obtain ⟨z0, ⟨a1, ⟨a2, a3, a4⟩, a5⟩, ⟨⟨b1, b2, b3⟩, b4, b5⟩, n1, n2, ⟨c1, ⟨c2, c3⟩, seen, c4, c5⟩, c6, c7, c8, c9⟩ := h
  have c9' := c9 hi
  have em : m = n1 + n2 := by omega
  have len27 : G27.countP seen ≤ 27 := List.countP_le_length
  have m13 : m ≤ 1342 := by omega
  have f17 : F (wi v 17 ((m : Int) + 1)) 17 = (m : Int) + 1 := wi_eq ⟨by omega, by omega⟩
  have cm := c3 (n1 + n2) (Nat.le_refl _)
  rw [← em] at cm c6 c3
  have w16 : ∀ i, A (wi v 17 ((m : Int) + 1)) 16 i = A v 16 i := fun _ => rfl
  have tb : TBX (wi v 17 ((m : Int) + 1)) 16 (m + 1) := by
    refine ⟨by omega, fun k hk => ?_⟩
    rw [w16, w16]
    by_cases z : k = m + 1
    · rw [z, g3]; exact ⟨by omega, by omega, fun y => by omega⟩
    · have ck := c3 k (by omega)
      rw [g2 k z]
      refine ⟨ck.1, ck.2.1, fun y => ?_⟩
      by_cases z2 : k = m
      · rw [z2, g3]; omega
      · rw [g2 (k + 1) (by omega)]; exact ck.2.2 (by omega)
  have old : ∀ c, seen c = true → ∃ k, k < m + 1 ∧ A (wi v 17 ((m : Int) + 1)) 16 (k + 1) - A (wi v 17 ((m : Int) + 1)) 16 k = 1 ∧ (wi v 17 ((m : Int) + 1)).2.2.1 15 (A (wi v 17 ((m : Int) + 1)) 16 k).toNat = c := fun c hc => by
    obtain ⟨k, d1, d2, d3⟩ := c5 c hc
    refine ⟨k, by omega, ?_, ?_⟩
    · rw [w16, w16, g2 k (by omega), g2 (k + 1) (by omega)]; exact d2
    · show v.2.2.1 15 (A v 16 k).toNat = c
      rw [g2 k (by omega)]
      have k1 := c3 k (by omega)
      have k2 : A w 16 (k + 1) ≤ A w 16 m := by
        have mono : ∀ d i, i + d = m → A w 16 i ≤ A w 16 m := by
          intro d
          induction d with
          | zero => intro i hi; obtain rfl : i = m := by omega
                    exact Int.le_refl _
          | succ d ih => intro i hi; have := (c3 i (by omega)).2.2 (by omega); have := ih (i + 1) (by omega); omega
        exact mono (m - (k + 1)) (k + 1) (by omega)
      rw [g5 _ (by omega)]; exact d3
  have common : ∀ n1' n2' : Nat, n1' + n2' = m + 1 → 2 * n1' + 3 * n2' ≤ 2 * n1 + 3 * n2 + n + 1 → (∃ sn : Int32 → Bool, n1' ≤ G27.countP sn ∧ ∀ c, sn c = true → ∃ k, k < m + 1 ∧ A (wi v 17 ((m : Int) + 1)) 16 (k + 1) - A (wi v 17 ((m : Int) + 1)) 16 k = 1 ∧ (wi v 17 ((m : Int) + 1)).2.2.1 15 (A (wi v 17 ((m : Int) + 1)) 16 k).toNat = c) → TBI (wi v 17 ((m : Int) + 1)) (p + n) := fun n1' n2' e1 e2 sn => by
    refine ⟨⟨by rw [eA 13 _ (by decide)]; exact z0.1, by rw [w16, g2 0 (by omega)]; exact z0.2.1, by rw [eA 19 _ (by decide)]; exact z0.2.2⟩, ⟨?_, ⟨?_, ?_, fun k hk => ?_⟩, ?_⟩, ⟨⟨?_, ?_, fun k hk => ?_⟩, ?_, ?_⟩, n1', n2', ⟨by rw [f17]; omega, by rw [e1]; exact tb, by rw [e1]; exact sn⟩, ?_, ?_, ?_, fun q => absurd q (by rw [by1]; exact hx)⟩
    · rw [eF 14 (by decide)]; exact a1
    · rw [eF 14 (by decide)]; exact a2
    · rw [eF 14 (by decide)]; exact a3
    · rw [eF 14 (by decide)] at hk ⊢; rw [eA 13 _ (by decide), eA 13 _ (by decide)]; exact a4 k hk
    · rw [eF 14 (by decide), eA 13 _ (by decide)]; omega
    · rw [eF 20 (by decide)]; exact b1
    · rw [eF 20 (by decide)]; exact b2
    · rw [eF 20 (by decide)] at hk ⊢; rw [eA 19 _ (by decide), eA 19 _ (by decide)]; exact b3 k hk
    · rw [eF 20 (by decide)]; omega
    · rw [eF 20 (by decide), eA 19 _ (by decide)]; omega
    · rw [e1, w16, g3]; omega
    · rw [eF 14 (by decide), eF 5 (by decide)]; omega
    · rw [eF 14 (by decide)]; omega
  by_cases z : n = 1
  · subst z
    have hc : w.2.2.1 4 p.toNat ∈ G27 := gr_in hb hp hg
    have hb4 := hb p.toNat
    have nar : vp_nar .byte (w.2.2.1 4 p.toNat) = w.2.2.1 4 p.toNat := by
      rw [I_A]; exact nar_id hb4.1 hb4.2
    have new : v.2.2.1 15 (A w 16 m).toNat = w.2.2.1 4 p.toNat := by
      have := g4 0 (by omega)
      rw [Nat.add_zero, Nat.add_zero, nar] at this
      exact this
    have sf : seen (w.2.2.1 4 p.toNat) = false := by
      cases hs : seen (w.2.2.1 4 p.toNat) with
      | false => rfl
      | true =>
        obtain ⟨k, d1, d2, d3⟩ := c5 _ hs
        exfalso
        refine hno k (by omega) ⟨by omega, fun i hi => ?_⟩
        obtain rfl : i = 0 := by omega
        rw [Nat.add_zero, Nat.add_zero]; exact d3
    refine common (n1 + 1) n2 (by omega) (by omega) ⟨fun d => if d = w.2.2.1 4 p.toNat then true else seen d, ?_, fun c hcc => ?_⟩
    · have := cnt_up (w.2.2.1 4 p.toNat) seen G27 hc sf
      omega
    · by_cases zc : c = w.2.2.1 4 p.toNat
      · refine ⟨m, by omega, ?_, ?_⟩
        · rw [w16, w16, g3, g2 m (by omega)]; omega
        · show v.2.2.1 15 (A v 16 m).toNat = c
          rw [g2 m (by omega), new, zc]
      · have hcc' : (if c = w.2.2.1 4 p.toNat then true else seen c) = true := hcc
        rw [if_neg zc] at hcc'
        exact old c hcc'
  · exact common n1 (n2 + 1) (by omega) (by omega) ⟨seen, c4, old⟩
theorem nu_1 {i : Nat} (h : nu w i = 0) : 0 < i ∧ 1 ≤ A w 6 (i - 1) ∧ A w 6 (i - 1) ≤ 4 := by
  unfold nu at h
  split at h
  · omega
  · split at h
    · exact ⟨by omega, by omega, by omega⟩
    · omega
set_option maxRecDepth 100000 in
theorem wordToken_ok (hN : 200000 ≤ N) (h5 : 0 ≤ F w 5 ∧ F w 5 ≤ 4000) (hb : BYT w) (wt : WTB w) (h : RDI u w tn p bw) (hp : 0 ≤ p ∧ p < F w 5) (hc : c = byI w p) (hcc : smB c ∨ grB c) : OK (fun x _ => ∃ (p2 : Int) (bw2 : Nat → Nat), RDI u x (tn + 1) p2 bw2 ∧ p + 1 ≤ p2) (fm_M_wordToken N w c) := by
  have hi : inB (byI w p) := by
    rw [← hc]
    rcases hcc with q | q
    · exact Or.inl q
    · exact Or.inr (Or.inl q)
  obtain ⟨a1, ⟨a2, a3⟩, ⟨a4, a5⟩, ⟨a6, a6b, a6c⟩, a7, a8⟩ := id h
  have tl := TKI_le a5 a4 tn (Nat.le_refl _)
  unfold fm_M_wordToken fb_M_wordToken_0
  have inn : ∀ k : Int, 0 ≤ k → inB (byI w k) → k < F w 5 := fun k hk q => by
    rcases Int.lt_or_le k (F w 5) with z | z
    · exact z
    · exfalso
      unfold byI at q
      rw [if_pos z] at q
      exact inB_no q
  have stop : ∀ (n : Nat) (G : MS → Int32 → Int32 → Option (MS × Unit)), 1 ≤ n → p + n ≤ F w 5 → ¬ inB (byI w (p + n)) → OK (fun x _ => ∃ (p2 : Int) (bw2 : Nat → Nat), RDI u x (tn + 1) p2 bw2 ∧ p + 1 ≤ p2) (wdC N G c (I n) w) := fun n G hn hpn hno => by
    have ep : (I p : Int32) = I ((p.toNat : Nat) : Int) := by rw [show ((p.toNat : Nat) : Int) = p by omega]
    have e16 : 0 ≤ p + n ∧ p + n ≤ 4000 := by omega
    have fin : ∀ (w1 : MS) (s y : Int) (cs' ys : Int32), vp_nar .byte (cs'.toInt8.toInt32) = I s → ys = I y → RG y → FR [14, 17, 20] [] [12, 13, 15, 16, 18, 19] [] w w1 → (F w 14 ≤ F w1 14 ∧ F w 17 ≤ F w1 17 ∧ F w 20 ≤ F w1 20) → (1 ≤ s ∧ s ≤ 7 ∧ (s = 1 → 0 ≤ y ∧ y < F w1 14) ∧ (s = 2 → 0 ≤ y ∧ y < F w1 17) ∧ (s = 3 → 0 ≤ y ∧ y ≤ 14) ∧ (s = 5 → 0 ≤ y ∧ y < F w1 20)) → (s = 3 ∧ (y = 6 ∨ y = 7 → n = 3) ∨ s = 1 ∨ s = 2 ∨ s = 7) → TBI w1 (p + n) → OK (fun x _ => ∃ (p2 : Int) (bw2 : Nat → Nat), RDI u x (tn + 1) p2 bw2 ∧ p + 1 ≤ p2) (bnd (fm_M_token N w1 cs' ys) (fun u10 _ => fb_M_wordToken_151 N G u10 (I n))) := fun w1 s y cs' ys h1 h2 h3 h4 h4b h6 h7 tb => by
      have f9 : F w1 9 = ((tn : Nat) : Int) := (h4.F (by decide)).trans a2
      have f10 : F w1 10 = p := (h4.F (by decide)).trans a3
      refine k_token h1 h2 (by omega) ?_
      unfold fb_M_wordToken_151
      have t10 : F (tkn w1 s y) 10 = p := by unfold tkn; rw [wi_ne (by decide), F_wa, F_wa, F_wa]; exact f10
      rw [I_F' t10, I_add, wi_e]
      refine ok_lt.mpr (ok_some.mpr ⟨p + n, fun i => if i ≤ tn then bw i else (p + n).toNat, ?_, by omega⟩)
      have fx : FR [9, 10, 11] [] [6, 7, 8] [] w1 (wi (tkn w1 s y) 10 (p + n)) := by
        unfold tkn
        exact FR.wi (FR.wi (FR.wa (FR.wa (FR.wa FR.rf (by decide)) (by decide)) (by decide)) (by decide)) (by decide)
      have by1 : byI (wi (tkn w1 s y) 10 (p + n)) (p + n) = byI w (p + n) := byI_fr (fun i => by
        have q1 := fx.2.2.1 4 (by decide)
        have q2 := h4.2.2.1 4 (by decide)
        rw [q1, q2]) ((fx.F (by decide)).trans (h4.F (by decide))) _
      have e2 : (((p + n).toNat : Nat) : Int) = p + n := by omega
      have nun := nu_le w tn
      refine RDI_tok h h4 h4b ⟨by omega, by omega, by omega, by omega⟩ h6 ⟨fun q1 q2 => ?_, fun q => ?_, fun q => ?_, fun q1 q2 => ?_⟩ (fun _ => by rw [e2]; exact hno) h3 h5 rfl (TBI_fr fx tb (Int.le_refl _) (Or.inr (by rw [by1]; exact hno)))
      · rcases h7 with ⟨-, q⟩ | q | q | q
        · have := q q2; omega
        · omega
        · omega
        · omega
      · rcases h7 with q' | q' | q' | q' <;> omega
      · rcases h7 with q' | q' | q' | q' <;> omega
      · rcases h7 with ⟨-, q⟩ | q | q | q
        · have q3 := q (Or.inl q2)
          by_cases z : nu w tn = 0
          · obtain ⟨z1, z2, z3⟩ := nu_1 z
            have z4 := a7 z1 ⟨z2, z3⟩
            have z5 : (bw tn : Int) ≠ p := fun z6 => z4 (by rw [z6]; exact hi)
            omega
          · omega
        · omega
        · omega
        · omega
    have tbs : TBI w (p + n) := TBI_fr (FR.rf) a8 (by omega) (Or.inl (by omega))
    unfold wdC
    rw [I_F' a3]
    have wd := wordAt_ok (N := N) (u := w) (fr := p.toNat) (len := n) (by omega) (by omega) wt
    rw [← ep] at wd
    refine ok_bnd.mpr (ok_mono wd (fun x6 r6 h6 => ?_))
    rw [h6.1]
    rcases h6.2 with g | ⟨k, g1, g2, g3⟩
    · rw [g]
      show OK _ (br (decide (I (n : Int) ≤ 16)) _ _)
      refine k_le (x := (n : Int)) (y := 16) ⟨by omega, by omega⟩ ⟨by decide, by decide⟩ (fun n16 => ?_) (fun _ => ?_)
      · refine k_small (fun _ => ?_) (fun hsm => ?_)
        · rw [br10]
          obtain ⟨-, ⟨b1, b2, b3⟩, -, n1, n2, -, -, c7, -⟩ := id a8
          have am := atom_ok (N := N) (u := w) (r3 := 4) (L3 := 4000) (bg := p.toNat) (len := n) hN ⟨rfl, rfl, by decide⟩ ⟨by decide, by decide⟩ b2 (by omega) (by omega) (by omega) (by omega)
          rw [← ep] at am
          rw [I_F' a3]
          refine ok_bnd.mpr (ok_mono am (fun x r hx => ?_))
          obtain ⟨hq, -⟩ := hx
          obtain ⟨k, k1, k2⟩ := hq.2.2.2.2.2.2
          have fx : FR [14, 17, 20] [] [12, 13, 15, 16, 18, 19] [] w x := FR.mo hq.1 (by decide) (by decide) (by decide) (by decide)
          have f17 : F x 17 = F w 17 := hq.1.F (by decide)
          have f20 : F x 20 = F w 20 := hq.1.F (by decide)
          have x14 := hq.2.1.2.1
          have by1 : byI x (p + n) = byI w (p + n) := byI_fr (fun i => by rw [hq.1.2.2.1 4 (by decide)]) (hq.1.F (by decide)) _
          rw [k1]
          refine fin x 1 k 1 (I k) rfl rfl ⟨by omega, by omega⟩ fx ⟨hq.2.2.2.1, by omega, by omega⟩ ⟨by omega, by omega, fun _ => ⟨by omega, k2⟩, fun q => by omega, fun q => by omega, fun q => by omega⟩ (Or.inr (Or.inl rfl)) (TBI_at a8 hi hp hn hq (by rw [by1]; exact hno))
        · rw [br00]
          obtain ⟨-, ⟨b1, b2, b3⟩, -, n1, n2, ⟨c1, c2, seen, c4, -⟩, c6, c7, -, c9⟩ := id a8
          have len27 : G27.countP seen ≤ 27 := List.countP_le_length
          have c9' := c9 hi
          have hg : grB (byI w p) := by
            rcases hcc with q | q
            · exact absurd q hsm
            · rw [← hc]; exact q
          have tx := textOf_ok (N := N) (u := w) (r0 := 15) (r1 := 16) (r3 := 4) (many := n1 + n2) (bg := p.toNat) (len := n) (L3 := 4000) hN ⟨rfl, rfl⟩ ⟨rfl, rfl⟩ ⟨rfl, rfl, by decide⟩ ⟨by decide, by decide, by decide⟩ c2 (by omega) (by omega) (by omega)
          rw [← ep] at tx
          rw [I_F' a3, I_F' c1]
          refine ok_bnd.mpr (ok_mono tx (fun x r hx => ?_))
          unfold fb_M_wordToken_141
          rcases hx with ⟨k, k1, k2, k3, k4⟩ | ⟨k1, k2, k3⟩
          · rw [k2, k3, I_F' c1]
            refine k_eq (x := (k : Int)) (y := ((n1 + n2 : Nat) : Int)) ⟨by omega, by omega⟩ ⟨by omega, by omega⟩ (fun q => by omega) (fun _ => ?_)
            have eu : upI w 17 (I ((n1 + n2 : Nat) : Int)) = w := by
              obtain ⟨w1, w2⟩ := w
              have hw : w1 17 = I ((n1 + n2 : Nat) : Int) := I_F' c1
              show ((fun j => if j = 17 then I ((n1 + n2 : Nat) : Int) else w1 j), w2) = (w1, w2)
              have : (fun j => if j = 17 then I ((n1 + n2 : Nat) : Int) else w1 j) = w1 := by
                funext j
                by_cases z : j = 17
                · rw [if_pos z, z, hw]
                · rw [if_neg z]
              rw [this]
            rw [eu]
            refine ok_lt.mpr (fin w 2 k 2 (I k) rfl rfl ⟨by omega, by omega⟩ FR.rf ⟨Int.le_refl _, Int.le_refl _, Int.le_refl _⟩ ⟨by omega, by omega, fun q => by omega, fun _ => ⟨by omega, by omega⟩, fun q => by omega, fun q => by omega⟩ (Or.inr (Or.inr (Or.inl rfl))) tbs)
          · have x17 : F x 17 = ((n1 + n2 : Nat) : Int) := (k3.1.F (by intro z; cases z)).trans c1
            rw [k1, I_F' x17]
            refine k_eq (x := ((n1 + n2 : Nat) : Int)) (y := ((n1 + n2 : Nat) : Int)) ⟨by omega, by omega⟩ ⟨by omega, by omega⟩ (fun _ => ?_) (fun q => absurd rfl q)
            rw [lit1q, I_add, wi_e]
            have by1 : byI x (p + n) = byI w (p + n) := byI_fr (fun i => by rw [k3.1.2.2.1 4 (by decide)]) (k3.1.F (by intro z; cases z)) _
            have tb := TBI_nm (m := n1 + n2) a8 hb hi hg hp h5.2 ⟨hn, hpn⟩ c1 k2 k3 (by rw [by1]; exact hno)
            have fx : FR [14, 17, 20] [] [12, 13, 15, 16, 18, 19] [] w (wi x 17 (((n1 + n2 : Nat) : Int) + 1)) := FR.wi (FR.mo k3.1 (by simp) (by simp) (by simp) (by simp)) (by decide)
            have e14 : F (wi x 17 (((n1 + n2 : Nat) : Int) + 1)) 14 = F w 14 := (wi_ne (by decide)).trans (k3.1.F (by intro z; cases z))
            have e20 : F (wi x 17 (((n1 + n2 : Nat) : Int) + 1)) 20 = F w 20 := (wi_ne (by decide)).trans (k3.1.F (by intro z; cases z))
            have e17 : F (wi x 17 (((n1 + n2 : Nat) : Int) + 1)) 17 = ((n1 + n2 : Nat) : Int) + 1 := wi_eq ⟨by omega, by omega⟩
            refine ok_lt.mpr (fin _ 2 ((n1 + n2 : Nat) : Int) 2 (I ((n1 + n2 : Nat) : Int)) rfl rfl ⟨by omega, by omega⟩ fx ⟨by omega, by omega, by omega⟩ ⟨by omega, by omega, fun q => by omega, fun _ => ⟨by omega, by omega⟩, fun q => by omega, fun q => by omega⟩ (Or.inr (Or.inr (Or.inl rfl))) tb)
      · exact fin w 7 0 7 0 rfl rfl ⟨by decide, by decide⟩ FR.rf ⟨Int.le_refl _, Int.le_refl _, Int.le_refl _⟩ ⟨by omega, by omega, fun q => by omega, fun q => by omega, fun q => by omega, fun q => by omega⟩ (Or.inr (Or.inr (Or.inr rfl))) tbs
    · have r6n : ¬ (r6 = -1) := fun q => by
        rw [g2] at q
        have := congrArg Int32.toInt q
        rw [show (-1 : Int32) = I (-1) from rfl, I_ti (by omega) (by omega), I_ti (by omega) (by omega)] at this
        omega
      rw [decide_eq_false r6n, br_fq, g2]
      have wl : ∀ k, k < 15 → k = 6 ∨ k = 7 → wln k = 3 := by decide
      refine fin w 3 k 3 (I k) rfl rfl ⟨by omega, by omega⟩ FR.rf ⟨Int.le_refl _, Int.le_refl _, Int.le_refl _⟩ ⟨by omega, by omega, fun q => by omega, fun q => by omega, fun _ => ⟨by omega, by omega⟩, fun q => by omega⟩ (Or.inl ⟨rfl, fun q => ?_⟩) tbs
      rw [g3]
      exact wl k g1 (by omega)
  have loop : ∀ (d n m : Nat), p + n + d = F w 5 → d + 1 ≤ m → (0 < n ∨ n = 0) → OK (fun x _ => ∃ (p2 : Int) (bw2 : Nat → Nat), RDI u x (tn + 1) p2 bw2 ∧ p + 1 ≤ p2) (gg_M_wordToken N m w c (I n)) := by
    intro d
    induction d with
    | zero =>
      intro n m hd hm _
      obtain ⟨m', rfl⟩ : ∃ m', m = m' + 1 := ⟨m - 1, by omega⟩
      show OK _ (fb_M_wordToken_2 N (gg_M_wordToken N m') w c (I n))
      unfold fb_M_wordToken_2
      refine k_byteAt (k := p + n) (by rw [I_F' a3, I_add]) (by omega) h5 ?_
      refine k_inner (fun q => ?_) (fun q => ?_)
      · have := inn _ (by omega) q; omega
      · rw [br00]
        exact stop n _ (by omega) (by omega) q
    | succ d ih =>
      intro n m hd hm _
      obtain ⟨m', rfl⟩ : ∃ m', m = m' + 1 := ⟨m - 1, by omega⟩
      show OK _ (fb_M_wordToken_2 N (gg_M_wordToken N m') w c (I n))
      unfold fb_M_wordToken_2
      refine k_byteAt (k := p + n) (by rw [I_F' a3, I_add]) (by omega) h5 ?_
      refine k_inner (fun q => ?_) (fun q => ?_)
      · rw [br10]
        have e1 : I (n : Int) + 1 = I ((n + 1 : Nat) : Int) := by rw [lit1q, I_add]; rfl
        rw [e1]
        exact ih (n + 1) m' (by omega) (by omega) (Or.inl (by omega))
      · rw [br00]
        rcases Nat.eq_zero_or_pos n with z | z
        · subst z
          rw [show p + ((0 : Nat) : Int) = p by omega] at q
          exact absurd hi q
        · exact stop n _ z (by omega) q
  exact loop (F w 5 - p).toNat 0 N (by omega) (by omega) (Or.inr rfl)
end
