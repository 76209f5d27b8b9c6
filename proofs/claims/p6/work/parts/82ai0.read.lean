def TBS (u : MS) : Prop := FAB u ∧ WTB u ∧ SGT u ∧ TBL u
def RTQ (u x : MS) : Prop := FR [9, 10, 11, 14, 17, 20] [] [6, 7, 8, 12, 13, 15, 16, 18, 19] [] u x ∧ TB0 x ∧ ATM x ∧ 22 ≤ F x 14 ∧ ∃ (TN SN : Nat) (bw : Nat → Nat), TKW x TN SN bw ∧ F x 9 = ((TN : Nat) : Int) ∧ STR x SN
section
variable {u w x v : MS} {N tn e n : Nat} {p p2 s y : Int} {bw : Nat → Nat} {c r : Int32}
theorem RDI_skip {l : Int} (h : RDI u w tn p bw) (hp : p + 1 ≤ F w 5 + 1 ∧ 0 ≤ p ∧ F w 5 ≤ 4000) : RDI u (wi (wi w 11 l) 10 (p + 1)) tn (p + 1) bw := by
  obtain ⟨a1, ⟨a2, a3⟩, ⟨a4, a5⟩, ⟨a6, a6b, a6c⟩, a7, a8⟩ := h
  have f : FR [10, 11] [] [] [] w (wi (wi w 11 l) 10 (p + 1)) := FR.wi (FR.wi FR.rf (by decide)) (by decide)
  have x10 : F (wi (wi w 11 l) 10 (p + 1)) 10 = p + 1 := wi_eq ⟨by omega, by omega⟩
  generalize wi (wi w 11 l) 10 (p + 1) = X at *
  have eF : ∀ k, k ∉ [10, 11] → F X k = F w k := fun k hk => f.F hk
  have eA : ∀ r i, A X r i = A w r i := fun r i => f.A (by intro z; cases z)
  have by1 : ∀ k, byI X k = byI w k := byI_fr (fun i => by rw [f.2.2.1 4 (by intro z; cases z)]) (eF 5 (by decide))
  refine ⟨FR.tr a1 (FR.mo f (by decide) (by decide) (by decide) (by decide)), ⟨(eF 9 (by decide)).trans a2, x10⟩, ⟨a4, fun i hi => ?_⟩, by rw [eF 5 (by decide)]; omega, fun q1 q2 => ?_, TBI_fr (FR.mo f (by decide) (by decide) (by decide) (by decide)) a8 (by omega) (Or.inl (by omega))⟩
  · have nx : nu X i = nu w i := by unfold nu; simp only [eA]
    rw [eA, eA, nx, eF 14 (by decide), eF 17 (by decide), eF 20 (by decide)]; exact a5 i hi
  · rw [by1]; rw [eA] at q2; exact a7 q1 q2
theorem RDI_end (h : RDI u w tn p bw) (h5 : 0 ≤ F w 5 ∧ F w 5 ≤ 4000) : OK (fun x _ => RTQ u x) (fb_M_readTokens_216 N (gg_M_readTokens N n) w) := by
  obtain ⟨a1, ⟨a2, a3⟩, ⟨a4, a5⟩, ⟨a6, a6b, a6c⟩, a7, a8⟩ := h
  have tl := TKI_le a5 a4 tn (Nat.le_refl _)
  unfold fb_M_readTokens_216
  refine k_token (s := 0) (y := 0) rfl rfl (by omega) ?_
  obtain ⟨t1, t2, t3, t4, t5⟩ := tkn_f (w := w) (s := 0) (y := 0) a2 (by omega) ⟨by decide, by decide⟩ ⟨by decide, by decide⟩
  generalize tkn w 0 0 = X at *
  have e1 : X.1 9 - 1 = I (tn : Int) := by rw [I_F' t2, lit1q, I_sub]; congr 1; omega
  rw [e1, wi_e]
  refine ok_lt.mpr (ok_some.mpr ?_)
  have f : FR [9] [] [6, 7, 8] [] w (wi X 9 tn) := FR.wi t1 (by decide)
  have y9 : F (wi X 9 tn) 9 = ((tn : Nat) : Int) := wi_eq ⟨by omega, by omega⟩
  have y6 : A (wi X 9 tn) 6 tn = 0 := t3
  have yo : ∀ r j, r ∈ [6, 7] → j ≠ tn → A (wi X 9 tn) r j = A w r j := fun r j hr hj => t5 r j hr hj
  generalize wi X 9 tn = Y at *
  have eF : ∀ k, k ≠ 9 → F Y k = F w k := fun k hk => f.F (by simpa using hk)
  have tb := TBI_fr (p2 := p + 1) (FR.mo f (by decide) (by decide) (by decide) (by decide)) a8 (by omega) (Or.inl (by omega))
  obtain ⟨z0, ⟨b1, ⟨b2, b3, b4⟩, b5⟩, ⟨⟨c1, c2, c3⟩, c4, c5⟩, n1, n2, ⟨d1, ⟨d2, d3⟩, seen, d4, -⟩, d6, d7, d8, -⟩ := tb
  have len27 : G27.countP seen ≤ 27 := List.countP_le_length
  rw [eF 5 (by decide)] at d7
  have nx : ∀ i, i ≤ tn → nu Y i = nu w i := fun i hi => by
    unfold nu
    split
    · rfl
    · rw [yo 6 (i - 1) (by decide) (by omega)]
  refine ⟨FR.tr a1 (FR.mo f (by decide) (by decide) (by decide) (by decide)), z0, ⟨b2, by omega, fun k hk => ?_⟩, b1, tn, (F Y 20).toNat, bw, ⟨⟨by omega, Or.inl y6⟩, fun i hi => ?_, ⟨by omega, by omega, fun k hk => ?_⟩, fun i hi => ?_, by omega⟩, y9, ⟨by omega, fun s hs => ?_⟩⟩
  · have q1 := b4 k (by omega)
    have q2 := b4 (k + 1) (by omega)
    exact ⟨q1.1, q1.2.2 (by omega), q2.2.1⟩
  · obtain ⟨⟨g1, g2, g3, g4, g5, g6⟩, -⟩ := a5 i hi
    rw [yo 6 i (by decide) (by omega), yo 7 i (by decide) (by omega), eF 14 (by decide), eF 17 (by decide), eF 20 (by decide)]
    exact ⟨g1, g2, g3, g4, g5, fun q => by have := g6 q; omega⟩
  · have q1 := d3 k (by omega)
    have mono : ∀ d i, i + d = n1 + n2 → A Y 16 i ≤ A Y 16 (n1 + n2) := by
      intro d
      induction d with
      | zero => intro i hi; obtain rfl : i = n1 + n2 := by omega
                exact Int.le_refl _
      | succ d ih => intro i hi; have := (d3 i (by omega)).2.2 (by omega); have := ih (i + 1) (by omega); omega
    have q2 := mono (n1 + n2 - k) k (by omega)
    exact ⟨q1.1, by omega⟩
  · obtain ⟨-, g7⟩ := a5 i hi
    rw [yo 6 i (by decide) (by omega), yo 7 i (by decide) (by omega), nx i (by omega)]
    exact g7
  · have q1 := c3 s (by omega)
    have q2 := c3 (s + 1) (by omega)
    exact ⟨q1.1, q1.2.2 (by omega), q2.2.1⟩
set_option maxRecDepth 100000 in
theorem read_loop (hN : 200000 ≤ N) (h5 : 0 ≤ F u 5 ∧ F u 5 ≤ 4000) (hb : BYT u) (ts : TBS u) : ∀ d : Nat, (∀ (w : MS) (tn : Nat) (p : Int) (bw : Nat → Nat) (m : Nat), RDI u w tn p bw → 0 ≤ p → F u 5 + 2 - p ≤ d → 4 * d + 1 ≤ m → OK (fun x _ => RTQ u x) ((gg_M_readTokens N m).1 w)) ∧ (∀ (w : MS) (tn : Nat) (p : Int) (bw : Nat → Nat) (m : Nat), RDI u w tn p bw → 0 ≤ p → F u 5 + 2 - p ≤ d → 4 * d + 3 ≤ m → OK (fun x _ => RTQ u x) ((gg_M_readTokens N m).2 w)) := by
  intro d
  induction d with
  | zero =>
    refine ⟨fun w tn p bw m h hp hd hm => ?_, fun w tn p bw m h hp hd hm => ?_⟩
    · have q := h.2.2.2.1.2.2
      have f5 : F w 5 = F u 5 := h.1.F (by decide)
      omega
    · have q := h.2.2.2.1.2.2
      have f5 : F w 5 = F u 5 := h.1.F (by decide)
      omega
  | succ d ih =>
    obtain ⟨ih1, ih2⟩ := ih
    have P1 : ∀ (w : MS) (tn : Nat) (p : Int) (bw : Nat → Nat) (m : Nat), RDI u w tn p bw → 0 ≤ p → F u 5 + 2 - p ≤ ((d + 1 : Nat) : Int) → 4 * (d + 1) + 1 ≤ m → OK (fun x _ => RTQ u x) ((gg_M_readTokens N m).1 w) := fun w tn p bw m h hp hd hm => by
      obtain ⟨m', rfl⟩ : ∃ m', m = m' + 1 := ⟨m - 1, by omega⟩
      obtain ⟨a1, ⟨a2, a3⟩, ⟨a4, a5⟩, ⟨a6, a6b, a6c⟩, a7, a8⟩ := id h
      have tl := TKI_le a5 a4 tn (Nat.le_refl _)
      have f5 : F w 5 = F u 5 := a1.F (by decide)
      have hbw : BYT w := fun i => by rw [a1.A (by decide)]; exact hb i
      have wtw : WTB w := fun k hk => by rw [a1.A (by decide)]; exact ts.2.1 k hk
      have sgw : SGT w := ⟨fun k hk => by rw [a1.A (by decide)]; exact ts.2.2.1.1 k hk, fun k hk => by rw [a1.A (by decide)]; exact ts.2.2.1.2 k hk⟩
      show OK _ (fb_M_readTokens_19 N (gg_M_readTokens N m') w)
      unfold fb_M_readTokens_19
      rw [I_F (k := 5), I_F' a3]
      refine k_le (x := F w 5) (y := p) ⟨by omega, by omega⟩ ⟨by omega, by omega⟩ (fun _ => RDI_end h (by omega)) (fun hlt => ?_)
      have go : OK (fun x _ => RTQ u x) (fb_M_readTokens_53 N (gg_M_readTokens N m') w) := by
        unfold fb_M_readTokens_53 fb_M_readTokens_173 fb_M_readTokens_213 fb_M_readTokens_80 fb_M_readTokens_100
        refine k_byteAt (k := p) (I_F' a3) (by omega) (by omega) ?_
        have more : ∀ (w' : MS), (∃ (p2 : Int) (bw2 : Nat → Nat), RDI u w' (tn + 1) p2 bw2 ∧ p + 1 ≤ p2) → OK (fun x _ => RTQ u x) ((gg_M_readTokens N m').1 w') := fun w' ⟨p2, bw2, q1, q2⟩ => ih1 w' (tn + 1) p2 bw2 m' q1 (by omega) (by omega) (by omega)
        have sk : ∀ t1 : Int32, OK (fun x _ => RTQ u x) (lt (upI w 11 t1) (fun w6 => lt (upI w6 10 ((w6.1 10) + 1)) (fun w7 => (gg_M_readTokens N m').1 w7))) := fun t1 => by
          rw [I_of t1, wi_e]
          refine ok_lt.mpr ?_
          have g10 : F (wi w 11 t1.toInt) 10 = p := (wi_ne (by decide)).trans a3
          have e1 : (wi w 11 t1.toInt).1 10 + 1 = I (p + 1) := by rw [I_F' g10, lit1q, I_add]
          rw [e1, wi_e]
          exact ok_lt.mpr (ih1 _ tn (p + 1) bw m' (RDI_skip h (by omega)) (by omega) (by omega) (by omega))
        have blank : OK (fun x _ => RTQ u x) (br (decide (byI w p = 10)) (lt (upI w 11 ((w.1 11) + 1)) (fun w6 => lt (upI w6 10 ((w6.1 10) + 1)) (fun w7 => (gg_M_readTokens N m').1 w7))) (lt (upI w 11 (w.1 11)) (fun w6 => lt (upI w6 10 ((w6.1 10) + 1)) (fun w7 => (gg_M_readTokens N m').1 w7)))) := ok_br.mpr ⟨fun _ => sk _, fun _ => sk _⟩
        refine ok_br.mpr ⟨fun _ => blank, fun n10 => ok_br.mpr ⟨fun _ => blank, fun _ => ok_br.mpr ⟨fun _ => blank, fun _ => ok_br.mpr ⟨fun _ => ?_, fun _ => ?_⟩⟩⟩⟩
        · obtain ⟨m2, rfl⟩ : ∃ m2, m' = m2 + 1 := ⟨m' - 1, by omega⟩
          show OK _ (fb_M_readTokens_122 N (gg_M_readTokens N m2) w)
          unfold fb_M_readTokens_122
          rw [I_F (k := 5), I_F' a3]
          refine k_le (x := F w 5) (y := p) ⟨by omega, by omega⟩ ⟨by omega, by omega⟩ (fun q => by omega) (fun _ => ?_)
          refine k_byteAt (k := p) rfl (by omega) (by omega) ?_
          rw [n10, br_fq]
          have e1 : w.1 10 + 1 = I (p + 1) := by rw [I_F' a3, lit1q, I_add]
          rw [I_F' a3, lit1q, I_add, wi_e]
          have ww : wi (wi w 11 (F w 11)) 10 (p + 1) = wi w 10 (p + 1) := by
            have : wi w 11 (F w 11) = w := by
              obtain ⟨w1, w2⟩ := w
              show ((fun j => if j = 11 then I (w1 11).toInt else w1 j), w2) = (w1, w2)
              have : (fun j => if j = 11 then I (w1 11).toInt else w1 j) = w1 := by
                funext j
                by_cases z : j = 11
                · rw [if_pos z, z]; exact (I_of _).symm
                · rw [if_neg z]
              rw [this]
            rw [this]
          have sk2 := RDI_skip (l := F w 11) h (by omega)
          rw [ww] at sk2
          exact ok_lt.mpr (ih2 _ tn (p + 1) bw m2 sk2 (by omega) (by omega) (by omega))
        · refine k_small (fun q => ?_) (fun q => ?_)
          · rw [br10]
            exact ok_bnd.mpr (ok_mono (wordToken_ok hN (by omega) hbw wtw h ⟨hp, hlt⟩ rfl (Or.inl q)) (fun w' _ hw => more w' hw))
          · rw [br00]
            refine k_great (fun q2 => ?_) (fun q2 => ?_)
            · rw [br10]
              exact ok_bnd.mpr (ok_mono (wordToken_ok hN (by omega) hbw wtw h ⟨hp, hlt⟩ rfl (Or.inr q2)) (fun w' _ hw => more w' hw))
            · rw [br00]
              refine k_digit (fun q3 => ?_) (fun q3 => ?_)
              · rw [br10]
                exact ok_bnd.mpr (ok_mono (numberToken_ok hN (by omega) h ⟨hp, hlt⟩ q3) (fun w' _ hw => more w' hw))
              · rw [br00]
                refine ok_br.mpr ⟨fun _ => ?_, fun _ => ?_⟩
                · exact ok_bnd.mpr (ok_mono (stringToken_ok hN (by omega) h ⟨hp, hlt⟩) (fun w' _ hw => more w' hw))
                · exact ok_bnd.mpr (ok_mono (signToken_ok hN (by omega) sgw h ⟨hp, hlt⟩) (fun w' _ hw => more w' hw))
      refine k_F (y := 0) rfl ⟨by decide, by decide⟩ (fun _ => go) (fun nz => ?_)
      have e9 : w.1 9 - 1 = I ((tn : Int) - 1) := by rw [I_F' a2, lit1q, I_sub]
      rw [e9]
      refine k_in (k := 6) (n := 4002) rfl (by decide) (by omega) (ok_br.mpr ⟨fun _ => RDI_end h (by omega), fun _ => go⟩)
    refine ⟨P1, fun w tn p bw m h hp hd hm => ?_⟩
    obtain ⟨m', rfl⟩ : ∃ m', m = m' + 1 := ⟨m - 1, by omega⟩
    obtain ⟨a1, ⟨a2, a3⟩, ⟨a4, a5⟩, ⟨a6, a6b, a6c⟩, a7, a8⟩ := id h
    have f5 : F w 5 = F u 5 := a1.F (by decide)
    show OK _ (fb_M_readTokens_122 N (gg_M_readTokens N m') w)
    unfold fb_M_readTokens_122 fb_M_readTokens_213
    rw [I_F (k := 5), I_F' a3]
    have g1 := P1 w tn p bw m' h hp hd (by omega)
    refine k_le (x := F w 5) (y := p) ⟨by omega, by omega⟩ ⟨by omega, by omega⟩ (fun _ => g1) (fun hlt => ?_)
    refine k_byteAt (k := p) rfl (by omega) (by omega) (ok_br.mpr ⟨fun _ => g1, fun _ => ?_⟩)
    rw [I_F' a3, lit1q, I_add, wi_e]
    have ww : wi (wi w 11 (F w 11)) 10 (p + 1) = wi w 10 (p + 1) := by
      have : wi w 11 (F w 11) = w := by
        obtain ⟨w1, w2⟩ := w
        show ((fun j => if j = 11 then I (w1 11).toInt else w1 j), w2) = (w1, w2)
        have : (fun j => if j = 11 then I (w1 11).toInt else w1 j) = w1 := by
          funext j
          by_cases z : j = 11
          · rw [if_pos z, z]; exact (I_of _).symm
          · rw [if_neg z]
        rw [this]
      rw [this]
    have sk2 := RDI_skip (l := F w 11) h (by omega)
    rw [ww] at sk2
    exact ok_lt.mpr (ih2 _ tn (p + 1) bw m' sk2 (by omega) (by omega) (by omega))
end
