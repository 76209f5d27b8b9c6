/-! clearHeap: where blocks went -/
set_option maxRecDepth 100000
/-- what clearing leaves: from which block each came, how often the heap has been cleared -/
def CLXc (u : MS) (q : Nat) (h : Nat → Int64) (n : Nat) (ow kd : Nat → Nat) (P : Int64 → Prop) (B W Y : Nat) (w : MS) : Prop := ∃ U src bs, (F w (pq q 4) = ((U : Nat) : Int) ∧ U ≤ n ∧ w.1 (pq q 5) = u.1 (pq q 5) + 1) ∧ CPc h n ow kd P (w.2.2.2 (pq q 2)) 0 U U src bs ∧ (∀ x y, x < U → y < U → bs x = x → bs y = y → vn (src x) = vn (src y) → x = y) ∧ (∀ i, i < B → RTO U src bs (u.2.2.2 (pq q 33) i) (w.2.2.2 (pq q 33) i)) ∧ (∀ i, i < W → RTO U src bs (u.2.2.2 (pq q 35) i) (w.2.2.2 (pq q 35) i)) ∧ ∀ i, i < Y → RTO U src bs (u.2.2.2 (pq q 6) i) (w.2.2.2 (pq q 6) i)
section
variable {h : Nat → Int64} {n N q B W Y k : Nat} {ow kd : Nat → Nat} {Fv : Int64 → Int64 → Prop} {P : Int64 → Prop} {u v w u0 : MS} {t x y : Int64}
theorem clearHeap_x (p : PTQ u q n ow kd Fv P B W Y) (hF : FVc Fv) (hP : ∀ t, P t → PT u t) (hN : 10 + B + W + Y + 600 ≤ N) : OK (fun w _ => CLXc u q (u.2.2.2 (pq q 2)) n ow kd P B W Y w) (hm_Pr_clearHeap N u q) := by
  obtain ⟨⟨p1, p2, p3⟩, ⟨p4, p5⟩, ⟨p6, p7⟩, ⟨p8, p9⟩, p10⟩ := p
  unfold hm_Pr_clearHeap hb_Pr_clearHeap_0
  refine ok_lt.mpr ?_
  generalize hu0 : upI u (pq q 5) (u.1 (pq q 5) + 1) = u0
  have f0 : FR [pq q 5] [] [] [] u u0 := by rw [← hu0, I_of (u.1 (pq q 5) + 1), wi_e]; exact FR.wi FR.rf (by simp)
  have pn5 : ∀ a, a ≠ 5 → pq q a ∉ [pq q 5] := fun a ha => by simp; exact pq_inj ha
  have B0 : CLB u0 q B W Y := by
    obtain ⟨⟨l, a1, a2⟩, ⟨l2, b1, b2⟩, c⟩ := p10
    exact ⟨⟨l, by rw [FR.F f0 (pn5 43 (by decide))]; exact a1, a2⟩, ⟨l2, by rw [FR.F f0 (pn5 45 (by decide))]; exact b1, b2⟩, c⟩
  have row : ∀ a, u0.2.2.2 (pq q a) = u.2.2.2 (pq q a) := fun a => FRj f0 (by simp)
  have hBb : B ≤ 1000000 ∧ W ≤ 1000000 ∧ Y ≤ 30 := by
    obtain ⟨⟨l, a1, a2, a3⟩, ⟨l2, b1, b2, b3⟩, c⟩ := p10
    omega
  have g : HPc (u.2.2.2 (pq q 2)) n ow kd Fv P := p3
  generalize hh : u.2.2.2 (pq q 2) = h at *
  have st : CLc u0 q h n ow kd P B W Y u0 0 0 0 := by
    refine ⟨fun _ => 0, fun _ => 0, FR.rf, ?_, ?_, ?_, ?_, ?_, ?_, fun z => (by cases z)⟩
    · exact ⟨Nat.le_refl _, fun c _ z => by omega, fun c _ z => by omega⟩
    · exact ⟨fun b hb => by omega, fun c hc _ => by rw [row, hh]⟩
    · refine ⟨fun _ => False, fun _ => instDecidableFalse, fun k => ⟨fun z => z.elim, fun ⟨b, z, _⟩ => by omega⟩, Nat.zero_le _⟩
    · exact fun j hj => ⟨by rw [row]; exact p5 j hj, fun z => by unfold pn at z; simp at z, fun _ => rfl⟩
    · exact fun j hj => ⟨by rw [row]; exact p7 j hj, fun z => by unfold pn at z; simp at z, fun _ => rfl⟩
    · exact fun j hj => ⟨by rw [row]; exact p9 j hj, fun z => by unfold pn at z; simp at z, fun _ => rfl⟩
  rw [lit0, show (0 : Int) = ((0 : Nat) : Int) from rfl]
  -- the end
  have fin : ∀ (L : Nat) (w : MS) (U : Nat), 1 ≤ L → CLc u0 q h n ow kd P B W Y w 3 U U → OK (fun w _ => CLXc u q h n ow kd P B W Y w) ((hg_Pr_clearHeap N L).1 w q (I (U : Int)) (I ((3 + 1 : Nat) : Int))) := by
    intro L w U hL c
    cases L with
    | zero => omega
    | succ L =>
      show OK _ (hb_Pr_clearHeap_14 N (hg_Pr_clearHeap N L) w q (I (U : Int)) (I ((3 + 1 : Nat) : Int)))
      unfold hb_Pr_clearHeap_14
      rw [I_lit (n := 4)]
      refine k_le ⟨by decide, by decide⟩ ⟨by decide, by decide⟩ (fun _ => ?_) (fun y => absurd y (by decide))
      refine ok_lt.mpr (ok_lt.mpr (ok_some.mpr ?_))
      rw [wi_e]
      obtain ⟨src, bs, f, c1, c2, c3, r0, r1, r2, r3⟩ := c
      have hUn := CNT_le c3
      rw [if_pos rfl] at c1
      have f1 : FR [pq q 4] [] [] [pq q 2, pq q 3, pq q 33, pq q 35, pq q 6] u0 (wi (swp w q) (pq q 4) (U : Int)) := FR.wi (FR_upJ (FR_upJ (FR.mo f (by simp) (by simp) (by simp) (by simp)) (by simp)) (by simp)) (by simp)
      have e2 : (wi (swp w q) (pq q 4) (U : Int)).2.2.2 (pq q 2) = w.2.2.2 (pq q 3) := swp_2
      have eo : ∀ a, a ≠ 2 → a ≠ 3 → (wi (swp w q) (pq q 4) (U : Int)).2.2.2 (pq q a) = w.2.2.2 (pq q a) := fun a h2 h3 => swp_ne ⟨pq_inj h2, pq_inj h3⟩
      have e5 : (wi (swp w q) (pq q 4) (U : Int)).1 (pq q 5) = u.1 (pq q 5) + 1 := by
        rw [f1.1 (pq q 5) (by simp; exact pq_inj (by decide)), ← hu0]
        exact upI_at
      refine ⟨U, src, bs, ⟨by rw [F_wi (by omega) (by omega), if_pos rfl], hUn, e5⟩, by rw [e2]; exact c1, fun x y hx hy e3 e4 e6 => ?_, fun i hi => ?_, fun i hi => ?_, fun i hi => ?_⟩
      · have y1 := (c2.1 x hx e3).2
        have y2 := (c2.1 y hy e4).2
        rw [e6] at y1
        omega
      · rw [eo 33 (by decide) (by decide), ← row 33]
        exact (r0 i hi).2.1 hi
      · rw [eo 35 (by decide) (by decide), ← row 35]
        exact (r1 i hi).2.1 hi
      · rw [eo 6 (by decide) (by decide), ← row 6]
        exact (r2 i hi).2.1 hi
  -- the four rows, the last first
  have hP0 : ∀ t, P t → PT u t := hP
  have fI : ∀ (w : MS), FR [] [] [] [pq q 2, pq q 3, pq q 33, pq q 35, pq q 6] u0 w → w.1 (pq q 24) = I (B : Int) ∧ w.1 (pq q 26) = I (W : Int) ∧ w.1 (pq q 7) = I (Y : Int) := fun w f => by
    have h5 : ∀ a, a ≠ 5 → F w (pq q a) = F u (pq q a) := fun a ha => by rw [FR.F f (by simp), FR.F f0 (pn5 a ha)]
    exact ⟨by rw [I_F, h5 24 (by decide), p4], by rw [I_F, h5 26 (by decide), p6], by rw [I_F, h5 7 (by decide), p8]⟩
  have go3 : ∀ (L : Nat) (w : MS) (U : Nat), 520 ≤ L → CLc u0 q h n ow kd P B W Y w 2 Y U → OK (fun w _ => CLXc u q h n ow kd P B W Y w) ((hg_Pr_clearHeap N L).1 w q (I (U : Int)) (I ((2 + 1 : Nat) : Int))) := by
    intro L w U hL c
    cases L with
    | zero => omega
    | succ L =>
      show OK _ (hb_Pr_clearHeap_14 N (hg_Pr_clearHeap N L) w q (I (U : Int)) (I ((2 + 1 : Nat) : Int)))
      unfold hb_Pr_clearHeap_14 hb_Pr_clearHeap_64 hb_Pr_clearHeap_107
      refine ok_br.mpr ⟨fun y => absurd y (by decide), fun _ => ok_br.mpr ⟨fun y => absurd y (by decide), fun _ => ok_br.mpr ⟨fun y => absurd y (by decide), fun _ => ok_br.mpr ⟨fun y => absurd y (by decide), fun _ => ok_br.mpr ⟨fun y => absurd y (by decide), fun _ => ok_br.mpr ⟨fun y => absurd y (by decide), fun _ => ok_br.mpr ⟨fun y => absurd y (by decide), fun _ => ?_⟩⟩⟩⟩⟩⟩⟩
      rw [lit0]
      obtain ⟨src, bs, f, c1, c2, c3, r0, r1, r2, r3⟩ := c
      exact clear_in (k := 3) (L := 1) (fx := 0) (by decide) g p2 hF hP0 B0 (fun z => absurd rfl z) ⟨by decide, by decide⟩ (fun L2 w2 U2 hL2 c4 => fin L2 w2 U2 hL2 c4) L 0 w U (by show 1 + (512 - 0) + 1 ≤ L; omega) (Nat.zero_le _) ⟨src, bs, f, c1, c2, c3, r0, r1, r2, fun _ => Nat.zero_le _⟩
  have go2 : ∀ (L : Nat) (w : MS) (U : Nat), 522 + Y ≤ L → CLc u0 q h n ow kd P B W Y w 1 W U → OK (fun w _ => CLXc u q h n ow kd P B W Y w) ((hg_Pr_clearHeap N L).1 w q (I (U : Int)) (I ((1 + 1 : Nat) : Int))) := by
    intro L w U hL c
    cases L with
    | zero => omega
    | succ L =>
      show OK _ (hb_Pr_clearHeap_14 N (hg_Pr_clearHeap N L) w q (I (U : Int)) (I ((1 + 1 : Nat) : Int)))
      unfold hb_Pr_clearHeap_14 hb_Pr_clearHeap_64 hb_Pr_clearHeap_107
      refine ok_br.mpr ⟨fun y => absurd y (by decide), fun _ => ok_br.mpr ⟨fun y => absurd y (by decide), fun _ => ok_br.mpr ⟨fun y => absurd y (by decide), fun _ => ok_br.mpr ⟨fun _ => ok_br.mpr ⟨fun y => absurd y (by decide), fun _ => ok_br.mpr ⟨fun y => absurd y (by decide), fun _ => ok_br.mpr ⟨fun _ => ?_, fun y => absurd y (by decide)⟩⟩⟩, fun y => absurd y (by decide)⟩⟩⟩⟩
      obtain ⟨src, bs, f, c1, c2, c3, r0, r1, r2, r3⟩ := c
      rw [lit0, (fI w f).2.2]
      exact clear_in (k := 2) (L := 520) (fx := (Y : Int)) (by decide) g p2 hF hP0 B0 (fun _ => rfl) ⟨by omega, by omega⟩ (fun L2 w2 U2 hL2 c4 => go3 L2 w2 U2 hL2 c4) L 0 w U (by show 520 + (Y - 0) + 1 ≤ L; omega) (Nat.zero_le _) ⟨src, bs, f, c1, c2, c3, r0, r1, r2, fun z => (by cases z)⟩
  have go1 : ∀ (L : Nat) (w : MS) (U : Nat), 524 + Y + W ≤ L → CLc u0 q h n ow kd P B W Y w 0 B U → OK (fun w _ => CLXc u q h n ow kd P B W Y w) ((hg_Pr_clearHeap N L).1 w q (I (U : Int)) (I ((0 + 1 : Nat) : Int))) := by
    intro L w U hL c
    cases L with
    | zero => omega
    | succ L =>
      show OK _ (hb_Pr_clearHeap_14 N (hg_Pr_clearHeap N L) w q (I (U : Int)) (I ((0 + 1 : Nat) : Int)))
      unfold hb_Pr_clearHeap_14 hb_Pr_clearHeap_64 hb_Pr_clearHeap_107
      refine ok_br.mpr ⟨fun y => absurd y (by decide), fun _ => ok_br.mpr ⟨fun y => absurd y (by decide), fun _ => ok_br.mpr ⟨fun _ => ok_br.mpr ⟨fun y => absurd y (by decide), fun _ => ok_br.mpr ⟨fun _ => ?_, fun y => absurd y (by decide)⟩⟩, fun y => absurd y (by decide)⟩⟩⟩
      obtain ⟨src, bs, f, c1, c2, c3, r0, r1, r2, r3⟩ := c
      rw [lit0, (fI w f).2.1]
      exact clear_in (k := 1) (L := 522 + Y) (fx := (W : Int)) (by decide) g p2 hF hP0 B0 (fun _ => rfl) ⟨by omega, by omega⟩ (fun L2 w2 U2 hL2 c4 => go2 L2 w2 U2 hL2 c4) L 0 w U (by show 522 + Y + (W - 0) + 1 ≤ L; omega) (Nat.zero_le _) ⟨src, bs, f, c1, c2, c3, r0, r1, r2, fun z => (by cases z)⟩
  cases N with
  | zero => omega
  | succ M =>
    show OK _ (hb_Pr_clearHeap_14 (M + 1) (hg_Pr_clearHeap (M + 1) M) u0 q (I ((0 : Nat) : Int)) (I ((0 : Nat) : Int)))
    unfold hb_Pr_clearHeap_14 hb_Pr_clearHeap_64 hb_Pr_clearHeap_107
    refine ok_br.mpr ⟨fun y => absurd y (by decide), fun _ => ok_br.mpr ⟨fun _ => ok_br.mpr ⟨fun _ => ?_, fun y => absurd y (by decide)⟩, fun y => absurd y (by decide)⟩⟩
    rw [lit0, (fI u0 FR.rf).1]
    exact clear_in (k := 0) (L := 524 + Y + W) (fx := (B : Int)) (by decide) g p2 hF hP0 B0 (fun _ => rfl) ⟨by omega, by omega⟩ (fun L2 w2 U2 hL2 c4 => go1 L2 w2 U2 hL2 c4) M 0 u0 0 (by show 524 + Y + W + (B - 0) + 1 ≤ M; omega) (Nat.zero_le _) st
end
