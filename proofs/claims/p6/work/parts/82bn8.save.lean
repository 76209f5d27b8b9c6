set_option maxRecDepth 100000
def SVC (w v : MS) (a b L : Nat) : Prop := v.2.2.1 74 a = w.1 32 ∧ v.2.2.1 74 (a + 6) = w.1 72 ∧ v.2.2.1 74 (a + 7) = (if w.1 66 = 0 then 0 else 1) ∧ ∀ i, i < L → v.2.2.1 76 (b + 2 * i) = w.2.2.1 60 i ∧ v.2.2.1 76 (b + 2 * i + 1) = w.2.2.1 63 i
def SVG (w v : MS) (L : Nat) : Prop := ∃ a b : Nat, (w.1 75 = I (a : Nat) ∧ w.1 77 = I (b : Nat) ∧ a + 8 ≤ 400 ∧ b + 54 ≤ 3300) ∧ (v.1 75 = I ((a + 8 : Nat) : Int) ∧ v.1 77 = I ((b + 54 : Nat) : Int)) ∧ (∀ k, k ≠ 75 → k ≠ 77 → v.1 k = w.1 k) ∧ (∀ k, k ≠ 74 → k ≠ 76 → v.2.2.1 k = w.2.2.1 k) ∧ (∀ j, j < a → v.2.2.1 74 j = w.2.2.1 74 j) ∧ (∀ j, j < b → v.2.2.1 76 j = w.2.2.1 76 j) ∧ SVC w v a b L
section
variable {w v u s : MS} {N a b L k : Nat} {x y : Int32} {sc : SCT}
theorem sv_st {β : Type} {Q : MS → β → Prop} {f : MS → Option (MS × β)} {n : Nat} (h : ∀ s', s'.1 = s.1 → (∀ k, k ≠ 74 → s'.2.2.1 k = s.2.2.1 k) → s'.2.2.1 74 = upd (s.2.2.1 74) x.toNatClampNeg y → PK Q (f s')) : PK Q (ck (inb x n) (lt (upA s 74 (upd (s.2.2.1 74) x.toNatClampNeg y)) f)) := pk_ck (fun _ => pk_lt (h _ rfl (fun k hk => upA_no hk) upA_at))
theorem I_pl {c : Nat} (h : a + c < 2147483648) {z : Int32} (hz : z = I (c : Nat)) : (I (a : Nat) + z).toNatClampNeg = a + c := by
  rw [hz, I_add]
  exact tnI (n := a + c) (by omega) h
theorem sv_lp (h65 : w.1 65 = I ((L : Nat) : Int)) (hL : L ≤ 26) (h77 : w.1 77 = I (b : Nat)) (hb : b ≤ 3246) : ∀ (M i : Nat) (s : MS), i ≤ L + 1 → s.1 = w.1 → (∀ k, k ≠ 76 → s.2.2.1 k = w.2.2.1 k) → (∀ j, j < b → s.2.2.1 76 j = w.2.2.1 76 j) → (∀ j, j < i → s.2.2.1 76 (b + 2 * j) = w.2.2.1 60 j ∧ s.2.2.1 76 (b + 2 * j + 1) = w.2.2.1 63 j) → PK (fun v (_ : Unit) => v.1 77 = I ((b + 54 : Nat) : Int) ∧ (∀ k, k ≠ 77 → v.1 k = w.1 k) ∧ (∀ k, k ≠ 76 → v.2.2.1 k = w.2.2.1 k) ∧ (∀ j, j < b → v.2.2.1 76 j = w.2.2.1 76 j) ∧ ∀ j, j < L + 1 → v.2.2.1 76 (b + 2 * j) = w.2.2.1 60 j ∧ v.2.2.1 76 (b + 2 * j + 1) = w.2.2.1 63 j) (gg_M_save N M s (I (i : Nat)))
  | 0, _, _, _, _, _, _, _ => pk_none
  | M + 1, i, s, hi, e1, e2, e3, e4 => by
    show PK _ (fb_M_save_141 N (gg_M_save N M) s (I (i : Nat)))
    unfold fb_M_save_141
    rw [e1, h65, h77, decide_eq_decide.mpr (I_lt (x := (L : Nat)) (y := (i : Nat)) (by omega) (by omega) (by omega) (by omega))]
    by_cases z : L < i
    · rw [decide_eq_true (by omega), br_tq]
      refine pk_lt (pk_some ⟨?_, fun k hk => ?_, e2, e3, fun j hj => e4 j (by omega)⟩)
      · rw [upI_at, show (54 : Int32) = I ((54 : Nat) : Int) from rfl, I_add]; congr 1
      · rw [upI_ne hk, e1]
    · rw [decide_eq_false (by omega), br_fq]
      have d2 : (2 : Int32) * I (i : Nat) = I ((2 * i : Nat) : Int) := by rw [show (2 : Int32) = I 2 from rfl, I_mul]; congr 1
      rw [d2, I_pl (a := b) (c := 2 * i) (by omega) rfl, tnI (n := i) rfl (by omega)]
      refine pk_ck (fun _ => pk_ck (fun _ => pk_lt ?_))
      have f1 : ∀ g, (upA s 76 g).1 77 = I (b : Nat) := fun _ => by show s.1 77 = _; rw [e1]; exact h77
      rw [f1]
      have d3 : I (b : Nat) + I ((2 * i : Nat) : Int) + 1 = I ((b + 2 * i + 1 : Nat) : Int) := by rw [I_add, show (1 : Int32) = I 1 from rfl, I_add]; congr 1
      rw [d3, tnI (n := b + 2 * i + 1) rfl (by omega)]
      refine pk_ck (fun _ => pk_ck (fun _ => pk_lt ?_))
      rw [i_suc]
      refine sv_lp h65 hL h77 hb M (i + 1) _ (by omega) e1 (fun k hk => ?_) (fun j hj => ?_) (fun j hj => ?_)
      · rw [upA_no hk, upA_no hk]; exact e2 k hk
      · rw [upA_at, upd_no (by omega), upA_at, upd_no (by omega)]; exact e3 j hj
      · rw [upA_at]
        by_cases y : j = i
        · subst y
          rw [upd_no (by omega), upA_at, upd_at, upd_at, upA_no (by decide), e2 60 (by decide), e2 63 (by decide)]
          exact ⟨rfl, rfl⟩
        · obtain ⟨g1, g2⟩ := e4 j (by omega)
          rw [upd_no (by omega), upd_no (by omega), upA_at, upd_no (by omega), upd_no (by omega)]
          exact ⟨g1, g2⟩
theorem save_p (h : RNs w sc) : PK (fun v (_ : Unit) => SVG w v sc.length) (fm_M_save N w) := by
  have hl := h.2.1
  have h65 := h.1
  show PK _ (fb_M_save_0 N (gg_M_save N N) w)
  unfold fb_M_save_0
  by_cases z : inb (w.1 75) (ln 74) = true
  rotate_left
  · exact pk_ck (fun y => absurd y z)
  obtain ⟨a, ha, ha4⟩ := inb_N z
  have l74 : ln 74 = 400 := rfl
  rw [l74] at ha4
  refine sv_st (fun s1 i1 r1 x1 => ?_)
  refine sv_st (fun s2 i2 r2 x2 => ?_)
  refine sv_st (fun s3 i3 r3 x3 => ?_)
  refine sv_st (fun s4 i4 r4 x4 => ?_)
  refine sv_st (fun s5 i5 r5 x5 => ?_)
  refine sv_st (fun s6 i6 r6 x6 => ?_)
  refine sv_st (fun s7 i7 r7 x7 => ?_)
  have ia : ∀ (s : MS), s.1 = w.1 → ∀ (c : Nat) (z : Int32), z = I (c : Nat) → c < 100 → (s.1 75 + z).toNatClampNeg = a + c := fun s hs c z hz hc => by rw [hs, ha]; exact I_pl (by omega) hz
  have j1 := i1
  have j2 := i2.trans j1
  have j3 := i3.trans j2
  have j4 := i4.trans j3
  have j5 := i5.trans j4
  have j6 := i6.trans j5
  have j7 := i7.trans j6
  rw [ha, tnI (n := a) rfl (by omega)] at x1
  rw [ia s1 j1 1 1 rfl (by decide)] at x2
  rw [ia s2 j2 2 2 rfl (by decide)] at x3
  rw [ia s3 j3 3 3 rfl (by decide)] at x4
  rw [ia s4 j4 4 4 rfl (by decide)] at x5
  rw [ia s5 j5 5 5 rfl (by decide)] at x6
  rw [ia s6 j6 6 6 rfl (by decide), j6] at x7
  have rr : ∀ k, k ≠ 74 → s7.2.2.1 k = w.2.2.1 k := fun k hk => by rw [r7 k hk, r6 k hk, r5 k hk, r4 k hk, r3 k hk, r2 k hk, r1 k hk]
  have fin : ∀ y : Int32, y = (if w.1 66 = 0 then 0 else 1) → PK (fun v (_ : Unit) => SVG w v sc.length) (fb_M_save_127 N (gg_M_save N N) s7 74 (s7.1 75 + 7) y) := fun y hy => by
    unfold fb_M_save_127
    refine pk_ck (fun _ => pk_ck (fun z7 => pk_lt (pk_lt ?_)))
    have ha8 : a + 8 ≤ 400 := by
      rw [j7, ha] at z7
      have e7 : I (a : Nat) + 7 = I ((a + 7 : Nat) : Int) := by rw [show (7 : Int32) = I 7 from rfl, I_add]; congr 1
      rw [e7] at z7
      have := (I_inb (n := ln 74) (x := ((a + 7 : Nat) : Int)) (by omega) (by omega)).mp z7
      rw [l74] at this
      omega
    rw [ia s7 j7 7 7 rfl (by decide)]
    generalize hs8 : upA s7 74 (upd (s7.2.2.1 74) (a + 7) y) = s8
    have r8 : ∀ k, k ≠ 74 → s8.2.2.1 k = w.2.2.1 k := fun k hk => by rw [← hs8, upA_no hk]; exact rr k hk
    have i8 : s8.1 = w.1 := by rw [← hs8]; exact j7
    have x8 : s8.2.2.1 74 = upd (s7.2.2.1 74) (a + 7) y := by rw [← hs8]; exact upA_at
    have e75 : s8.1 75 + 8 = I ((a + 8 : Nat) : Int) := by rw [i8, ha, show (8 : Int32) = I 8 from rfl, I_add]; congr 1
    rw [e75]
    generalize hs9 : upI s8 75 (I ((a + 8 : Nat) : Int)) = s9
    have i9 : ∀ k, k ≠ 75 → s9.1 k = w.1 k := fun k hk => by rw [← hs9, upI_ne hk, i8]
    have i95 : s9.1 75 = I ((a + 8 : Nat) : Int) := by rw [← hs9]; exact upI_at
    have r9 : s9.2.2.1 = s8.2.2.1 := by rw [← hs9]; rfl
    have h77 : ∃ b : Nat, w.1 77 = I (b : Nat) ∧ b ≤ 3240 ∨ (∀ M, gg_M_save N M s9 0 = none) := by
      by_cases zb : inb (w.1 77) (ln 76) = true
      · obtain ⟨b, hb1, hb2⟩ := inb_N zb
        have l76 : ln 76 = 3240 := rfl
        exact ⟨b, Or.inl ⟨hb1, by omega⟩⟩
      · refine ⟨0, Or.inr (fun M => ?_)⟩
        cases M with
        | zero => rfl
        | succ M =>
          show fb_M_save_141 N (gg_M_save N M) s9 0 = none
          unfold fb_M_save_141
          rw [i9 65 (by decide), h65, i9 77 (by decide), show (0 : Int32) = I ((0 : Nat) : Int) from rfl, decide_eq_decide.mpr (I_lt (x := ((sc.length - 1 : Nat) : Int)) (y := ((0 : Nat) : Int)) (by omega) (by omega) (by omega) (by omega)), decide_eq_false (by omega), br_fq]
          have e0 : w.1 77 + 2 * I ((0 : Nat) : Int) = w.1 77 := by
            rw [show (2 : Int32) * I ((0 : Nat) : Int) = 0 from rfl]
            exact Int32.add_zero _
          rw [e0]
          have : inb (w.1 77) (ln 76) = false := by simpa using zb
          rw [this]
          cases inb (I ((0 : Nat) : Int)) (ln 60) <;> rfl
    obtain ⟨b, hb | hb⟩ := h77
    · refine pk_mo (sv_lp (w := s9) (L := sc.length - 1) (b := b) (by rw [i9 65 (by decide)]; exact h65) (by omega) (by rw [i9 77 (by decide)]; exact hb.1) (by omega) N 0 s9 (Nat.zero_le _) rfl (fun _ _ => rfl) (fun _ _ => rfl) (fun j hj => absurd hj (by omega))) (fun v _ q => ?_)
      obtain ⟨q1, q2, q3, q4, q5⟩ := q
      have v74 : v.2.2.1 74 = upd (s7.2.2.1 74) (a + 7) y := by rw [q3 74 (by decide), r9]; exact x8
      refine ⟨a, b, ⟨ha, hb.1, ha8, by omega⟩, ⟨by rw [q2 75 (by decide)]; exact i95, q1⟩, fun k k1 k2 => by rw [q2 k k2]; exact i9 k k1, fun k k1 k2 => by rw [q3 k k2, r9]; exact r8 k k1, fun j hj => ?_, fun j hj => by rw [q4 j hj, r9, r8 76 (by decide)], ?_, ?_, ?_, fun i hi => ?_⟩
      · rw [v74, upd_no (by omega), x7, upd_no (by omega), x6, upd_no (by omega), x5, upd_no (by omega), x4, upd_no (by omega), x3, upd_no (by omega), x2, upd_no (by omega), x1, upd_no (by omega)]
      · rw [v74, upd_no (by omega), x7, upd_no (by omega), x6, upd_no (by omega), x5, upd_no (by omega), x4, upd_no (by omega), x3, upd_no (by omega), x2, upd_no (by omega), x1, upd_at]
      · rw [v74, upd_no (by omega), x7, upd_at]
      · rw [v74, upd_at]; exact hy
      · have := q5 i (by omega)
        rw [r9, r8 60 (by decide), r8 63 (by decide)] at this
        exact this
    · rw [show (0 : Int32) = I ((0 : Nat) : Int) from rfl] at hb
      intro v r e
      have := hb N
      rw [show (0 : Int32) = I ((0 : Nat) : Int) from rfl] at e
      rw [this] at e
      cases e
  rw [show s7.1 66 = w.1 66 by rw [j7]]
  by_cases y : w.1 66 = 0
  · rw [decide_eq_true y, br_tq]
    exact fin 0 (by rw [if_pos y])
  · rw [decide_eq_false y, br_fq]
    exact fin 1 (by rw [if_neg y])
end
