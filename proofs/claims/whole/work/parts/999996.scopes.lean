/-! names in scopes: the reference -/
set_option maxRecDepth 100000
section SCP
variable {N s m : Nat} {w : MS} {v : Int32}
theorem m1400 {a b : Nat} : (1400 : Int32) * Int32.ofNat a + Int32.ofNat b = Int32.ofNat (1400 * a + b) := by
  rw [show (1400 : Int32) = Int32.ofNat 1400 from rfl, ← Int32.ofNat_mul, q_add]
theorem bdI_loop (hs : s ≤ 26) (hm : w.2.2.1 60 s = Int32.ofNat m) (hm2 : 1400 * s + m ≤ 37800) : ∀ (j k F : Nat), k + j = m → ∃ r, gg_M_boundIn N (F + j + 1) w (Int32.ofNat s) v (Int32.ofNat k) = some (w, r) ∧ (r = -1 ∨ ∃ x, x < m ∧ r = Int32.ofNat x) := by
  intro j
  induction j with
  | zero =>
    intro k F hk
    refine ⟨-1, ?_, Or.inl rfl⟩
    show fb_M_boundIn_2 N (gg_M_boundIn N (F + 0)) w (Int32.ofNat s) v (Int32.ofNat k) = _
    generalize gg_M_boundIn N (F + 0) = G
    unfold fb_M_boundIn_2
    rw [q_ck (q_inb (by show s < 27; omega) (by decide)), q_nat (by omega), hm, decide_eq_true ((q_le (a := m) (b := k) (by omega) (by omega)).mpr (by omega)), q_b1]
  | succ j ih =>
    intro k F hk
    obtain ⟨r, r1, r2⟩ := ih (k + 1) F (by omega)
    by_cases e : w.2.2.1 59 (1400 * s + k) = v
    · refine ⟨Int32.ofNat k, ?_, Or.inr ⟨k, by omega, rfl⟩⟩
      show fb_M_boundIn_2 N (gg_M_boundIn N (F + j + 1)) w (Int32.ofNat s) v (Int32.ofNat k) = _
      generalize gg_M_boundIn N (F + j + 1) = G
      unfold fb_M_boundIn_2
      rw [q_ck (q_inb (by show s < 27; omega) (by decide)), q_nat (k := s) (by omega), hm, decide_eq_false (fun z => absurd ((q_le (a := m) (b := k) (by omega) (by omega)).mp z) (by omega)), q_b0, m1400, q_ck (q_inb (by show 1400 * s + k < 37800; omega) (by decide)), q_nat (by omega), decide_eq_true e, q_b1]
    · refine ⟨r, ?_, r2⟩
      rw [← r1]
      show fb_M_boundIn_2 N (gg_M_boundIn N (F + j + 1)) w (Int32.ofNat s) v (Int32.ofNat k) = _
      generalize gg_M_boundIn N (F + j + 1) = G
      unfold fb_M_boundIn_2
      rw [q_ck (q_inb (by show s < 27; omega) (by decide)), q_nat (k := s) (by omega), hm, decide_eq_false (fun z => absurd ((q_le (a := m) (b := k) (by omega) (by omega)).mp z) (by omega)), q_b0, m1400, q_ck (q_inb (by show 1400 * s + k < 37800; omega) (by decide)), q_nat (by omega), decide_eq_false e, q_b0, q_suc]
theorem bdI_ok (hs : s ≤ 26) (hm : w.2.2.1 60 s = Int32.ofNat m) (hm2 : 1400 * s + m ≤ 37800) (hN : 50000 ≤ N) : ∃ r, fm_M_boundIn N w (Int32.ofNat s) v = some (w, r) ∧ (r = -1 ∨ ∃ x, x < m ∧ r = Int32.ofNat x) := by
  obtain ⟨r, r1, r2⟩ := bdI_loop (N := N) (v := v) hs hm hm2 m 0 (N - m - 1) (by omega)
  rw [show N - m - 1 + m + 1 = N from by omega] at r1
  exact ⟨r, r1, r2⟩
/-- how many names are held, are bound, in the scopes up to s -/
def HS (w : MS) (s : Nat) : Prop := ∀ j, j ≤ s → ∃ m, w.2.2.1 63 j = Int32.ofNat m ∧ m ≤ 60
def SM (w : MS) (s : Nat) : Prop := ∀ j, j ≤ s → ∃ m, w.2.2.1 60 j = Int32.ofNat m ∧ 1400 * j + m ≤ 37800
def A613 (k : Nat) : Prop := k = 61 ∨ k = 62 ∨ k = 63
theorem fnd_loop {S : SG_M_found} {h : Nat} (hs : s ≤ 25) (hh : w.2.2.1 63 s = Int32.ofNat h) (h60 : h ≤ 60) (hH : HS w s)
    (hS : s ≠ 0 → ∃ w2 r, S w (Int32.ofNat (s - 1)) v = some (w2, r) ∧ FrM (fun _ => False) A613 w w2 ∧ HS w2 (s - 1) ∧ ∀ j, s - 1 < j → w2.2.2.1 63 j = w.2.2.1 63 j) : ∀ (j k F : Nat), k + j = h → ∃ w2 r, gg_M_found N S (F + j + 1) w (Int32.ofNat s) v (Int32.ofNat k) = some (w2, r) ∧ FrM (fun _ => False) A613 w w2 ∧ HS w2 s ∧ ∀ j, s < j → w2.2.2.1 63 j = w.2.2.1 63 j := by
  intro j
  induction j with
  | zero =>
    intro k F hk
    by_cases h0 : s = 0
    · refine ⟨w, -1, ?_, FrM.rf, hH, fun _ _ => rfl⟩
      show fb_M_found_17 N S (gg_M_found N S (F + 0)) w (Int32.ofNat s) v (Int32.ofNat k) = _
      generalize gg_M_found N S (F + 0) = G
      unfold fb_M_found_17
      rw [q_ck (q_inb (by show s < 27; omega) (by decide)), q_nat (k := s) (by omega), hh, decide_eq_true ((q_le (a := h) (b := k) (by omega) (by omega)).mpr (by omega)), q_b1, h0]
      rfl
    · obtain ⟨w2, r, a1, a2, a3, a4⟩ := hS h0
      have e63 : w2.2.2.1 63 s = Int32.ofNat h := (a4 s (by omega)).trans hh
      have z0 : ¬ Int32.ofNat s = 0 := fun z => h0 (q_inj (a := s) (b := 0) (by omega) (by decide) z)
      have es : Int32.ofNat s - 1 = Int32.ofNat (s - 1) := q_sub (k := s) (m := 1) (by omega)
      have start : ∀ G, fb_M_found_17 N S G w (Int32.ofNat s) v (Int32.ofNat k) = br (decide (r = (-1))) (some (w2, (-1))) (ck (inb (Int32.ofNat s) (ln 63)) (br (decide ((w2.2.2.1 63 (Int32.ofNat s).toNatClampNeg) < 60)) (ck (inb (Int32.ofNat s) (ln 63)) (ck (inb ((1400 * Int32.ofNat s) + (w2.2.2.1 63 (Int32.ofNat s).toNatClampNeg)) (ln 61)) (lt (upA w2 61 (upd (w2.2.2.1 61) ((1400 * Int32.ofNat s) + (w2.2.2.1 63 (Int32.ofNat s).toNatClampNeg)).toNatClampNeg v)) (fun w2 => ck (inb (Int32.ofNat s) (ln 63)) (ck (inb ((1400 * Int32.ofNat s) + (w2.2.2.1 63 (Int32.ofNat s).toNatClampNeg)) (ln 62)) (lt (upA w2 62 (upd (w2.2.2.1 62) ((1400 * Int32.ofNat s) + (w2.2.2.1 63 (Int32.ofNat s).toNatClampNeg)).toNatClampNeg r)) (fun w3 => ck (inb (Int32.ofNat s) (ln 63)) (ck (inb (Int32.ofNat s) (ln 63)) (lt (upA w3 63 (upd (w3.2.2.1 63) (Int32.ofNat s).toNatClampNeg ((w3.2.2.1 63 (Int32.ofNat s).toNatClampNeg) + 1))) (fun w4 => ck (inb (Int32.ofNat s) (ln 63)) (some (w4, ((-1) - (w4.2.2.1 63 (Int32.ofNat s).toNatClampNeg)))))))))))))) (some (w2, (-2))))) := fun G => by
        unfold fb_M_found_17
        rw [q_ck (q_inb (by show s < 27; omega) (by decide)), q_nat (k := s) (by omega), hh, decide_eq_true ((q_le (a := h) (b := k) (by omega) (by omega)).mpr (by omega)), q_b1, decide_eq_false z0, q_b0, es, a1, q_bn]
      show ∃ w3 r3, fb_M_found_17 N S (gg_M_found N S (F + 0)) w (Int32.ofNat s) v (Int32.ofNat k) = some (w3, r3) ∧ _
      rw [start]
      by_cases er : r = -1
      · rw [decide_eq_true er, q_b1]
        refine ⟨w2, -1, rfl, a2, fun j hj => ?_, fun j hj => a4 j (by omega)⟩
        by_cases e : j = s
        · rw [e]; exact ⟨h, e63, h60⟩
        · exact a3 j (by omega)
      · have hi : inb (Int32.ofNat s) (ln 63) = true := q_inb (by show s < 27; omega) (by decide)
        rw [decide_eq_false er, q_b0, q_ck hi, q_nat (k := s) (by omega), e63]
        by_cases e60 : h < 60
        · have i61 : inb (Int32.ofNat (1400 * s + h)) (ln 61) = true := q_inb (by show 1400 * s + h < 37800; omega) (by decide)
          have i62 : inb (Int32.ofNat (1400 * s + h)) (ln 62) = true := q_inb (by show 1400 * s + h < 37800; omega) (by decide)
          have x1 : ∀ g : Nat → Int32, (upA w2 61 g).2.2.1 63 s = Int32.ofNat h := fun g => e63
          have x2 : ∀ g g2 : Nat → Int32, (upA (upA w2 61 g) 62 g2).2.2.1 63 = w2.2.2.1 63 := fun g g2 => rfl
          have z60 : Int32.ofNat h < 60 := (q_lt (a := h) (b := 60) (by omega) (by decide)).mpr e60
          rw [decide_eq_true z60, q_b1, q_ck hi, m1400, q_ck i61, q_ls, q_ck hi, x1, m1400, q_ck i62, q_ls, q_ck hi, q_ck hi, q_ls, q_ck hi, x2, e63, q_suc]
          refine ⟨_, _, rfl, ((a2.tr (FrM.iA (Or.inl rfl))).tr (FrM.iA (Or.inr (Or.inl rfl)))).tr (FrM.iA (Or.inr (Or.inr rfl))), fun j hj => ?_, fun j hj => ?_⟩
          · show ∃ m, upd (w2.2.2.1 63) s (Int32.ofNat (h + 1)) j = Int32.ofNat m ∧ m ≤ 60
            by_cases e : j = s
            · rw [e, upd_self]; exact ⟨h + 1, rfl, by omega⟩
            · rw [upd_ne e]; exact a3 j (by omega)
          · show upd (w2.2.2.1 63) s (Int32.ofNat (h + 1)) j = _
            rw [upd_ne (by omega)]; exact a4 j (by omega)
        · have z60 : ¬ Int32.ofNat h < 60 := fun z => e60 ((q_lt (a := h) (b := 60) (by omega) (by decide)).mp z)
          rw [decide_eq_false z60, q_b0]
          refine ⟨w2, -2, rfl, a2, fun j hj => ?_, fun j hj => a4 j (by omega)⟩
          by_cases e : j = s
          · rw [e]; exact ⟨h, e63, h60⟩
          · exact a3 j (by omega)
  | succ j ih =>
    intro k F hk
    obtain ⟨w2, r, r1, r2⟩ := ih (k + 1) F (by omega)
    have i61 : inb (Int32.ofNat (1400 * s + k)) (ln 61) = true := q_inb (by show 1400 * s + k < 37800; omega) (by decide)
    by_cases e : w.2.2.1 61 (1400 * s + k) = v
    · refine ⟨w, (-2) - Int32.ofNat k, ?_, FrM.rf, hH, fun _ _ => rfl⟩
      show fb_M_found_17 N S (gg_M_found N S (F + j + 1)) w (Int32.ofNat s) v (Int32.ofNat k) = _
      generalize gg_M_found N S (F + j + 1) = G
      unfold fb_M_found_17
      rw [q_ck (q_inb (by show s < 27; omega) (by decide)), q_nat (k := s) (by omega), hh, decide_eq_false (fun z => absurd ((q_le (a := h) (b := k) (by omega) (by omega)).mp z) (by omega)), q_b0, m1400, q_ck i61, q_nat (by omega), decide_eq_true e, q_b1]
    · refine ⟨w2, r, ?_, r2⟩
      rw [← r1]
      show fb_M_found_17 N S (gg_M_found N S (F + j + 1)) w (Int32.ofNat s) v (Int32.ofNat k) = _
      generalize gg_M_found N S (F + j + 1) = G
      unfold fb_M_found_17
      rw [q_ck (q_inb (by show s < 27; omega) (by decide)), q_nat (k := s) (by omega), hh, decide_eq_false (fun z => absurd ((q_le (a := h) (b := k) (by omega) (by omega)).mp z) (by omega)), q_b0, m1400, q_ck i61, q_nat (by omega), decide_eq_false e, q_b0, q_suc]
theorem fnd_ok (hN : 50000 ≤ N) : ∀ (s d : Nat) (w : MS), s ≤ 25 → s + 1 ≤ d → HS w s → SM w s → ∃ w2 r, rc_M_found N d w (Int32.ofNat s) v = some (w2, r) ∧ FrM (fun _ => False) A613 w w2 ∧ HS w2 s ∧ ∀ j, s < j → w2.2.2.1 63 j = w.2.2.1 63 j := by
  intro s
  induction s with
  | zero => ?_
  | succ s ih => ?_
  all_goals
    intro d w hs hd hH hM
    obtain ⟨d, rfl⟩ : ∃ d2, d = d2 + 1 := ⟨d - 1, by omega⟩
    show ∃ w2 r, fm_M_found N (rc_M_found N d) w (Int32.ofNat _) v = some (w2, r) ∧ _
    unfold fm_M_found fb_M_found_0
  · obtain ⟨m, m1, m2⟩ := hM 0 (Nat.le_refl _)
    obtain ⟨h, h1, h2⟩ := hH 0 (Nat.le_refl _)
    obtain ⟨r, r1, r2⟩ := bdI_ok (N := N) (v := v) (by omega) m1 m2 hN
    rw [r1, q_bn]
    by_cases e : r = -1
    · rw [decide_eq_true e, q_b1]
      have := fnd_loop (N := N) (v := v) (S := rc_M_found N d) (s := 0) (by omega) h1 h2 hH (fun z => absurd rfl z) h 0 (N - h - 1) (by omega)
      rw [show N - h - 1 + h + 1 = N from by omega] at this
      exact this
    · rw [decide_eq_false e, q_b0]
      exact ⟨w, r, rfl, FrM.rf, hH, fun _ _ => rfl⟩
  · obtain ⟨m, m1, m2⟩ := hM (s + 1) (Nat.le_refl _)
    obtain ⟨h, h1, h2⟩ := hH (s + 1) (Nat.le_refl _)
    obtain ⟨r, r1, r2⟩ := bdI_ok (N := N) (v := v) (by omega) m1 m2 hN
    rw [r1, q_bn]
    by_cases e : r = -1
    · rw [decide_eq_true e, q_b1]
      have := fnd_loop (N := N) (v := v) (S := rc_M_found N d) (s := s + 1) (by omega) h1 h2 hH (fun _ => ih d w (by omega) (by omega) (fun j hj => hH j (by omega)) (fun j hj => hM j (by omega))) h 0 (N - h - 1) (by omega)
      rw [show N - h - 1 + h + 1 = N from by omega] at this
      exact this
    · rw [decide_eq_false e, q_b0]
      exact ⟨w, r, rfl, FrM.rf, hH, fun _ _ => rfl⟩
end SCP
