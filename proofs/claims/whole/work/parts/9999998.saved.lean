/-! what is saved and taken back: the reference -/
set_option maxRecDepth 100000
/-- what stands saved at the level k -/
structure SVD (w : MS) (k s : Nat) (a0 a1 a2 a3 a4 a5 a6 : Int32) (lg : Bool) (sm sl : Nat → Int32) : Prop where
  v0 : w.2.2.1 74 (8 * k) = a0
  v1 : w.2.2.1 74 (8 * k + 1) = a1
  v2 : w.2.2.1 74 (8 * k + 2) = a2
  v3 : w.2.2.1 74 (8 * k + 3) = a3
  v4 : w.2.2.1 74 (8 * k + 4) = a4
  v5 : w.2.2.1 74 (8 * k + 5) = a5
  v6 : w.2.2.1 74 (8 * k + 6) = a6
  v7 : w.2.2.1 74 (8 * k + 7) = b2i lg
  vs : ∀ j, j ≤ s → w.2.2.1 76 (54 * k + 2 * j) = sm j ∧ w.2.2.1 76 (54 * k + 2 * j + 1) = sl j
def I757 (k : Nat) : Prop := k = 75 ∨ k = 77
def A746 (k : Nat) : Prop := k = 74 ∨ k = 76
section SAV
variable {N s k : Nat} {w : MS}
theorem m2 {a b : Nat} : Int32.ofNat a + 2 * Int32.ofNat b = Int32.ofNat (a + 2 * b) := by
  rw [show (2 : Int32) = Int32.ofNat 2 from rfl, ← Int32.ofNat_mul, q_add]
theorem upA_eq {a : Nat} {f g : Nat → Int32} (h : f = g) : upA w a f = upA w a g := by rw [h]
theorem sav_loop (h65 : w.1 65 = Int32.ofNat s) (hs : s ≤ 13) (h77 : w.1 77 = Int32.ofNat (54 * k)) (hk : k ≤ 48) : ∀ (m j F : Nat) (g : Nat → Int32), j + m = s + 1 → (∀ i, i < 54 * k → g i = w.2.2.1 76 i) → (∀ i, i < j → g (54 * k + 2 * i) = w.2.2.1 60 i ∧ g (54 * k + 2 * i + 1) = w.2.2.1 63 i) → ∃ g2, gg_M_save N (F + m + 1) (upA w 76 g) (Int32.ofNat j) = some (upI (upA w 76 g2) 77 (Int32.ofNat (54 * (k + 1))), ()) ∧ (∀ i, i < 54 * k → g2 i = w.2.2.1 76 i) ∧ (∀ i, i ≤ s → g2 (54 * k + 2 * i) = w.2.2.1 60 i ∧ g2 (54 * k + 2 * i + 1) = w.2.2.1 63 i) := by
  intro m
  induction m with
  | zero =>
    intro j F g hj h1 h2
    refine ⟨g, ?_, h1, fun i hi => h2 i (by omega)⟩
    show fb_M_save_141 N (gg_M_save N (F + 0)) (upA w 76 g) (Int32.ofNat j) = _
    generalize gg_M_save N (F + 0) = G
    unfold fb_M_save_141
    have e65 : (upA w 76 g).1 65 = Int32.ofNat s := h65
    have e77 : (upA w 76 g).1 77 = Int32.ofNat (54 * k) := h77
    have lt : Int32.ofNat s < Int32.ofNat j := (q_lt (a := s) (b := j) (by omega) (by omega)).mpr (by omega)
    rw [e65, e77, decide_eq_true lt, q_b1, q_ls, show (54 : Int32) = Int32.ofNat 54 from rfl, q_add, show 54 * k + 54 = 54 * (k + 1) from by omega]
  | succ m ih =>
    intro j F g hj h1 h2
    have e65 : (upA w 76 g).1 65 = Int32.ofNat s := h65
    have e77 : (upA w 76 g).1 77 = Int32.ofNat (54 * k) := h77
    have nl : ¬ Int32.ofNat s < Int32.ofNat j := fun z => absurd ((q_lt (a := s) (b := j) (by omega) (by omega)).mp z) (by omega)
    have c60 : (upA w 76 g).2.2.1 60 = w.2.2.1 60 := rfl
    have c76 : (upA w 76 g).2.2.1 76 = g := upA_self
    obtain ⟨g2, r1, r2, r3⟩ := ih (j + 1) F (upd (upd g (54 * k + 2 * j) (w.2.2.1 60 j)) (54 * k + 2 * j + 1) (w.2.2.1 63 j)) (by omega) (fun i hi => by rw [upd_ne (by omega), upd_ne (by omega)]; exact h1 i hi) (fun i hi => by
      by_cases e : i = j
      · subst e
        rw [upd_ne (by omega), upd_self, upd_self]
        exact ⟨rfl, rfl⟩
      · rw [upd_ne (by omega), upd_ne (by omega), upd_ne (by omega), upd_ne (by omega)]
        exact h2 i (by omega))
    refine ⟨g2, ?_, r2, r3⟩
    rw [← r1]
    show fb_M_save_141 N (gg_M_save N (F + m + 1)) (upA w 76 g) (Int32.ofNat j) = _
    generalize gg_M_save N (F + m + 1) = G
    unfold fb_M_save_141
    have d77 : ∀ f : Nat → Int32, (upA (upA w 76 g) 76 f).1 77 = Int32.ofNat (54 * k) := fun _ => h77
    have d63 : ∀ f : Nat → Int32, (upA (upA w 76 g) 76 f).2.2.1 63 = w.2.2.1 63 := fun _ => rfl
    rw [e65, decide_eq_false nl, q_b0, q_ck (q_inb (by show j < 27; omega) (by decide)), e77, m2, q_ck (q_inb (by show 54 * k + 2 * j < 3240; omega) (by decide)), q_ls, q_ck (q_inb (by show j < 27; omega) (by decide)), d77, m2, q_suc, q_ck (q_inb (by show 54 * k + 2 * j + 1 < 3240; omega) (by decide)), q_ls, q_nat (k := 54 * k + 2 * j) (by omega), q_nat (k := j) (by omega), q_nat (k := 54 * k + 2 * j + 1) (by omega), c60, c76, d63, upA_self, upA_upA, upA_upA, q_suc]
theorem up74 {f : Nat → Int32} {i : Nat} {v : Int32} : upA (upA w 74 f) 74 (upd ((upA w 74 f).2.2.1 74) i v) = upA w 74 (upd f i v) := by rw [upA_self, upA_upA]
theorem upI_upA {a b : Nat} {x : Int32} {f : Nat → Int32} : upI (upA w a f) b x = upA (upI w b x) a f := rfl
/-- the eight numbers -/
def g8 (w : MS) (k : Nat) (l : Bool) : Nat → Int32 := upd (upd (upd (upd (upd (upd (upd (upd (w.2.2.1 74) (8 * k) (w.1 32)) (8 * k + 1) (w.1 39)) (8 * k + 2) (w.1 46)) (8 * k + 3) (w.1 56)) (8 * k + 4) (w.1 58)) (8 * k + 5) (w.1 71)) (8 * k + 6) (w.1 72)) (8 * k + 7) (b2i l)
theorem sav_ok {l : Bool} (h65 : w.1 65 = Int32.ofNat s) (hs : s ≤ 13) (h75 : w.1 75 = Int32.ofNat (8 * k)) (h77 : w.1 77 = Int32.ofNat (54 * k)) (hk : k ≤ 48) (hl : w.1 66 = b2i l) (hN : 50000 ≤ N) : ∃ w2, fm_M_save N w = some (w2, ()) ∧ FrM I757 A746 w w2 ∧ w2.1 75 = Int32.ofNat (8 * (k + 1)) ∧ w2.1 77 = Int32.ofNat (54 * (k + 1)) ∧ SVD w2 k s (w.1 32) (w.1 39) (w.1 46) (w.1 56) (w.1 58) (w.1 71) (w.1 72) l (w.2.2.1 60) (w.2.2.1 63) ∧ (∀ i, i < 8 * k → w2.2.2.1 74 i = w.2.2.1 74 i) ∧ (∀ i, i < 54 * k → w2.2.2.1 76 i = w.2.2.1 76 i) := by
  have c : ∀ i, i ≤ 7 → inb (Int32.ofNat (8 * k + i)) (ln 74) = true := fun i hi => q_inb (by show 8 * k + i < 400; omega) (by decide)
  have nn : ∀ i, i ≤ 7 → (Int32.ofNat (8 * k + i)).toNatClampNeg = 8 * k + i := fun i hi => q_nat (by omega)
  have ea : ∀ i, Int32.ofNat (8 * k) + Int32.ofNat i = Int32.ofNat (8 * k + i) := fun i => q_add
  -- the state behind the eight stores
  have st : fm_M_save N w = gg_M_save N N (upI (upA w 74 (g8 w k l)) 75 (Int32.ofNat (8 * (k + 1)))) (Int32.ofNat 0) := by
    have e127 : ∀ (f : Nat → Int32), fb_M_save_127 N (gg_M_save N N) (upA w 74 f) 74 ((upA w 74 f).1 75 + 7) (b2i l) = gg_M_save N N (upI (upA w 74 (upd f (8 * k + 7) (b2i l))) 75 (Int32.ofNat (8 * (k + 1)))) (Int32.ofNat 0) := fun f => by
      have e : (upA w 74 f).1 75 + 7 = Int32.ofNat (8 * k + 7) := by show w.1 75 + 7 = _; rw [h75]; exact ea 7
      have e2 : ∀ g : Nat → Int32, (upA w 74 g).1 75 + 8 = Int32.ofNat (8 * (k + 1)) := fun g => by show w.1 75 + 8 = _; rw [h75]; exact (ea 8).trans (by rw [show 8 * k + 8 = 8 * (k + 1) from by omega])
      unfold fb_M_save_127
      rw [e, q_ck (show isK 74 4 = true from by decide), q_ck (c 7 (by decide)), q_ls, q_ls, nn 7 (by decide), up74, e2]
      rfl
    unfold fm_M_save fb_M_save_0
    have s0 : inb (w.1 75) (ln 74) = true := by rw [h75]; exact c 0 (by decide)
    have n0 : (w.1 75).toNatClampNeg = 8 * k := by rw [h75]; exact nn 0 (by decide)
    have ei : ∀ (f : Nat → Int32) (i : Nat), (upA w 74 f).1 75 + Int32.ofNat i = Int32.ofNat (8 * k + i) := fun f i => by show w.1 75 + _ = _; rw [h75]; exact ea i
    have e1 : ∀ f : Nat → Int32, (upA w 74 f).1 75 + 1 = Int32.ofNat (8 * k + 1) := fun f => ei f 1
    have e2 : ∀ f : Nat → Int32, (upA w 74 f).1 75 + 2 = Int32.ofNat (8 * k + 2) := fun f => ei f 2
    have e3 : ∀ f : Nat → Int32, (upA w 74 f).1 75 + 3 = Int32.ofNat (8 * k + 3) := fun f => ei f 3
    have e4 : ∀ f : Nat → Int32, (upA w 74 f).1 75 + 4 = Int32.ofNat (8 * k + 4) := fun f => ei f 4
    have e5 : ∀ f : Nat → Int32, (upA w 74 f).1 75 + 5 = Int32.ofNat (8 * k + 5) := fun f => ei f 5
    have e6 : ∀ f : Nat → Int32, (upA w 74 f).1 75 + 6 = Int32.ofNat (8 * k + 6) := fun f => ei f 6
    rw [q_ck s0, q_ls, n0, e1, q_ck (c 1 (by decide)), q_ls, nn 1 (by decide), up74, e2, q_ck (c 2 (by decide)), q_ls, nn 2 (by decide), up74, e3, q_ck (c 3 (by decide)), q_ls, nn 3 (by decide), up74, e4, q_ck (c 4 (by decide)), q_ls, nn 4 (by decide), up74, e5, q_ck (c 5 (by decide)), q_ls, nn 5 (by decide), up74, e6, q_ck (c 6 (by decide)), q_ls, nn 6 (by decide), up74]
    show br (decide (w.1 66 = 0)) _ _ = _
    rw [hl, b2i_0]
    cases l with
    | true => exact e127 _
    | false => exact e127 _
  have L := sav_loop (N := N) (s := s) (k := k) (w := upI (upA w 74 (g8 w k l)) 75 (Int32.ofNat (8 * (k + 1)))) h65 hs h77 hk (s + 1) 0 (N - (s + 1) - 1) (w.2.2.1 76) (by omega) (fun _ _ => rfl) (fun i hi => absurd hi (Nat.not_lt_zero _))
  obtain ⟨g2, r1, r2, r3⟩ := L
  rw [show N - (s + 1) - 1 + (s + 1) + 1 = N from by omega] at r1
  have eid : upA (upI (upA w 74 (g8 w k l)) 75 (Int32.ofNat (8 * (k + 1)))) 76 (w.2.2.1 76) = upI (upA w 74 (g8 w k l)) 75 (Int32.ofNat (8 * (k + 1))) := upA_id (k := 76)
  rw [eid] at r1
  refine ⟨_, st.trans r1, ?_, rfl, rfl, ?_, fun i hi => ?_, fun i hi => r2 i hi⟩
  · exact (((FrM.iA (Or.inl rfl)).tr (FrM.iI (Or.inl rfl))).tr (FrM.iA (Or.inr rfl))).tr (FrM.iI (Or.inr rfl))
  · refine ⟨?_, ?_, ?_, ?_, ?_, ?_, ?_, ?_, fun j hj => r3 j hj⟩
    all_goals
      show g8 w k l _ = _
      unfold g8 upd
      simp
  · show g8 w k l i = _
    unfold g8
    rw [upd_ne (by omega), upd_ne (by omega), upd_ne (by omega), upd_ne (by omega), upd_ne (by omega), upd_ne (by omega), upd_ne (by omega), upd_ne (by omega)]
end SAV
