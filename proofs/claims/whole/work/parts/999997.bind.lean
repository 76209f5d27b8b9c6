/-! a name is bound; patterns are made: the reference -/
set_option maxRecDepth 100000
section BND
variable {N s m p : Nat} {w : MS} {v : Int32}
def A640 (k : Nat) : Prop := k = 59 ∨ k = 60 ∨ k = 64
theorem bi87 {x : Int32} (h65 : w.1 65 = Int32.ofNat s) (hs : s ≤ 25) : ∃ w2 r, fb_M_bind_87 N () w 64 (w.1 65) x = some (w2, r) ∧ FrM (fun k => k = 66) (fun k => k = 64) w w2 := by
  have i27 : ∀ k, ln k = 27 → inb (Int32.ofNat s) (ln k) = true := fun k hk => by rw [hk]; exact q_inb (by omega) (by decide)
  have e107 : ∀ w3 : MS, w3.1 65 = Int32.ofNat s → ∀ G, fb_M_bind_107 N G w3 = some (w3, w3.2.2.1 60 s - 1) := fun w3 h3 G => by
    unfold fb_M_bind_107
    rw [h3, q_ck (i27 60 rfl), q_nat (by omega)]
  unfold fb_M_bind_87
  rw [q_ck (show isK 64 4 = true from by decide), h65, q_ck (i27 64 rfl), q_ls, show (upA w 64 (upd (w.2.2.1 64) (Int32.ofNat s).toNatClampNeg x)).1 65 = Int32.ofNat s from h65, q_ck (i27 64 rfl)]
  have f1 : FrM (fun k => k = 66) (fun k => k = 64) w (upA w 64 (upd (w.2.2.1 64) (Int32.ofNat s).toNatClampNeg x)) := FrM.iA rfl
  by_cases e : (upA w 64 (upd (w.2.2.1 64) (Int32.ofNat s).toNatClampNeg x)).2.2.1 64 (Int32.ofNat s).toNatClampNeg ≤ 40
  · rw [decide_eq_true e, q_b1]
    exact ⟨_, _, e107 _ (show (upA w 64 _).1 65 = _ from h65) (), f1⟩
  · rw [decide_eq_false e, q_b0, q_ls]
    exact ⟨_, _, e107 _ (show (upI (upA w 64 _) 66 1).1 65 = _ from h65) (), f1.tr (FrM.iI rfl)⟩
theorem bi_ok (h65 : w.1 65 = Int32.ofNat s) (hs : s ≤ 25) (hm : w.2.2.1 60 s = Int32.ofNat m) (hm2 : 1400 * s + m < 37800) : ∃ w2 r, fm_M_bind N w v = some (w2, r) ∧ FrM (fun k => k = 66) A640 w w2 ∧ w2.2.2.1 60 = upd (w.2.2.1 60) s (Int32.ofNat (m + 1)) := by
  have i27 : ∀ k, ln k = 27 → inb (Int32.ofNat s) (ln k) = true := fun k hk => by rw [hk]; exact q_inb (by omega) (by decide)
  have i59 : inb (Int32.ofNat (1400 * s + m)) (ln 59) = true := q_inb (by show _ < 37800; omega) (by decide)
  unfold fm_M_bind fb_M_bind_0
  rw [h65, q_nat (k := s) (by omega), hm, q_ck (i27 60 rfl), m1400, q_ck i59, q_ls]
  have c65 : ∀ g : Nat → Int32, (upA w 59 g).1 65 = Int32.ofNat s := fun _ => h65
  have c60 : ∀ g : Nat → Int32, (upA w 59 g).2.2.1 60 = w.2.2.1 60 := fun _ => rfl
  rw [c65, q_ck (i27 60 rfl), q_ck (i27 60 rfl), q_ls, q_nat (k := s) (by omega), c60, hm, q_suc]
  generalize hw4 : upA (upA w 59 (upd (w.2.2.1 59) (Int32.ofNat (1400 * s + m)).toNatClampNeg v)) 60 (upd (w.2.2.1 60) s (Int32.ofNat (m + 1))) = w4
  have d65 : w4.1 65 = Int32.ofNat s := by rw [← hw4]; exact h65
  have f4 : FrM (fun k => k = 66) A640 w w4 := by rw [← hw4]; exact (FrM.iA (Or.inl rfl)).tr (FrM.iA (Or.inr (Or.inl rfl)))
  have d60 : w4.2.2.1 60 = upd (w.2.2.1 60) s (Int32.ofNat (m + 1)) := by rw [← hw4]; rfl
  have fin : ∀ x, ∃ w2 r, fb_M_bind_87 N () w4 64 (w4.1 65) x = some (w2, r) ∧ FrM (fun k => k = 66) A640 w w2 ∧ w2.2.2.1 60 = upd (w.2.2.1 60) s (Int32.ofNat (m + 1)) := fun x => by
    obtain ⟨w2, r, r1, r2⟩ := bi87 (N := N) (x := x) d65 hs
    exact ⟨w2, r, r1, f4.tr (r2.mo (fun _ z => z) (fun k z => Or.inr (Or.inr z))), (r2.2.2.1 60 (by decide)).trans d60⟩
  have i60 : inb (w4.1 65) (ln 60) = true := by rw [d65]; exact i27 60 rfl
  have i64 : inb (w4.1 65) (ln 64) = true := by rw [d65]; exact i27 64 rfl
  rw [q_ck i60, q_ck i64, q_ck i64, q_ck i60]
  by_cases e : w4.2.2.1 60 (w4.1 65).toNatClampNeg ≤ w4.2.2.1 64 (w4.1 65).toNatClampNeg
  · rw [decide_eq_true e, q_b1]; exact fin _
  · rw [decide_eq_false e, q_b0]; exact fin _
/-- names of the tokens stand in the reference's rows -/
def NMT (w : MS) (K : Nat → Nat) (T : Nat) : Prop := ∀ p, p < T → K p = 3 → ∃ k a b, w.2.2.1 7 p = Int32.ofNat k ∧ k + 1 < 2200 ∧ w.2.2.1 16 k = Int32.ofNat a ∧ w.2.2.1 16 (k + 1) = Int32.ofNat b ∧ a ≤ b ∧ b ≤ 5000
theorem und_ok {K : Nat → Nat} {T : Nat} (hn : NMT w K T) (hp : p < T) (ht : T ≤ 4000) (hk : K p = 3) : ∃ r : Bool, fm_M_isUnderscore N w (Int32.ofNat p) = some (w, b2i r) := by
  obtain ⟨k, a, b, e1, e2, e3, e4, e5, e6⟩ := hn p hp hk
  unfold fm_M_isUnderscore fb_M_isUnderscore_0 fb_M_isUnderscore_46 fb_M_isUnderscore_47
  rw [q_ck (q_inb (by show p < 4002; omega) (by decide)), q_nat (k := p) (by omega), e1, q_suc, q_ck (q_inb (by show k + 1 < 2200; omega) (by decide)), q_ck (q_inb (by show k < 2200; omega) (by decide)), q_nat (k := k + 1) (by omega), q_nat (k := k) (by omega), e3, e4, q_sub e5]
  by_cases h1 : Int32.ofNat (b - a) = 1
  · have hb : b - a = 1 := q_inj (a := b - a) (b := 1) (by omega) (by decide) h1
    rw [decide_eq_true h1, q_b1, q_ck (q_inb (by show k < 2200; omega) (by decide)), q_ck (q_inb (by show a < 5000; omega) (by decide))]
    by_cases h2 : w.2.2.1 15 (Int32.ofNat a).toNatClampNeg = 95
    · rw [decide_eq_true h2, q_b1]; exact ⟨true, rfl⟩
    · rw [decide_eq_false h2, q_b0]; exact ⟨false, rfl⟩
  · rw [decide_eq_false h1, q_b0]; exact ⟨false, rfl⟩
/-- what making patterns may change -/
def AP5 (k : Nat) : Prop := k = 33 ∨ k = 35 ∨ k = 36 ∨ k = 37 ∨ k = 38
/-- as FrM, but for the row of longs 34 -/
def FrP (I A : Nat → Prop) (w w2 : MS) : Prop := (∀ k, ¬ I k → w2.1 k = w.1 k) ∧ w2.2.1 = w.2.1 ∧ (∀ k, ¬ A k → w2.2.2.1 k = w.2.2.1 k) ∧ ∀ k, k ≠ 34 → w2.2.2.2 k = w.2.2.2 k
theorem FrP.of {I A : Nat → Prop} {w w2 : MS} (h : FrM I A w w2) : FrP I A w w2 := ⟨h.1, h.2.1, h.2.2.1, fun k _ => by rw [h.2.2.2]⟩
theorem FrP.rf {I A : Nat → Prop} {w : MS} : FrP I A w w := FrP.of FrM.rf
theorem FrP.tr {I A : Nat → Prop} {w w2 w3 : MS} (h : FrP I A w w2) (g : FrP I A w2 w3) : FrP I A w w3 := ⟨fun k a => (g.1 k a).trans (h.1 k a), g.2.1.trans h.2.1, fun k a => (g.2.2.1 k a).trans (h.2.2.1 k a), fun k a => (g.2.2.2 k a).trans (h.2.2.2 k a)⟩
theorem FrP.mo {I A J B : Nat → Prop} {w w2 : MS} (h : FrP I A w w2) (hi : ∀ k, I k → J k) (ha : ∀ k, A k → B k) : FrP J B w w2 := ⟨fun k a => h.1 k (fun z => a (hi k z)), h.2.1, fun k a => h.2.2.1 k (fun z => a (ha k z)), h.2.2.2⟩
theorem FrP.iJ {I A : Nat → Prop} {w : MS} {g : Nat → Int64} : FrP I A w (upJ w 34 g) := ⟨fun _ _ => rfl, rfl, fun _ _ => rfl, fun k hk => if_neg hk⟩
theorem pat_ok {n : Nat} (h : w.1 39 = Int32.ofNat n) (hn : n < 5000) : ∃ w2, fm_M_pattern N w v = some (w2, Int32.ofNat n) ∧ FrP (fun k => k = 39) AP5 w w2 ∧ w2.1 39 = Int32.ofNat (n + 1) := by
  have e : inb (w.1 39) 5000 = true := by rw [h]; exact q_inb hn (by decide)
  unfold fm_M_pattern fb_M_pattern_0
  refine ⟨upI (upA (upA (upA (upA (upJ (upA w 33 (upd (w.2.2.1 33) (w.1 39).toNatClampNeg (vp_nar .byte (v.toInt8.toInt32)))) 34 (vp_updL (w.2.2.2 34) (w.1 39).toNatClampNeg 0)) 35 (upd (w.2.2.1 35) (w.1 39).toNatClampNeg 0)) 36 (upd (w.2.2.1 36) (w.1 39).toNatClampNeg (-1))) 37 (upd (w.2.2.1 37) (w.1 39).toNatClampNeg (-1))) 38 (upd (w.2.2.1 38) (w.1 39).toNatClampNeg (vp_nar .boolean 0))) 39 (w.1 39 + 1), ?_, ?_, ?_⟩
  · refine Eq.trans (q_ck e) ?_
    rw [q_ls]
    refine Eq.trans (q_ck e) ?_
    rw [q_ls]
    refine Eq.trans (q_ck e) ?_
    rw [q_ls]
    refine Eq.trans (q_ck e) ?_
    rw [q_ls]
    refine Eq.trans (q_ck e) ?_
    rw [q_ls]
    refine Eq.trans (q_ck e) ?_
    rw [q_ls, q_ls]
    have e9 : w.1 39 + 1 - 1 = Int32.ofNat n := by rw [h, q_suc, show (1 : Int32) = Int32.ofNat 1 from rfl, q_sub (by omega), show n + 1 - 1 = n from by omega]
    exact congrArg (fun z => some (upI (upA (upA (upA (upA (upJ (upA w 33 (upd (w.2.2.1 33) (w.1 39).toNatClampNeg (vp_nar .byte (v.toInt8.toInt32)))) 34 (vp_updL (w.2.2.2 34) (w.1 39).toNatClampNeg 0)) 35 (upd (w.2.2.1 35) (w.1 39).toNatClampNeg 0)) 36 (upd (w.2.2.1 36) (w.1 39).toNatClampNeg (-1))) 37 (upd (w.2.2.1 37) (w.1 39).toNatClampNeg (-1))) 38 (upd (w.2.2.1 38) (w.1 39).toNatClampNeg (vp_nar .boolean 0))) 39 (w.1 39 + 1), z)) e9
  · refine FrP.tr (FrP.tr (FrP.tr (FrP.tr (FrP.tr (FrP.tr (FrP.of (FrM.iA (Or.inl rfl))) FrP.iJ) (FrP.of (FrM.iA (Or.inr (Or.inl rfl))))) (FrP.of (FrM.iA (Or.inr (Or.inr (Or.inl rfl)))))) (FrP.of (FrM.iA (Or.inr (Or.inr (Or.inr (Or.inl rfl))))))) (FrP.of (FrM.iA (Or.inr (Or.inr (Or.inr (Or.inr rfl))))))) (FrP.of (FrM.iI rfl))
  · show w.1 39 + 1 = _
    rw [h, q_suc]
end BND
