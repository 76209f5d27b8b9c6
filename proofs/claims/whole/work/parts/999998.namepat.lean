/-! a name in a pattern: the reference -/
set_option maxRecDepth 100000
def IP (k : Nat) : Prop := k = 39 ∨ k = 66 ∨ k = 67 ∨ k = 68 ∨ k = 69 ∨ k = 70
def APt (k : Nat) : Prop := AP5 k ∨ A640 k ∨ A613 k
/-- the parser's state as far as patterns go: place, open, patterns, scope -/
structure PV (w : MS) (K : Nat → Nat) (T p d np s : Nat) : Prop where
  tv : TV w K T
  nm : NMT w K T
  ps : w.1 69 = Int32.ofNat p
  od : w.1 70 = Int32.ofNat d
  pn : w.1 39 = Int32.ofNat np
  sc : w.1 65 = Int32.ofNat s
  hs : s ≤ 13
  sm : ∀ j, j ≤ s → ∃ m, w.2.2.1 60 j = Int32.ofNat m ∧ m ≤ p
  hh : HS w s
section NMP
variable {N p d np s T : Nat} {w w2 : MS} {K : Nat → Nat} {v : Int32}
theorem PV.SM (h : PV w K T p d np s) (hp : p ≤ 4001) : SM w s := fun j hj => by
  obtain ⟨m, m1, m2⟩ := h.sm j hj
  have := h.hs
  exact ⟨m, m1, by omega⟩
theorem apt7 {k : Nat} (h : k < 33) : ¬ APt k := fun z => by
  rcases z with z | z | z
  · rcases z with z | z | z | z | z <;> omega
  · rcases z with z | z | z <;> omega
  · rcases z with z | z | z <;> omega
/-- rows of tokens and names stay -/
theorem PV.tok (h : PV w K T p d np s) {I A : Nat → Prop} (f : FrP I A w w2) (ha : ∀ k, k < 33 → ¬ A k) : TV w2 K T ∧ NMT w2 K T := by
  refine ⟨h.tv.fr (f.2.2.1 6 (ha 6 (by decide))) (f.2.2.1 7 (ha 7 (by decide))), fun p hp hk => ?_⟩
  obtain ⟨k, a, b, e1, e2, e3, e4, e5⟩ := h.nm p hp hk
  exact ⟨k, a, b, by rw [f.2.2.1 7 (ha 7 (by decide))]; exact e1, e2, by rw [f.2.2.1 16 (ha 16 (by decide))]; exact e3, by rw [f.2.2.1 16 (ha 16 (by decide))]; exact e4, e5⟩
theorem nmP_ok (h : PV w K T p d np s) (hp : p < T) (hk : K p = 3) (hn : np < 5000) (hN : 50000 ≤ N) : ∃ w2, fm_M_namePattern N w v = some (w2, Int32.ofNat np) ∧ FrP IP APt w w2 ∧ PV w2 K T (p + 1) d (np + 1) s ∧ w2.1 67 = w.1 67 ∧ w2.1 68 = w.1 68 := by
  have t4 := h.tv.t4
  have hs13 := h.hs
  obtain ⟨ru, e1⟩ := und_ok (N := N) h.nm hp h.tv.t4 hk
  -- what is left once the pattern stands
  have fin : ∀ w3 : MS, FrP IP APt w w3 → w3.1 67 = w.1 67 → w3.1 68 = w.1 68 → w3.1 69 = Int32.ofNat p → w3.1 70 = Int32.ofNat d → w3.1 39 = Int32.ofNat (np + 1) → w3.1 65 = Int32.ofNat s → (∀ j, j ≤ s → ∃ m, w3.2.2.1 60 j = Int32.ofNat m ∧ m ≤ p + 1) → HS w3 s → ∃ w2, fb_M_namePattern_105 N () w3 (Int32.ofNat np) = some (w2, Int32.ofNat np) ∧ FrP IP APt w w2 ∧ PV w2 K T (p + 1) d (np + 1) s ∧ w2.1 67 = w.1 67 ∧ w2.1 68 = w.1 68 := fun w3 f3 a7 a8 a1 a2 a3 a4 a5 a6 => by
    unfold fb_M_namePattern_105
    rw [q_ls, a1, q_suc]
    have f4 : FrP IP APt w (upI w3 69 (Int32.ofNat (p + 1))) := f3.tr (FrP.of (FrM.iI (Or.inr (Or.inr (Or.inr (Or.inr (Or.inl rfl)))))))
    obtain ⟨t1, t2⟩ := h.tok f4 (fun k hk => apt7 hk)
    exact ⟨_, rfl, f4, ⟨t1, t2, rfl, a2, a3, a4, hs13, a5, a6⟩, a7, a8⟩
  have mk : ∀ (w1 : MS) (t r0 : Int32), FrP IP APt w w1 → w1.1 67 = w.1 67 → w1.1 68 = w.1 68 → w1.1 69 = Int32.ofNat p → w1.1 70 = Int32.ofNat d → w1.1 39 = Int32.ofNat np → w1.1 65 = Int32.ofNat s → (∀ j, j ≤ s → ∃ m, w1.2.2.1 60 j = Int32.ofNat m ∧ m ≤ p) → HS w1 s → ∃ w2, fb_M_namePattern_73 N () w1 r0 t = some (w2, Int32.ofNat np) ∧ FrP IP APt w w2 ∧ PV w2 K T (p + 1) d (np + 1) s ∧ w2.1 67 = w.1 67 ∧ w2.1 68 = w.1 68 := fun w1 t r0 f1 a7 a8 a1 a2 a3 a4 a5 a6 => by
    obtain ⟨w2, p1, p2, p3⟩ := pat_ok (N := N) (v := t) a3 hn
    have pI : ∀ k, k ≠ 39 → w2.1 k = w1.1 k := fun k hk => p2.1 k hk
    have pA : ∀ k, ¬ AP5 k → w2.2.2.1 k = w1.2.2.1 k := fun k hk => p2.2.2.1 k hk
    have f2 : FrP IP APt w w2 := f1.tr (p2.mo (fun k z => Or.inl z) (fun k z => Or.inl z))
    have n60 : w2.2.2.1 60 = w1.2.2.1 60 := pA 60 (by unfold AP5; decide)
    have n63 : w2.2.2.1 63 = w1.2.2.1 63 := pA 63 (by unfold AP5; decide)
    have e104 : ∀ (w3 : MS) (x : Int32), fb_M_namePattern_104 N () w3 (Int32.ofNat np) 35 (Int32.ofNat np) x = fb_M_namePattern_105 N () (upA w3 35 (upd (w3.2.2.1 35) (Int32.ofNat np).toNatClampNeg x)) (Int32.ofNat np) := fun w3 x => by
      unfold fb_M_namePattern_104
      rw [q_ck (show isK 35 4 = true from by decide), q_ck (q_inb (by show np < 5000; exact hn) (by decide)), q_ls]
    unfold fb_M_namePattern_73
    rw [p1, q_bn]
    by_cases er : r0 = -1
    · rw [decide_eq_true er, q_b1, pI 69 (by decide), a1, q_ck (q_inb (by show p < 4002; omega) (by decide))]
      obtain ⟨m, m1, m2⟩ := a5 s (Nat.le_refl _)
      obtain ⟨w3, r3, b1, b2, b3⟩ := bi_ok (N := N) (v := w2.2.2.1 7 (Int32.ofNat p).toNatClampNeg) (w := w2) (s := s) (m := m) ((pI 65 (by decide)).trans a4) (by omega) (by rw [n60]; exact m1) (by omega)
      have bI : ∀ k, k ≠ 66 → w3.1 k = w2.1 k := fun k hk => b2.1 k hk
      rw [b1, q_bn, e104]
      refine fin _ ((f2.tr (FrP.of (b2.mo (fun k z => Or.inr (Or.inl z)) (fun k z => Or.inr (Or.inl z))))).tr (FrP.of (FrM.iA (Or.inl (Or.inr (Or.inl rfl)))))) ((bI 67 (by decide)).trans ((pI 67 (by decide)).trans a7)) ((bI 68 (by decide)).trans ((pI 68 (by decide)).trans a8)) ((bI 69 (by decide)).trans ((pI 69 (by decide)).trans a1)) ((bI 70 (by decide)).trans ((pI 70 (by decide)).trans a2)) ((bI 39 (by decide)).trans p3) ((bI 65 (by decide)).trans ((pI 65 (by decide)).trans a4)) (fun j hj => ?_) (fun j hj => ?_)
      · show ∃ m, w3.2.2.1 60 j = _ ∧ _
        rw [b3, n60]
        by_cases e : j = s
        · rw [e, upd_self]; exact ⟨m + 1, rfl, by omega⟩
        · rw [upd_ne e]
          obtain ⟨m9, m8, m7⟩ := a5 j hj
          exact ⟨m9, m8, by omega⟩
      · show ∃ m, w3.2.2.1 63 j = _ ∧ _
        rw [b2.2.2.1 63 (by unfold A640; decide), n63]; exact a6 j hj
    · rw [decide_eq_false er, q_b0, e104]
      refine fin _ (f2.tr (FrP.of (FrM.iA (Or.inl (Or.inr (Or.inl rfl)))))) ((pI 67 (by decide)).trans a7) ((pI 68 (by decide)).trans a8) ((pI 69 (by decide)).trans a1) ((pI 70 (by decide)).trans a2) p3 ((pI 65 (by decide)).trans a4) (fun j hj => ?_) (fun j hj => ?_)
      · show ∃ m, w2.2.2.1 60 j = _ ∧ _
        rw [n60]
        obtain ⟨m9, m8, m7⟩ := a5 j hj
        exact ⟨m9, m8, by omega⟩
      · show ∃ m, w2.2.2.1 63 j = _ ∧ _
        rw [n63]; exact a6 j hj
  have go : ∀ (w1 : MS) (r : Int32), FrP IP APt w w1 → w1.1 67 = w.1 67 → w1.1 68 = w.1 68 → w1.1 69 = Int32.ofNat p → w1.1 70 = Int32.ofNat d → w1.1 39 = Int32.ofNat np → w1.1 65 = Int32.ofNat s → (∀ j, j ≤ s → ∃ m, w1.2.2.1 60 j = Int32.ofNat m ∧ m ≤ p) → HS w1 s → ∃ w2, fb_M_namePattern_61 N () w1 r = some (w2, Int32.ofNat np) ∧ FrP IP APt w w2 ∧ PV w2 K T (p + 1) d (np + 1) s ∧ w2.1 67 = w.1 67 ∧ w2.1 68 = w.1 68 := fun w1 r f1 a7 a8 a1 a2 a3 a4 a5 a6 => by
    unfold fb_M_namePattern_61
    by_cases er : r = -1
    · rw [decide_eq_true er, q_b1]; exact mk w1 1 r f1 a7 a8 a1 a2 a3 a4 a5 a6
    · rw [decide_eq_false er, q_b0]; exact mk w1 2 r f1 a7 a8 a1 a2 a3 a4 a5 a6
  unfold fm_M_namePattern fb_M_namePattern_0
  rw [h.ps, e1, q_bn, b2i_0, h.ps]
  cases ru with
  | true =>
    show ∃ w2, br false _ _ = _ ∧ _
    rw [q_b0]
    obtain ⟨w2, p1, p2, p3⟩ := pat_ok (N := N) (v := 0) h.pn hn
    have pI : ∀ k, k ≠ 39 → w2.1 k = w.1 k := fun k hk => p2.1 k hk
    rw [p1, q_bn]
    refine fin w2 (p2.mo (fun k z => Or.inl z) (fun k z => Or.inl z)) (pI 67 (by decide)) (pI 68 (by decide)) ((pI 69 (by decide)).trans h.ps) ((pI 70 (by decide)).trans h.od) p3 ((pI 65 (by decide)).trans h.sc) (fun j hj => ?_) (fun j hj => ?_)
    · rw [p2.2.2.1 60 (by unfold AP5; decide)]
      obtain ⟨m9, m8, m7⟩ := h.sm j hj
      exact ⟨m9, m8, by omega⟩
    · rw [p2.2.2.1 63 (by unfold AP5; decide)]; exact h.hh j hj
  | false =>
    show ∃ w2, br true _ _ = _ ∧ _
    rw [q_b1, q_ck (q_inb (by show p < 4002; omega) (by decide)), q_ck (q_inb (by show p < 4002; omega) (by decide)), h.sc]
    by_cases hv : v = 0
    · rw [decide_eq_true hv, q_b1]
      obtain ⟨w1, r, a1, a2, a3, a4⟩ := fnd_ok (N := N) (v := w.2.2.1 7 (Int32.ofNat p).toNatClampNeg) hN s 30 w (by omega) (by omega) h.hh (h.SM (by omega))
      have a1 : fr_M_found N w (Int32.ofNat s) (w.2.2.1 7 (Int32.ofNat p).toNatClampNeg) = some (w1, r) := a1
      have pI : ∀ k, w1.1 k = w.1 k := fun k => a2.1 k (fun z => z)
      rw [a1, q_bn]
      refine go w1 r (FrP.of (a2.mo (fun k z => z.elim) (fun k z => Or.inr (Or.inr z)))) (pI 67) (pI 68) ((pI 69).trans h.ps) ((pI 70).trans h.od) ((pI 39).trans h.pn) ((pI 65).trans h.sc) (fun j hj => ?_) a3
      rw [a2.2.2.1 60 (by unfold A613; decide)]; exact h.sm j hj
    · rw [decide_eq_false hv, q_b0]
      obtain ⟨m, m1, m2⟩ := h.SM (by omega) s (Nat.le_refl _)
      obtain ⟨r, r1, r2⟩ := bdI_ok (N := N) (v := w.2.2.1 7 (Int32.ofNat p).toNatClampNeg) (by omega) m1 m2 hN
      rw [r1, q_bn]
      exact go w r FrP.rf rfl rfl h.ps h.od h.pn h.sc h.sm h.hh
end NMP
