/-! patterns: the reference goes as the grammar says -/
set_option maxRecDepth 100000
def flt (K : Nat → Nat) (v e : Nat) : Int32 := if K e = 45 then 1 else Int32.ofNat v
/-- what comes of a piece of text that begins at p, d being open: the grammar's word, or its fault -/
def POST (K : Nat → Nat) (T p d np s : Nat) (w : MS) {α : Type} (g : Rs α) (x : Option (MS × Int32)) : Prop :=
  ∃ w2 r p2 np2, x = some (w2, r) ∧ FrP IP APt w w2 ∧ PV w2 K T p2 d np2 s ∧ p ≤ p2 ∧ p2 ≤ T + 1 ∧ (np ≤ np2 ∧ np2 + p ≤ np + p2) ∧ (r = -1 ∨ ∃ x, x < np2 ∧ r = Int32.ofNat x) ∧
    (match g with
    | .inl q => w2.1 67 = 0 ∧ p2 = q.2 ∧ p < q.2 ∧ q.2 ≤ T ∧ r ≠ -1
    | .inr e => w2.1 67 = flt K e.1 e.2 ∧ w2.1 68 = w.2.2.1 8 e.2 ∧ p ≤ e.2 ∧ e.2 ≤ T ∧ 1 ≤ e.1 ∧ e.1 ≤ 3)
section PTS
variable {N p d np s T : Nat} {w w2 : MS} {K : Nat → Nat} {v : Int32}
theorem flt_ne {v e : Nat} (h1 : 1 ≤ v) (h2 : v ≤ 3) : flt K v e ≠ 0 := by
  unfold flt
  split
  · decide
  · exact fun z => absurd (q_inj (a := v) (b := 0) (by omega) (by decide) z) (by omega)
theorem PV.op (h : PV w K T p d np s) {x : Nat} : PV (upI w 70 (Int32.ofNat x)) K T p x np s := ⟨h.tv.fr rfl rfl, h.nm, h.ps, rfl, h.pn, h.sc, h.hs, h.sm, h.hh⟩
theorem PV.pos (h : PV w K T p d np s) {x : Nat} (hx : p ≤ x) : PV (upI w 69 (Int32.ofNat x)) K T x d np s := ⟨h.tv.fr rfl rfl, h.nm, rfl, h.od, h.pn, h.sc, h.hs, fun j hj => by
  obtain ⟨m, m1, m2⟩ := h.sm j hj
  exact ⟨m, m1, by omega⟩, h.hh⟩
theorem PV.wr (h : PV w K T p d np s) {x : Nat} {v : Int32} : PV (wrM w x v) K T p d np s := by
  unfold wrM
  split
  · exact ⟨h.tv.fr rfl rfl, h.nm, h.ps, h.od, h.pn, h.sc, h.hs, h.sm, h.hh⟩
  · exact h
theorem PV.frA (h : PV w K T p d np s) {k : Nat} {g : Nat → Int32} (hk : AP5 k) : PV (upA w k g) K T p d np s := by
  have f : FrP IP APt w (upA w k g) := FrP.of (FrM.iA (Or.inl hk))
  obtain ⟨t1, t2⟩ := h.tok f (fun k hk => apt7 hk)
  have n60 : (60 : Nat) ≠ k := fun z => by rw [← z] at hk; rcases hk with z | z | z | z | z <;> cases z
  have n63 : (63 : Nat) ≠ k := fun z => by rw [← z] at hk; rcases hk with z | z | z | z | z <;> cases z
  refine ⟨t1, t2, h.ps, h.od, h.pn, h.sc, h.hs, fun j hj => ?_, fun j hj => ?_⟩
  · rw [upA_ne n60]; exact h.sm j hj
  · rw [upA_ne n63]; exact h.hh j hj
theorem PV.frJ (h : PV w K T p d np s) {g : Nat → Int64} : PV (upJ w 34 g) K T p d np s := ⟨h.tv.fr rfl rfl, h.nm, h.ps, h.od, h.pn, h.sc, h.hs, h.sm, h.hh⟩
theorem PV.pat (h : PV w K T p d np s) (hn : np < 5000) : ∃ w2, fm_M_pattern N w v = some (w2, Int32.ofNat np) ∧ FrP IP APt w w2 ∧ PV w2 K T p d (np + 1) s ∧ w2.1 67 = w.1 67 ∧ w2.1 68 = w.1 68 := by
  obtain ⟨w2, p1, p2, p3⟩ := pat_ok (N := N) (v := v) h.pn hn
  have pI : ∀ k, k ≠ 39 → w2.1 k = w.1 k := fun k hk => p2.1 k hk
  have f : FrP IP APt w w2 := p2.mo (fun k z => Or.inl z) (fun k z => Or.inl z)
  obtain ⟨t1, t2⟩ := h.tok f (fun k hk => apt7 hk)
  refine ⟨w2, p1, f, ⟨t1, t2, (pI 69 (by decide)).trans h.ps, (pI 70 (by decide)).trans h.od, p3, (pI 65 (by decide)).trans h.sc, h.hs, fun j hj => ?_, fun j hj => ?_⟩, pI 67 (by decide), pI 68 (by decide)⟩
  · rw [p2.2.2.1 60 (by unfold AP5; decide)]; exact h.sm j hj
  · rw [p2.2.2.1 63 (by unfold AP5; decide)]; exact h.hh j hj
theorem wr_P {x : Nat} {v : Int32} : FrP IP APt w (wrM w x v) := FrP.of (wr_fr.mo (fun k z => by rcases z with z | z; exact Or.inr (Or.inr (Or.inl z)); exact Or.inr (Or.inr (Or.inr (Or.inl z)))) (fun _ z => z))
theorem i70 {x : Int32} : FrP IP APt w (upI w 70 x) := FrP.of (FrM.iI (Or.inr (Or.inr (Or.inr (Or.inr (Or.inr rfl))))))
theorem i69 {x : Int32} : FrP IP APt w (upI w 69 x) := FrP.of (FrM.iI (Or.inr (Or.inr (Or.inr (Or.inr (Or.inl rfl))))))
theorem iA5 {k : Nat} {g : Nat → Int32} (hk : AP5 k) : FrP IP APt w (upA w k g) := FrP.of (FrM.iA (Or.inl hk))
theorem wr_67 {x v : Nat} (h0 : w.1 67 = 0) (tv : TV w K T) (hx : x ≤ T) : (wrM w x (Int32.ofNat v)).1 67 = flt K v x ∧ (wrM w x (Int32.ofNat v)).1 68 = w.2.2.1 8 x := by
  unfold wrM flt
  rw [if_pos h0]
  refine ⟨?_, rfl⟩
  show (if w.2.2.1 6 x = 7 then (1 : Int32) else Int32.ofNat v) = _
  by_cases e : K x = 45
  · rw [if_pos e, if_pos ((tv.so7 hx).mpr e)]
  · rw [if_neg e, if_neg (fun z => e ((tv.so7 hx).mp z))]
theorem l8 {I : Nat → Prop} (f : FrP I APt w w2) {e : Nat} : w2.2.2.1 8 e = w.2.2.1 8 e := by rw [f.2.2.1 8 (apt7 (by decide))]
end PTS
