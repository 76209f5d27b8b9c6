set_option maxRecDepth 100000
def FrC (A : Nat → Prop) (F : Nat → Nat → Prop) (u u2 : CS) : Prop := u2.1 = u.1 ∧ (∀ i, ¬ A i → AI u2 i = AI u i) ∧ (∀ i j, ¬ F i j → FI u2 i j = FI u i j) ∧ ∀ i, 57 ≤ i → u2.2 i = u.2 i
theorem FrC.rf {A : Nat → Prop} {F : Nat → Nat → Prop} {u : CS} : FrC A F u u := ⟨rfl, fun _ _ => rfl, fun _ _ _ => rfl, fun _ _ => rfl⟩
theorem FrC.tr {A : Nat → Prop} {F : Nat → Nat → Prop} {u u2 u3 : CS} (h : FrC A F u u2) (g : FrC A F u2 u3) : FrC A F u u3 := ⟨g.1.trans h.1, fun i a => (g.2.1 i a).trans (h.2.1 i a), fun i j a => (g.2.2.1 i j a).trans (h.2.2.1 i j a), fun i a => (g.2.2.2 i a).trans (h.2.2.2 i a)⟩
theorem FrC.mo {A B : Nat → Prop} {F E : Nat → Nat → Prop} {u u2 : CS} (h : FrC A F u u2) (ha : ∀ i, A i → B i) (hf : ∀ i j, F i j → E i j) : FrC B E u u2 := ⟨h.1, fun i a => h.2.1 i (fun z => a (ha i z)), fun i j a => h.2.2.1 i j (fun z => a (hf i j z)), h.2.2.2⟩
theorem FrC.fi {A : Nat → Prop} {F : Nat → Nat → Prop} {u : CS} {i k : Nat} {v : LV} (hi : i < 57) (hF : F i k) : FrC A F u (uF u i k v) := ⟨uF_1, fun _ _ => AI_F, fun i2 k2 h => FI_F (by
  by_cases e : i2 = i
  · by_cases e2 : k2 = k
    · exact absurd (by rw [e, e2]; exact hF) h
    · exact Or.inr e2
  · exact Or.inl e), fun j hj => uF_ne (by omega)⟩
theorem FrC.ai {A : Nat → Prop} {F : Nat → Nat → Prop} {u : CS} {i : Nat} {g : Nat → Int32} (hi : i < 57) (hA : A i) : FrC A F u (uA u i g) := ⟨uA_1, fun i2 h => AI_A (fun e => h (by rw [e]; exact hA)), fun _ _ _ => FI_A, fun j hj => uA_ne (by omega)⟩
def FrM (I A : Nat → Prop) (w w2 : MS) : Prop := (∀ k, ¬ I k → w2.1 k = w.1 k) ∧ w2.2.1 = w.2.1 ∧ (∀ k, ¬ A k → w2.2.2.1 k = w.2.2.1 k) ∧ w2.2.2.2 = w.2.2.2
theorem FrM.rf {I A : Nat → Prop} {w : MS} : FrM I A w w := ⟨fun _ _ => rfl, rfl, fun _ _ => rfl, rfl⟩
theorem FrM.tr {I A : Nat → Prop} {w w2 w3 : MS} (h : FrM I A w w2) (g : FrM I A w2 w3) : FrM I A w w3 := ⟨fun k a => (g.1 k a).trans (h.1 k a), g.2.1.trans h.2.1, fun k a => (g.2.2.1 k a).trans (h.2.2.1 k a), g.2.2.2.trans h.2.2.2⟩
theorem FrM.mo {I A J B : Nat → Prop} {w w2 : MS} (h : FrM I A w w2) (hi : ∀ k, I k → J k) (ha : ∀ k, A k → B k) : FrM J B w w2 := ⟨fun k a => h.1 k (fun z => a (hi k z)), h.2.1, fun k a => h.2.2.1 k (fun z => a (ha k z)), h.2.2.2⟩
theorem FrM.iI {I A : Nat → Prop} {w : MS} {k : Nat} {v : Int32} (h : I k) : FrM I A w (upI w k v) := ⟨fun j hj => if_neg (fun e => hj (by rw [e]; exact h)), rfl, fun _ _ => rfl, rfl⟩
theorem FrM.iA {I A : Nat → Prop} {w : MS} {k : Nat} {g : Nat → Int32} (h : A k) : FrM I A w (upA w k g) := ⟨fun _ _ => rfl, rfl, fun j hj => if_neg (fun e => hj (by rw [e]; exact h)), rfl⟩
theorem WF_new12 {u : CS} {fr : Nat → Nat} {n b len : Nat} (h : skB u = true) (hw : WF u 12 fr n) (hn : n + 1 < 2101) (hf : fr n + len ≤ 4300) : WF (nwW u 12 (fr n) n b len) 12 (frN fr n len) (n + 1) := by
  obtain ⟨h1, h2, h3, h4, h5⟩ := hw
  have a1 := sa_13 (g := put (AI u 13) (AI u 5) (fr n) b len) h
  have a2 := sa_14 (g := upd (AI u 14) (n + 1) (Int32.ofNat (fr n + len))) a1
  have e3 : AI (nwW u 12 (fr n) n b len) 14 = upd (AI u 14) (n + 1) (Int32.ofNat (fr n + len)) := by
    show AI (uF (uA (uA u 13 (put (AI u 13) (AI u 5) (fr n) b len)) 14 (upd (AI u 14) (n + 1) (Int32.ofNat (fr n + len)))) 12 2 _) 14 = _
    rw [AI_F, fa_14 a1]
  refine ⟨fi_12_2 a2, fun j hj => ?_, fun j hj => ?_, fun j hj => ?_, hn⟩
  · show AI (nwW u 12 (fr n) n b len) 14 j = _
    rw [e3]
    unfold frN
    by_cases e : j = n + 1
    · simp [upd, e]
    · simp [upd, e, h2 j (by omega)]
  · unfold frN
    by_cases e : j = n
    · subst e; simp
    · rw [if_neg (by omega), if_neg (by omega)]
      exact h3 j (by omega)
  · unfold frN
    by_cases e : j = n + 1
    · rw [if_pos e]; exact hf
    · rw [if_neg e]; exact h4 j (by omega)
theorem AI_13_new {u : CS} {fn n b len : Nat} (h : skB u = true) : AI (nwW u 12 fn n b len) 13 = put (AI u 13) (AI u 5) fn b len := by
  show AI (uF (uA (uA u 13 (put (AI u 13) (AI u 5) fn b len)) 14 _) 12 2 _) 13 = _
  rw [AI_F, AI_A (by decide), fa_13 h]
theorem WT3_new15 {w : MS} {fr : Nat → Nat} {n b len : Nat} (hw : WT3 w 15 16 4 fr n) (hn : n + 2 < ln 16) (hf : fr n + len ≤ ln 15) : WT3 (nwT w 15 16 4 (fr n) n b len) 15 16 4 (frN fr n len) (n + 1) := by
  obtain ⟨h1, h2, h3, h4, h5, h6, h7, h8, h9, h10⟩ := hw
  refine ⟨h1, h2, h3, fun j hj => ?_, fun j hj => ?_, fun j hj => ?_, by omega, h8, h9, h10⟩
  · show (upA _ 16 _).2.2.1 16 j = _
    rw [upA_self]
    unfold frN
    by_cases e : j = n + 1
    · simp [upd, e]
    · simp [upd, e, h4 j (by omega)]
  · unfold frN
    by_cases e : j = n
    · subst e; simp
    · rw [if_neg (by omega), if_neg (by omega)]
      exact h5 j (by omega)
  · unfold frN
    by_cases e : j = n + 1
    · rw [if_pos e]; exact hf
    · rw [if_neg e]; exact h6 j (by omega)
theorem frN_lt {fr : Nat → Nat} {n len j : Nat} (h : j ≤ n) : frN fr n len j = fr j := if_neg (by omega)
theorem frN_n {fr : Nat → Nat} {n len : Nat} : frN fr n len (n + 1) = fr n + len := if_pos rfl
theorem put_lo {sg tx : Nat → Int32} {fn b m j : Nat} (h : j < fn) : put sg tx fn b m j = sg j := if_neg (by omega)
theorem put_in {sg tx : Nat → Int32} {fn b m i : Nat} (h : i < m) : put sg tx fn b m (fn + i) = tx (b + i) := by
  unfold put
  rw [if_pos (by omega), show fn + i - fn = i from by omega]
theorem nmQ_lt {q : Option Nat} {n j : Nat} (hq : ∀ x, q = some x → x < n) (hj : j < n) : nmQ q j < ncQ q n := by
  cases q with
  | none => show j + 1 < n + 1; omega
  | some x =>
    have hx := hq x rfl
    show (if j = x then 0 else if j < x then j + 1 else j) < n
    split
    · omega
    · split <;> omega
def NMz (u : CS) (w : MS) (fc fr : Nat → Nat) (q : Option Nat) (n : Nat) : Prop := WF u 12 fc (ncQ q n) ∧ WT3 w 15 16 4 fr n ∧ w.1 17 = Int32.ofNat n ∧ NMR (AI u 13) fc (w.2.2.1 15) fr q n ∧ 1 ≤ ncQ q n
def A12 (i : Nat) : Prop := i = 13 ∨ i = 14
def F12 (i j : Nat) : Prop := i = 12 ∧ j = 2
def A15 (i : Nat) : Prop := i = 15 ∨ i = 16
theorem NM_step {u : CS} {w : MS} {fc fr : Nat → Nat} {q : Option Nat} {n N b len : Nat} (h : skB u = true) (ha : NMz u w fc fr q n) (hb : b + len ≤ 4000) (hl : 1 ≤ len) (hB : bytB (AI u 5)) (ht : ∀ i, i < len → AI u 5 (b + i) = w.2.2.1 4 (b + i)) (hn : n + 2 < 2101) (hfc : fc (ncQ q n) + len ≤ 4300) (hfr : fr n + len ≤ 4300) (hN : (n + 1) * (len + 3) + len + 3 ≤ N) :
    ∃ u2 w1 fc2 fr2 q2 n2 r, fm_Wo_find N u 12 (some 5) (Int32.ofNat b) (Int32.ofNat len) = some (u2, Int32.ofNat (nmQ q2 r)) ∧ fm_M_textOf N w 15 16 (w.1 17) 4 (Int32.ofNat b) (Int32.ofNat len) = some (w1, Int32.ofNat r) ∧ skB u2 = true ∧ n2 = (if r = n then n + 1 else n) ∧ r < n2 ∧ NMz u2 (upI w1 17 (Int32.ofNat n2)) fc2 fr2 q2 n2 ∧ FrC A12 F12 u u2 ∧ FrM (fun _ => False) A15 w w1 ∧ (∀ j, j < n → nmQ q2 j = nmQ q j) ∧ (fc2 (ncQ q2 n2) ≤ fc (ncQ q n) + len ∧ fr2 n2 ≤ fr n + len ∧ (n2 = n → fr2 n2 = fr n)) ∧ fr2 0 = fr 0 := by
  obtain ⟨hw, hw2, h17, hr, h1n⟩ := ha
  have hcn : ncQ q n ≤ n + 1 := by
    cases q with
    | none => exact Nat.le_refl _
    | some x => exact Nat.le_succ n
  have hmul : n ≤ (n + 1) * (len + 3) := Nat.le_trans (by omega) (Nat.le_mul_of_pos_right (n + 1) (by omega))
  have hmul2 : n * (len + 3) ≤ (n + 1) * (len + 3) := Nat.mul_le_mul_right _ (by omega)
  have hmul3 : n + 1 ≤ (n + 1) * (len + 3) := Nat.le_mul_of_pos_right (n + 1) (by omega)
  have l16 : ln 16 = 2200 := rfl
  have l15 : ln 15 = 5000 := rfl
  have l4 : ln 4 = 4000 := rfl
  have f1 := find_na (N := N) (b := b) (len := len) h hw hb (fun j hj => fits_B (hB j hj)) (by omega) hfc (by omega) (by omega)
  have f2 := tx_ok (N := N) (b := b) (len := len) hw2 (by omega) (by omega) (by decide) (by decide) (by omega)
  have f3 := (congrArg (fun z => fm_M_textOf N w 15 16 z 4 (Int32.ofNat b) (Int32.ofNat len)) h17).trans f2
  have wt := WT3_new15 (b := b) (len := len) hw2 (by omega) (by omega)
  rw [f1, show fm_M_textOf N w 15 16 (w.1 17) 4 (Int32.ofNat b) (Int32.ofNat len) = _ from f3]
  have mc := fr_mono hw.2.2.1
  have mr := fr_mono hw2.2.2.2.2.1
  have s1 : skB (nwW u 12 (fc (ncQ q n)) (ncQ q n) b len) = true := sf_12_2 (sa_14 (sa_13 h))
  have c1 : FrC A12 F12 u (nwW u 12 (fc (ncQ q n)) (ncQ q n) b len) := ((FrC.ai (by decide) (Or.inl rfl)).tr (FrC.ai (by decide) (Or.inr rfl))).tr (FrC.fi (by decide) ⟨rfl, rfl⟩)
  have m1 : FrM (fun _ => False) A15 w (nwT w 15 16 4 (fr n) n b len) := (FrM.iA (Or.inl rfl)).tr (FrM.iA (Or.inr rfl))
  have er : (nwT w 15 16 4 (fr n) n b len).2.2.1 15 = put (w.2.2.1 15) (fun j => nrB (w.2.2.1 4 j)) (fr n) b len := by
    show (upA (upA w 15 _) 16 _).2.2.1 15 = _
    rw [upA_ne (by decide), upA_self]
  have tr2 : ∀ i, i < len → nrB (w.2.2.1 4 (b + i)) = AI u 5 (b + i) := fun i hi => by
    rw [← ht i hi]
    exact hB (b + i) (by omega)
  have upI17 : upI w 17 (Int32.ofNat n) = w := by
    unfold upI
    refine Prod.ext (funext fun j => ?_) rfl
    show (if j = 17 then _ else _) = _
    split
    · rename_i e; rw [e, h17]
    · rfl
  have old : ∀ j, j < n → frN fr n len (j + 1) - frN fr n len j = fr (j + 1) - fr j ∧ ∀ i, i < fr (j + 1) - fr j → put (w.2.2.1 15) (fun j => nrB (w.2.2.1 4 j)) (fr n) b len (frN fr n len j + i) = w.2.2.1 15 (fr j + i) := fun j hj => by
    have m9 := mr (n - (j + 1)) (j + 1) (by omega)
    have m8 := hw2.2.2.2.2.1 j hj
    rw [frN_lt (by omega), frN_lt (by omega)]
    exact ⟨rfl, fun i hi => put_lo (by omega)⟩
  rcases nm_find (tc := AI u 5) (tr := w.2.2.1 4) (b := b) (len := len) hr ht with ⟨r, r1, r2, r3⟩ | ⟨r2, r3, r4⟩ | ⟨r2, r3, r4, r5⟩
  · rw [r2, r3]
    refine ⟨u, w, fc, fr, q, n, r, rfl, rfl, h, by rw [if_neg (by omega)], r1, ?_, FrC.rf, FrM.rf, fun _ _ => rfl, ⟨by omega, by omega, fun _ => rfl⟩, rfl⟩
    rw [upI17]
    exact ⟨hw, hw2, h17, hr, h1n⟩
  · rw [r2, r3]
    have e1 : nmQ q n = ncQ q n := by
      cases hq : q with
      | none => rfl
      | some x =>
        have hx := hr.2.2.1 x hq
        show (if n = x then 0 else if n < x then n + 1 else n) = n
        rw [if_neg (by omega), if_neg (by omega)]
    have e2 : ncQ q (n + 1) = ncQ q n + 1 := by cases q <;> rfl
    refine ⟨nwW u 12 (fc (ncQ q n)) (ncQ q n) b len, nwT w 15 16 4 (fr n) n b len, frN fc (ncQ q n) len, frN fr n len, q, n + 1, n, by rw [e1], rfl, s1, by rw [if_pos rfl], by omega, ⟨?_, wt, rfl, ?_, by omega⟩, c1, m1, fun _ _ => rfl, ⟨?_, ?_, fun z => by omega⟩, frN_lt (Nat.zero_le _)⟩
    · rw [e2]; exact WF_new12 h hw (by omega) hfc
    · rw [AI_13_new h]
      show NMR _ _ ((nwT w 15 16 4 (fr n) n b len).2.2.1 15) _ _ _
      rw [er]
      refine ⟨fun j hj => ?_, ⟨?_, ?_, ?_⟩, fun x hx => Nat.lt_succ_of_lt (hr.2.2.1 x hx), fun j hj hq => ?_⟩
      · by_cases e : j = n
        · subst e
          rw [e1, frN_n, frN_lt (Nat.le_refl _), frN_n, frN_lt (Nat.le_refl _)]
          refine ⟨by omega, fun i hi => ?_⟩
          rw [put_in (by omega), put_in (by omega), tr2 i (by omega)]
        · have hj2 : j < n := by omega
          obtain ⟨o1, o2⟩ := old j hj2
          obtain ⟨n1, n2⟩ := hr.1 j hj2
          have nl := nmQ_lt hr.2.2.1 hj2
          have m9 := mc (ncQ q n - (nmQ q j + 1)) (nmQ q j + 1) (by omega)
          rw [o1, frN_lt (by omega), frN_lt (by omega)]
          refine ⟨n1, fun i hi => ?_⟩
          rw [o2 i hi, n2 i hi, put_lo (by omega)]
      · rw [frN_lt (by omega)]; exact hr.2.1.1
      · rw [frN_lt (by omega)]; exact hr.2.1.2.1
      · have := mc (ncQ q n - 1) 1 (by omega)
        rw [hr.2.1.2.1] at this
        rw [put_lo (by omega)]; exact hr.2.1.2.2
      · by_cases e : j = n
        · subst e
          rw [frN_n, frN_lt (Nat.le_refl _)]
          rintro ⟨z1, z2⟩
          have z3 : len = 1 := by omega
          have z4 := put_in (sg := w.2.2.1 15) (tx := fun j => nrB (w.2.2.1 4 j)) (fn := fr j) (b := b) (m := len) (i := 0) (by omega)
          rw [Nat.add_zero] at z4
          rw [z4, tr2 0 (by omega), Nat.add_zero] at z2
          exact r4 ⟨z3, z2⟩
        · have hj2 : j < n := by omega
          obtain ⟨o1, o2⟩ := old j hj2
          rw [o1]
          rintro ⟨z1, z2⟩
          have o3 := o2 0 (by omega)
          rw [Nat.add_zero, Nat.add_zero] at o3
          rw [o3] at z2
          exact hr.2.2.2 j hj2 hq ⟨z1, z2⟩
    · rw [e2, frN_n]; exact Nat.le_refl _
    · rw [frN_n]; exact Nat.le_refl _
  · subst r4
    rw [r2, r3]
    have e3 : ∀ j, j < n → nmQ (some n) j = nmQ none j := fun j hj => by
      show (if j = n then 0 else if j < n then j + 1 else j) = j + 1
      rw [if_neg (by omega), if_pos hj]
    have e4 : nmQ (some n) n = 0 := by show (if n = n then 0 else _) = 0; rw [if_pos rfl]
    refine ⟨u, nwT w 15 16 4 (fr n) n b len, fc, frN fr n len, some n, n + 1, n, by rw [e4], rfl, h, by rw [if_pos rfl], by omega, ⟨hw, wt, rfl, ?_, by show 1 ≤ n + 1; omega⟩, FrC.rf, m1, e3, ⟨Nat.le_trans (Nat.le_refl _) (Nat.le_add_right _ _), by rw [frN_n]; exact Nat.le_refl _, fun z => by omega⟩, frN_lt (Nat.zero_le _)⟩
    show NMR _ _ ((nwT w 15 16 4 (fr n) n b len).2.2.1 15) _ _ _
    rw [er]
    refine ⟨fun j hj => ?_, hr.2.1, fun x hx => by have := Option.some.inj hx; omega, fun j hj hq => ?_⟩
    · by_cases e : j = n
      · subst e
        rw [e4, frN_n, frN_lt (Nat.le_refl _)]
        obtain ⟨g1, g2, g3⟩ := hr.2.1
        rw [g1, g2]
        refine ⟨by omega, fun i hi => ?_⟩
        have hi0 : i = 0 := by omega
        subst hi0
        rw [put_in (by omega), tr2 0 (by omega), Nat.add_zero, r5.2]
        exact g3.symm
      · have hj2 : j < n := by omega
        obtain ⟨o1, o2⟩ := old j hj2
        obtain ⟨n1, n2⟩ := hr.1 j hj2
        rw [o1, e3 j hj2]
        exact ⟨n1, fun i hi => by rw [o2 i hi, n2 i hi]⟩
    · have hj2 : j < n := by
        by_cases e : j = n
        · exact absurd (by rw [e]) hq
        · omega
      obtain ⟨o1, o2⟩ := old j hj2
      rw [o1]
      rintro ⟨z1, z2⟩
      have o3 := o2 0 (by omega)
      rw [Nat.add_zero, Nat.add_zero] at o3
      rw [o3] at z2
      exact hr.2.2.2 j hj2 (fun z => by cases z) ⟨z1, z2⟩
