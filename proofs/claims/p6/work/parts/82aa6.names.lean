theorem pigeon : ∀ (n m : Nat) (f : Nat → Nat), (∀ i, i < m → f i < n) → (∀ i j, j < i → i < m → f j ≠ f i) → m ≤ n := by
  intro n
  induction n with
  | zero =>
    intro m f h1 _
    rcases Nat.eq_zero_or_pos m with z | z
    · omega
    · exact absurd (h1 0 z) (Nat.not_lt_zero _)
  | succ n ih =>
    intro m f h1 h2
    by_cases e : ∃ i, i < m ∧ f i = n
    · obtain ⟨i0, e1, e2⟩ := e
      have := ih (m - 1) (fun i => if i < i0 then f i else f (i + 1)) (fun i hi => ?_) (fun i j hj hi => ?_)
      · omega
      · by_cases z : i < i0
        · simp only [if_pos z]
          have := h1 i (by omega)
          have := h2 i0 i z e1
          omega
        · simp only [if_neg z]
          have := h1 (i + 1) (by omega)
          have := h2 (i + 1) i0 (by omega) (by omega)
          omega
      · by_cases z : i < i0
        · simp only [if_pos z, if_pos (Nat.lt_trans hj z)]
          exact h2 i j hj (by omega)
        · by_cases y : j < i0
          · simp only [if_neg z, if_pos y]
            exact h2 (i + 1) j (by omega) (by omega)
          · simp only [if_neg z, if_neg y]
            exact h2 (i + 1) (j + 1) (by omega) (by omega)
    · refine Nat.le_succ_of_le (ih m f (fun i hi => ?_) h2)
      have := h1 i hi
      have : f i ≠ n := fun z => e ⟨i, hi, z⟩
      omega
section
variable {α : Type} {Q : MS → α → Prop} {u0 u v w : MS} {N σ : Nat} {s t x y k nm : Int}
theorem SCP_many (h : SCP nm σ u) {i : Nat} (hi : i ≤ σ) : A u 60 i ≤ nm ∨ nm < 0 := by
  obtain ⟨h1, h2, -⟩ := h i hi
  by_cases e : nm < 0
  · exact Or.inr e
  have := pigeon nm.toNat (A u 60 i).toNat (fun j => (A u 59 (1400 * i + j)).toNat) (fun j hj => by have := h2 j (by omega); omega) (fun a b hb ha => by
    have h3 := h2 a (by omega)
    have h4 := h2 b (by omega)
    have h5 := h3.2.2 b hb
    omega)
  exact Or.inl (by omega)
theorem KPR_sc (a : FR [66] [] [59, 60, 61, 62, 63, 64] [] u v) (h59 : ∀ (s i : Nat), s ≤ σ → (i : Int) < A u 60 s → A v 59 (1400 * s + i) = A u 59 (1400 * s + i)) (h61 : ∀ (r s i : Nat), r ∈ [61, 62] → s ≤ σ → (i : Int) < A u 63 s → A v r (1400 * s + i) = A u r (1400 * s + i)) (h60 : ∀ s, s < σ → A v 60 s = A u 60 s) (hg : ∀ s, s ≤ σ → A u 60 s ≤ A v 60 s ∧ A u 63 s ≤ A v 63 s ∧ A u 64 s ≤ A v 64 s) (h66 : F v 66 = 0 → F u 66 = 0) : KPR σ u v := by
  have g2 : ∀ r i, r ∉ [59, 60, 61, 62, 63, 64] → A v r i = A u r i := fun r i hr => a.A hr
  have m1 : ∀ r, r ∈ [23, 24, 25, 26, 27, 28, 29, 30, 31] → r ∉ [59, 60, 61, 62, 63, 64] := by decide
  have m2 : ∀ r, r ∈ [33, 35, 36, 37, 38] → r ∉ [59, 60, 61, 62, 63, 64] := by decide
  have m3 : ∀ r, r ∈ [40, 41, 42, 43, 45] → r ∉ [59, 60, 61, 62, 63, 64] := by decide
  have m4 : ∀ r, r ∈ [53, 54, 55] → r ∉ [59, 60, 61, 62, 63, 64] := by decide
  have m6 : ∀ r, r ∈ [79, 80, 81, 82] → r ∉ [59, 60, 61, 62, 63, 64] := by decide
  refine ⟨FRP a (by decide) (by decide) (by decide), ⟨fun r i h1 _ => g2 r i (m1 r h1), fun r i h1 _ => g2 r i (m2 r h1), fun r i h1 _ => g2 r i (m3 r h1), fun r i h1 _ => g2 r i (m4 r h1), fun i _ => g2 57 i (by decide)⟩, ⟨h59, h61, h60, hg⟩, ⟨fun i _ => g2 74 i (by decide), fun i _ => g2 76 i (by decide), fun r i h1 _ => g2 r i (m6 r h1)⟩, ⟨?_, ?_, ?_, ?_, ?_, ?_, ?_, ?_⟩, ?_, h66⟩
  all_goals rw [a.F (by decide)]
  all_goals first | exact Int.le_refl _ | exact id
def BIN (u : MS) (i : Nat) (x r : Int) : Prop := (r = -1 ∧ ∀ j : Nat, (j : Int) < A u 60 i → A u 59 (1400 * i + j) ≠ x) ∨ (0 ≤ r ∧ r < A u 60 i ∧ A u 59 (1400 * i + r.toNat) = x)
theorem boundIn_loop {i : Nat} (hi : i ≤ 26) (hm : A u 60 i ≤ 1342) (hx : RG x) : ∀ (m j : Nat), (∀ t, t < j → A u 59 (1400 * i + t) ≠ x) → 1400 - j < m → (j : Int) ≤ 1342 → OK (fun v r => v = u ∧ ∃ r', r = I r' ∧ BIN u i x r') (gg_M_boundIn N m u (I i) (I x) (I j)) := by
  intro m
  induction m with
  | zero => intro j _ z _; exact absurd z (Nat.not_lt_zero _)
  | succ m ih =>
    intro j h1 h2 h3
    show OK _ (fb_M_boundIn_2 N (gg_M_boundIn N m) u (I i) (I x) (I j))
    unfold fb_M_boundIn_2
    refine k_in (k := 60) (n := 27) rfl (by decide) (by omega) ?_
    rw [I_tn (x := (i : Int)) (by omega) (by omega), Int.toNat_natCast, I_A (k := 60)]
    refine k_le (ARG1 u 60 i) ⟨by omega, by omega⟩ (fun e => ?_) (fun e => ?_)
    · exact ok_some.mpr ⟨rfl, -1, rfl, Or.inl ⟨rfl, fun t ht => h1 t (by omega)⟩⟩
    · rw [show (1400 : Int32) = I 1400 from rfl, I_mul, I_add]
      refine k_in (k := 59) (n := 37800) rfl (by decide) (by omega) ?_
      rw [I_tn (by omega) (by omega), show (1400 * (i : Int) + j).toNat = 1400 * i + j from by omega, I_A (k := 59)]
      refine k_eq (ARG1 u 59 _) hx (fun e2 => ?_) (fun e2 => ?_)
      · exact ok_some.mpr ⟨rfl, j, rfl, Or.inr ⟨by omega, e, by rw [Int.toNat_natCast]; exact e2⟩⟩
      · rw [lit1q, I_add, show (j : Int) + 1 = ((j + 1 : Nat) : Int) from by omega]
        exact ih (j + 1) (fun t ht => if z : t = j then by rw [z]; exact e2 else h1 t (by omega)) (by omega) (by omega)
theorem boundIn_ok {i : Nat} (hi : i ≤ 26) (hm : A u 60 i ≤ 1342) (hx : RG x) (hN : 5000 ≤ N) : OK (fun v r => v = u ∧ ∃ r', r = I r' ∧ BIN u i x r') (fm_M_boundIn N u (I i) (I x)) := by
  unfold fm_M_boundIn fb_M_boundIn_0
  exact boundIn_loop hi hm hx N 0 (fun t ht => absurd ht (Nat.not_lt_zero _)) (by omega) (by omega)
def FND (nm : Int) (σ : Nat) (u v : MS) (i : Nat) (x r : Int) : Prop := FR [] [] [61, 62, 63] [] u v ∧ KPR σ u v ∧ SCP nm σ v ∧ ((r = -1 ∧ ∀ j : Nat, (j : Int) < A u 60 i → A u 59 (1400 * i + j) ≠ x) ∨ NCO r (A v 60 i).toNat (A v 63 i).toNat)
theorem FND_rf {i : Nat} {r : Int} (h : SCP nm σ u) (hr : (r = -1 ∧ ∀ j : Nat, (j : Int) < A u 60 i → A u 59 (1400 * i + j) ≠ x) ∨ NCO r (A u 60 i).toNat (A u 63 i).toNat) : FND nm σ u u i x r := ⟨FR.rf, KPR_rf, h, hr⟩
theorem found_loop {S : SG_M_found} {i : Nat} (hi : i ≤ σ ∧ σ ≤ 26) (hs : SCP nm σ u) (hx : RG x) (hb : ∀ j : Nat, (j : Int) < A u 60 i → A u 59 (1400 * i + j) ≠ x) (hS : 0 < i → OK (fun v r => ∃ r', r = I r' ∧ FND nm σ u v (i - 1) x r') (S u (I ((i - 1 : Nat) : Int)) (I x))) : ∀ (m j : Nat), 60 - j < m → (j : Int) ≤ 60 → OK (fun v r => ∃ r', r = I r' ∧ FND nm σ u v i x r') (gg_M_found N S m u (I i) (I x) (I j)) := by
  intro m
  induction m with
  | zero => intro j z _; exact absurd z (Nat.not_lt_zero _)
  | succ m ih =>
    intro j h2 h3
    obtain ⟨⟨s1, s2, s3, s4⟩, s5, s6, s7⟩ := hs i hi.1
    show OK _ (fb_M_found_17 N S (gg_M_found N S m) u (I i) (I x) (I j))
    unfold fb_M_found_17
    refine k_in (k := 63) (n := 27) rfl (by decide) (by omega) ?_
    rw [I_tn (x := (i : Int)) (by omega) (by omega), Int.toNat_natCast, I_A (w := u) (k := 63)]
    refine k_le (ARG1 u 63 i) ⟨by omega, by omega⟩ (fun e => ?_) (fun e => ?_)
    · rw [lit0q]
      refine k_eq ⟨by omega, by omega⟩ ⟨by decide, by decide⟩ (fun e2 => ?_) (fun e2 => ?_)
      · exact ok_some.mpr ⟨-1, rfl, FND_rf hs (Or.inl ⟨rfl, hb⟩)⟩
      · rw [show (-1 : Int32) = I (-1) from rfl, lit1q, I_sub, show (i : Int) - 1 = ((i - 1 : Nat) : Int) from by omega]
        refine ok_bnd.mpr (ok_mono (hS (by omega)) (fun v r hv => ?_))
        obtain ⟨r', hr, f1, f2, f3, f4⟩ := hv
        have rr : RG r' ∧ (r' ≠ -1 → NCO r' (A v 60 (i - 1)).toNat (A v 63 (i - 1)).toNat) := by
          rcases f4 with ⟨z, -⟩ | z
          · exact ⟨by rw [z]; exact ⟨by decide, by decide⟩, fun y => absurd z y⟩
          · have := (f3 (i - 1) (by omega)).1
            have h6 : A v 60 (i - 1) < 2147483648 := (A_r v 60 _).2
            refine ⟨?_, fun _ => z⟩
            unfold NCO at z
            exact ⟨by omega, by omega⟩
        rw [hr]
        have g59 : ∀ j, A v 59 j = A u 59 j := fun j => f1.A (by decide)
        have g60 : ∀ j, A v 60 j = A u 60 j := fun j => f1.A (by decide)
        refine k_eq rr.1 ⟨by decide, by decide⟩ (fun e3 => ?_) (fun e3 => ?_)
        · exact ok_some.mpr ⟨-1, rfl, f1, f2, f3, Or.inl ⟨rfl, hb⟩⟩
        · obtain ⟨⟨t1, t2, t3, t4⟩, t5, t6, t7⟩ := f3 i hi.1
          refine k_in (k := 63) (n := 27) rfl (by decide) (by omega) ?_
          rw [I_A (w := v) (k := 63), show (60 : Int32) = I 60 from rfl]
          refine k_lt (ARG1 v 63 i) ⟨by decide, by decide⟩ (fun e4 => ?_) (fun e4 => ?_)
          · refine k_in (k := 63) (n := 27) rfl (by decide) (by omega) ?_
            obtain ⟨m0, hm0⟩ : ∃ m0 : Nat, A v 63 i = m0 := ⟨(A v 63 i).toNat, by omega⟩
            have he : (I (1400 * (i : Int) + m0)).toNatClampNeg = 1400 * i + m0 := by rw [I_tn (by omega) (by omega)]; omega
            rw [show (1400 : Int32) = I 1400 from rfl, I_mul, hm0, I_add, he]
            refine k_in (k := 61) (n := 37800) rfl (by decide) (by omega) ?_
            refine ok_lt.mpr ?_
            rw [wa_e]
            refine k_in (k := 63) (n := 27) rfl (by decide) (by omega) ?_
            rw [show (wa v 61 (1400 * i + m0) x).2.2.1 63 i = v.2.2.1 63 i from rfl, I_A' hm0, I_add, he]
            refine k_in (k := 62) (n := 37800) rfl (by decide) (by omega) (ok_lt.mpr ?_)
            rw [wa_e]
            refine k_in (k := 63) (n := 27) rfl (by decide) (by omega) (k_in (k := 63) (n := 27) rfl (by decide) (by omega) (ok_lt.mpr ?_))
            rw [show (wa (wa v 61 (1400 * i + m0) x) 62 (1400 * i + m0) r').2.2.1 63 i = v.2.2.1 63 i from rfl, I_A' hm0, I_add, wa_e]
            refine k_in (k := 63) (n := 27) rfl (by decide) (by omega) (ok_some.mpr ⟨-1 - ((m0 : Int) + 1), ?_, ?_⟩)
            · rw [I_A' (wa_eq ⟨by omega, by omega⟩), I_sub]
            have a63 : ∀ j, A (wa (wa (wa v 61 (1400 * i + m0) x) 62 (1400 * i + m0) r') 63 i ((m0 : Int) + 1)) 63 j = if j = i then (m0 : Int) + 1 else A v 63 j := fun j => by
              rw [A_wa (by omega) (by omega), if_pos rfl]; rfl
            have a62 : ∀ j, A (wa (wa (wa v 61 (1400 * i + m0) x) 62 (1400 * i + m0) r') 63 i ((m0 : Int) + 1)) 62 j = if j = 1400 * i + m0 then r' else A v 62 j := fun j => by
              rw [wa_rne (by decide), A_wa rr.1.1 rr.1.2, if_pos rfl]; rfl
            have a61 : ∀ j, j ≠ 1400 * i + m0 → A (wa (wa (wa v 61 (1400 * i + m0) x) 62 (1400 * i + m0) r') 63 i ((m0 : Int) + 1)) 61 j = A v 61 j := fun j hj => by
              rw [wa_rne (by decide), wa_rne (by decide), wa_ne hj]
            have a59 : ∀ r j, r ∉ [61, 62, 63] → A (wa (wa (wa v 61 (1400 * i + m0) x) 62 (1400 * i + m0) r') 63 i ((m0 : Int) + 1)) r j = A v r j := fun r j hr => by
              rw [wa_rne (fun z => hr (by rw [z]; decide)), wa_rne (fun z => hr (by rw [z]; decide)), wa_rne (fun z => hr (by rw [z]; decide))]
            have fr : FR [] [] [61, 62, 63] [] v (wa (wa (wa v 61 (1400 * i + m0) x) 62 (1400 * i + m0) r') 63 i ((m0 : Int) + 1)) := FR.wa (FR.wa (FR.wa FR.rf (by decide)) (by decide)) (by decide)
            generalize wa (wa (wa v 61 (1400 * i + m0) x) 62 (1400 * i + m0) r') 63 i ((m0 : Int) + 1) = w at *
            refine ⟨FR.tr f1 fr, KPR_tr f2 (KPR_sc (FR.mo fr (by decide) (by decide) (by decide) (by decide)) (fun s j _ _ => a59 59 _ (by decide)) (fun r s j hr hs2 hj => ?_) (fun s _ => a59 60 s (by decide)) (fun s hs2 => ?_) (fun z => by rw [← fr.F (by decide)]; exact z)), fun s hs2 => ?_, Or.inr (Or.inr ?_)⟩
            · have hn : 1400 * s + j ≠ 1400 * i + m0 := fun z => by
                have := (f3 s hs2).1
                have : s = i ∧ j = m0 := by omega
                rw [this.1, this.2, hm0] at hj
                omega
              rcases List.mem_cons.mp hr with z | z
              · rw [z]; exact a61 _ hn
              · rw [List.mem_singleton.mp z, a62, if_neg hn]
            · rw [a59 60 s (by decide), a59 64 s (by decide), a63]
              refine ⟨Int.le_refl _, ?_, Int.le_refl _⟩
              by_cases z : s = i
              · rw [if_pos z, z]; omega
              · rw [if_neg z]; exact Int.le_refl _
            · obtain ⟨⟨v1, v2, v3, v4⟩, v5, v6, v7⟩ := f3 s hs2
              rw [a59 60 s (by decide), a59 60 (s - 1) (by decide), a59 64 s (by decide), a63 s, a63 (s - 1)]
              refine ⟨?_, fun j hj => by rw [a59 59 _ (by decide)]; exact ⟨(v5 j hj).1, (v5 j hj).2.1, fun b hb => by rw [a59 59 _ (by decide)]; exact (v5 j hj).2.2 b hb⟩, fun z => ?_, fun j hj hs3 => ?_⟩
              · by_cases z : s = i
                · rw [if_pos z]; omega
                · rw [if_neg z]; omega
              · rw [if_neg (by omega)]; exact v6 z
              · have mono : ∀ y : Int, NCO y (A v 60 (s - 1)).toNat (A v 63 (s - 1)).toNat → NCO y (A v 60 (s - 1)).toNat (if s - 1 = i then (m0 : Int) + 1 else A v 63 (s - 1)).toNat := fun y hy => by
                  refine hy.imp id (fun z => ?_)
                  by_cases z2 : s - 1 = i
                  · rw [if_pos z2]; rw [z2, hm0] at z; omega
                  · rw [if_neg z2]; exact z
                by_cases z : s = i
                · rw [if_pos z] at hj
                  rw [a62]
                  by_cases z3 : j = m0
                  · rw [if_pos (by omega)]
                    exact mono _ (by rw [z]; exact rr.2 e3)
                  · rw [if_neg (by omega)]
                    exact mono _ (v7 j (by rw [z, hm0]; omega) hs3)
                · rw [if_neg z] at hj
                  have : j < 60 := by omega
                  rw [a62, if_neg (by omega)]
                  exact mono _ (v7 j hj hs3)
            · rw [a63, if_pos rfl]; omega
          · refine ok_some.mpr ⟨-2, rfl, f1, f2, f3, Or.inr (Or.inr ?_)⟩
            omega
    · rw [show (1400 : Int32) = I 1400 from rfl, I_mul, I_add]
      refine k_in (k := 61) (n := 37800) rfl (by decide) (by omega) ?_
      rw [I_A (w := u) (k := 61)]
      refine k_eq (ARG1 u 61 _) hx (fun e2 => ?_) (fun e2 => ?_)
      · refine ok_some.mpr ⟨-2 - j, by rw [show (-2 : Int32) = I (-2) from rfl, I_sub], FND_rf hs (Or.inr (Or.inr ?_))⟩
        omega
      · rw [lit1q, I_add, show (j : Int) + 1 = ((j + 1 : Nat) : Int) from by omega]
        exact ih (j + 1) (by omega) (by omega)
theorem found_ok (hN : 5000 ≤ N) (hm : nm ≤ 1342) (hm0 : 0 ≤ nm) (hx : RG x) : ∀ (d i : Nat), i < d → i ≤ σ ∧ σ ≤ 26 → SCP nm σ u → OK (fun v r => ∃ r', r = I r' ∧ FND nm σ u v i x r') (rc_M_found N d u (I i) (I x)) := by
  intro d
  induction d with
  | zero => intro i h; exact absurd h (Nat.not_lt_zero _)
  | succ d ih =>
    intro i h1 h2 hs
    show OK _ (fm_M_found N (rc_M_found N d) u (I i) (I x))
    unfold fm_M_found fb_M_found_0
    have hmany := SCP_many hs h2.1
    refine ok_bnd.mpr (ok_mono (boundIn_ok (by omega) (by omega) hx hN) (fun v r hv => ?_))
    obtain ⟨rfl, r', hr, hb⟩ := hv
    rw [hr, show (-1 : Int32) = I (-1) from rfl]
    have s1 := (hs i h2.1).1
    have rr : RG r' := by unfold BIN at hb; exact ⟨by omega, by omega⟩
    refine k_eq rr ⟨by decide, by decide⟩ (fun e => ?_) (fun e => ?_)
    · rw [lit0q]
      refine found_loop h2 hs hx ?_ (fun z => ih (i - 1) (by omega) (by omega) hs) N 0 (by omega) (by omega)
      rcases hb with hb | hb
      · exact hb.2
      · omega
    · refine ok_some.mpr ⟨r', rfl, FND_rf hs (Or.inr (Or.inl ?_))⟩
      unfold BIN at hb
      omega
end
