def faL : List Nat := [4, 116, 114, 117, 101, 5, 102, 97, 108, 115, 101, 2, 111, 107, 4, 110, 111, 110, 101, 6, 110, 111, 114, 109, 97, 108, 4, 107, 105, 108, 108, 6, 107, 105, 108, 108, 101, 100, 5, 101, 114, 114, 111, 114, 4, 101, 120, 105, 116, 4, 100, 111, 119, 110, 8, 105, 110, 102, 105, 110, 105, 116, 121, 6, 98, 97, 100, 97, 114, 103, 8, 98, 97, 100, 97, 114, 105, 116, 104, 8, 98, 97, 100, 109, 97, 116, 99, 104, 15, 102, 117, 110, 99, 116, 105, 111, 110, 95, 99, 108, 97, 117, 115, 101, 11, 99, 97, 115, 101, 95, 99, 108, 97, 117, 115, 101, 9, 105, 102, 95, 99, 108, 97, 117, 115, 101, 6, 98, 97, 100, 102, 117, 110, 8, 98, 97, 100, 97, 114, 105, 116, 121, 7, 110, 111, 99, 97, 116, 99, 104, 4, 104, 101, 97, 112, 5, 115, 116, 97, 99, 107]
def faT (i : Nat) : Nat := faL.getD i 0
def faS (j : Nat) : Nat := [0, 5, 11, 14, 19, 26, 31, 38, 44, 49, 54, 63, 70, 79, 88, 104, 116, 126, 133, 142, 150, 155, 161].getD j 0
def faN (j : Nat) : Nat := [4, 5, 2, 4, 6, 4, 6, 5, 4, 4, 8, 6, 8, 8, 15, 11, 9, 6, 8, 7, 4, 5].getD j 0
def faO (j : Nat) : Nat := [0, 4, 9, 11, 15, 21, 25, 31, 36, 40, 44, 52, 58, 66, 74, 89, 100, 109, 115, 123, 130, 134, 139].getD j 0
def FAB (u : MS) : Prop := ∀ i, i < 161 → A u 1 i = ((faT i : Nat) : Int)
theorem fa_f : ∀ j, j < 22 → faT (faS j) = faN j ∧ faS (j + 1) = faS j + faN j + 1 ∧ faO (j + 1) = faO j + faN j ∧ faS (j + 1) ≤ 161 ∧ faN j ≤ 15 ∧ faO (j + 1) ≤ 139 := by decide
theorem fa_d : ∀ j, j < 22 → ∀ k, k < j → faN k = faN j → ∃ i, i < faN j ∧ faT (faS k + 1 + i) ≠ faT (faS j + 1 + i) := by decide
set_option maxRecDepth 100000 in
theorem fa_b : ∀ i, i < 161 → faT i ≤ 127 := by decide
theorem nar_id {x : Int} (h1 : -128 ≤ x) (h2 : x ≤ 127) : vp_nar .byte (I x) = I x := by
  show (I x).toInt8.toInt32 = I x
  apply Int32.toInt_inj.mp
  rw [Int8.toInt_toInt32, Int32.toInt_toInt8, I_ti (by omega) (by omega)]
  exact Int.bmod_eq_of_le (by omega) (by omega)
theorem fa_n (i : Nat) (hi : i < 161) : vp_nar .byte (I (faT i)) = I (faT i) := by
  have := fa_b i hi
  exact nar_id (by omega) (by omega)
section
variable {u v w : MS} {N j : Nat}
def ATX (u : MS) : Prop := 0 ≤ F u 14 ∧ TBX u 13 (F u 14).toNat
def AMQ (u : MS) (len : Nat) (v : MS) (r : Int32) : Prop := FR [14] [] [12, 13] [] u v ∧ ATX v ∧ (F v 14 = F u 14 ∨ F v 14 = F u 14 + 1) ∧ F u 14 ≤ F v 14 ∧ A v 13 (F v 14).toNat ≤ A u 13 (F u 14).toNat + len ∧ A v 13 0 = A u 13 0 ∧ ∃ k : Nat, r = I k ∧ (k : Int) < F v 14
theorem atom_ok {r3 bg len L3 : Nat} (hN : 200000 ≤ N) (h3 : isK r3 3 = true ∧ ln r3 = L3 ∧ L3 < 100000) (hne : r3 ≠ 12 ∧ r3 ≠ 13) (ax : ATX u) (h14 : F u 14 ≤ 2190) (hb : bg + len ≤ L3) (hs : A u 13 (F u 14).toNat + len ≤ 5000) (hl : len ≤ 30) : OK (fun v r => AMQ u len v r ∧ ((F v 14 = F u 14 + 1 ∧ r = I (F u 14) ∧ (∀ k, k < (F u 14).toNat → ¬ TSM u 12 13 r3 k bg len) ∧ TXN u 12 13 r3 (F u 14).toNat bg len (wi v 14 (F u 14))) ∨ (v = u ∧ ∃ k, k < (F u 14).toNat ∧ r = I k ∧ TSM u 12 13 r3 k bg len))) (fm_M_atom N u r3 (I bg) (I len)) := by
  obtain ⟨a1, a2⟩ := ax
  have e14 : F u 14 = (((F u 14).toNat : Nat) : Int) := by omega
  unfold fm_M_atom fb_M_atom_0 fb_M_atom_43
  rw [I_F (k := 14)]
  have tx := textOf_ok (N := N) (u := u) (r0 := 12) (r1 := 13) (r3 := r3) (many := (F u 14).toNat) (bg := bg) (len := len) (L3 := L3) hN ⟨rfl, rfl⟩ ⟨rfl, rfl⟩ h3 ⟨by decide, hne.1, hne.2⟩ a2 hb hs hl
  rw [← e14] at tx
  refine ok_bnd.mpr (ok_mono tx (fun x r hx => ?_))
  rcases hx with ⟨k, h1, h2, h3', h4⟩ | ⟨h1, h2, h3'⟩
  · have ne : ¬ (r = x.1 14) := fun z => by
      rw [h3', h2, I_F (k := 14)] at z
      have := congrArg Int32.toInt z
      rw [I_ti (by omega) (by omega), I_ti (F_r u 14).1 (F_r u 14).2] at this
      omega
    rw [decide_eq_false ne, br_fq]
    refine ok_lt.mpr (ok_some.mpr ?_)
    have ex : upI x 14 (x.1 14) = u := by
      rw [h2]
      obtain ⟨u1, u2⟩ := u
      show ((fun j => if j = 14 then u1 14 else u1 j), u2) = (u1, u2)
      have : (fun j => if j = 14 then u1 14 else u1 j) = u1 := by
        funext j
        by_cases z : j = 14
        · rw [if_pos z, z]
        · rw [if_neg z]
      rw [this]
    rw [ex]
    exact ⟨⟨FR.rf, ⟨a1, a2⟩, Or.inl rfl, Int.le_refl _, by omega, rfl, k, h3', by omega⟩, Or.inr ⟨rfl, k, h1, h3', h4⟩⟩
  · have x14 : F x 14 = F u 14 := h3'.1.F (by intro z; cases z)
    have eq : r = x.1 14 := by rw [h1, I_F (k := 14), x14]; congr 1; omega
    rw [decide_eq_true eq, br_tq]
    have e15 : x.1 14 + 1 = I (F u 14 + 1) := by rw [I_F (k := 14), x14, lit1q, I_add]
    rw [e15, wi_e]
    refine ok_lt.mpr (ok_some.mpr ?_)
    have f14 : F (wi x 14 (F u 14 + 1)) 14 = F u 14 + 1 := wi_eq ⟨by omega, by omega⟩
    have t13 : ∀ j, A (wi x 14 (F u 14 + 1)) 13 j = A x 13 j := fun _ => rfl
    have em : (F u 14 + 1).toNat = (F u 14).toNat + 1 := by omega
    obtain ⟨g1, g2, g3, g4, g5⟩ := id h3'
    have am := a2.2 (F u 14).toNat (Nat.le_refl _)
    have ww : wi (wi x 14 (F u 14 + 1)) 14 (F u 14) = x := by
      obtain ⟨x1, x2⟩ := x
      have hx14 : x1 14 = I (F u 14) := I_F' x14
      show ((fun j => if j = 14 then I (F u 14) else (fun j => if j = 14 then I (F u 14 + 1) else x1 j) j), x2) = (x1, x2)
      have : (fun j => if j = 14 then I (F u 14) else (fun j => if j = 14 then I (F u 14 + 1) else x1 j) j) = x1 := by
        funext j
        by_cases z : j = 14
        · simp only [z, if_true]; exact hx14.symm
        · simp only [z, if_false]
      rw [this]
    refine ⟨⟨FR.wi (FR.mo g1 (by simp) (by simp) (by simp) (by simp)) (by decide), ⟨by omega, ?_⟩, Or.inr f14, by omega, ?_, (t13 0).trans (g2 0 (by omega)), (F u 14).toNat, h1, by omega⟩, Or.inl ⟨f14, by rw [h1]; congr 1; omega, h2, by rw [ww]; exact h3'⟩⟩
    · rw [f14, em]
      refine ⟨by omega, fun k hk => ?_⟩
      rw [t13, t13]
      by_cases z : k = (F u 14).toNat + 1
      · rw [z, g3]
        refine ⟨by omega, by omega, fun y => by omega⟩
      · have ak := a2.2 k (by omega)
        rw [g2 k z]
        refine ⟨ak.1, ak.2.1, fun y => ?_⟩
        by_cases z2 : k = (F u 14).toNat
        · rw [z2, g3]; omega
        · rw [g2 (k + 1) (by omega)]; exact ak.2.2 (by omega)
    · rw [f14, em, t13, g3]; omega
def FAI (u w : MS) (j : Nat) : Prop := FR [14, 17, 20] [] [12, 13] [] u w ∧ F w 14 = ((j : Nat) : Int) ∧ F w 17 = 0 ∧ F w 20 = 0 ∧ (∀ i, i ≤ j → A w 13 i = ((faO i : Nat) : Int)) ∧ ∀ k, k < j → ∀ i, i < faN k → w.2.2.1 12 (faO k + i) = I (faT (faS k + 1 + i))
theorem faO_mo : ∀ i, i < 23 → ∀ k, k ≤ i → faO k ≤ faO i := by decide
theorem faO_lt : ∀ j, j < 23 → ∀ k, k < j → faO k + faN k ≤ faO j := by decide
theorem first_loop (hN : 200000 ≤ N) (fb : FAB u) (h0 : A u 13 0 = 0) : ∀ (d j : Nat) (w : MS) (m : Nat), j + d = 22 → d + 1 ≤ m → FAI u w j → OK (fun v _ => FAI u v 22) (gg_M_allFirstAtoms N m w (I (faS j))) := by
  intro d
  induction d with
  | zero =>
    intro j w m hj hm hw
    obtain ⟨m', rfl⟩ : ∃ m', m = m' + 1 := ⟨m - 1, by omega⟩
    obtain rfl : j = 22 := by omega
    show OK _ (fb_M_allFirstAtoms_17 N (gg_M_allFirstAtoms N m') w (I (faS 22)))
    unfold fb_M_allFirstAtoms_17
    exact ok_some.mpr hw
  | succ d ih =>
    intro j w m hj hm hw
    obtain ⟨m', rfl⟩ : ∃ m', m = m' + 1 := ⟨m - 1, by omega⟩
    have hj2 : j < 22 := by omega
    have ff := fa_f j hj2
    obtain ⟨b1, b2, b3, b4, b5, b6⟩ := id hw
    have w1 : ∀ i, i < 161 → A w 1 i = ((faT i : Nat) : Int) := fun i hi => by rw [b1.A (by decide)]; exact fb i hi
    have ww : ∀ i, i < 161 → w.2.2.1 1 i = I (faT i) := fun i hi => I_A' (w1 i hi)
    show OK _ (fb_M_allFirstAtoms_17 N (gg_M_allFirstAtoms N m') w (I (faS j)))
    unfold fb_M_allFirstAtoms_17
    have es : (I ((faS j : Nat) : Int)).toNatClampNeg = faS j := by rw [I_tn (by omega) (by omega)]; omega
    have e1 : I (faS j : Int) + 1 = I ((faS j + 1 : Nat) : Int) := by rw [lit1q, I_add]; rfl
    have e161 : Int32.ofNat (ln 1) = I 161 := rfl
    rw [e161, e1, es, ww _ (by omega), ff.1]
    refine k_le (x := 161) (y := (faS j : Int)) ⟨by decide, by decide⟩ ⟨by omega, by omega⟩ (fun y => by omega) (fun _ => ?_)
    refine k_in (k := 1) (n := 161) rfl (by decide) (by omega) ?_
    have o22 := faO_mo j (by omega)
    have ax : ATX w := by
      refine ⟨by omega, by omega, fun k hk => ?_⟩
      have hk' : k ≤ j := by omega
      rw [b5 k hk']
      have := o22 k hk'
      refine ⟨by omega, by omega, fun y => ?_⟩
      rw [b5 (k + 1) (by omega)]
      have := (fa_f k (by omega)).2.2.1
      omega
    have ej : (F w 14).toNat = j := by omega
    refine ok_bnd.mpr (ok_mono (atom_ok (r3 := 1) (L3 := 161) (bg := faS j + 1) (len := faN j) hN ⟨rfl, rfl, by decide⟩ ⟨by decide, by decide⟩ ax (by omega) (by omega) (by rw [ej, b5 j (Nat.le_refl _)]; omega) (by omega)) (fun x r hx => ?_))
    obtain ⟨hq, hx⟩ := hx
    rw [ej] at hx
    rcases hx with ⟨g1, g2, g3, g4⟩ | ⟨-, k, g1, g2, g3⟩
    · obtain ⟨p1, p2, p3, p4, p5⟩ := g4
      have q1 := hq.1
      have x1 : x.2.2.1 1 (faS j) = I (faN j) := by
        rw [I_A, q1.A (by decide), w1 _ (by omega), ff.1]
      have x12 : ∀ i, x.2.2.1 12 i = (wi x 14 (F w 14)).2.2.1 12 i := fun _ => rfl
      have x13 : ∀ i, A x 13 i = A (wi x 14 (F w 14)) 13 i := fun _ => rfl
      refine k_in (k := 1) (n := 161) rfl (by decide) (by omega) (ok_lt.mpr ?_)
      have en : I (faS j : Int) + (x.2.2.1 1 (faS j) + 1) = I ((faS (j + 1) : Nat) : Int) := by
        rw [x1, lit1q, I_add, I_add]; congr 1; omega
      rw [en]
      have bj := b5 j (Nat.le_refl _)
      refine ih (j + 1) x m' (by omega) (by omega) ⟨FR.tr b1 (FR.mo q1 (by decide) (by decide) (by decide) (by decide)), by omega, by rw [q1.F (by decide)]; exact b3, by rw [q1.F (by decide)]; exact b4, fun i hi => ?_, fun k hk i hi => ?_⟩
      · rw [x13]
        by_cases z : i = j + 1
        · rw [z, p3, bj]; omega
        · rw [p2 i z]; exact b5 i (by omega)
      · rw [x12]
        by_cases z : k = j
        · subst z
          have := p4 i hi
          rw [bj, show (((faO k : Nat) : Int)).toNat = faO k by omega] at this
          rw [this, ww _ (by omega)]
          exact fa_n _ (by omega)
        · have lt := faO_lt j (by omega) k (by omega)
          rw [p5 _ (by omega)]
          exact b6 k (by omega) i hi
    · exfalso
      obtain ⟨t1, t2⟩ := g3
      rw [b5 (k + 1) (by omega), b5 k (by omega)] at t1
      have fk := (fa_f k (by omega)).2.2.1
      obtain ⟨i, i1, i2⟩ := fa_d j hj2 k g1 (by omega)
      have t3 := t2 i i1
      rw [b5 k (by omega), show (((faO k : Nat) : Int)).toNat = faO k by omega, b6 k g1 i (by omega), ww _ (by omega)] at t3
      have ks : faS k + 1 + i < 161 := by
        have := (fa_f k (by omega)).2
        omega
      have r1 := fa_b (faS k + 1 + i) ks
      have r2 := fa_b (faS j + 1 + i) (by omega)
      have := congrArg Int32.toInt t3
      rw [I_ti (by omega) (by omega), I_ti (by omega) (by omega)] at this
      omega
end
