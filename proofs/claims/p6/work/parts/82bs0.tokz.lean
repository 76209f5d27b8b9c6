set_option maxRecDepth 100000
section
variable {u : CS} {m w : MS} {n : TN} {bad : Bool}
theorem oI {n : Nat} : Int32.ofNat n = I (n : Nat) := Int32.ofInt_eq_ofNat.symm
theorem nmQ_J {q : Option Nat} : NMJ (nmQ q) := by
  cases q with
  | none => exact ⟨fun x y h => Nat.succ.inj h, fun x => Nat.le_refl _⟩
  | some z =>
    have e : ∀ j, nmQ (some z) j = if j = z then 0 else if j < z then j + 1 else j := fun _ => rfl
    refine ⟨fun x y h => ?_, fun x => ?_⟩
    · rw [e, e] at h
      by_cases a : x = z
      · by_cases b : y = z
        · omega
        · rw [if_pos a, if_neg b] at h
          by_cases c : y < z
          · rw [if_pos c] at h; omega
          · rw [if_neg c] at h; omega
      · by_cases b : y = z
        · rw [if_neg a, if_pos b] at h
          by_cases c : x < z
          · rw [if_pos c] at h; omega
          · rw [if_neg c] at h; omega
        · rw [if_neg a, if_neg b] at h
          by_cases c : x < z <;> by_cases d : y < z
          · rw [if_pos c, if_pos d] at h; omega
          · rw [if_pos c, if_neg d] at h; omega
          · rw [if_neg c, if_pos d] at h; omega
          · rw [if_neg c, if_neg d] at h; omega
    · rw [e]
      split
      · omega
      · split <;> omega
theorem sgV_sv : ∀ m, m < 25 → sgV m = I (svK (20 + m) : Nat) := by decide +kernel
theorem sr_wd : ∀ r, r < 15 → srK (5 + r) = 3 ∧ svK (5 + r) = r := by decide +kernel
theorem sr_sg : ∀ m, m < 25 → srK (20 + m) = 6 := by decide +kernel
theorem tk_of (R : RS m u) (h : TOKS u w n bad) (h17 : F w 17 ≤ 1342) : CTZ m w (fun p => (m.2.2.1 6 p).toNatClampNeg) n.i (nmQ n.q) (fun p => (w.2.2.1 7 p).toNatClampNeg) ∧ CTA m w (fun p => (m.2.2.1 6 p).toNatClampNeg) n.i ∧ (m.2.2.1 6 n.i).toNatClampNeg = (if bad = true then 45 else 0) ∧ (∀ j, j < n.i → (m.2.2.1 6 j).toNatClampNeg = 2 → ∃ r : Nat, r < n.na ∧ w.2.2.1 7 j = I (r : Nat)) ∧ ∀ j, j ≤ n.i → m.2.2.1 8 j = w.2.2.1 8 j := by
  have hk := h.k4
  have hik := h.ik
  have r5 : AI u 5 = m.2.2.1 5 := R.2.2.2.1 5 (by decide)
  have r6 : AI u 6 = m.2.2.1 6 := R.2.2.2.1 6 (by decide)
  have r7 : AI u 7 = m.2.2.1 7 := R.2.2.2.1 7 (by decide)
  have r8 : AI u 8 = m.2.2.1 8 := R.2.2.2.1 8 (by decide)
  have r13 : AI u 13 = m.2.2.1 13 := R.2.2.2.1 13 (by decide)
  have nn14 : n.nn < 1400 := by
    have l16 : ln 16 = 2200 := rfl
    have b := h.nmm.2.1.2.2.2.2.2.2.1
    have e : F w 17 = ((n.nn : Nat) : Int) := by
      unfold F
      rw [h.nmm.2.2.1, oI]
      exact I_ti (by omega) (by omega)
    omega
  have one : ∀ p, p < n.i → ∃ k, 1 ≤ k ∧ k ≤ 44 ∧ m.2.2.1 6 p = I (k : Nat) ∧ w.2.2.1 6 p = I (srK k : Nat) ∧ (5 ≤ k → w.2.2.1 7 p = I (svK k : Nat)) ∧ (k = 1 ∨ k = 2 → m.2.2.1 7 p = w.2.2.1 7 p) ∧ (k = 2 → ∃ r : Nat, r < n.na ∧ w.2.2.1 7 p = I (r : Nat)) ∧ (k = 3 → ∃ r : Nat, r < n.nn ∧ w.2.2.1 7 p = I (r : Nat) ∧ m.2.2.1 7 p = I (nmQ n.q r : Nat)) := fun p hp => by
    have kv := (h.tk p hp).1
    rw [r6, r7] at kv
    rcases kv with ⟨a, b, c⟩ | ⟨a, b, r, hr, c, d⟩ | ⟨a, b, r, hr, c, d⟩ | ⟨a, b, -⟩ | ⟨a, r, hr, b, c⟩ | ⟨a, m', hm, b, c⟩
    · exact ⟨1, by decide, by decide, a, b, fun z => by omega, fun _ => c.symm, fun z => by omega, fun z => by omega⟩
    · exact ⟨2, by decide, by decide, a, b, fun z => by omega, fun _ => d.trans c.symm, fun _ => ⟨r, hr, c.trans oI⟩, fun z => by omega⟩
    · exact ⟨3, by decide, by decide, a, b, fun z => by omega, fun z => by omega, fun z => by omega, fun _ => ⟨r, hr, c.trans oI, d.trans oI⟩⟩
    · exact ⟨4, by decide, by decide, a, b, fun z => by omega, fun z => by omega, fun z => by omega, fun z => by omega⟩
    · obtain ⟨s1, s2⟩ := sr_wd r hr
      exact ⟨5 + r, by omega, by omega, b.trans oI, by rw [a, s1]; rfl, fun _ => by rw [c, s2]; exact oI, fun z => by omega, fun z => by omega, fun z => by omega⟩
    · exact ⟨20 + m', by omega, by omega, b.trans oI, by rw [a, sr_sg m' hm]; rfl, fun _ => by rw [c]; exact sgV_sv m' hm, fun z => by omega, fun z => by omega, fun z => by omega⟩
  have kn : ∀ p k : Nat, k ≤ 45 → m.2.2.1 6 p = I (k : Nat) → (m.2.2.1 6 p).toNatClampNeg = k := fun p k hk e => by rw [e]; exact tnI (n := k) rfl (by omega)
  have e6 : m.2.2.1 6 n.i = I ((if bad = true then 45 else 0 : Nat) : Int) := by
    have := h.e6
    rw [r6] at this
    rw [this]
    cases bad <;> rfl
  have ke : (m.2.2.1 6 n.i).toNatClampNeg = (if bad = true then 45 else 0) := kn _ _ (by split <;> decide) e6
  have tkt : TKT (fun p => (m.2.2.1 6 p).toNatClampNeg) n.i := by
    refine ⟨by omega, fun p hp => ?_, ?_⟩
    · obtain ⟨k, k1, k2, k3, -⟩ := one p hp
      show 1 ≤ (m.2.2.1 6 p).toNatClampNeg ∧ (m.2.2.1 6 p).toNatClampNeg ≤ 44
      rw [kn p k (by omega) k3]; exact ⟨k1, k2⟩
    · show (m.2.2.1 6 n.i).toNatClampNeg = 0 ∨ (m.2.2.1 6 n.i).toNatClampNeg = 45
      rw [ke]
      cases bad
      · exact Or.inl rfl
      · exact Or.inr rfl
  refine ⟨⟨⟨tkt, fun p hp => ?_⟩, ⟨tkt, fun p hp => ?_, fun p hp h5 => ?_⟩, nmQ_J, fun j hj k3 => ?_⟩, fun j hj hk => ?_, ke, fun j hj hk => ?_, fun j hj => ?_⟩
  · show m.2.2.1 6 p = I (((m.2.2.1 6 p).toNatClampNeg : Nat) : Int)
    by_cases e : p = n.i
    · rw [e, ke]; exact e6
    · obtain ⟨k, k1, k2, k3, -⟩ := one p (by omega)
      rw [kn p k (by omega) k3]; exact k3
  · show w.2.2.1 6 p = I ((srK (m.2.2.1 6 p).toNatClampNeg : Nat) : Int)
    by_cases e : p = n.i
    · rw [e, ke, h.m6]
      cases bad <;> rfl
    · obtain ⟨k, k1, k2, k3, k4, -⟩ := one p (by omega)
      rw [kn p k (by omega) k3]; exact k4
  · obtain ⟨k, k1, k2, k3, k4, k5, -⟩ := one p hp
    have h5 : 5 ≤ (m.2.2.1 6 p).toNatClampNeg := h5
    show _ = I ((svK (m.2.2.1 6 p).toNatClampNeg : Nat) : Int)
    rw [kn p k (by omega) k3] at h5 ⊢
    exact k5 h5
  · obtain ⟨k, k1, k2, k6, k4, k5, -, -, k9⟩ := one j hj
    have kk : k = 3 := by rw [← kn j k (by omega) k6]; exact k3
    obtain ⟨r, hr, c, d⟩ := k9 kk
    have e7 : (w.2.2.1 7 j).toNatClampNeg = r := by rw [c]; exact tnI (n := r) rfl (by omega)
    show _ = I ((nmQ n.q (w.2.2.1 7 j).toNatClampNeg : Nat) : Int) ∧ _ = I (((w.2.2.1 7 j).toNatClampNeg : Nat) : Int) ∧ (w.2.2.1 7 j).toNatClampNeg < 1400 ∧ (UND w (w.2.2.1 7 j).toNatClampNeg ↔ nmQ n.q (w.2.2.1 7 j).toNatClampNeg = 0)
    rw [e7]
    refine ⟨d, c, by omega, ?_⟩
    obtain ⟨wf, wt, w17, ⟨g1, g2, g3, g4⟩, g5⟩ := h.nmm
    have t16 := wt.2.2.2.1
    have mon := wt.2.2.2.2.1 r hr
    have bnd1 := wt.2.2.2.2.2.1 (r + 1) (by omega)
    have l15 : ln 15 ≤ 100000 := by decide
    have ue : UND w r ↔ n.fr (r + 1) - n.fr r = 1 ∧ w.2.2.1 15 (n.fr r) = 95 := by
      unfold UND
      rw [t16 (r + 1) (by omega), t16 r (by omega), oI, oI, I_sub, tnI (n := n.fr r) rfl (by omega), show (1 : Int32) = I 1 from rfl, I_eq (by omega) (by omega) (by omega) (by omega)]
      constructor
      · rintro ⟨a, b⟩; exact ⟨by omega, b⟩
      · rintro ⟨a, b⟩; exact ⟨by omega, b⟩
    rw [ue]
    by_cases hq : n.q = some r
    · have nq : nmQ n.q r = 0 := by rw [hq]; exact if_pos rfl
      rw [nq]
      obtain ⟨c1, c2⟩ := g1 r hr
      rw [nq, g2.1, g2.2.1] at c1
      have c3 := c2 0 (by omega)
      rw [nq, g2.1] at c3
      refine ⟨fun _ => rfl, fun _ => ⟨by omega, ?_⟩⟩
      rw [show n.fr r = n.fr r + 0 from rfl, c3]
      exact g2.2.2
    · refine ⟨fun z => absurd z (g4 r hr hq), fun z => ?_⟩
      exfalso
      cases hqq : n.q with
      | none => rw [hqq] at z; exact absurd z (Nat.succ_ne_zero _)
      | some x =>
        rw [hqq] at z hq
        have e : nmQ (some x) r = if r = x then 0 else if r < x then r + 1 else r := rfl
        rw [e, if_neg (fun y => hq (by rw [y]))] at z
        by_cases y : r < x
        · rw [if_pos y] at z; omega
        · rw [if_neg y] at z
          exact hq (by rw [show r = x by omega])
  · obtain ⟨k, k1, k2, k6, k4, k5, k7, -⟩ := one j hj
    have kk : (m.2.2.1 6 j).toNatClampNeg = k := kn j k (by omega) k6
    have hk : (m.2.2.1 6 j).toNatClampNeg = 1 ∨ (m.2.2.1 6 j).toNatClampNeg = 2 := hk
    rw [kk] at hk
    exact k7 hk
  · obtain ⟨k, k1, k2, k6, k4, k5, k7, k8, -⟩ := one j hj
    exact k8 (by rw [← kn j k (by omega) k6]; exact hk)
  · by_cases e : j = n.i
    · rw [e, ← r8]; exact h.e8
    · rw [← r8]; exact (h.tk j (by omega)).2
end
