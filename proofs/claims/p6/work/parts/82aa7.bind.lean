section
variable {α : Type} {Q : MS → α → Prop} {u0 u v w : MS} {N σ TN SN : Nat} {bw : Nat → Nat} {p o n q c f h s wt g t x y k nm m : Int}
def BND (nm : Int) (σ : Nat) (u v : MS) : Prop := FR [66] [] [59, 60, 64] [] u v ∧ KPR σ u v ∧ SCP nm σ v ∧ A v 60 σ = A u 60 σ + 1 ∧ (F v 66 = 0 → A v 60 σ ≤ 40) ∧ (F v 66 = F u 66 ∨ F v 66 = 1)
theorem isK64 : isK 64 4 = true := by decide
theorem isK35 : isK 35 4 = true := by decide
theorem bind_ok (hs : SCP nm σ u) (h65 : F u 65 = σ) (hσ : σ ≤ 26) (hnm : nm ≤ 1342) (hx : 0 ≤ x ∧ x < nm) (hb : ∀ j : Nat, (j : Int) < A u 60 σ → A u 59 (1400 * σ + j) ≠ x) : OK (fun v r => r = I (A u 60 σ) ∧ BND nm σ u v) (fm_M_bind N u (I x)) := by
  have sm := SCP_many hs (Nat.le_refl σ)
  obtain ⟨⟨s1, s2, s3, s4⟩, s5, s6, s7⟩ := hs σ (Nat.le_refl σ)
  have s8 : A u 64 σ < 2147483648 := (A_r u 64 _).2
  obtain ⟨m0, hm0⟩ : ∃ m0 : Nat, A u 60 σ = m0 := ⟨(A u 60 σ).toNat, by omega⟩
  unfold fm_M_bind fb_M_bind_0 fb_M_bind_87 fb_M_bind_107
  simp only [lt_e]
  rw [I_F' h65]
  have e65 : ∀ v : MS, v.1 = u.1 → v.1 65 = I σ := fun v hv => by rw [hv]; exact I_F' h65
  have ts : (I (σ : Int)).toNatClampNeg = σ := by rw [I_tn (by omega) (by omega)]; omega
  have ti : (I (1400 * (σ : Int) + m0)).toNatClampNeg = 1400 * σ + m0 := by rw [I_tn (by omega) (by omega)]; omega
  refine k_in (k := 60) (n := 27) rfl (by decide) (by omega) ?_
  rw [ts, show (1400 : Int32) = I 1400 from rfl, I_mul, I_A' hm0, I_add, ti]
  refine k_in (k := 59) (n := 37800) rfl (by decide) (by omega) ?_
  rw [wa_e]
  rw [e65 (wa u 59 (1400 * σ + m0) x) rfl, ts]
  refine k_in (k := 60) (n := 27) rfl (by decide) (by omega) (k_in (k := 60) (n := 27) rfl (by decide) (by omega) ?_)
  rw [show (wa u 59 (1400 * σ + m0) x).2.2.1 60 σ = u.2.2.1 60 σ from rfl, I_A' hm0, lit1q, I_add, wa_e]
  have q60 : A (wa (wa u 59 (1400 * σ + m0) x) 60 σ ((m0 : Int) + 1)) 60 σ = (m0 : Int) + 1 := wa_eq ⟨by omega, by omega⟩
  have q64 : A (wa (wa u 59 (1400 * σ + m0) x) 60 σ ((m0 : Int) + 1)) 64 σ = A u 64 σ := rfl
  have q65 : (wa (wa u 59 (1400 * σ + m0) x) 60 σ ((m0 : Int) + 1)).1 65 = I σ := e65 _ rfl
  have fr1 : FR [66] [] [59, 60, 64] [] u (wa (wa u 59 (1400 * σ + m0) x) 60 σ ((m0 : Int) + 1)) := FR.wa (FR.wa FR.rf (by decide)) (by decide)
  have q59 : ∀ j, A (wa (wa u 59 (1400 * σ + m0) x) 60 σ ((m0 : Int) + 1)) 59 j = if j = 1400 * σ + m0 then x else A u 59 j := fun j => by rw [wa_rne (by decide), A_wa (by omega) (by omega), if_pos rfl]
  have q60' : ∀ j, A (wa (wa u 59 (1400 * σ + m0) x) 60 σ ((m0 : Int) + 1)) 60 j = if j = σ then (m0 : Int) + 1 else A u 60 j := fun j => by rw [A_wa (by omega) (by omega), if_pos rfl, wa_rne (by decide)]
  have qr : ∀ r j, r ∉ [59, 60] → A (wa (wa u 59 (1400 * σ + m0) x) 60 σ ((m0 : Int) + 1)) r j = A u r j := fun r j hr => by rw [wa_rne (fun z => hr (by rw [z]; decide)), wa_rne (fun z => hr (by rw [z]; decide))]
  have q66 : ∀ k, F (wa (wa u 59 (1400 * σ + m0) x) 60 σ ((m0 : Int) + 1)) k = F u k := fun k => rfl
  generalize wa (wa u 59 (1400 * σ + m0) x) 60 σ ((m0 : Int) + 1) = w4 at *
  rw [q65, ts]
  refine k_in (k := 60) (n := 27) rfl (by decide) (by omega) (k_in (k := 64) (n := 27) rfl (by decide) (by omega) ?_)
  rw [I_A' q60, I_A' q64, isK64, ck_t, ck_t]
  have fin : ∀ z : Int, A u 64 σ ≤ z → (m0 : Int) + 1 ≤ z → z ≤ 1400 → OK (fun v r => r = I (m0 : Int) ∧ BND nm σ u v) (ck (inb (I (σ : Int)) (ln 64)) (ck (inb ((wa w4 64 σ z).1 65) (ln 64)) (br (decide ((wa w4 64 σ z).2.2.1 64 ((wa w4 64 σ z).1 65).toNatClampNeg ≤ 40)) (ck (inb ((wa w4 64 σ z).1 65) (ln 60)) (some (wa w4 64 σ z, (wa w4 64 σ z).2.2.1 60 ((wa w4 64 σ z).1 65).toNatClampNeg - I 1))) (ck (inb ((upI (wa w4 64 σ z) 66 (I 1)).1 65) (ln 60)) (some (upI (wa w4 64 σ z) 66 (I 1), (upI (wa w4 64 σ z) 66 (I 1)).2.2.1 60 ((upI (wa w4 64 σ z) 66 (I 1)).1 65).toNatClampNeg - I 1)))))) := fun z z1 z2 z3 => by
    have r64 : ∀ j, A (wa w4 64 σ z) 64 j = if j = σ then z else A u 64 j := fun j => by rw [A_wa (by omega) (by omega), if_pos rfl, qr 64 j (by decide)]
    have rr : ∀ r j, r ≠ 64 → A (wa w4 64 σ z) r j = A w4 r j := fun r j hr => wa_rne hr
    have r65 : (wa w4 64 σ z).1 65 = I σ := q65
    have sc : SCP nm σ (wa w4 64 σ z) := by
      intro i hi
      obtain ⟨⟨v1, v2, v3, v4⟩, v5, v6, v7⟩ := hs i hi
      have y60 : ∀ j, A (wa w4 64 σ z) 60 j = if j = σ then (m0 : Int) + 1 else A u 60 j := fun j => by rw [rr 60 j (by decide), q60']
      have y59 : ∀ j, A (wa w4 64 σ z) 59 j = if j = 1400 * σ + m0 then x else A u 59 j := fun j => by rw [rr 59 j (by decide), q59]
      have y63 : ∀ j, A (wa w4 64 σ z) 63 j = A u 63 j := fun j => by rw [rr 63 j (by decide), qr 63 j (by decide)]
      have y62 : ∀ j, A (wa w4 64 σ z) 62 j = A u 62 j := fun j => by rw [rr 62 j (by decide), qr 62 j (by decide)]
      have im := SCP_many hs hi
      rw [y60 i, y63 i, r64 i]
      refine ⟨?_, fun j hj => ?_, v6, fun j hj hi0 => ?_⟩
      · by_cases e : i = σ
        · rw [if_pos e, if_pos e]; omega
        · rw [if_neg e, if_neg e]; exact ⟨v1, v2, v3, v4⟩
      · by_cases e : i = σ
        · rw [if_pos e] at hj
          rw [y59, e]
          by_cases e2 : j = m0
          · rw [if_pos (by omega)]
            refine ⟨hx.1, hx.2, fun b hb2 => ?_⟩
            rw [y59, if_neg (by omega)]
            exact hb b (by omega)
          · rw [if_neg (by omega)]
            have := s5 j (by omega)
            refine ⟨this.1, this.2.1, fun b hb2 => ?_⟩
            rw [y59, if_neg (by omega)]
            exact this.2.2 b hb2
        · rw [if_neg e] at hj
          rw [y59, if_neg (by omega)]
          refine ⟨(v5 j hj).1, (v5 j hj).2.1, fun b hb2 => ?_⟩
          rw [y59, if_neg (by omega)]
          exact (v5 j hj).2.2 b hb2
      · rw [y62, y60, y63, if_neg (by omega)]
        exact v7 j hj hi0
    have kp : KPR σ u (wa w4 64 σ z) := by
      refine KPR_sc (FR.mo (FR.wa fr1 (by decide)) (by decide) (by decide) (by decide) (by decide)) (fun i j hi hj => ?_) (fun r i j hr _ _ => ?_) (fun i hi => ?_) (fun i hi => ?_) (fun z => by rw [← q66]; exact z)
      · rw [rr 59 _ (by decide), q59, if_neg]
        intro e
        have im := SCP_many hs hi
        have i1 := (hs i hi).1
        have : i = σ ∧ j = m0 := by omega
        rw [this.1, this.2, hm0] at hj
        omega
      · have : ∀ r, r ∈ [61, 62] → r ≠ 64 ∧ r ∉ [59, 60] := by decide
        rw [rr r _ (this r hr).1, qr r _ (this r hr).2]
      · rw [rr 60 _ (by decide), q60', if_neg (by omega)]
      · rw [rr 60 _ (by decide), q60', rr 63 _ (by decide), qr 63 _ (by decide), r64]
        by_cases e : i = σ
        · rw [if_pos e, if_pos e, e, hm0]; omega
        · rw [if_neg e, if_neg e]; exact ⟨Int.le_refl _, Int.le_refl _, Int.le_refl _⟩
    have fr : FR [66] [] [59, 60, 64] [] u (wa w4 64 σ z) := FR.wa fr1 (by decide)
    have a60 : A (wa w4 64 σ z) 60 σ = (m0 : Int) + 1 := by rw [rr 60 _ (by decide)]; exact q60
    have a64 : A (wa w4 64 σ z) 64 σ = z := by rw [r64, if_pos rfl]
    have f66 : F (wa w4 64 σ z) 66 = F u 66 := q66 66
    generalize wa w4 64 σ z = w5 at *
    refine k_in (k := 64) (n := 27) rfl (by decide) (by omega) ?_
    rw [r65, ts, I_A' a64]
    refine k_in (k := 64) (n := 27) rfl (by decide) (by omega) ?_
    rw [show (40 : Int32) = I 40 from rfl]
    refine k_le ⟨by omega, by omega⟩ ⟨by decide, by decide⟩ (fun e => ?_) (fun e => ?_)
    · refine k_in (k := 60) (n := 27) rfl (by decide) (by omega) (ok_some.mpr ⟨?_, fr, kp, sc, by rw [hm0]; exact a60, fun _ => by omega, Or.inl f66⟩)
      rw [I_A' a60, I_sub, show (m0 : Int) + 1 - 1 = m0 from by omega]
    · rw [show upI w5 66 (I 1) = wi w5 66 1 from rfl, show (wi w5 66 1).1 65 = w5.1 65 from rfl, r65, ts, show (wi w5 66 1).2.2.1 60 σ = w5.2.2.1 60 σ from rfl]
      have f1 : F (wi w5 66 1) 66 = 1 := wi_eq ⟨by decide, by decide⟩
      have fw : FR [66] [] [] [] w5 (wi w5 66 1) := FR.wi FR.rf (by decide)
      refine k_in (k := 60) (n := 27) rfl (by decide) (by omega) (ok_some.mpr ⟨?_, FR.wi fr (by decide), KPR_tr kp (KPR_sc (FR.mo fw (by decide) (by decide) (by decide) (by decide)) (fun _ _ _ _ => rfl) (fun _ _ _ _ _ _ => rfl) (fun _ _ => rfl) (fun _ _ => ⟨Int.le_refl _, Int.le_refl _, Int.le_refl _⟩) (fun z => by omega)), SCP_fr sc fw (by decide), by rw [hm0]; exact a60, fun z => by omega, Or.inr f1⟩)
      rw [I_A' a60, I_sub, show (m0 : Int) + 1 - 1 = m0 from by omega]
  rw [hm0]
  refine k_le ⟨by omega, by omega⟩ (ARG1 u 64 σ) (fun e => ?_) (fun e => ?_)
  · refine k_in (k := 64) (n := 27) rfl (by decide) (by omega) ?_
    rw [wa_e]
    exact fin (A u 64 σ) (Int.le_refl _) e (hs σ (Nat.le_refl σ)).1.2.2.2.2
  · refine k_in (k := 60) (n := 27) rfl (by decide) (by omega) ?_
    rw [wa_e]
    exact fin ((m0 : Int) + 1) (by omega) (Int.le_refl _) (by omega)
end
