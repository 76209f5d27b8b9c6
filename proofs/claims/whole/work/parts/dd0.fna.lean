/-! FUNCTIONS, both: what the CLAUSES so far do -/
set_option maxRecDepth 100000
/-- the CLAUSES of a FUNCTION so far: k1 the first, kl the last -/
def FNA (w0 : MS) (fof cvr : Int → Int → Int) (a0 a q0 q k1 kl cm : Nat) (Q0 Q : Nat → Nat) (m w : MS) : Prop := ∀ (C : Nat → Int) (P R : Nat → Nat → Int) (J : Nat → Int64), FNx w0 fof cvr C P R J m w a0 a q0 q Q0 Q false [] [] [kl] → cm ≤ 40 → (∀ u, q0 ≤ u → u < q → FUX C P R J u) ∧ ((∃ f, ZRs C R J (CRs C R J f) 0 0 [] [] f a (R 45 kl)) → ∃ f, ZRs C R J (CRs C R J f) 0 0 [] [] f a0 ((k1 : Nat) : Int))
/-- between two CLAUSES of FUNCTION f -/
def FNI (m0 w0 : MS) (T : Nat) (nm : Nat → Nat) (fof cvr : Int → Int → Int) (f a0 q0 : Nat) (Q0 : Nat → Nat) (mS wS : MS) (last : Option Nat) (m w : MS) (p a cm q : Nat) (Q : Nat → Nat) (sc : SCT) : Prop := XCS m0 nm m a cm [([], [], 0)] false ∧ (XRn w0 T w p Q ∧ Q 56 = q) ∧ (a0 ≤ a ∧ q0 ≤ q ∧ QLE Q0 Q) ∧ XFC mS m a0 q0 q 0 ∧ ((∀ k n, grp k ≠ 0 → n < Q0 (grp k) → w.2.2.1 k n = wS.2.2.1 k n) ∧ ∀ n, n < Q0 39 → w.2.2.2 34 n = wS.2.2.2 34 n) ∧ (w.1 52 = wS.1 52 ∧ ∀ k n, 47 ≤ k → k ≤ 50 → n ≠ f → w.2.2.1 k n = wS.2.2.1 k n) ∧ ((last = none ∧ a = a0 ∧ q = q0 ∧ Q = Q0) ∨ ∃ k1 kl : Nat, last = some kl ∧ (Q0 46 ≤ kl ∧ kl < Q 46 ∧ kl < 16000 ∧ k1 < 16000) ∧ (w.2.2.1 50 f = I (k1 : Nat) ∧ w.2.2.1 48 f = m0.2.2.1 25 f ∧ w.2.2.1 45 kl = -1) ∧ FNA w0 fof cvr a0 a q0 q k1 kl cm Q0 Q m w)
section
variable {m0 w0 m w m2 w2 m3 w3 w6 v u mS wS : MS} {K nm Nk W : Nat → Nat} {N T f p lo hi q r k n k0 k1 kl i a a0 b cm cm2 q0 : Nat} {Q Q0 Q2 : Nat → Nat} {sc sc2 : SCT} {fof cvr : Int → Int → Int}
theorem HNX_0 (h : (hdS sc).2.1 = []) (hc : cm ≤ 40) : HNX nm sc cm [] := ⟨⟨by rw [h]; exact List.prefix_rfl, by decide⟩, List.nodup_nil, hc⟩
theorem FNA_0 (h : CLM w0 nm fof cvr a b cm2 q r k0 Q Q2 sc2 m2 w2) (hh : (hdS sc2).2.1 = []) (hw : ∀ k n, grp k ≠ 0 → w6.2.2.1 k n = w2.2.2.1 k n) (hj : w6.2.2.2 = w2.2.2.2) : FNA w0 fof cvr a b q r k0 k0 cm2 Q Q2 m2 w6 := fun C P R J fi hc => by
  have f1 : FNx w0 fof cvr C P R J m2 w2 a b q r Q Q2 false [] [] [k0] := FNx_mo fi ⟨Nat.le_refl _, Nat.le_refl _⟩ ⟨Nat.le_refl _, Nat.le_refl _⟩ QLE_rf QLE_rf (fun _ _ _ _ => rfl) (fun _ _ _ _ _ _ => rfl) (fun k n g0 _ _ _ _ _ => hw k n g0) (fun n _ _ => by rw [hj]) (fun n _ _ => by rw [show A w6 30 n = A w2 30 n from congrArg Int32.toInt (hw 30 n (by decide))]) (fun j hm _ _ => hm) (fun j hm _ _ => hm)
  exact h C P R J [] false f1 (HNX_0 hh hc)
theorem FNA_1 (old : FNA w0 fof cvr a0 a q0 q k1 kl cm Q0 Q m w) (h : CLM w0 nm fof cvr a b cm2 q r k0 Q Q2 sc2 m2 w2) (hh : (hdS sc2).2.1 = []) (hcm : cm ≤ cm2) (ha : a0 ≤ a ∧ a ≤ b) (hq : q0 ≤ q ∧ q ≤ r) (l1 : QLE Q0 Q) (l2 : QLE Q Q2) (hx : XFC m m2 a q r 0) (hw : ∀ k n, grp k ≠ 0 → (k = 45 → n ≠ kl) → w6.2.2.1 k n = w2.2.2.1 k n) (hj : w6.2.2.2 = w2.2.2.2) (hw2 : ∀ k n, grp k ≠ 0 → n < Q (grp k) → w2.2.2.1 k n = w.2.2.1 k n) (hj2 : ∀ n, n < Q 39 → w2.2.2.2 34 n = w.2.2.2 34 n) (hkl : Q0 46 ≤ kl ∧ kl < Q 46) (hk0 : Q 46 ≤ k0 ∧ k0 < Q2 46 ∧ k0 < 16000) (h45 : w6.2.2.1 45 kl = I (k0 : Nat)) : FNA w0 fof cvr a0 b q0 r k1 k0 cm2 Q0 Q2 m2 w6 := fun C P R J fi hc => by
  have f1 : FNx w0 fof cvr C P R J m2 w2 a b q r Q Q2 false [] [] [k0] := FNx_mo fi ⟨ha.1, Nat.le_refl _⟩ ⟨hq.1, Nat.le_refl _⟩ l1 QLE_rf (fun _ _ _ _ => rfl) (fun _ _ _ _ _ _ => rfl) (fun k n g0 _ _ n1 _ _ => hw k n g0 (fun e => by
    subst e
    have n1 : Q 46 ≤ n := n1
    omega)) (fun n _ _ => by rw [hj]) (fun n _ _ => by rw [show A w6 30 n = A w2 30 n from congrArg Int32.toInt (hw 30 n (by decide) (fun e => by cases e))]) (fun j hm _ _ => hm) (fun j hm _ _ => hm)
  have f0 : FNx w0 fof cvr C P R J m w a0 a q0 q Q0 Q false [] [] [kl] := FNx_mo fi ⟨Nat.le_refl _, ha.2⟩ ⟨Nat.le_refl _, hq.2⟩ QLE_rf l2 (fun j _ z _ => hx.2.2.1 j z) (fun k u z1 z2 _ z4 => hx.2.2.2.1 k u z1 z2 (Or.inl z4)) (fun k n g0 _ _ _ n2 n3 => by rw [hw k n g0 (fun e => by have := n3 e; simpa using this)]; exact hw2 k n g0 n2) (fun n _ n2 => by rw [hj]; exact hj2 n n2) (fun n _ n2 => by rw [show A w6 30 n = A w 30 n from congrArg Int32.toInt ((hw 30 n (by decide) (fun e => by cases e)).trans (hw2 30 n (by decide) n2))]) (fun j hm _ _ => (by cases hm)) (fun j hm _ j2 => by
    have : j = k0 := by simpa using hm
    omega)
  obtain ⟨n1, n2⟩ := h C P R J [] false f1 (HNX_0 hh hc)
  obtain ⟨o1, o2⟩ := old C P R J f0 (by omega)
  have r45 : R 45 kl = ((k0 : Nat) : Int) := by
    have hne : kl ∉ [k0] := fun y => by
      have := List.mem_singleton.mp y
      omega
    have lt2 : kl < Q2 46 := by omega
    rw [fi.2.2.2.1.1 45 kl (by decide) (by decide) (by decide) (by decide) (by decide) hkl.1 lt2 (fun _ => hne)]
    show (w6.2.2.1 45 kl).toInt = _
    rw [h45]
    exact I_ti (by omega) (by omega)
  refine ⟨fun u u1 u2 => ?_, fun hz => o2 ?_⟩
  · by_cases z : u < q
    · exact o1 u u1 z
    · exact n1 u (by omega) u2
  · rw [r45]
    exact n2 hz
end
