/-! rows of the reader above its marks may change in a stretch -/
set_option maxRecDepth 100000
section
variable {m0 w0 m w m2 w2 m3 w3 v u : MS} {K nm Nk W : Nat → Nat} {N T a b cm cm2 q r lo hi p : Nat} {Q Q2 : Nat → Nat} {sc sc2 : SCT} {g : Bool} {L : List Nat}
theorem XTF_rw (h : XTF m0 w0 K T nm Nk g L lo hi a b cm cm2 q r Q Q2 sc sc2 m w m2 w2) (hv1 : v.1 = w2.1) (hv2 : ∀ k n, (k < 23 ∨ 58 < k ∨ grp k = 0 ∨ n < Q (grp k)) → v.2.2.1 k n = w2.2.2.1 k n) (hv3 : v.2.2.2 = w2.2.2.2) : XTF m0 w0 K T nm Nk g L lo hi a b cm cm2 q r Q Q2 sc sc2 m w m2 v := by
  obtain ⟨a1, a2, a3, a4, a5, a7, a8, a9, a10⟩ := h
  refine ⟨a1, a2, ⟨⟨PRS_x a3.1.1 (fun k _ => by rw [hv1]) (fun k hk => funext (fun n => hv2 k n (by omega))) (by rw [hv1]; exact a3.1.1.2.1.1), fun k hk => by rw [hv1]; exact a3.1.2 k hk⟩, a3.2⟩, a4, a5, a7, ⟨⟨fun k z1 z2 z3 => ?_, fun k n z1 z2 => ?_, fun k n z => ?_⟩, a8.2⟩, a9, a10⟩
  · rw [funext (fun n => hv2 k n (Or.inr (Or.inr (Or.inl z1))))]
    exact a8.1.1 k z1 z2 z3
  · rw [hv2 k n (Or.inr (Or.inr (Or.inr z2)))]
    exact a8.1.2.1 k n z1 z2
  · rw [hv3]; exact a8.1.2.2 k n z
/-- only numbers of the reader change, tokens are passed -/
theorem XTF_mv (h : XTF m0 w0 K T nm Nk g L lo p a b cm cm2 q r Q Q2 sc sc2 m w m2 w2) (hX : XRS w0 T v hi Q2 sc2) (hv : v.2 = w2.2) (hl : p ≤ hi) (gap : ∀ j, p ≤ j → j < hi → K j ≠ 3) : XTF m0 w0 K T nm Nk g L lo hi a b cm cm2 q r Q Q2 sc sc2 m w m2 v := by
  obtain ⟨a1, a2, a3, a4, ⟨W, a5, a6⟩, a7, a8, a9, a10⟩ := h
  obtain ⟨v1, vr⟩ := v
  have hv : vr = w2.2 := hv
  subst hv
  refine ⟨⟨by omega, a1.2⟩, a2, ⟨hX, a3.2⟩, by omega, ⟨W, HDx_tr a1.1 hl a5 (HDx_gap gap), ?_⟩, a7, ⟨QRR_e a8.1 rfl rfl, a8.2⟩, a9, a10⟩
  rw [a6, ← wup_tr (p := lo) (q := p) (p2 := hi) a1.1 hl, wup_0 (p := p) gap]
theorem XTF_ad (h : XTF m0 w0 K T nm Nk g L lo p a b cm cm2 q r Q Q2 sc sc2 m w m2 w2) (hl : p < T) (hk : K p ≠ 3) : XTF m0 w0 K T nm Nk g L lo (p + 1) a b cm cm2 q r Q Q2 sc sc2 m w m2 (adv w2 p) := XTF_mv h (XRS_ad h.2.2.1.1 hl) rfl (Nat.le_succ _) (fun j a b => by rw [show j = p by omega]; exact hk)
/-- nothing yet -/
theorem XTF_rf (hC : XCS m0 nm m a cm sc g) (hR : XRS w0 T w lo Q sc) (hq : Q 56 = q) : XTF m0 w0 K T nm Nk g [] lo lo a a cm cm q q Q Q sc sc m w m w := ⟨⟨Nat.le_refl _, Nat.le_refl _, Nat.le_refl _, Nat.le_refl _⟩, hC, ⟨hR, hq⟩, by omega, ⟨fun _ => 0, HDx_gap (fun j a b => by omega), by rw [wup_0 (fun j a b => by omega)]⟩, XFC_rf, XFR_rf, fun _ => rfl, fun n hn => (by cases hn)⟩
end
