/-! a part's beginning as a stretch -/
set_option maxRecDepth 100000
section
variable {m0 w0 m w v : MS} {K nm Nk : Nat → Nat} {T a cm q p i j : Nat} {Q : Nat → Nat} {sc : SCT} {g : Bool}
/-- one mark more, rows above it -/
theorem XTF_st (hC : XCS m0 nm m a cm sc g) (hq : Q 56 = q) (hj : j ∈ [32, 39, 46, 58]) (hi : Q j ≤ i) (hV : XRS w0 T v p (qst Q j i) sc) (hQ : QRR Q w v) : XTF m0 w0 K T nm Nk g [] p p a a cm cm q q Q (qst Q j i) sc sc m w m v := by
  have n : ∀ k, k ∉ [32, 39, 46, 58] → qst Q j i k = Q k := fun k hk => qst_no (fun z => hk (by rw [z]; exact hj))
  exact ⟨⟨Nat.le_refl _, Nat.le_refl _, Nat.le_refl _, Nat.le_refl _⟩, hC, ⟨hV, by rw [n 56 (by decide)]; exact hq⟩, by omega, ⟨fun _ => 0, HDx_gap (fun j a b => by omega), by rw [wup_0 (fun j a b => by omega)]⟩, XFC_rf, ⟨hQ, QLE_st QLE_rf hi, n 75 (by decide), n 77 (by decide), n 83 (by decide)⟩, fun _ => rfl, fun n hn => (by cases hn)⟩
end
