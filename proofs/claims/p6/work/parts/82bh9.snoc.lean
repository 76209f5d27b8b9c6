set_option maxRecDepth 100000
section
variable {m0 w0 m w v u m2 m3 mi : MS} {K nm Nk W W2 : Nat → Nat} {T p n N q q2 X X2 n2 n3 ni li lo p2 ν μ Λ : Nat} {sc sc1 sc2 sc3 t : SCT} {own : Bool} {l : List Nat}
theorem PTN_w (h : ∀ j, p ≤ j → j < p2 → W2 j = W j) (q : PTN N K nm m2 lo n2 ν own p p2 sc sc2 X W) : PTN N K nm m2 lo n2 ν own p p2 sc sc2 X W2 := fun d m3 cm a b c e f g => by
  rw [wup_w h]
  exact q d m3 cm a b c e f g
theorem PRW_w : ∀ {l : List Nat} {p p2 : Nat} {sc sc2 : SCT} {X : Nat}, (∀ j, p ≤ j → j < p2 → W2 j = W j) → PRW N K nm m2 lo n2 own W l p p2 sc sc2 X → PRW N K nm m2 lo n2 own W2 l p p2 sc sc2 X
  | [], _, _, _, _, _, _, h => h
  | ν :: l, p, p2, sc, sc2, X, hw, ⟨q, q2, sc1, X1, X2, h1, g1, ⟨mi, li, ni, h2, h2b⟩, h3, h4, h5, h6, h7⟩ => by
    have := (PRW_len h6).1
    exact ⟨q, q2, sc1, X1, X2, h1, g1, ⟨mi, li, ni, PTN_w (fun j a b => hw j (by omega) (by omega)) h2, h2b⟩, h3, h4, h5, PRW_w (fun j a b => hw j (by omega) b) h6, h7⟩
theorem PRW_hd : ∀ {l : List Nat} {p p2 : Nat} {sc sc2 : SCT} {X : Nat}, PRW N K nm m2 lo n2 own W l p p2 sc sc2 X → l ≠ [] → l.headD 0 ≤ l.getLastD 0 ∧ 1 ≤ l.headD 0 ∧ l.getLastD 0 ≤ n2
  | [], _, _, _, _, _, _, h => absurd rfl h
  | [ν], _, _, _, _, _, ⟨_, _, _, _, _, _, _, _, h3, _⟩, _ => ⟨Nat.le_refl _, h3.1, h3.2⟩
  | ν :: μ :: l, p, p2, sc, sc2, X, ⟨q, q2, sc1, X1, X2, h1, g1, ⟨mi, li, ni, h2, hx, a, b, c⟩, h3, h4, h5, h6, h7⟩, _ => by
    obtain ⟨r1, r2, r3⟩ := PRW_hd h6 (fun z => by cases z)
    have r1 : μ ≤ (μ :: l).getLastD 0 := r1
    have c : ni < μ := c (fun z => by cases z)
    refine ⟨?_, h3.1, r3⟩
    show ν ≤ (μ :: l).getLastD 0
    omega
theorem PRW_up {y : Nat} (hn : n2 ≤ n3) (hk : Kcc m2 m3) : ∀ {l : List Nat} {p p2 : Nat} {sc sc2 : SCT} {X : Nat}, (∀ j, j ≤ n2 → nod m3 j = nod m2 j ∧ (j ≠ l.getLastD 0 → m3.2.2.1 21 j = m2.2.2.1 21 j)) → m3.2.2.1 21 (l.getLastD 0) = I (y : Nat) → PRW N K nm m2 lo n2 own W l p p2 sc sc2 X → ∀ {q : Nat} {sc3 : SCT} {Y : Nat} {l2 : List Nat}, l ≠ [] → (l2.headD 0 = y) → (l2 ≠ [] → n2 < y) → PRW N K nm m3 lo n3 own W l2 p2 q sc2 sc3 Y → PRW N K nm m3 lo n3 own W (l ++ l2) p q sc sc3 (max X Y)
  | [], _, _, _, _, _, _, _, _, _, _, _, _, h, _, _, _ => absurd rfl h
  | [ν], p, p2, sc, sc2, X, hs, hy, ⟨q, q2, sc1, X1, X2, h1, g1, ⟨mi, li, ni, h2, hx, a, b, c⟩, h3, h4, h5, h6, h7⟩, qq, sc3, Y, l2, _, hl2, hy2, hr => by
    obtain ⟨z1, z2, z3⟩ := h6
    subst z1
    subst z2
    subst z3
    obtain ⟨r1, r2, r3⟩ := PRW_len hr
    refine ⟨q, q2, sc2, X1, Y, ⟨h1.1, h1.2.1, r1⟩, g1, ⟨mi, li, ni, h2, ⟨fun j h0 hj => ⟨(hs j (by omega)).1.trans (hx.1 j h0 hj).1, fun z => ((hs j (by omega)).2 z).trans ((hx.1 j h0 hj).2 z)⟩, Kc_tr hx.2 hk⟩, ⟨a.1, by omega⟩, b, fun z => ?_⟩, ⟨h3.1, by omega⟩, ?_, h5, hr, ?_⟩
    · show ni < l2.headD 0
      rw [hl2]; have := hy2 z; omega
    · show m3.2.2.1 21 ν = I ((l2.headD 0 : Nat) : Int)
      rw [hl2]; exact hy
    · rw [h7]; omega
  | ν :: μ :: l, p, p2, sc, sc2, X, hs, hy, ⟨q, q2, sc1, X1, X2, h1, g1, ⟨mi, li, ni, h2, hx, a, b, c⟩, h3, h4, h5, h6, h7⟩, qq, sc3, Y, l2, _, hl2, hy2, hr => by
    obtain ⟨r1, r2, r3⟩ := PRW_len hr
    obtain ⟨d1, d2, d3⟩ := PRW_hd h6 (fun z => by cases z)
    have d1 : μ ≤ (μ :: l).getLastD 0 := d1
    have c2 : ni < μ := c (fun z => by cases z)
    have hs : ∀ j, j ≤ n2 → nod m3 j = nod m2 j ∧ (j ≠ (μ :: l).getLastD 0 → m3.2.2.1 21 j = m2.2.2.1 21 j) := hs
    have hy : m3.2.2.1 21 ((μ :: l).getLastD 0) = I (y : Nat) := hy
    have ih := PRW_up hn hk hs hy h6 (fun z => by cases z) hl2 hy2 hr
    refine ⟨q, q2, sc1, X1, max X2 Y, ⟨h1.1, h1.2.1, by omega⟩, g1, ⟨mi, li, ni, h2, ⟨fun j h0 hj => ⟨(hs j (by omega)).1.trans (hx.1 j h0 hj).1, fun z => ((hs j (by omega)).2 (by omega)).trans ((hx.1 j h0 hj).2 z)⟩, Kc_tr hx.2 hk⟩, ⟨a.1, by omega⟩, b, fun _ => c2⟩, ⟨h3.1, by omega⟩, ?_, h5, ih, ?_⟩
    · show m3.2.2.1 21 ν = I (μ : Nat)
      rw [(hs ν h3.2).2 (by omega)]
      exact h4
    · rw [h7]; omega
theorem PRW_1 (h : PTN N K nm m2 lo n2 ν own q q2 sc sc2 X W) (hq : q ≤ q2) (hν : 1 ≤ ν ∧ ν ≤ n2) (hlo : lo < ν) (h21 : m2.2.2.1 21 ν = 0) (ht : tot sc2 ≤ tot sc + (q2 - q)) (hl : sc2.length = sc.length) : PRW N K nm m2 lo n2 own W [ν] q q2 sc sc2 X := ⟨q, q2, sc2, X, 0, ⟨Nat.le_refl _, hq, Nat.le_refl _⟩, fun j a b => absurd b (by omega), ⟨m2, lo, n2, h, ⟨fun _ _ _ => ⟨rfl, fun _ => rfl⟩, Kc_rf⟩, ⟨Nat.le_refl _, Nat.le_refl _⟩, ⟨hlo, hν.2⟩, fun z => absurd rfl z⟩, hν, h21, ⟨ht, hl⟩, ⟨rfl, rfl, rfl⟩, by omega⟩
theorem PRW_snoc {Y : Nat} (hk : Kcc m2 m3) (hl : l ≠ []) (hs : ∀ j, j ≤ n2 → nod m3 j = nod m2 j ∧ (j ≠ l.getLastD 0 → m3.2.2.1 21 j = m2.2.2.1 21 j)) (hy : m3.2.2.1 21 (l.getLastD 0) = I (μ : Nat)) (h : PRW N K nm m2 lo n2 own W l p p2 sc sc2 X) (hg : ∀ j, p2 ≤ j → j < q → K j ≠ 3) (hq : p2 ≤ q ∧ q ≤ q2) (hp : PTN N K nm mi li ni μ own q q2 sc2 sc3 Y W) (hx : KPX li ni μ mi m3) (hμ : n2 < μ ∧ μ ≤ ni ∧ ni ≤ n3) (hli : lo ≤ li ∧ li < μ) (h21 : m3.2.2.1 21 μ = 0) (ht : tot sc3 ≤ tot sc2 + (q2 - q)) (hln : sc3.length = sc2.length) : PRW N K nm m3 lo n3 own W (l ++ [μ]) p q2 sc sc3 (max X Y) := by
  refine PRW_up (y := μ) (by omega) hk hs hy h hl rfl (fun _ => hμ.1) ?_
  exact ⟨q, q2, sc3, Y, 0, ⟨hq.1, hq.2, Nat.le_refl _⟩, hg, ⟨mi, li, ni, hp, hx, ⟨hli.1, hμ.2.2⟩, ⟨hli.2, hμ.2.1⟩, fun z => absurd rfl z⟩, ⟨by omega, by omega⟩, h21, ⟨ht, hln⟩, ⟨rfl, rfl, rfl⟩, by omega⟩
end
