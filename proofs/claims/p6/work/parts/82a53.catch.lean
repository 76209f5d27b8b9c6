section
variable {Fv : Int64 → Int64 → Prop} {P : Int64 → Prop} {u v w w2 : MS} {PR N p n n2 opM bnM bxM bx2 ND fr k tp mu CN PN SN UN FN rq q m h mm : Nat} {ow kd ow2 kd2 ro rn rh cb pc ct pM pE : Nat → Nat} {T : TY} {C : CY}
theorem cb_le (h : FRS w T ND p fr ro rn rh cb pc ct k tp) {i : Nat} (hi : i + 1 < fr) : cb i + tK T (pc i) ≤ cb (fr - 1) := by
  have := ro_mono h (fr - 1 - (i + 1)) (i + 1) (by omega)
  rw [show i + 1 + (fr - 1 - (i + 1)) = fr - 1 from by omega] at this
  have := (h.2.2.2.1 i hi).2.2.2.2.2.2.2.1
  omega
theorem FRS_push {is ls as js : List Nat} (h : FRS w T ND p fr ro rn rh cb pc ct (tK T q) (tC T q)) (f : FR is ls as js w w2) (ha : ∀ k, k ∈ [23, 95, 98, 99, 100, 101] → k ∉ as) (hp : p < 24) (hk : tK T q ≤ 26) (hq : q < ND) (h23 : A w 23 q = 19) (hl : rh (fr - 1) = tL T q)
    (h102 : ∀ j, A w2 102 j = if j = 1600 * p + (cb (fr - 1) + tK T q) then ((fr - 1 : Nat) : Int) else A w 102 j) (h103 : ∀ j, A w2 103 j = if j = 1600 * p + (cb (fr - 1) + tK T q) then ((q : Nat) : Int) else A w 103 j) (h104 : ∀ j, A w2 104 j = if j = 1600 * p + (cb (fr - 1) + tK T q) then ((ro (fr - 1) + tH T q : Nat) : Int) else A w 104 j) (h105 : ∀ j, A w2 105 j = if j = 1600 * p + (cb (fr - 1) + tK T q) then ((rn (fr - 1) + rh (fr - 1) + tM T q : Nat) : Int) else A w 105 j) :
    FRS w2 T ND p fr ro rn rh cb pc (fun x => if x = cb (fr - 1) + tK T q then q else ct x) (tK T q + 1) q := by
  have h0 := h
  obtain ⟨⟨q1, q2, q3⟩, z, h5, h6, h7⟩ := h
  have cti : ∀ (i c0 kk tt a1 a2 a3 : Nat), c0 + kk ≤ cb (fr - 1) + tK T q → CTI w T ND p ct i c0 kk tt a1 a2 a3 → CTI w2 T ND p (fun x => if x = cb (fr - 1) + tK T q then q else ct x) i c0 kk tt a1 a2 a3 := fun i c0 kk tt a1 a2 a3 hle hc j hj => by
    obtain ⟨y1, y2, y3, y4, y5, y6, y8, y9, y10, y11⟩ := hc j hj
    have ne : c0 + j ≠ cb (fr - 1) + tK T q := by omega
    have ne2 : 1600 * p + (c0 + j) ≠ 1600 * p + (cb (fr - 1) + tK T q) := by omega
    simp only [if_neg ne]
    refine ⟨by rw [h102, if_neg ne2]; exact y1, by rw [h103, if_neg ne2]; exact y2, y3, by rw [FR.A f (ha _ (by decide))]; exact y4, y5, y6, by rw [h104, if_neg ne2]; exact y8, by rw [h105, if_neg ne2]; exact y9, y10, fun mm hmm => ?_⟩
    rw [if_neg (by omega)]; exact y11 mm hmm
  refine ⟨⟨q1, q2, by rw [FR.A f (ha _ (by decide))]; exact q3⟩, z, fun i hi => by rw [FR.A f (ha _ (by decide)), FR.A f (ha _ (by decide)), FR.A f (ha _ (by decide))]; exact h5 i hi, fun i hi => ?_, fun j hj => ?_⟩
  · obtain ⟨r1, r2, r3, r4, r5, r6, r7, r8, r9⟩ := h6 i hi
    exact ⟨by rw [FR.A f (ha _ (by decide))]; exact r1, r2, r3, r4, r5, r6, r7, r8, cti _ _ _ _ _ _ _ (by have := cb_le h0 hi; omega) r9⟩
  · by_cases e : j = tK T q
    · subst e
      have e0 : (fun x => if x = cb (fr - 1) + tK T q then q else ct x) (cb (fr - 1) + tK T q) = q := if_pos rfl
      rw [e0]
      refine ⟨by rw [h102, if_pos rfl], by rw [h103, if_pos rfl], hq, by rw [FR.A f (ha _ (by decide))]; exact h23, rfl, hl.symm, by rw [h104, if_pos rfl], by rw [h105, if_pos rfl], fun _ => rfl, fun mm hmm => ?_⟩
      show (if cb (fr - 1) + mm = cb (fr - 1) + tK T q then q else ct (cb (fr - 1) + mm)) = _
      rw [if_neg (by omega)]
      exact (h7 mm (by omega)).2.2.2.2.2.2.2.2.1 hmm
    · obtain ⟨y1, y2, y3, y4, y5, y6, y8, y9, y10, y11⟩ := cti _ _ _ _ _ _ _ (Nat.le_refl _) h7 j (by omega)
      exact ⟨y1, y2, y3, y4, y5, y6, y8, y9, fun z => by omega, y11⟩
theorem FRS_pop {is ls as js : List Nat} (h : FRS w T ND p fr ro rn rh cb pc ct (tK T q) (tC T q)) (f : FR is ls as js w w2) (ha : ∀ k, k ∈ [23, 95, 98, 99, 100, 101, 102, 103, 104, 105] → k ∉ as) (hk : 1 ≤ tK T q) (hc : 1 < tK T q → tp = tC T (tC T q)) : FRS w2 T ND p fr ro rn rh cb pc ct (tK T q - 1) tp := by
  have h2 := FRS_98 h f (fun k hk => ha k (by revert hk; simp; omega)) (fun j _ => FR.A f (ha _ (by decide)))
  obtain ⟨q1, z, h5, h6, h7⟩ := h2
  refine ⟨q1, z, h5, h6, fun j hj => ?_⟩
  obtain ⟨y1, y2, y3, y4, y5, y6, y8, y9, y10, y11⟩ := h7 j (by omega)
  refine ⟨y1, y2, y3, y4, y5, y6, y8, y9, fun e => ?_, y11⟩
  obtain ⟨-, -, -, -, -, -, -, -, x10, x11⟩ := h7 (tK T q - 1) (by omega)
  rw [x11 j (by omega), x10 (by omega), hc (by omega)]
theorem catch_next {is ls as js : List Nat} (e : ERX Fv P PR T C ND CN p u fr ro rn rh cb pc ct q n ow kd (ro (fr - 1) + tH T q) (rn (fr - 1) + rh (fr - 1) + tM T q) bxM mu) (hG : tG T q = 0) (hm : m < ND) (h1 : tH T m = tH T q) (h2 : tM T m = tM T q) (h3 : tL T m = tL T q) (h4 : tG T m = 0) (h5 : tR T m < tR T q) (f : FR is ls as js u v) (hi : ∀ k, k ∈ [152, 164, 165] → k ∉ is) (h98 : A v 98 (60 * p + (fr - 1)) = ((m : Nat) : Int)) (h109 : A v 109 p = 0) (i : MEI Fv P PR v p n ow kd (ro (fr - 1) + tH T q) (rn (fr - 1) + rh (fr - 1) + tM T q) bxM) {ct2 : Nat → Nat} (hf : FRS v T ND p fr ro rn rh cb pc ct2 (tK T m) (tC T m)) (h106 : A v 106 p = ((cb (fr - 1) + tK T m : Nat) : Int)) : ∃ m2, m2 < mu ∧ STE Fv P PR T C ND CN p m2 v := by
  obtain ⟨-, -, e3, e4, -, -, -, -, e9⟩ := e
  obtain ⟨y2, y3⟩ : F u 152 = 0 ∧ CLG u (sR T pc (fr - 1) + tR T q) 0 mu := by
    rcases e9 with ⟨-, y⟩ | ⟨-, c, s, many, hg', hb', mm', r, t1, t2, -⟩
    · exact y
    · omega
  obtain ⟨c1, c2, c3, c4⟩ := y3
  refine ⟨mu - 1, by omega, fr, ro, rn, rh, cb, pc, ct2, m, n, ow, kd, bxM, ⟨by rw [h1, h2]; exact i, hf, h98, hm, by rw [h3]; exact e4, h106⟩, h109, Or.inl ⟨h4, by rw [FR.F f (hi _ (by decide))]; exact y2, ?_⟩⟩
  unfold CLG
  rw [FR.F f (hi _ (by decide)), FR.F f (hi _ (by decide))]
  exact ⟨c1, c2, c3, by omega⟩
end
