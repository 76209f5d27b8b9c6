def ATQ (Fv : Int64 → Int64 → Prop) (P : Int64 → Prop) (PR : Nat) (T : TY) (ND p : Nat) (w : MS) (fr : Nat) (ro rn rh cb pc ct : Nat → Nat) (q n : Nat) (ow kd : Nat → Nat) (bxM : Nat) : Prop := MEI Fv P PR w p n ow kd (ro (fr - 1) + tH T q) (rn (fr - 1) + rh (fr - 1) + tM T q) bxM ∧ FRS w T ND p fr ro rn rh cb pc ct (tK T q) (tC T q) ∧ A w 98 (60 * p + (fr - 1)) = ((q : Nat) : Int) ∧ q < ND ∧ rh (fr - 1) = tL T q ∧ A w 106 p = ((cb (fr - 1) + tK T q : Nat) : Int)
def CLG (w : MS) (r : Nat) (e : Int) (mu : Nat) : Prop := 0 ≤ F w 165 ∧ F w 165 ≤ F w 164 ∧ F w 164 ≤ 500 ∧ (F w 164 - F w 165) * 1000000000000 + 500000 * (r : Int) + e ≤ mu
def MODE (w : MS) (T : TY) (C : CY) (ND CN p ro rn rh sr q bx mu : Nat) : Prop := (tG T q = 0 ∧ F w 152 = 0 ∧ CLG w (sr + tR T q) 0 mu) ∨ (F w 152 = 1 ∧ ∃ c s many hg hb m r, TRS w T C ND CN p ro rn rh (tK T q) (tC T q) s many hg hb m r bx ∧ tG T q = c + 1 ∧ F w 154 = ((c : Nat) : Int) ∧ F w 157 = ((ro + hg : Nat) : Int) ∧ CLG w (sr + r) ((if s = 3 then (bx : Int) - F w 158 else 0) * 16002 + tR T q + 1) mu)
def STE (Fv : Int64 → Int64 → Prop) (P : Int64 → Prop) (PR : Nat) (T : TY) (C : CY) (ND CN p mu : Nat) (w : MS) : Prop := ∃ fr ro rn rh cb pc ct q n ow kd bxM, ATQ Fv P PR T ND p w fr ro rn rh cb pc ct q n ow kd bxM ∧ A w 109 p = 0 ∧ MODE w T C ND CN p (ro (fr - 1)) (rn (fr - 1)) (rh (fr - 1)) (sR T pc (fr - 1)) q bxM mu
def WAI (Fv : Int64 → Int64 → Prop) (P : Int64 → Prop) (PR : Nat) (T : TY) (ND p : Nat) (w : MS) : Prop := ∃ fr ro rn rh cb pc ct q n ow kd bxM, ATQ Fv P PR T ND p w fr ro rn rh cb pc ct q n ow kd bxM ∧ A w 109 p = 1 ∧ tG T q = 0 ∧ A w 23 q = 27 ∧ (A w 31 q = -1 → w.2.2.2 111 p = -1) ∧ 0 ≤ A w 110 p
def RES (Fv : Int64 → Int64 → Prop) (P : Int64 → Prop) (PR : Nat) (T : TY) (C : CY) (ND CN p mu : Nat) (u w : MS) : Prop := (ENDD Fv P PR p w ∨ WAI Fv P PR T ND p w ∨ ∃ m, m < mu ∧ STE Fv P PR T C ND CN p m w) ∧ STG p u w ∧ OTF p u w ∧ ∀ z, z ≠ p → A w 109 z = A u 109 z
section
variable {Fv : Int64 → Int64 → Prop} {P : Int64 → Prop} {w w2 : MS} {PR N p n opM bnM bxM ND fr k tp mu CN PN SN UN FN : Nat} {ow kd ro rn rh cb pc ct pM pE : Nat → Nat} {T : TY} {C : CY}
theorem RES_stp (h : STP Fv P PR T ND p mu w w2) : RES Fv P PR T C ND CN p mu w w2 := by
  obtain ⟨h1, h2⟩ := h
  refine ⟨?_, h2⟩
  rcases h1 with h1 | ⟨m, hm, fr, ro, rn, rh, cb, pc, ct, q, n, ow, kd, bxM, q1, q2, q3, q4, q5, q6, q7, q8, q9, q10⟩
  · exact Or.inl h1
  · refine Or.inr (Or.inr ⟨m, hm, fr, ro, rn, rh, cb, pc, ct, q, n, ow, kd, bxM, ⟨q1, q2, q3, q4, q5, q6⟩, q8, Or.inl ⟨q7, q9, q10.1, q10.2.1, q10.2.2.1, ?_⟩⟩)
    have := q10.2.2.2
    omega
theorem RES.tr {u : MS} {m2 : Nat} (a : STF0 u w) (b : OTF p u w) (c : ∀ z, z ≠ p → A w 109 z = A u 109 z) (h : RES Fv P PR T C ND CN p m2 w w2) (hm : m2 ≤ mu) : RES Fv P PR T C ND CN p mu u w2 := by
  obtain ⟨h1, h2, h3, h4⟩ := h
  refine ⟨?_, STG.tr a h2, OTF.tr b h3, fun z hz => by rw [h4 z hz, c z hz]⟩
  rcases h1 with h1 | h1 | ⟨m, h1, h5⟩
  · exact Or.inl h1
  · exact Or.inr (Or.inl h1)
  · exact Or.inr (Or.inr ⟨m, by omega, h5⟩)
theorem FRS_98 {is ls as js : List Nat} (h : FRS w T ND p fr ro rn rh cb pc ct k tp) (f : FR is ls as js w w2) (ha : ∀ k, k ∈ [23, 95, 99, 100, 101, 102, 103, 104, 105] → k ∉ as) (h98 : ∀ j, j ≠ 60 * p + (fr - 1) → A w2 98 j = A w 98 j) : FRS w2 T ND p fr ro rn rh cb pc ct k tp := by
  obtain ⟨⟨h1, h2, h3⟩, h4, h5, h6, h7⟩ := h
  refine ⟨⟨h1, h2, by rw [FR.A f (ha _ (by decide))]; exact h3⟩, h4, fun i hi => by rw [FR.A f (ha _ (by decide)), FR.A f (ha _ (by decide)), FR.A f (ha _ (by decide))]; exact h5 i hi, fun i hi => ?_, CTI_fr h7 f (ha _ (by decide)) (ha _ (by decide)) (ha _ (by decide)) (ha _ (by decide)) (ha _ (by decide))⟩
  obtain ⟨q1, q2, q3, q4, q6, q7, q8, q9, q10⟩ := h6 i hi
  exact ⟨by rw [h98 _ (by omega)]; exact q1, q2, q3, q4, q6, q7, q8, q9, CTI_fr q10 f (ha _ (by decide)) (ha _ (by decide)) (ha _ (by decide)) (ha _ (by decide)) (ha _ (by decide))⟩
theorem at_ok {q : Nat} (i : MEI Fv P PR w p n ow kd (ro (fr - 1) + tH T q) (rn (fr - 1) + rh (fr - 1) + tM T q) bxM) (h : FRS w T ND p fr ro rn rh cb pc ct (tK T q) (tC T q)) (hq : q < ND) (hnd : ND ≤ 16000) (hl : rh (fr - 1) = tL T q) (h106 : A w 106 p = ((cb (fr - 1) + tK T q : Nat) : Int)) : OK (fun w2 _ => ATQ Fv P PR T ND p w2 fr ro rn rh cb pc ct q n ow kd bxM ∧ FR [] [] [98] [] w w2 ∧ OTF p w w2) (fm_M_goTo N w (I q)) := by
  have x4 := MEI_p i
  have hf := h.1
  rw [goTo_ok i h.1.2.2 ⟨h.1.1, h.1.2.1⟩ (by omega)]
  have f98 : FR [] [] [98] [] w (wa w 98 (60 * p + (fr - 1)) q) := FR.wa FR.rf (by decide)
  have e98 : ∀ j, A (wa w 98 (60 * p + (fr - 1)) q) 98 j = if j = 60 * p + (fr - 1) then (q : Int) else A w 98 j := fun j => A_eq (by omega) (by omega)
  refine ok_some.mpr ⟨⟨MEI_fr i f98 (by decide) (by decide) (by decide) (by decide) (by decide) (by decide) (by decide) (by decide) (by decide) (by decide) (by decide) (by decide) (by decide) (by decide) (by decide) (by decide) (by decide) (by decide), FRS_98 h f98 (by decide) (fun j hj => by rw [e98, if_neg hj]), by rw [e98, if_pos rfl], hq, hl, by rw [FR.A f98 (by decide)]; exact h106⟩, f98, OTF_at f98 (i0 := 60 * p + (fr - 1)) (fun j hj => by rw [e98, if_neg hj]) (Or.inr (Or.inl ⟨by decide, by omega, by omega⟩))⟩
theorem cls_c {s many hg hb m r c : Nat} (hg' : PRG w T C pM pE ND CN PN SN UN FN) (ht : CLS C w CN many hg hb m (rh (fr - 1)) k tp r ((c : Nat) : Int)) : c < CN ∧ A w 41 c = many ∧ cH C c = hg ∧ cM C c = m ∧ m ≤ cN C c ∧ cN C c + rh (fr - 1) ≤ 40 ∧ (A w 42 c = -1 ∨ ∃ g : Nat, A w 42 c = g ∧ g < ND ∧ tH T g = hg ∧ tG T g = c + 1 ∧ tR T g ≤ cT C c) ∧
    (∃ b : Nat, A w 43 c = b ∧ b < ND ∧ tH T b = hb ∧ tM T b = cN C c ∧ tL T b = rh (fr - 1) ∧ tK T b = k ∧ tG T b = 0 ∧ tC T b = tp ∧ tR T b ≤ r) ∧
    (A w 45 c = -1 ∨ ∃ d : Nat, A w 45 c = d ∧ c < d ∧ cT C d ≤ cT C c ∧ CLS C w CN many hg hb m (rh (fr - 1)) k tp r ((d : Nat) : Int)) := by
  obtain ⟨c', c1, c2, c3, c4, c5, c6, c7, c8, c9, c10⟩ := ht
  obtain rfl : c' = c := by omega
  obtain ⟨-, ⟨d4, d5, d6⟩, d7, ⟨b, d8⟩, d9⟩ := hg'.2.2.2.1 c' c2
  rw [c4] at d7
  rw [c5, c7, c8, c9, c10] at d8
  refine ⟨c2, c3, c4, c6, by omega, by omega, d7, ⟨b, d8⟩, ?_⟩
  rcases d9 with d9 | ⟨d, e1, e2, e3, e4, e5, e6, e7, e8, e9, e10, e11, e12⟩
  · exact Or.inl d9
  · exact Or.inr ⟨d, e1, e2, e12, d, rfl, e3, by rw [e4, c3], by rw [e5, c4], by rw [e6, c5], by rw [e7, c6], by rw [e8, c7], by rw [e9, c8], by rw [e10, c9], by rw [e11, c10]⟩
theorem box_less (m : MEI Fv P PR w p n ow kd opM bnM bxM) {k : Nat} (hk : k ≤ bxM) : MEI Fv P PR (wa w 108 p k) p n ow kd opM bnM k := by
  have m' := m
  obtain ⟨m1, m2, m3, m4, m5, ⟨x1, x2, x3, x4, x5, x6, x7, x8, x9, x10, x11⟩⟩ := m
  have fz : FR [] [] [108] [] w (wa w 108 p k) := FR.wa FR.rf (by decide)
  exact MEI_upd m' (FR.mo fz (by decide) (by decide) (by decide) (by decide)) m1.2.2.2.1 (fun q _ => FR.A fz (by decide)) (fun q _ => FR.A fz (by decide)) (fun q _ => FR.A fz (by decide)) (fun q hq => by rw [A_eq (by omega) (by omega), if_neg hq]) (fun _ _ => rfl) (fun _ _ => rfl) (fun _ _ => rfl) (fun _ _ => rfl) (by rw [FR.A fz (by decide)]; exact m5) ⟨rfl, x2, x3, x4, by rw [FR.A fz (by decide)]; exact x5, by rw [FR.A fz (by decide)]; exact x6, ⟨by rw [A_eq (by omega) (by omega), if_pos rfl], by omega⟩, x8, x9, fun i hi => x10 i (by omega), fun e => by have : F w 140 = p := e; have := m1.2.2.2.1; omega⟩
theorem box_put (m : MEI Fv P PR w p n ow kd opM bnM bxM) {j : Nat} {t : Int64} (hj : j < bxM) (g : GT n ow kd P t) : MEI Fv P PR (wj w 107 (30 * p + j) t) p n ow kd opM bnM bxM := by
  have m' := m
  obtain ⟨m1, m2, m3, m4, m5, ⟨x1, x2, x3, x4, x5, x6, x7, x8, x9, x10, x11⟩⟩ := m
  have fz : FR [] [] [] [107] w (wj w 107 (30 * p + j) t) := FR.wj FR.rf (by decide)
  have j107 : ∀ i, (wj w 107 (30 * p + j) t).2.2.2 107 i = if i = 30 * p + j then t else w.2.2.2 107 i := fun i => by rw [J_wj, if_pos rfl]
  have hpz : hp (wj w 107 (30 * p + j) t) p = hp w p := by unfold hp; rw [fz.2.2.2 88 (by decide)]
  exact MEI_upd m' (FR.mo fz (by decide) (by decide) (by decide) (by decide)) m1.2.2.2.1 (fun q _ => FR.A fz (by decide)) (fun q _ => FR.A fz (by decide)) (fun q _ => FR.A fz (by decide)) (fun q _ => FR.A fz (by decide)) (fun i _ => by rw [fz.2.2.2 88 (by decide)]) (fun i _ => by rw [fz.2.2.2 91 (by decide)]) (fun i _ => by rw [fz.2.2.2 93 (by decide)]) (fun i hi => by rw [j107, if_neg (by omega)]) (by rw [FR.A fz (by decide)]; exact m5) ⟨rfl, by rw [hpz]; exact x2, x3, x4, by rw [FR.A fz (by decide)]; exact x5, by rw [FR.A fz (by decide)]; exact x6, by rw [FR.A fz (by decide)]; exact x7, fun i hi => by rw [fz.2.2.2 91 (by decide)]; exact x8 i hi, fun i hi => by rw [fz.2.2.2 93 (by decide)]; exact x9 i hi, fun i hi => by
    rw [j107]
    by_cases e : i = j
    · subst e; rw [if_pos rfl]; exact g
    · rw [if_neg (by omega)]; exact x10 i hi, fun e => by have : F w 140 = p := e; have := m1.2.2.2.1; omega⟩
end
