section
def ATQ (Fv : Int64 → Int64 → Prop) (P : Int64 → Prop) (PR : Nat) (T : TY) (ND p : Nat) (w : MS) (fr : Nat) (ro rn rh cb pc ct : Nat → Nat) (q n : Nat) (ow kd : Nat → Nat) (bxM : Nat) : Prop := MEI Fv P PR w p n ow kd (ro (fr - 1) + tH T q) (rn (fr - 1) + rh (fr - 1) + tM T q) bxM ∧ FRS w T ND p fr ro rn rh cb pc ct (tK T q) (tC T q) ∧ A w 98 (60 * p + (fr - 1)) = ((q : Nat) : Int) ∧ q < ND ∧ rh (fr - 1) = tL T q ∧ A w 106 p = ((cb (fr - 1) + tK T q : Nat) : Int)
def CLG (w : MS) (r : Nat) (e : Int) (mu : Nat) : Prop := 0 ≤ F w 165 ∧ F w 165 ≤ F w 164 ∧ F w 164 ≤ 500 ∧ (F w 164 - F w 165) * 1000000000000 + 500000 * (r : Int) + e ≤ mu
def MODE (w : MS) (T : TY) (C : CY) (ND CN p ro rn rh sr q bx mu : Nat) : Prop := (tG T q = 0 ∧ F w 152 = 0 ∧ CLG w (sr + tR T q) 0 mu) ∨ (F w 152 = 1 ∧ ∃ c s many hg hb m r, TRS w T C ND CN p ro rn rh (tK T q) (tC T q) s many hg hb m r bx ∧ tG T q = c + 1 ∧ F w 154 = ((c : Nat) : Int) ∧ F w 157 = ((ro + hg : Nat) : Int) ∧ CLG w (sr + r) ((if s = 3 then (bx : Int) - F w 158 else 0) * 16002 + tR T q + 1) mu)
def STE (Fv : Int64 → Int64 → Prop) (P : Int64 → Prop) (PR : Nat) (T : TY) (C : CY) (ND CN p mu : Nat) (w : MS) : Prop := ∃ fr ro rn rh cb pc ct q n ow kd bxM, ATQ Fv P PR T ND p w fr ro rn rh cb pc ct q n ow kd bxM ∧ A w 109 p = 0 ∧ MODE w T C ND CN p (ro (fr - 1)) (rn (fr - 1)) (rh (fr - 1)) (sR T pc (fr - 1)) q bxM mu
def WAI (Fv : Int64 → Int64 → Prop) (P : Int64 → Prop) (PR : Nat) (T : TY) (ND p : Nat) (w : MS) : Prop := ∃ fr ro rn rh cb pc ct q n ow kd bxM, ATQ Fv P PR T ND p w fr ro rn rh cb pc ct q n ow kd bxM ∧ A w 109 p = 1 ∧ tG T q = 0 ∧ A w 23 q = 27 ∧ (A w 31 q = -1 → w.2.2.2 111 p = -1) ∧ 0 ≤ A w 110 p
def RES (Fv : Int64 → Int64 → Prop) (P : Int64 → Prop) (PR : Nat) (T : TY) (C : CY) (ND CN p mu : Nat) (u w : MS) : Prop := (ENDD Fv P PR p w ∨ WAI Fv P PR T ND p w ∨ ∃ m, m < mu ∧ STE Fv P PR T C ND CN p m w) ∧ STG p u w ∧ OTF p u w ∧ ∀ z, z ≠ p → A w 109 z = A u 109 z
section
variable {Fv : Int64 → Int64 → Prop} {P : Int64 → Prop} {w w2 : MS} {PR N p n opM bnM bxM ND fr k tp mu CN PN SN UN FN : Nat} {ow kd ro rn rh cb pc ct pM pE : Nat → Nat} {T : TY} {C : CY}
theorem RES_stp (h : STP Fv P PR T ND p mu w w2) : RES Fv P PR T C ND CN p mu w w2 := by
  obtain ⟨h1, h2⟩ := h
  refine ⟨?_, h2⟩
  rcases h1 with h1 | ⟨m, hm, fr, ro, rn, rh, cb, pc, ct, q, n, ow, kd, bxM, q1, q2, q3, q4, q5, q6, q7, q8, q9, q10⟩
  · exact Or.inl h1
  · refine Or.inr (Or.inr ⟨m, hm, fr, ro, rn, rh, cb, pc, ct, q, n, ow, kd, bxM, ⟨q1, q2, q3, q4, q5, q6⟩, q8, Or.inl ⟨q7, q9, q10.1, q10.2.1, q10.2.2.1, ?_⟩⟩)
    have := q10.2.2.2
    omega
theorem RES.tr {u : MS} {m2 : Nat} (a : STF0 u w) (b : OTF p u w) (c : ∀ z, z ≠ p → A w 109 z = A u 109 z) (h : RES Fv P PR T C ND CN p m2 w w2) (hm : m2 ≤ mu) : RES Fv P PR T C ND CN p mu u w2 := by
  obtain ⟨h1, h2, h3, h4⟩ := h
  refine ⟨?_, STG.tr a h2, OTF.tr b h3, fun z hz => by rw [h4 z hz, c z hz]⟩
  rcases h1 with h1 | h1 | ⟨m, h1, h5⟩
  · exact Or.inl h1
  · exact Or.inr (Or.inl h1)
  · exact Or.inr (Or.inr ⟨m, by omega, h5⟩)
theorem FRS_98 {is ls as js : List Nat} (h : FRS w T ND p fr ro rn rh cb pc ct k tp) (f : FR is ls as js w w2) (ha : ∀ k, k ∈ [23, 95, 99, 100, 101, 102, 103, 104, 105] → k ∉ as) (h98 : ∀ j, j ≠ 60 * p + (fr - 1) → A w2 98 j = A w 98 j) : FRS w2 T ND p fr ro rn rh cb pc ct k tp := by
  obtain ⟨⟨h1, h2, h3⟩, h4, h5, h6, h7⟩ := h
  refine ⟨⟨h1, h2, by rw [FR.A f (ha _ (by decide))]; exact h3⟩, h4, fun i hi => by rw [FR.A f (ha _ (by decide)), FR.A f (ha _ (by decide)), FR.A f (ha _ (by decide))]; exact h5 i hi, fun i hi => ?_, CTI_fr h7 f (ha _ (by decide)) (ha _ (by decide)) (ha _ (by decide)) (ha _ (by decide)) (ha _ (by decide))⟩
  obtain ⟨q1, q2, q3, q4, q6, q7, q8, q9, q10⟩ := h6 i hi
  exact ⟨by rw [h98 _ (by omega)]; exact q1, q2, q3, q4, q6, q7, q8, q9, CTI_fr q10 f (ha _ (by decide)) (ha _ (by decide)) (ha _ (by decide)) (ha _ (by decide)) (ha _ (by decide))⟩
theorem at_ok {q : Nat} (i : MEI Fv P PR w p n ow kd (ro (fr - 1) + tH T q) (rn (fr - 1) + rh (fr - 1) + tM T q) bxM) (h : FRS w T ND p fr ro rn rh cb pc ct (tK T q) (tC T q)) (hq : q < ND) (hnd : ND ≤ 16000) (hl : rh (fr - 1) = tL T q) (h106 : A w 106 p = ((cb (fr - 1) + tK T q : Nat) : Int)) : OK (fun w2 _ => ATQ Fv P PR T ND p w2 fr ro rn rh cb pc ct q n ow kd bxM ∧ FR [] [] [98] [] w w2 ∧ OTF p w w2) (fm_M_goTo N w (I q)) := by
  have x4 := MEI_p i
  have hf := h.1
  rw [goTo_ok i h.1.2.2 ⟨h.1.1, h.1.2.1⟩ (by omega)]
  have f98 : FR [] [] [98] [] w (wa w 98 (60 * p + (fr - 1)) q) := FR.wa FR.rf (by decide)
  have e98 : ∀ j, A (wa w 98 (60 * p + (fr - 1)) q) 98 j = if j = 60 * p + (fr - 1) then (q : Int) else A w 98 j := fun j => A_eq (by omega) (by omega)
  refine ok_some.mpr ⟨⟨MEI_fr i f98 (by decide) (by decide) (by decide) (by decide) (by decide) (by decide) (by decide) (by decide) (by decide) (by decide) (by decide) (by decide) (by decide) (by decide) (by decide) (by decide) (by decide) (by decide), FRS_98 h f98 (by decide) (fun j hj => by rw [e98, if_neg hj]), by rw [e98, if_pos rfl], hq, hl, by rw [FR.A f98 (by decide)]; exact h106⟩, f98, OTF_at f98 (i0 := 60 * p + (fr - 1)) (fun j hj => by rw [e98, if_neg hj]) (Or.inr (Or.inl ⟨by decide, by omega, by omega⟩))⟩
theorem cls_c {s many hg hb m r c : Nat} (hg' : PRG w T C pM pE ND CN PN SN UN FN) (ht : CLS C w CN many hg hb m (rh (fr - 1)) k tp r ((c : Nat) : Int)) : c < CN ∧ A w 41 c = many ∧ cH C c = hg ∧ cM C c = m ∧ m ≤ cN C c ∧ cN C c + rh (fr - 1) ≤ 40 ∧ (A w 42 c = -1 ∨ ∃ g : Nat, A w 42 c = g ∧ g < ND ∧ tH T g = hg ∧ tG T g = c + 1 ∧ tR T g ≤ cT C c) ∧
    (∃ b : Nat, A w 43 c = b ∧ b < ND ∧ tH T b = hb ∧ tM T b = cN C c ∧ tL T b = rh (fr - 1) ∧ tK T b = k ∧ tG T b = 0 ∧ tC T b = tp ∧ tR T b ≤ r) ∧
    (A w 45 c = -1 ∨ ∃ d : Nat, A w 45 c = d ∧ c < d ∧ cT C d ≤ cT C c ∧ CLS C w CN many hg hb m (rh (fr - 1)) k tp r ((d : Nat) : Int)) := by
  obtain ⟨c', c1, c2, c3, c4, c5, c6, c7, c8, c9, c10⟩ := ht
  obtain rfl : c' = c := by omega
  obtain ⟨-, ⟨d4, d5, d6⟩, d7, ⟨b, d8⟩, d9⟩ := hg'.2.2.2.1 c' c2
  rw [c4] at d7
  rw [c5, c7, c8, c9, c10] at d8
  refine ⟨c2, c3, c4, c6, by omega, by omega, d7, ⟨b, d8⟩, ?_⟩
  rcases d9 with d9 | ⟨d, e1, e2, e3, e4, e5, e6, e7, e8, e9, e10, e11, e12⟩
  · exact Or.inl d9
  · exact Or.inr ⟨d, e1, e2, e12, d, rfl, e3, by rw [e4, c3], by rw [e5, c4], by rw [e6, c5], by rw [e7, c6], by rw [e8, c7], by rw [e9, c8], by rw [e10, c9], by rw [e11, c10]⟩
theorem box_less (m : MEI Fv P PR w p n ow kd opM bnM bxM) {k : Nat} (hk : k ≤ bxM) : MEI Fv P PR (wa w 108 p k) p n ow kd opM bnM k := by
  have m' := m
  obtain ⟨m1, m2, m3, m4, m5, ⟨x1, x2, x3, x4, x5, x6, x7, x8, x9, x10, x11⟩⟩ := m
  have fz : FR [] [] [108] [] w (wa w 108 p k) := FR.wa FR.rf (by decide)
  exact MEI_upd m' (FR.mo fz (by decide) (by decide) (by decide) (by decide)) m1.2.2.2.1 (fun q _ => FR.A fz (by decide)) (fun q _ => FR.A fz (by decide)) (fun q _ => FR.A fz (by decide)) (fun q hq => by rw [A_eq (by omega) (by omega), if_neg hq]) (fun _ _ => rfl) (fun _ _ => rfl) (fun _ _ => rfl) (fun _ _ => rfl) (by rw [FR.A fz (by decide)]; exact m5) ⟨rfl, x2, x3, x4, by rw [FR.A fz (by decide)]; exact x5, by rw [FR.A fz (by decide)]; exact x6, ⟨by rw [A_eq (by omega) (by omega), if_pos rfl], by omega⟩, x8, x9, fun i hi => x10 i (by omega), fun e => by have : F w 140 = p := e; have := m1.2.2.2.1; omega⟩
theorem box_put (m : MEI Fv P PR w p n ow kd opM bnM bxM) {j : Nat} {t : Int64} (hj : j < bxM) (g : GT n ow kd P t) : MEI Fv P PR (wj w 107 (30 * p + j) t) p n ow kd opM bnM bxM := by
  have m' := m
  obtain ⟨m1, m2, m3, m4, m5, ⟨x1, x2, x3, x4, x5, x6, x7, x8, x9, x10, x11⟩⟩ := m
  have fz : FR [] [] [] [107] w (wj w 107 (30 * p + j) t) := FR.wj FR.rf (by decide)
  have j107 : ∀ i, (wj w 107 (30 * p + j) t).2.2.2 107 i = if i = 30 * p + j then t else w.2.2.2 107 i := fun i => by rw [J_wj, if_pos rfl]
  have hpz : hp (wj w 107 (30 * p + j) t) p = hp w p := by unfold hp; rw [fz.2.2.2 88 (by decide)]
  exact MEI_upd m' (FR.mo fz (by decide) (by decide) (by decide) (by decide)) m1.2.2.2.1 (fun q _ => FR.A fz (by decide)) (fun q _ => FR.A fz (by decide)) (fun q _ => FR.A fz (by decide)) (fun q _ => FR.A fz (by decide)) (fun i _ => by rw [fz.2.2.2 88 (by decide)]) (fun i _ => by rw [fz.2.2.2 91 (by decide)]) (fun i _ => by rw [fz.2.2.2 93 (by decide)]) (fun i hi => by rw [j107, if_neg (by omega)]) (by rw [FR.A fz (by decide)]; exact m5) ⟨rfl, by rw [hpz]; exact x2, x3, x4, by rw [FR.A fz (by decide)]; exact x5, by rw [FR.A fz (by decide)]; exact x6, by rw [FR.A fz (by decide)]; exact x7, fun i hi => by rw [fz.2.2.2 91 (by decide)]; exact x8 i hi, fun i hi => by rw [fz.2.2.2 93 (by decide)]; exact x9 i hi, fun i hi => by
    rw [j107]
    by_cases e : i = j
    · subst e; rw [if_pos rfl]; exact g
    · rw [if_neg (by omega)]; exact x10 i hi, fun e => by have : F w 140 = p := e; have := m1.2.2.2.1; omega⟩
end
end
section
section
variable {Fv : Int64 → Int64 → Prop} {P : Int64 → Prop} {w w2 : MS} {PR N p n opM bnM bxM ND fr k tp mu CN PN SN UN FN : Nat} {ow kd ro rn rh cb pc ct pM pE : Nat → Nat} {T : TY} {C : CY}
theorem frame0_f (i : MEI Fv P PR w p n ow kd opM bnM bxM) (h1 : A w 95 p = ((fr : Nat) : Int)) (h2 : 1 ≤ fr ∧ fr ≤ 60) : fm_M_frame0 N w = some (w, I ((60 * p + (fr - 1) : Nat) : Int)) := by
  have x4 := MEI_p i
  unfold fm_M_frame0 fb_M_frame0_0
  rw [I_F' i.2.2.1, inb_at (k := 95) (n := 24) rfl (by omega) (by omega) (by decide), ck_t, I_tn (by omega) (by omega), Int.toNat_natCast, I_A' h1, show (60 : Int32) = I 60 from rfl, I_mul, I_add, lit1q, I_sub, show (p : Int) * 60 + (fr : Int) - 1 = ((60 * p + (fr - 1) : Nat) : Int) from by omega]
theorem MEI_ints {is : List Nat} (i : MEI Fv P PR w p n ow kd opM bnM bxM) (f : FR is [] [] [] w w2) (h : ∀ k, k ∈ [133, 118, 140, 149, 150] → k ∉ is) : MEI Fv P PR w2 p n ow kd opM bnM bxM :=
  MEI_fr i f (h _ (by decide)) (h _ (by decide)) (h _ (by decide)) (h _ (by decide)) (h _ (by decide)) (by decide) (by decide) (by decide) (by decide) (by decide) (by decide) (by decide) (by decide) (by decide) (by decide) (by decide) (by decide) (by decide)
theorem ch148 {G : MS → Int32 → Option (MS × Unit)} {many hg hb m r c : Nat} (i : MEI Fv P PR w p n ow kd (ro (fr - 1) + hb) (rn (fr - 1) + rh (fr - 1) + cN C c) bxM) (hg' : PRG w T C pM pE ND CN PN SN UN FN) (h : FRS w T ND p fr ro rn rh cb pc ct k tp) (ht : CLS C w CN many hg hb m (rh (fr - 1)) k tp r ((c : Nat) : Int)) (hc : F w 154 = c) (h106 : A w 106 p = ((cb (fr - 1) + k : Nat) : Int)) (h109 : A w 109 p = 0) (h152 : F w 152 = 0) (hcl : CLG w (sR T pc (fr - 1) + r) 1 mu) : OK (fun w2 _ => RES Fv P PR T C ND CN p mu w w2) (fb_M_chosen_148 N G w) := by
  obtain ⟨c1, c2, c3, c4, c5, c6, -, ⟨b, b1, b2, b3, b4, b5, b6, b7, b8, b9⟩, -⟩ := cls_c (s := 0) hg' ht
  have cn := hg'.1.2.1
  unfold fb_M_chosen_148
  rw [I_F' hc]
  refine ok_ck.mpr ⟨inb_at (k := 43) (n := 1400) rfl (by omega) (by omega) (by decide), ?_⟩
  rw [I_tn (by omega) (by omega), Int.toNat_natCast, I_A' b1]
  refine ok_bnd.mpr (ok_mono (at_ok (N := N) (q := b) (by rw [b3, b4]; exact i) (by rw [b6, b8]; exact h) b2 hg'.1.1 b5.symm (by rw [b6]; exact h106)) (fun v _ hv => ?_))
  obtain ⟨v1, v2, v3⟩ := hv
  refine ok_some.mpr ⟨Or.inr (Or.inr ⟨mu - 1, ?_, fr, ro, rn, rh, cb, pc, ct, b, n, ow, kd, bxM, v1, by rw [FR.A v2 (by decide)]; exact h109, Or.inl ⟨b7, by rw [FR.F v2 (by decide)]; exact h152, ?_⟩⟩), Or.inl (FR.mo v2 (by decide) (by decide) (by decide) (by decide)), v3, fun z _ => FR.A v2 (by decide)⟩
  · obtain ⟨e1, e2, e3, e4⟩ := hcl; omega
  · obtain ⟨e1, e2, e3, e4⟩ := hcl
    unfold CLG
    rw [FR.F v2 (by decide), FR.F v2 (by decide)]
    exact ⟨e1, e2, e3, by omega⟩
theorem ch99 {many hg hb m r c : Nat} {w0 : MS} (hg' : PRG w0 T C pM pE ND CN PN SN UN FN) (h : FRS w0 T ND p fr ro rn rh cb pc ct k tp) (ht : CLS C w0 CN many hg hb m (rh (fr - 1)) k tp r ((c : Nat) : Int)) (hc : F w0 154 = c) (h106 : A w0 106 p = ((cb (fr - 1) + k : Nat) : Int)) (h109 : A w0 109 p = 0) (h152 : F w0 152 = 0) (hcl : CLG w0 (sR T pc (fr - 1) + r) 1 mu) (hN : N ≤ N) : ∀ (fu j : Nat) (v : MS), FR [] [] [] [107] w0 v → MEI Fv P PR v p n ow kd (ro (fr - 1) + hb) (rn (fr - 1) + rh (fr - 1) + cN C c) bxM → (∀ i, i ≤ bxM → GT n ow kd P (v.2.2.2 107 (30 * p + i))) → j ≤ bxM → bxM < 30 → bxM - j < fu → OK (fun w2 _ => RES Fv P PR T C ND CN p mu w0 w2) (gg_M_chosen N fu v (I j)) := by
  intro fu
  induction fu with
  | zero => intro j v _ _ _ _ _ z; exact absurd z (Nat.not_lt_zero _)
  | succ fu ih =>
    intro j v fv iv gt hj hb30 hf
    have x4 := MEI_p iv
    show OK _ (fb_M_chosen_99 N (gg_M_chosen N fu) v (I j))
    unfold fb_M_chosen_99
    rw [I_F' iv.2.2.1]
    refine ok_ck.mpr ⟨inb_at (k := 108) (n := 24) rfl (by omega) (by omega) (by decide), ?_⟩
    rw [I_tn (x := (p : Int)) (by omega) (by omega), Int.toNat_natCast, I_A' iv.2.2.2.2.2.2.2.2.2.2.2.1.1, decI (by omega) (by omega) (by omega) (by omega)]
    refine ok_br.mpr ⟨fun z => ?_, fun z => ?_⟩
    · have := ch148 (N := N) (G := gg_M_chosen N fu) (mu := mu) iv (PRG_fr hg' fv (by decide) (by decide)) (FRS_fr h fv (by decide) (by decide) (by decide) (by decide) (by decide) (by decide) (by decide) (by decide) (by decide) (by decide)) (by obtain ⟨c', d1, d2, d3, d4⟩ := ht; exact ⟨c', d1, d2, by rw [FR.A fv (by decide)]; exact d3, d4⟩) (by rw [FR.F fv (by decide)]; exact hc) (by rw [FR.A fv (by decide)]; exact h106) (by rw [FR.A fv (by decide)]; exact h109) (by rw [FR.F fv (by decide)]; exact h152) (by unfold CLG; rw [FR.F fv (by decide), FR.F fv (by decide)]; exact hcl)
      exact ok_mono this (fun u _ hu => RES.tr (FR.mo fv (by decide) (by decide) (by decide) (by decide)) (OTF_fr fv (by decide)) (fun z _ => FR.A fv (by decide)) hu (Nat.le_refl _))
    · have hj2 : j < bxM := by have := of_decide_eq_false z; omega
      rw [show (30 : Int32) = I 30 from rfl, I_mul, I_add, lit1q, I_add, I_add]
      refine ok_ck.mpr ⟨inb_at (k := 107) (n := 720) rfl (by omega) (by omega) (by decide), ok_ck.mpr ⟨inb_at (k := 107) (n := 720) rfl (by omega) (by omega) (by decide), ok_lt.mpr ?_⟩⟩
      rw [I_tn (by omega) (by omega), I_tn (by omega) (by omega), show ((p : Int) * 30 + (j : Int)).toNat = 30 * p + j from by omega, show ((p : Int) * 30 + (j : Int) + 1).toNat = 30 * p + (j + 1) from by omega, wj_e, show (j : Int) + 1 = ((j + 1 : Nat) : Int) from by omega]
      refine ih (j + 1) _ (FR.wj fv (by decide)) (box_put iv hj2 (gt (j + 1) (by omega))) (fun i hi => ?_) (by omega) hb30 (by omega)
      rw [J_wj, if_pos rfl]
      by_cases e : i = j
      · subst e; rw [if_pos rfl]; exact gt (i + 1) (by omega)
      · rw [if_neg (by omega)]; exact gt i hi
theorem chosen_ok {s many hg hb m r c : Nat} (i : MEI Fv P PR w p n ow kd (ro (fr - 1) + hg) (rn (fr - 1) + rh (fr - 1) + cN C c) bxM) (hg' : PRG w T C pM pE ND CN PN SN UN FN) (h : FRS w T ND p fr ro rn rh cb pc ct k tp) (ht : TRS w T C ND CN p (ro (fr - 1)) (rn (fr - 1)) (rh (fr - 1)) k tp s many hg hb m r bxM) (hc : F w 154 = c) (h106 : A w 106 p = ((cb (fr - 1) + k : Nat) : Int)) (h109 : A w 109 p = 0) (hcl : CLG w (sR T pc (fr - 1) + r) 1 mu) (hN : 60 ≤ N) : OK (fun w2 _ => RES Fv P PR T C ND CN p mu w w2) (fm_M_chosen N w) := by
  have x4 := MEI_p i
  obtain ⟨⟨s1, s2, s3, s4, s42, s5, s6, s7, s8, s9⟩, u1, u2, u3, u4⟩ := ht
  have u2' : CLS C w CN many hg hb m (rh (fr - 1)) k tp r ((c : Nat) : Int) := by
    rcases u2 with u2 | u2
    · omega
    · rw [← hc]; exact u2
  have hf := h.1
  have cc := cls_c (s := 0) hg' u2'
  have cn := hg'.1.2.1
  have hro := (h.2.2.1 (fr - 1) (by omega)).2.2.2.2.1
  unfold fm_M_chosen fb_M_chosen_0
  refine ok_lt.mpr ?_
  rw [show upI w 152 0 = wi w 152 0 from rfl]
  have f0 : FR [152] [] [] [] w (wi w 152 0) := FR.wi FR.rf (by decide)
  have z152 : F (wi w 152 0) 152 = 0 := by rw [F_wi (by omega) (by omega), if_pos rfl]
  have i0 := MEI_ints i f0 (by decide)
  generalize wi w 152 0 = w3 at *
  have g0 := PRG_fr hg' f0 (by decide) (by decide)
  have h0 := FRS_fr h f0 (by decide) (by decide) (by decide) (by decide) (by decide) (by decide) (by decide) (by decide) (by decide) (by decide)
  have t0 : CLS C w3 CN many hg hb m (rh (fr - 1)) k tp r ((c : Nat) : Int) := by obtain ⟨c', d1, d2, d3, d4⟩ := u2'; exact ⟨c', d1, d2, by rw [FR.A f0 (by decide)]; exact d3, d4⟩
  have c0 : F w3 154 = c := by rw [FR.F f0 (by decide)]; exact hc
  have a6 : A w3 106 p = ((cb (fr - 1) + k : Nat) : Int) := by rw [FR.A f0 (by decide)]; exact h106
  have a9 : A w3 109 p = 0 := by rw [FR.A f0 (by decide)]; exact h109
  have cl0 : CLG w3 (sR T pc (fr - 1) + r) 1 mu := by unfold CLG; rw [FR.F f0 (by decide), FR.F f0 (by decide)]; exact hcl
  have back : ∀ w2, RES Fv P PR T C ND CN p mu w3 w2 → RES Fv P PR T C ND CN p mu w w2 := fun w2 hw => RES.tr (FR.mo f0 (by decide) (by decide) (by decide) (by decide)) (OTF_fr f0 (by decide)) (fun z _ => FR.A f0 (by decide)) hw (Nat.le_refl _)
  have p92 : A w3 92 p = ((ro (fr - 1) + hg : Nat) : Int) := i0.2.2.2.2.2.2.2.2.2.1.1
  have p108 : A w3 108 p = ((bxM : Nat) : Int) := i0.2.2.2.2.2.2.2.2.2.2.2.1.1
  have b30 : bxM ≤ 30 := i0.2.2.2.2.2.2.2.2.2.2.2.1.2
  have p41 : A w3 41 c = many := by rw [FR.A f0 (by decide)]; exact cc.2.1
  have less : ∀ d : Nat, hg = hb + d → ∃ v, v = wa w3 92 p ((ro (fr - 1) + hb : Nat) : Int) ∧ FR [] [] [92] [] w3 v ∧ OTF p w3 v ∧ MEI Fv P PR v p n ow kd (ro (fr - 1) + hb) (rn (fr - 1) + rh (fr - 1) + cN C c) bxM := fun d hd => by
    have f5 : FR [] [] [92] [] w3 (wa w3 92 p ((ro (fr - 1) + hb : Nat) : Int)) := FR.wa FR.rf (by decide)
    exact ⟨_, rfl, f5, OTF_at f5 (i0 := p) (fun j hj => by rw [A_eq (by omega) (by omega), if_neg hj]) (Or.inl ⟨by decide, rfl⟩), ops_less i0 (k := ro (fr - 1) + hb) (by omega)⟩
  have fin : ∀ v : MS, FR [] [] [92, 97] [] w3 v → OTF p w3 v → MEI Fv P PR v p n ow kd (ro (fr - 1) + hb) (rn (fr - 1) + rh (fr - 1) + cN C c) bxM → OK (fun w2 _ => RES Fv P PR T C ND CN p mu w w2) (fb_M_chosen_148 N (gg_M_chosen N N) v) := fun v fv ov iv => by
    have := ch148 (N := N) (G := gg_M_chosen N N) (mu := mu) iv (PRG_fr g0 fv (by decide) (by decide)) (FRS_fr h0 fv (by decide) (by decide) (by decide) (by decide) (by decide) (by decide) (by decide) (by decide) (by decide) (by decide)) (by obtain ⟨c', d1, d2, d3, d4⟩ := t0; exact ⟨c', d1, d2, by rw [FR.A fv (by decide)]; exact d3, d4⟩) (by rw [FR.F fv (by decide)]; exact c0) (by rw [FR.A fv (by decide)]; exact a6) (by rw [FR.A fv (by decide)]; exact a9) (by rw [FR.F fv (by decide)]; exact z152) (by unfold CLG; rw [FR.F fv (by decide), FR.F fv (by decide)]; exact cl0)
    exact ok_mono this (fun u _ hu => back u (RES.tr (FR.mo fv (by decide) (by decide) (by decide) (by decide)) ov (fun z _ => FR.A fv (by decide)) hu (Nat.le_refl _)))
  rw [I_F' (show F w3 153 = s by rw [FR.F f0 (by decide)]; exact s1), lit0q, lit1q, show (3 : Int32) = I 3 from rfl, decE (by omega) (by omega) (by omega) (by omega), decE (by omega) (by omega) (by omega) (by omega), decE (by omega) (by omega) (by omega) (by omega), I_F' i0.2.2.1]
  refine ok_br.mpr ⟨fun z0 => ?_, fun z0 => ok_br.mpr ⟨fun z1 => ?_, fun z1 => ok_br.mpr ⟨fun z3 => ?_, fun z3 => ?_⟩⟩⟩
  · have es : s = 0 := by have := of_decide_eq_true z0; omega
    rw [es, if_pos rfl] at s3
    obtain ⟨v, v0, v1, v2, v3⟩ := less many s3
    rw [I_F' c0]
    refine ok_ck.mpr ⟨inb_at (k := 92) (n := 24) rfl (by omega) (by omega) (by decide), ok_ck.mpr ⟨inb_at (k := 41) (n := 1400) rfl (by omega) (by omega) (by decide), ok_ck.mpr ⟨inb_at (k := 92) (n := 24) rfl (by omega) (by omega) (by decide), ok_lt.mpr ?_⟩⟩⟩
    rw [I_tn (x := (p : Int)) (by omega) (by omega), Int.toNat_natCast, I_tn (x := (c : Int)) (by omega) (by omega), Int.toNat_natCast, I_A' p92, I_A' p41, I_sub, show ((ro (fr - 1) + hg : Nat) : Int) - (many : Int) = ((ro (fr - 1) + hb : Nat) : Int) from by omega, wa_e, ← v0, frame0_f (fr := fr) v3 (by rw [FR.A v1 (by decide)]; exact h0.1.2.2) ⟨hf.1, hf.2.1⟩, bnd_so]
    refine ok_ck.mpr ⟨inb_at (k := 97) (n := 1440) rfl (by omega) (by omega) (by decide), ok_lt.mpr ?_⟩
    rw [I_tn (by omega) (by omega), Int.toNat_natCast, I_F' (show F v 154 = c by rw [FR.F v1 (by decide)]; exact c0), wa_e]
    have f9 : FR [] [] [97] [] v (wa v 97 (60 * p + (fr - 1)) c) := FR.wa FR.rf (by decide)
    exact fin _ (FR.tr (FR.mo v1 (by decide) (by decide) (by decide) (by decide)) (FR.mo f9 (by decide) (by decide) (by decide) (by decide))) (OTF.tr v2 (OTF_97 (by omega))) (MEI_fr v3 f9 (by decide) (by decide) (by decide) (by decide) (by decide) (by decide) (by decide) (by decide) (by decide) (by decide) (by decide) (by decide) (by decide) (by decide) (by decide) (by decide) (by decide) (by decide))
  · have es : s = 1 := by have := of_decide_eq_true z1; omega
    rw [es, if_neg (by omega), if_pos rfl] at s3
    obtain ⟨v, v0, v1, v2, v3⟩ := less 1 s3
    refine ok_ck.mpr ⟨inb_at (k := 92) (n := 24) rfl (by omega) (by omega) (by decide), ok_ck.mpr ⟨inb_at (k := 92) (n := 24) rfl (by omega) (by omega) (by decide), ok_lt.mpr ?_⟩⟩
    rw [I_tn (x := (p : Int)) (by omega) (by omega), Int.toNat_natCast, I_A' p92, I_sub, show ((ro (fr - 1) + hg : Nat) : Int) - 1 = ((ro (fr - 1) + hb : Nat) : Int) from by omega, wa_e, ← v0]
    exact fin v (FR.mo v1 (by decide) (by decide) (by decide) (by decide)) v2 v3
  · have es : s = 3 := by have := of_decide_eq_true z3; omega
    rw [es, if_neg (by omega), if_neg (by omega)] at s3
    obtain rfl : hg = hb := by omega
    obtain ⟨-, v1, v2, -⟩ := u3 es
    obtain ⟨k8, hk8⟩ : ∃ k8 : Nat, F w 158 = k8 := ⟨(F w 158).toNat, by omega⟩
    refine ok_ck.mpr ⟨inb_at (k := 108) (n := 24) rfl (by omega) (by omega) (by decide), ok_ck.mpr ⟨inb_at (k := 108) (n := 24) rfl (by omega) (by omega) (by decide), ok_lt.mpr ?_⟩⟩
    rw [I_tn (x := (p : Int)) (by omega) (by omega), Int.toNat_natCast, I_A' p108, I_sub, show (bxM : Int) - 1 = ((bxM - 1 : Nat) : Int) from by omega, wa_e]
    have f8 : FR [] [] [108] [] w3 (wa w3 108 p ((bxM - 1 : Nat) : Int)) := FR.wa FR.rf (by decide)
    have i8 := box_less i0 (k := bxM - 1) (by omega)
    have gt8 : ∀ i, i ≤ bxM - 1 → GT n ow kd P ((wa w3 108 p ((bxM - 1 : Nat) : Int)).2.2.2 107 (30 * p + i)) := fun j hj => i0.2.2.2.2.2.2.2.2.2.2.2.2.2.2.1 j (by omega)
    generalize wa w3 108 p ((bxM - 1 : Nat) : Int) = v at *
    rw [I_F' (show F v 158 = k8 by rw [FR.F f8 (by decide), FR.F f0 (by decide)]; exact hk8)]
    have := ch99 (N := N) (mu := mu) (w0 := v) (PRG_fr g0 f8 (by decide) (by decide)) (FRS_fr h0 f8 (by decide) (by decide) (by decide) (by decide) (by decide) (by decide) (by decide) (by decide) (by decide) (by decide)) (by obtain ⟨c', d1, d2, d3, d4⟩ := t0; exact ⟨c', d1, d2, by rw [FR.A f8 (by decide)]; exact d3, d4⟩) (by rw [FR.F f8 (by decide)]; exact c0) (by rw [FR.A f8 (by decide)]; exact a6) (by rw [FR.A f8 (by decide)]; exact a9) (by rw [FR.F f8 (by decide)]; exact z152) (by unfold CLG; rw [FR.F f8 (by decide), FR.F f8 (by decide)]; exact cl0) (Nat.le_refl _) N k8 v FR.rf i8 gt8 (by omega) (by omega) (by omega)
    exact ok_mono this (fun u _ hu => back u (RES.tr (FR.mo f8 (by decide) (by decide) (by decide) (by decide)) (OTF_fr f8 (by decide)) (fun z _ => FR.A f8 (by decide)) hu (Nat.le_refl _)))
  · have e0 := of_decide_eq_false z0
    have e1 := of_decide_eq_false z1
    rw [if_neg (by omega), if_neg (by omega)] at s3
    exact fin w3 FR.rf (OTF_fr (FR.rf : FR [] [] [] [] w3 w3) (by decide)) (by rw [show hb = hg from by omega]; exact i0)
end
end
section
section
variable {Fv : Int64 → Int64 → Prop} {P : Int64 → Prop} {w w2 : MS} {PR N p n opM bnM bxM ND fr k tp mu CN PN SN UN FN : Nat} {ow kd ro rn rh cb pc ct pM pE : Nat → Nat} {T : TY} {C : CY}
theorem cE_109 (h : ∀ z, z ≠ p → A w2 109 z = A w 109 z) (h1 : A w 109 p ≠ 3) (h2 : A w2 109 p ≠ 3) : ∀ k, cE w2 k = cE w k := by
  intro k
  induction k with
  | zero => rfl
  | succ k ih =>
    show cE w2 k + (if A w2 109 k = 3 then 1 else 0) = cE w k + (if A w 109 k = 3 then 1 else 0)
    rw [ih]
    by_cases e : k = p
    · subst e; rw [if_neg h1, if_neg h2]
    · rw [h k e]
theorem DW_109 (d : DW Fv P PR w) (f : FR [] [] [109] [] w w2) (h : ∀ z, z ≠ p → A w2 109 z = A w 109 z) (h1 : A w 109 p ≠ 3) (h2 : A w2 109 p = 0 ∨ A w2 109 p = 1) : DW Fv P PR w2 := by
  obtain ⟨⟨d1, d1'⟩, d2, ⟨n4, ow4, kd4, d3a, d3b, d3c⟩, d4, ⟨eF, eM, e1, e2, e3, e4, e5⟩, d6⟩ := d
  have hpz : ∀ x, hp w2 x = hp w x := fun x => by unfold hp; rw [f.2.2.2 88 (by decide)]
  refine ⟨⟨by rw [FR.F f (by decide)]; exact d1, d1'⟩, fun p hp1 => PRC_same (d2 p hp1) (FR.A f (by decide)) (hpz p) (FR.A f (by decide)) (FR.A f (by decide)) (FR.A f (by decide)) (fun i _ => by rw [f.2.2.2 91 (by decide)]) (fun i _ => by rw [f.2.2.2 93 (by decide)]) (fun i _ => by rw [f.2.2.2 107 (by decide)]) (by rw [FR.F f (by decide), d4]; omega), ⟨n4, ow4, kd4, by rw [FR.A f (by decide)]; exact d3a, d3b, by rw [hpz]; exact d3c⟩, by rw [FR.F f (by decide)]; exact d4, ⟨eF, eM, by rw [FR.F f (by decide)]; exact e1, by rw [FR.F f (by decide)]; exact e2, e3, by rw [cE_109 h h1 (by omega)]; exact e4, fun i h3 h4 => ?_⟩, fun z hz => ?_⟩
  · obtain ⟨q1, q2, q3, q4⟩ := e5 i h3 h4
    rw [FR.A f (by decide), FR.A f (by decide), FR.A f (by decide), f.2.2.2 148 (by decide)]
    refine ⟨q1, q2, q3, ?_⟩
    rcases q4 with q4 | ⟨q4, q5, n5, ow5, kd5, q6, q7, q8, q9⟩
    · exact Or.inl q4
    · refine Or.inr ⟨q4, ?_, n5, ow5, kd5, by rw [FR.A f (by decide)]; exact q6, q7, by rw [hpz]; exact q8, q9⟩
      rcases q5 with q5 | ⟨q5, q5'⟩
      · exact Or.inl q5
      · refine Or.inr ⟨q5, ?_⟩
        rw [h _ (fun e => h1 (by rw [← e]; exact q5'))]; exact q5'
  · by_cases e : z = p
    · rw [e]; omega
    · rw [h z e]; exact d6 z hz
theorem MEI_109 {x : Int} (m : MEI Fv P PR w p n ow kd opM bnM bxM) (hx : x = 0 ∨ x = 1) : MEI Fv P PR (wa w 109 p x) p n ow kd opM bnM bxM := by
  obtain ⟨m1, m2, m3, m4, m5, ⟨x1, x2, x3, x4, x5, x6, x7, x8, x9, x10, x11⟩⟩ := m
  have f : FR [] [] [109] [] w (wa w 109 p x) := FR.wa FR.rf (by decide)
  have e : ∀ z, A (wa w 109 p x) 109 z = if z = p then x else A w 109 z := fun z => A_eq (by omega) (by omega)
  exact ⟨DW_109 (p := p) m1 f (fun z hz => by rw [e, if_neg hz]) m4 (by rw [e, if_pos rfl]; omega), m2, m3, by rw [e, if_pos rfl]; omega, by rw [FR.A f (by decide)]; exact m5, ⟨rfl, x2, x3, x4, by rw [FR.A f (by decide)]; exact x5, by rw [FR.A f (by decide)]; exact x6, by rw [FR.A f (by decide)]; exact x7, x8, x9, x10, x11⟩⟩
theorem lg_neg {x : Int64} (h : ¬ lg_cmp x 0 < 0) : x ≠ -1 := fun e => by subst e; exact h (by decide)
theorem afterMessages_ok {r q : Nat} (i : MEI Fv P PR w p n ow kd (ro (fr - 1) + tH T q) (rn (fr - 1) + rh (fr - 1) + tM T q) bxM) (hg' : PRG w T C pM pE ND CN PN SN UN FN) (h : FRS w T ND p fr ro rn rh cb pc ct (tK T q) (tC T q)) (h159 : F w 159 = q) (hq : q < ND) (h23 : A w 23 q = 27) (hG : tG T q = 0) (hl : rh (fr - 1) = tL T q) (h106 : A w 106 p = ((cb (fr - 1) + tK T q : Nat) : Int)) (h109 : A w 109 p = 0) (h152 : F w 152 = 0) (h111 : A w 31 q = -1 → w.2.2.2 111 p = -1) (h110 : 0 ≤ A w 110 p) (hr : tR T q ≤ r + 1) (hcl : CLG w (sR T pc (fr - 1) + r) 1 mu) : OK (fun w2 _ => RES Fv P PR T C ND CN p mu w w2) (fm_M_afterMessages N w) := by
  have x4 := MEI_p i
  have nd := hg'.1.1
  obtain ⟨-, ha, -⟩ := hg'.2.2.1 q hq
  obtain ⟨-, -, -, -, -, -, -, -, -, -, -, h27, -⟩ := ha
  obtain ⟨-, -, -, h31⟩ := h27 h23
  have wait : OK (fun w2 _ => RES Fv P PR T C ND CN p mu w w2) (fb_M_afterMessages_53 N () w) := by
    unfold fb_M_afterMessages_53 fb_M_afterMessages_71
    rw [I_F' i.2.2.1]
    refine ok_ck.mpr ⟨inb_at (k := 109) (n := 24) rfl (by omega) (by omega) (by decide), ok_lt.mpr ?_⟩
    rw [I_tn (x := (p : Int)) (by omega) (by omega), Int.toNat_natCast, lit1q, wa_e]
    have f1 : FR [] [] [109] [] w (wa w 109 p 1) := FR.wa FR.rf (by decide)
    have e1 : ∀ z, A (wa w 109 p 1) 109 z = if z = p then 1 else A w 109 z := fun z => A_eq (by omega) (by omega)
    have i1 := MEI_109 (x := 1) i (Or.inr rfl)
    generalize wa w 109 p 1 = v at *
    rw [I_F' (show F v 159 = q by rw [FR.F f1 (by decide)]; exact h159)]
    refine ok_bnd.mpr (ok_mono (at_ok (N := N) (q := q) i1 (FRS_fr h f1 (by decide) (by decide) (by decide) (by decide) (by decide) (by decide) (by decide) (by decide) (by decide) (by decide)) hq nd hl (by rw [FR.A f1 (by decide)]; exact h106)) (fun u _ hu => ?_))
    obtain ⟨u1, u2, u3⟩ := hu
    have fu : FR [] [] [98, 109] [] w u := FR.tr (FR.mo f1 (by decide) (by decide) (by decide) (by decide)) (FR.mo u2 (by decide) (by decide) (by decide) (by decide))
    refine ok_some.mpr ⟨Or.inr (Or.inl ⟨fr, ro, rn, rh, cb, pc, ct, q, n, ow, kd, bxM, u1, by rw [FR.A u2 (by decide), e1, if_pos rfl], hG, by rw [FR.A fu (by decide)]; exact h23, fun z => ?_, by rw [FR.A fu (by decide)]; exact h110⟩), Or.inl (FR.mo fu (by decide) (by decide) (by decide) (by decide)), OTF.tr (OTF_fr f1 (by decide)) u3, fun z hz => by rw [FR.A u2 (by decide), e1, if_neg hz]⟩
    rw [FR.A fu (by decide)] at z
    rw [fu.2.2.2 111 (by decide)]
    exact h111 z
  unfold fm_M_afterMessages fb_M_afterMessages_0 fb_M_afterMessages_71
  rw [I_F' i.2.2.1, I_tn (x := (p : Int)) (by omega) (by omega), Int.toNat_natCast]
  refine ok_ck.mpr ⟨inb_at (k := 111) (n := 24) rfl (by omega) (by omega) (by decide), ok_br.mpr ⟨fun _ => wait, fun z => ok_ck.mpr ⟨inb_at (k := 111) (n := 24) rfl (by omega) (by omega) (by decide), ok_br.mpr ⟨fun _ => wait, fun _ => ?_⟩⟩⟩⟩
  have n31 : A w 31 q ≠ -1 := fun e => lg_neg (of_decide_eq_false z) (h111 e)
  obtain ⟨g, g1, g2, b, g3, g4, g5⟩ := h31.resolve_left n31
  obtain ⟨n1, n2, n3, n4, n5, n6, n7, n8, n9⟩ := g5
  rw [I_F' h159]
  refine ok_ck.mpr ⟨inb_at (k := 31) (n := 16000) rfl (by omega) (by omega) (by decide), ?_⟩
  rw [I_tn (x := (q : Int)) (by omega) (by omega), Int.toNat_natCast, I_A' g1]
  refine ok_ck.mpr ⟨inb_at (k := 26) (n := 16000) rfl (by omega) (by omega) (by decide), ?_⟩
  rw [I_tn (x := (g : Int)) (by omega) (by omega), Int.toNat_natCast, I_A' g3]
  refine ok_bnd.mpr (ok_mono (at_ok (N := N) (q := b) (by rw [n1, n2]; exact i) (by rw [n4, n8]; exact h) g4 nd (by rw [n3]; exact hl) (by rw [n4]; exact h106)) (fun u _ hu => ?_))
  obtain ⟨u1, u2, u3⟩ := hu
  refine ok_some.mpr ⟨Or.inr (Or.inr ⟨mu - 1, ?_, fr, ro, rn, rh, cb, pc, ct, b, n, ow, kd, bxM, u1, by rw [FR.A u2 (by decide)]; exact h109, Or.inl ⟨by rw [n5]; exact hG, by rw [FR.F u2 (by decide)]; exact h152, ?_⟩⟩), Or.inl (FR.mo u2 (by decide) (by decide) (by decide) (by decide)), u3, fun z _ => FR.A u2 (by decide)⟩
  · obtain ⟨e1, e2, e3, e4⟩ := hcl; omega
  · obtain ⟨e1, e2, e3, e4⟩ := hcl
    unfold CLG
    rw [FR.F u2 (by decide), FR.F u2 (by decide)]
    exact ⟨e1, e2, e3, by omega⟩
end
end
section
def ER0 (Fv : Int64 → Int64 → Prop) (P : Int64 → Prop) (PR : Nat) (T : TY) (ND p : Nat) (w : MS) (fr : Nat) (ro rn rh cb pc ct : Nat → Nat) (k tp n : Nat) (ow kd : Nat → Nat) (opM bnM bxM rq mu : Nat) : Prop :=
  MEI Fv P PR w p n ow kd opM bnM bxM ∧ FRS w T ND p fr ro rn rh cb pc ct k tp ∧ (0 < k → ro (fr - 1) + tH T tp ≤ opM ∧ rn (fr - 1) + rh (fr - 1) + tM T tp ≤ bnM ∧ ∃ a : Nat, A w 25 tp = a ∧ tR T a < rq) ∧ (ro (fr - 1) ≤ opM ∧ rn (fr - 1) ≤ bnM) ∧ A w 106 p = ((cb (fr - 1) + k : Nat) : Int) ∧ k ≤ 26 ∧ A w 109 p = 0 ∧ F w 152 = 0 ∧ CLK w (sR T pc (fr - 1) + rq) mu
section
variable {Fv : Int64 → Int64 → Prop} {P : Int64 → Prop} {w w2 : MS} {PR N p n n2 opM bnM bxM ND fr k tp mu CN PN SN UN FN rq : Nat} {ow kd ow2 kd2 ro rn rh cb pc ct pM pE : Nat → Nat} {T : TY} {C : CY}
theorem ER0_fr {is ls as js : List Nat} (h : ER0 Fv P PR T ND p w fr ro rn rh cb pc ct k tp n ow kd opM bnM bxM rq mu) (f : FR is ls as js w w2) (i : MEI Fv P PR w2 p n2 ow2 kd2 opM bnM bxM) (hi : ∀ k, k ∈ [152, 164, 165] → k ∉ is) (ha : ∀ k, k ∈ [23, 25, 95, 98, 99, 100, 101, 102, 103, 104, 105, 106, 109] → k ∉ as) : ER0 Fv P PR T ND p w2 fr ro rn rh cb pc ct k tp n2 ow2 kd2 opM bnM bxM rq mu := by
  obtain ⟨-, h2, h3, h4, h5, h6, h7, h8, h9⟩ := h
  refine ⟨i, FRS_fr h2 f (ha _ (by decide)) (ha _ (by decide)) (ha _ (by decide)) (ha _ (by decide)) (ha _ (by decide)) (ha _ (by decide)) (ha _ (by decide)) (ha _ (by decide)) (ha _ (by decide)) (ha _ (by decide)), fun z => ?_, h4, by rw [FR.A f (ha _ (by decide))]; exact h5, h6, by rw [FR.A f (ha _ (by decide))]; exact h7, by rw [FR.F f (hi _ (by decide))]; exact h8, ?_⟩
  · rw [FR.A f (ha _ (by decide))]; exact h3 z
  · unfold CLK; rw [FR.F f (hi _ (by decide)), FR.F f (hi _ (by decide))]; exact h9
theorem up0 {S : SG_M_error} {t : Int64} {kn : Int} (e : ER0 Fv P PR T ND p w fr ro rn rh cb pc ct k tp n ow kd opM bnM bxM rq mu) (hg : PRG w T C pM pE ND CN PN SN UN FN) (hPB : PB P PR) (g : GT n ow kd P t) (hk : 0 ≤ kn ∧ kn ≤ 2) (hN : 60000 ≤ N) : OK (fun w2 _ => STP Fv P PR T ND p mu w w2) (fm_M_goesUp N S w (I kn) t) := by
  obtain ⟨h1, h2, h3, h4, h5, h6, h7, h8, h9⟩ := e
  exact goesUp_ok h1 h2 hg hPB g hk h3 h4 h5 h6 h7 h8 h9 hN
theorem error0 {S S2 : SG_M_error} {a : Int} (hS : S.2.2.2.2.2 = fm_M_goesUp N S2) (e : ER0 Fv P PR T ND p w fr ro rn rh cb pc ct k tp n ow kd opM bnM bxM rq mu) (hg : PRG w T C pM pE ND CN PN SN UN FN) (hPB : PB P PR) (ha : 0 ≤ a ∧ a < 22) (hN : 60000 ≤ N) : OK (fun w2 _ => STP Fv P PR T ND p mu w w2) (fm_M_error N S w (I a)) := by
  unfold fm_M_error fb_M_error_0
  rw [lit1q, term_e, bnd_so, hS]
  exact ok_bnd.mpr (ok_mono (up0 (kn := 0) e hg hPB (Or.inl ⟨nh_mk (by omega), hPB.1 a ha.1 ha.2⟩) (by omega) hN) (fun v _ h => ok_some.mpr h))
theorem STP.pre {u : MS} (f : STF0 u w) (o : OTF p u w) (h : ∀ z, z ≠ p → A w 109 z = A u 109 z) (s : STP Fv P PR T ND p mu w w2) : STP Fv P PR T ND p mu u w2 := by
  obtain ⟨s1, s2, s3, s4⟩ := s
  exact ⟨s1, STG.tr f s2, OTF.tr o s3, fun z hz => by rw [s4 z hz, h z hz]⟩
theorem errorOf0 {S S2 : SG_M_error} {a : Int} {t : Int64} (hS : S.2.2.2.2.2 = fm_M_goesUp N S2) (e : ER0 Fv P PR T ND p w fr ro rn rh cb pc ct k tp n ow kd opM bnM bxM rq mu) (hg : PRG w T C pM pE ND CN PN SN UN FN) (hPB : PB P PR) (g : GT n ow kd P t) (ha : 0 ≤ a ∧ a < 22) (hN : 60000 ≤ N) : OK (fun w2 _ => STP Fv P PR T ND p mu w w2) (fm_M_errorOf N S w (I a) t) := by
  have i := e.1
  have x4 := MEI_p i
  unfold fm_M_errorOf fb_M_errorOf_0 fb_M_errorOf_66
  rw [I_F' e.2.2.2.2.2.2.2.1, lit0q, decE (by omega) (by omega) (by omega) (by omega), decide_eq_true rfl, br_tq, I_F' i.2.2.1, hand_e, bnd_so, show (wl (wi w 140 p) 139 t).1 133 = I p from I_F' (by rw [F_wl, F_wi (by omega) (by omega), if_neg (by decide)]; exact i.2.2.1)]
  have hw := wants_h (m := 3) i g (by omega) hN
  rw [show I ((3 : Nat) : Int) = (3 : Int32) from rfl] at hw
  refine ok_bnd.mpr (ok_mono hw (fun u r h => ?_))
  obtain ⟨n2, ow2, kd2, q1, q2, q3, -, q4⟩ := h
  rw [handNone_e, bnd_so]
  have o3 : OTF p w (wl (wi u 140 (-1)) 139 (mk 6 0)) := OTF_fr q3 (by decide)
  refine ok_br.mpr ⟨fun _ => ?_, fun hr => ?_⟩
  · refine ok_bnd.mpr (ok_mono (noRoom_ok (N := N) q1 hPB) (fun u2 _ h => ok_some.mpr ⟨Or.inl h.1, Or.inr ⟨FR.tr (FR.mo q3 (by decide) (by decide) (by decide) (by decide)) (FR.mo h.2.1 (by decide) (by decide) (by decide) (by decide)), h.1.2⟩, OTF.tr o3 (OTF_fr h.2.1 (by decide)), fun z hz => by rw [h.2.2 z hz, FR.A q3 (by decide)]⟩))
  · have room : n2 + 3 ≤ 500 := by
      rcases q4 with ⟨-, z⟩ | z
      · exact z
      · exact absurd z (by intro z; exact absurd (show r = I 0 by rw [z]) (of_decide_eq_false hr))
    refine ok_bnd.mpr (ok_mono (two_ok (N := N) q1 hPB ha q2 room) (fun u2 r2 h => ?_))
    obtain ⟨s1, ow3, kd3, s2, s3, -⟩ := h
    have e2 := ER0_fr (ER0_fr e q3 q1 (by decide) (by decide)) s1 s2 (by decide) (by decide)
    rw [hS]
    have f2 : FR [136, 138, 140] [139] [89, 90, 135] [88, 91, 93, 107, 134, 137] w u2 := FR.tr q3 (FR.mo s1 (by decide) (by decide) (by decide) (by decide))
    exact ok_bnd.mpr (ok_mono (up0 (kn := 0) e2 (PRG_fr hg f2 (by decide) (by decide)) hPB s3 (by omega) hN) (fun v _ h => ok_some.mpr (STP.pre (FR.mo f2 (by decide) (by decide) (by decide) (by decide)) (OTF_fr f2 (by decide)) (fun z _ => FR.A f2 (by decide)) h)))
theorem nonePart_ok {S S1 S3 : SG_M_error} {s many hg hb m r : Nat} (hS1 : S.1 = fm_M_error N S1) (hS2 : S.2.1 = fm_M_errorOf N S1) (hS3 : S1.2.2.2.2.2 = fm_M_goesUp N S3) (i : MEI Fv P PR w p n ow kd (ro (fr - 1) + hg) (rn (fr - 1) + rh (fr - 1) + m) bxM) (hg' : PRG w T C pM pE ND CN PN SN UN FN) (hPB : PB P PR) (h : FRS w T ND p fr ro rn rh cb pc ct k tp) (ht : TRS w T C ND CN p (ro (fr - 1)) (rn (fr - 1)) (rh (fr - 1)) k tp s many hg hb m r bxM) (h106 : A w 106 p = ((cb (fr - 1) + k : Nat) : Int)) (h109 : A w 109 p = 0) (h152 : F w 152 = 0) (hcl : CLG w (sR T pc (fr - 1) + r) 1 mu) (hN : 60000 ≤ N) :
    OK (fun w2 r2 => (r2 = I 0 ∧ RES Fv P PR T C ND CN p mu w w2) ∨ (r2 = I 1 ∧ s = 3 ∧ FR [154, 158] [] [110] [] w w2 ∧ F w2 158 = F w 158 + 1 ∧ F w 158 + 1 < bxM ∧ F w2 154 = F w 155 ∧ OTF p w w2)) (fm_M_nonePart N S w) := by
  have x4 := MEI_p i
  obtain ⟨⟨s1, s2, s3, s4, s42, s5, s6, s7, s8, s9⟩, u1, u2, u3, u4⟩ := id ht
  have er : ER0 Fv P PR T ND p w fr ro rn rh cb pc ct k tp n ow kd (ro (fr - 1) + hg) (rn (fr - 1) + rh (fr - 1) + m) bxM r mu := by
    refine ⟨i, h, fun z => ?_, ⟨by omega, by omega⟩, h106, s6, h109, h152, ?_⟩
    · obtain ⟨y1, y2, y3⟩ := u4.1 z
      exact ⟨by omega, by omega, y3⟩
    · obtain ⟨e1, e2, e3, e4⟩ := hcl
      exact ⟨e1, e2, e3, by omega⟩
  have done : ∀ x : Option (MS × Unit), OK (fun w2 _ => STP Fv P PR T ND p mu w w2) x → OK (fun w2 r2 => (r2 = I 0 ∧ RES Fv P PR T C ND CN p mu w w2) ∨ (r2 = I 1 ∧ s = 3 ∧ FR [154, 158] [] [110] [] w w2 ∧ F w2 158 = F w 158 + 1 ∧ F w 158 + 1 < bxM ∧ F w2 154 = F w 155 ∧ OTF p w w2)) (bnd x (fun u1 _ => fb_M_nonePart_122 N S () u1)) := fun x hx => by
    unfold fb_M_nonePart_122
    exact ok_bnd.mpr (ok_mono hx (fun v _ hv => ok_ck.mpr ⟨rfl, ok_some.mpr (Or.inl ⟨rfl, RES_stp hv⟩)⟩))
  unfold fm_M_nonePart fb_M_nonePart_0
  rw [I_F' s1, show (3 : Int32) = I 3 from rfl, show (2 : Int32) = I 2 from rfl, lit1q, decE (by omega) (by omega) (by omega) (by omega), decE (by omega) (by omega) (by omega) (by omega), decE (by omega) (by omega) (by omega) (by omega)]
  refine ok_br.mpr ⟨fun z3 => ?_, fun z3 => ok_br.mpr ⟨fun z1 => ?_, fun z1 => ok_br.mpr ⟨fun z2 => ?_, fun z2 => ?_⟩⟩⟩
  · have es : s = 3 := by have := of_decide_eq_true z3; omega
    obtain ⟨v0, v1, v2, q, v3, v4, v5, v6, v7, v8, v9, v10, v11, v12, v13⟩ := u3 es
    have b30 : bxM ≤ 30 := i.2.2.2.2.2.2.2.2.2.2.2.1.2
    obtain ⟨k8, hk8⟩ : ∃ k8 : Nat, F w 158 = k8 := ⟨(F w 158).toNat, by omega⟩
    refine ok_lt.mpr ?_
    rw [I_F' hk8, I_add, wi_e]
    have f4 : FR [158] [] [] [] w (wi w 158 ((k8 : Int) + 1)) := FR.wi FR.rf (by decide)
    have e4 : F (wi w 158 ((k8 : Int) + 1)) 158 = (k8 : Int) + 1 := by rw [F_wi (by omega) (by omega), if_pos rfl]
    generalize wi w 158 ((k8 : Int) + 1) = w4 at *
    have m4 : F w4 133 = p := by rw [FR.F f4 (by decide)]; exact i.2.2.1
    rw [I_F' m4, I_F' e4]
    refine ok_ck.mpr ⟨inb_at (k := 110) (n := 24) rfl (by omega) (by omega) (by decide), ok_lt.mpr ?_⟩
    rw [I_tn (x := (p : Int)) (by omega) (by omega), Int.toNat_natCast, wa_e]
    have f5 : FR [158] [] [110] [] w (wa w4 110 p ((k8 : Int) + 1)) := FR.wa (FR.mo f4 (by decide) (by decide) (by decide) (by decide)) (by decide)
    have e5 : F (wa w4 110 p ((k8 : Int) + 1)) 158 = (k8 : Int) + 1 := e4
    have o5 : OTF p w (wa w4 110 p ((k8 : Int) + 1)) := OTF.tr (OTF_fr f4 (by decide)) (OTF_110 (by omega) (by omega))
    generalize wa w4 110 p ((k8 : Int) + 1) = w5 at *
    have m5 : F w5 133 = p := by rw [FR.F f5 (by decide)]; exact i.2.2.1
    have p108 : A w5 108 p = ((bxM : Nat) : Int) := by rw [FR.A f5 (by decide)]; exact i.2.2.2.2.2.2.2.2.2.2.2.1.1
    rw [I_F' m5, I_F' e5]
    refine ok_ck.mpr ⟨inb_at (k := 108) (n := 24) rfl (by omega) (by omega) (by decide), ?_⟩
    rw [I_tn (x := (p : Int)) (by omega) (by omega), Int.toNat_natCast, I_A' p108, decI (by omega) (by omega) (by omega) (by omega)]
    refine ok_br.mpr ⟨fun y => ?_, fun y => ?_⟩
    · refine ok_ck.mpr ⟨inb_at (k := 108) (n := 24) rfl (by omega) (by omega) (by decide), ok_ck.mpr ⟨inb_at (k := 110) (n := 24) rfl (by omega) (by omega) (by decide), ok_lt.mpr ?_⟩⟩
      rw [wa_e]
      have f6 : FR [158] [] [110] [] w (wa w5 110 p bxM) := FR.wa f5 (by decide)
      have e6 : 0 ≤ A (wa w5 110 p bxM) 110 p := by rw [A_eq (by omega) (by omega), if_pos rfl]; omega
      have o6 : OTF p w (wa w5 110 p bxM) := OTF.tr o5 (OTF_110 (by omega) (by omega))
      generalize wa w5 110 p bxM = w6 at *
      have am := afterMessages_ok (N := N) (mu := mu) (q := q) (r := r) (C := C) (CN := CN) (by rw [v6, v7]; exact MEI_fr i f6 (by decide) (by decide) (by decide) (by decide) (by decide) (by decide) (by decide) (by decide) (by decide) (by decide) (by decide) (by decide) (by decide) (by decide) (by decide) (by decide) (by decide) (by decide)) (PRG_fr hg' f6 (by decide) (by decide)) (by rw [v9, v10]; exact FRS_fr h f6 (by decide) (by decide) (by decide) (by decide) (by decide) (by decide) (by decide) (by decide) (by decide) (by decide)) (by rw [FR.F f6 (by decide)]; exact v3) v4 (by rw [FR.A f6 (by decide)]; exact v5) v11 v8.symm (by rw [FR.A f6 (by decide), v9]; exact h106) (by rw [FR.A f6 (by decide)]; exact h109) (by rw [FR.F f6 (by decide)]; exact h152) (fun z => by rw [FR.A f6 (by decide)] at z; rw [f6.2.2.2 111 (by decide)]; exact v13 z) e6 (by omega) (by unfold CLG; rw [FR.F f6 (by decide), FR.F f6 (by decide)]; exact hcl)
      exact ok_bnd.mpr (ok_mono am (fun u _ hu => ok_ck.mpr ⟨rfl, ok_some.mpr (Or.inl ⟨rfl, RES.tr (FR.mo f6 (by decide) (by decide) (by decide) (by decide)) o6 (fun z _ => FR.A f6 (by decide)) hu (Nat.le_refl _)⟩)⟩))
    · have hy := of_decide_eq_false y
      refine ok_lt.mpr (ok_ck.mpr ⟨rfl, ok_some.mpr (Or.inr ⟨rfl, es, ?_⟩)⟩)
      have r155 := F_r w5 155
      rw [I_F (k := 155), wi_e]
      refine ⟨FR.wi (FR.mo f5 (by decide) (by decide) (by decide) (by decide)) (by decide), ?_, by omega, ?_, OTF.tr o5 (OTF_fr (FR.wi FR.rf (by decide) : FR [154] [] [] [] w5 _) (by decide))⟩
      · rw [F_wi r155.1 r155.2, if_neg (by decide), e5, hk8]
      · rw [F_wi r155.1 r155.2, if_pos rfl, FR.F f5 (by decide)]
  · have es : s = 1 := by have := of_decide_eq_true z1; omega
    rw [es, if_neg (by omega), if_pos rfl] at s3
    obtain ⟨t1, t2⟩ := top_ok (N := N) (k := 0) i (by omega)
    rw [lit0q, show (0 : Int) = ((0 : Nat) : Int) from rfl, t1, bnd_so, hS2]
    exact done _ (errorOf0 (a := 15) hS3 er hg' hPB t2 (by omega) hN)
  · unfold fb_M_nonePart_119
    rw [hS1]
    exact done _ (error0 (a := 16) hS3 er hg' hPB (by omega) hN)
  · unfold fb_M_nonePart_119
    rw [hS1]
    exact done _ (error0 (a := 14) hS3 er hg' hPB (by omega) hN)
end
end
section
section
variable {Fv : Int64 → Int64 → Prop} {P : Int64 → Prop} {w w2 : MS} {PR N p n n2 opM bnM bxM ND fr k tp mu CN PN SN UN FN rq : Nat} {ow kd ow2 kd2 ro rn rh cb pc ct pM pE : Nat → Nat} {T : TY} {C : CY}
theorem TRS_fr {is ls as js : List Nat} {a1 a2 a3 s many hg hb m r : Nat} (ht : TRS w T C ND CN p a1 a2 a3 k tp s many hg hb m r bxM) (f : FR is ls as js w w2) (hi : ∀ k, k ∈ [149, 150, 151, 153, 154, 155, 156, 158, 159] → k ∉ is) (ha : ∀ k, k ∈ [23, 25, 31, 41] → k ∉ as) (hj : 111 ∉ js) : TRS w2 T C ND CN p a1 a2 a3 k tp s many hg hb m r bxM := by
  obtain ⟨⟨s1, s2⟩, u1, u2, u3, u4⟩ := ht
  have cls : ∀ x, CLS C w CN many hg hb m a3 k tp r x → CLS C w2 CN many hg hb m a3 k tp r x := fun x ⟨c', d1, d2, d3, d4⟩ => ⟨c', d1, d2, by rw [FR.A f (ha _ (by decide))]; exact d3, d4⟩
  refine ⟨⟨by rw [FR.F f (hi _ (by decide))]; exact s1, s2⟩, by rw [FR.F f (hi _ (by decide))]; exact u1, ?_, fun z => ?_, fun z => ?_, by rw [FR.F f (hi _ (by decide)), FR.F f (hi _ (by decide)), FR.F f (hi _ (by decide))]; exact u4.2⟩
  · rw [FR.F f (hi _ (by decide))]
    rcases u2 with u2 | u2
    · exact Or.inl u2
    · exact Or.inr (cls _ u2)
  · obtain ⟨v0, v1, v2, q, v3, v4, v5, v6⟩ := u3 z
    obtain ⟨v6, v7, v8, v9, v10, v11, v12, v13⟩ := v6
    rw [FR.F f (hi _ (by decide)), FR.F f (hi _ (by decide))]
    exact ⟨cls _ v0, v1, v2, q, by rw [FR.F f (hi _ (by decide))]; exact v3, v4, by rw [FR.A f (ha _ (by decide))]; exact v5, v6, v7, v8, v9, v10, v11, v12, fun y => by rw [FR.A f (ha _ (by decide))] at y; rw [f.2.2.2 111 hj]; exact v13 y⟩
  · rw [FR.A f (ha _ (by decide))]; exact u4.1 z
theorem TRS_at {is ls as js : List Nat} {a1 a2 a3 s many hg hb m r : Nat} (ht : TRS w T C ND CN p a1 a2 a3 k tp s many hg hb m r bxM) (f : FR is ls as js w w2) (hi : ∀ k, k ∈ [149, 150, 151, 153, 155, 156, 159] → k ∉ is) (ha : ∀ k, k ∈ [23, 25, 31, 41] → k ∉ as) (hj : 111 ∉ js) (h4 : F w2 154 = -1 ∨ CLS C w CN many hg hb m a3 k tp r (F w2 154)) (h8 : s = 3 → 0 ≤ F w2 158 ∧ F w2 158 < bxM) : TRS w2 T C ND CN p a1 a2 a3 k tp s many hg hb m r bxM := by
  obtain ⟨⟨s1, s2⟩, u1, u2, u3, u4⟩ := ht
  have cls : ∀ x, CLS C w CN many hg hb m a3 k tp r x → CLS C w2 CN many hg hb m a3 k tp r x := fun x ⟨c', d1, d2, d3, d4⟩ => ⟨c', d1, d2, by rw [FR.A f (ha _ (by decide))]; exact d3, d4⟩
  refine ⟨⟨by rw [FR.F f (hi _ (by decide))]; exact s1, s2⟩, by rw [FR.F f (hi _ (by decide))]; exact u1, ?_, fun z => ?_, fun z => ?_, by rw [FR.F f (hi _ (by decide)), FR.F f (hi _ (by decide)), FR.F f (hi _ (by decide))]; exact u4.2⟩
  · rcases h4 with u2 | u2
    · exact Or.inl u2
    · exact Or.inr (cls _ u2)
  · obtain ⟨v0, v1, v2, q, v3, v4, v5, v6⟩ := u3 z
    obtain ⟨v6, v7, v8, v9, v10, v11, v12, v13⟩ := v6
    rw [FR.F f (hi _ (by decide))]
    exact ⟨cls _ v0, (h8 z).1, (h8 z).2, q, by rw [FR.F f (hi _ (by decide))]; exact v3, v4, by rw [FR.A f (ha _ (by decide))]; exact v5, v6, v7, v8, v9, v10, v11, v12, fun y => by rw [FR.A f (ha _ (by decide))] at y; rw [f.2.2.2 111 hj]; exact v13 y⟩
  · rw [FR.A f (ha _ (by decide))]; exact u4.1 z
set_option maxRecDepth 100000 in
theorem choose_loop {S S1 S2 S3 : SG_M_error} {s many hg hb m r : Nat} (hS0 : S.2.2.1 = fm_M_nonePart N S1) (hS1 : S1.1 = fm_M_error N S2) (hS2 : S1.2.1 = fm_M_errorOf N S2) (hS3 : S2.2.2.2.2.2 = fm_M_goesUp N S3) (hg' : PRG w T C pM pE ND CN PN SN UN FN) (hPB : PB P PR) (hF : FVH Fv) (hat : ATM w) (hP : ∀ t, P t → PA w t) (h : FRS w T ND p fr ro rn rh cb pc ct k tp) (h106 : A w 106 p = ((cb (fr - 1) + k : Nat) : Int)) (h109 : A w 109 p = 0) (h152 : F w 152 = 0) (hN : 60000 ≤ N) :
    ∀ (fu B d b ctt : Nat) (v : MS), FR [154, 158] [] [94, 110, 160, 162] [93, 141, 161, 163] w v → OTF p w v → MEI Fv P PR v p n ow kd (ro (fr - 1) + hg) b bxM → rn (fr - 1) + rh (fr - 1) + m ≤ b → TRS v T C ND CN p (ro (fr - 1)) (rn (fr - 1)) (rh (fr - 1)) k tp s many hg hb m r bxM → (s = 3 → F v 158 + B = bxM) → (s ≠ 3 → B = 0) → 1 ≤ ctt → (∀ c : Nat, F v 154 = c → CN - c = d ∧ cT C c + 1 < ctt) → CLG v (sR T pc (fr - 1) + r) ((B * 16002 + ctt : Nat) : Int) mu → B * 1500 + d + 1 < fu → OK (fun w2 _ => RES Fv P PR T C ND CN p mu w w2) (gg_M_choose N S fu v (I 1)) := by
  intro fu
  induction fu with
  | zero => intro B d b ctt v _ _ _ _ _ _ _ _ _ _ z; exact absurd z (Nat.not_lt_zero _)
  | succ fu ih =>
    intro B d b ctt v fv ov iv hb' tv hB hB0 hc1 hd cl hf
    have x4 := MEI_p iv
    have hf60 := h.1
    have cn := hg'.1.2.1
    have nd := hg'.1.1
    have hro := (h.2.2.1 (fr - 1) (by omega)).2.2.2.2
    have rgo : -2147483648 ≤ ((ro (fr - 1) + hg : Nat) : Int) ∧ ((ro (fr - 1) + hg : Nat) : Int) < 2147483648 := by have := tv.1.2.2.2.2.2.2.2.1; omega
    have zero : ∀ u : MS, RES Fv P PR T C ND CN p mu w u → OK (fun w2 _ => RES Fv P PR T C ND CN p mu w w2) (gg_M_choose N S fu u (I 0)) := fun u hu => by
      obtain ⟨f2, hf2⟩ : ∃ f2, fu = f2 + 1 := ⟨fu - 1, by omega⟩
      subst hf2
      show OK _ (fb_M_choose_2 N S (gg_M_choose N S f2) u (I 0))
      unfold fb_M_choose_2
      rw [lit0q, decide_eq_true rfl, br_tq]
      exact ok_some.mpr hu
    show OK _ (fb_M_choose_2 N S (gg_M_choose N S fu) v (I 1))
    unfold fb_M_choose_2
    obtain ⟨⟨s1, s2, s3, s4, s42, s5, s6, s7, s8, s9⟩, u1, -, u3, -⟩ := id tv
    rw [lit0q, decE (by omega) (by omega) (by omega) (by omega), decide_eq_false (by omega), br_fq, I_F' iv.2.2.1]
    refine ok_ck.mpr ⟨inb_at (k := 94) (n := 24) rfl (by omega) (by omega) (by decide), ok_lt.mpr ?_⟩
    rw [I_tn (x := (p : Int)) (by omega) (by omega), Int.toNat_natCast, I_F' u1, wa_e]
    have f1 : FR [] [] [94] [] v (wa v 94 p ((rn (fr - 1) + rh (fr - 1) + m : Nat) : Int)) := FR.wa FR.rf (by decide)
    have o1 : OTF p v (wa v 94 p ((rn (fr - 1) + rh (fr - 1) + m : Nat) : Int)) := OTF_at f1 (i0 := p) (fun j hj => by rw [A_eq (by omega) (by omega), if_neg hj]) (Or.inl ⟨by decide, rfl⟩)
    have i1 := names_less iv (k := rn (fr - 1) + rh (fr - 1) + m) hb'
    generalize wa v 94 p ((rn (fr - 1) + rh (fr - 1) + m : Nat) : Int) = w1 at *
    have fw : FR [154, 158] [] [94, 110, 160, 162] [93, 141, 161, 163] w w1 := FR.tr fv (FR.mo f1 (by decide) (by decide) (by decide) (by decide))
    have ow1 : OTF p w w1 := OTF.tr ov o1
    have t1 := TRS_fr tv f1 (by decide) (by decide) (by decide)
    have g1 := PRG_fr hg' fw (by decide) (by decide)
    have h1 := FRS_fr h fw (by decide) (by decide) (by decide) (by decide) (by decide) (by decide) (by decide) (by decide) (by decide) (by decide)
    have a6 : A w1 106 p = ((cb (fr - 1) + k : Nat) : Int) := by rw [FR.A fw (by decide)]; exact h106
    have a9 : A w1 109 p = 0 := by rw [FR.A fw (by decide)]; exact h109
    have a52 : F w1 152 = 0 := by rw [FR.F fw (by decide)]; exact h152
    have cl1 : CLG w1 (sR T pc (fr - 1) + r) ((B * 16002 + ctt : Nat) : Int) mu := by unfold CLG; rw [FR.F f1 (by decide), FR.F f1 (by decide)]; exact cl
    have cl1' : CLG w1 (sR T pc (fr - 1) + r) 1 mu := by obtain ⟨e1, e2, e3, e4⟩ := cl1; exact ⟨e1, e2, e3, by omega⟩
    have e154 : F w1 154 = F v 154 := FR.F f1 (by decide)
    have e158 : F w1 158 = F v 158 := FR.F f1 (by decide)
    have r154 := F_r w1 154
    have back : ∀ u, RES Fv P PR T C ND CN p mu w1 u → RES Fv P PR T C ND CN p mu w u := fun u hu => RES.tr (FR.mo fw (by decide) (by decide) (by decide) (by decide)) ow1 (fun z _ => FR.A fw (by decide)) hu (Nat.le_refl _)
    rw [I_F (k := 154), litm1q, decE r154.1 r154.2 (by omega) (by omega)]
    refine ok_br.mpr ⟨fun zn => ?_, fun zn => ?_⟩
    · 
      rw [hS0]
      refine ok_bnd.mpr (ok_mono (nonePart_ok (N := N) (C := C) (CN := CN) hS1 hS2 hS3 i1 g1 hPB h1 t1 a6 a9 a52 cl1' hN) (fun u r8 hu => ?_))
      rcases hu with ⟨y1, y2⟩ | ⟨y1, y2, y3, y4, y5, y6, y7⟩
      · rw [y1]; exact zero u (back u y2)
      · rw [y1]
        obtain ⟨v0, v1, v2, -⟩ := t1.2.2.2.1 y2
        have v0' := v0
        obtain ⟨c', d1, d2, d3, d4⟩ := v0'
        have fu' : FR [154, 158] [] [94, 110, 160, 162] [93, 141, 161, 163] w u := FR.tr fw (FR.mo y3 (by decide) (by decide) (by decide) (by decide))
        have hB' := hB y2
        refine ih (B - 1) (CN - c') (rn (fr - 1) + rh (fr - 1) + m) 16002 u fu' (OTF.tr ow1 y7) (MEI_fr i1 y3 (by decide) (by decide) (by decide) (by decide) (by decide) (by decide) (by decide) (by decide) (by decide) (by decide) (by decide) (by decide) (by decide) (by decide) (by decide) (by decide) (by decide) (by decide)) (Nat.le_refl _) (TRS_at t1 y3 (by decide) (by decide) (by decide) (Or.inr (by rw [y6]; exact v0)) (fun _ => by omega)) (fun _ => by omega) (fun z => absurd y2 z) (by omega) (fun c hc => ?_) ?_ (by omega)
        · have : c = c' := by omega
          subst this
          exact ⟨rfl, by have := (hg'.2.2.2.1 c d2).2.1; omega⟩
        · obtain ⟨e1, e2, e3, e4⟩ := cl1
          unfold CLG
          rw [FR.F y3 (by decide), FR.F y3 (by decide)]
          refine ⟨e1, e2, e3, ?_⟩
          have : ((B - 1) * 16002 + 16002 : Nat) = B * 16002 := by omega
          rw [this]
          omega
    · 
      have zn' := of_decide_eq_false zn
      have u2' : CLS C w1 CN many hg hb m (rh (fr - 1)) k tp r (F w1 154) := by
        rcases t1.2.2.1 with u2 | u2
        · exact absurd u2 zn'
        · exact u2
      obtain ⟨c, hc, hc2⟩ : ∃ c : Nat, F w1 154 = c ∧ c < CN := by obtain ⟨c', d1, d2, -⟩ := u2'; exact ⟨c', d1, d2⟩
      rw [hc] at u2'
      obtain ⟨dd, ctl⟩ := hd c (by omega)
      obtain ⟨-, c41, c3, c4, c5, c6, cg, -, cx⟩ := cls_c (s := 0) g1 u2'
      refine ok_bnd.mpr (ok_mono (fitsPart_ok (N := N) i1 g1 hF (ATM_fr hat fw (by decide) (by decide)) (PA_fr hP fw (by decide)) h1 t1 hc (by omega)) (fun u r2 hu => ?_))
      obtain ⟨y1, y2⟩ := hu
      have f2 := y1.1
      have o2 : OTF p w1 u := ⟨fun z hz => ⟨FR.A f2 (by decide), y1.2 z hz, FR.A f2 (by decide), FR.A f2 (by decide)⟩, fun j _ => ⟨FR.A f2 (by decide), FR.A f2 (by decide), FR.A f2 (by decide), FR.A f2 (by decide)⟩, fun j _ => ⟨FR.A f2 (by decide), FR.A f2 (by decide), FR.A f2 (by decide), FR.A f2 (by decide)⟩, OTF_9 f2 (by decide)⟩
      have fwu : FR [154, 158] [] [94, 110, 160, 162] [93, 141, 161, 163] w u := FR.tr fw (FR.mo f2 (by decide) (by decide) (by decide) (by decide))
      have c2 : F u 154 = c := by rw [FR.F f2 (by decide)]; exact hc
      have m2 : F u 133 = p := by rw [FR.F f2 (by decide)]; exact i1.2.2.1
      have t2 := TRS_fr t1 f2 (by decide) (by decide) (by decide)
      have back2 : ∀ x, RES Fv P PR T C ND CN p mu u x → RES Fv P PR T C ND CN p mu w x := fun x hx => back x (RES.tr (FR.mo f2 (by decide) (by decide) (by decide) (by decide)) o2 (fun z _ => FR.A f2 (by decide)) hx (Nat.le_refl _))
      refine ok_br.mpr ⟨fun z0 => ?_, fun z0 => ?_⟩
      · obtain ⟨b2, y3, y4⟩ : ∃ b2, MEI Fv P PR u p n ow kd (ro (fr - 1) + hg) b2 bxM ∧ rn (fr - 1) + rh (fr - 1) + m ≤ b2 := by
          rcases y2 with ⟨y2, -⟩ | ⟨-, b2, y3, y4⟩
          · exfalso; rw [y2] at z0; exact absurd (of_decide_eq_true z0) (by decide)
          · exact ⟨b2, y3, y4⟩
        rw [I_F' c2]
        refine ok_ck.mpr ⟨inb_at (k := 45) (n := 1400) rfl (by omega) (by omega) (by decide), ok_lt.mpr ?_⟩
        have r45 := A_r u 45 c
        rw [I_tn (x := (c : Int)) (by omega) (by omega), Int.toNat_natCast, I_A (k := 45), wi_e]
        have e45 : A u 45 c = A w1 45 c := FR.A f2 (by decide)
        have f3 : FR [154] [] [] [] u (wi u 154 (A u 45 c)) := FR.wi FR.rf (by decide)
        have e3 : F (wi u 154 (A u 45 c)) 154 = A w1 45 c := by rw [F_wi r45.1 r45.2, if_pos rfl, e45]
        generalize wi u 154 (A u 45 c) = w3 at *
        have e8 : F w3 158 = F v 158 := by rw [FR.F f3 (by decide), FR.F f2 (by decide)]; exact e158
        have f13 : FR [154] [] [94, 160, 162] [93, 141, 161, 163] w1 w3 := FR.tr (FR.mo f2 (by decide) (by decide) (by decide) (by decide)) (FR.mo f3 (by decide) (by decide) (by decide) (by decide))
        have next : ∀ (dn : Nat) (ctn : Nat), 1 ≤ ctn → (∀ c : Nat, F w3 154 = c → CN - c = dn ∧ cT C c + 1 < ctn) → ctn ≤ ctt → dn < d → (F w3 154 = -1 ∨ CLS C w1 CN many hg hb m (rh (fr - 1)) k tp r (F w3 154)) → OK (fun w2 _ => RES Fv P PR T C ND CN p mu w w2) (gg_M_choose N S fu w3 (I 1)) := fun dn ctn h1' h2' h3' h4' h5' => by
          refine ih B dn b2 ctn w3 (FR.tr fwu (FR.mo f3 (by decide) (by decide) (by decide) (by decide))) (OTF.tr (OTF.tr ow1 o2) (OTF_fr f3 (by decide))) (MEI_ints y3 f3 (by decide)) y4 (TRS_at t1 f13 (by decide) (by decide) (by decide) h5' (fun z => by rw [e8]; exact ⟨(u3 z).2.1, (u3 z).2.2.1⟩)) (fun z => by rw [e8]; exact hB z) hB0 h1' h2' ?_ (by omega)
          obtain ⟨e1, e2, e3', e4⟩ := cl1
          unfold CLG
          rw [FR.F f13 (by decide), FR.F f13 (by decide)]
          exact ⟨e1, e2, e3', by omega⟩
        rcases cx with cx | ⟨d2, cx1, cx2, cx3, cx4⟩
        · exact next 0 1 (by omega) (fun c' hc' => by omega) hc1 (by omega) (Or.inl (by rw [e3]; exact cx))
        · refine next (CN - d2) ctt hc1 (fun c' hc' => ?_) (Nat.le_refl _) ?_ (Or.inr (by rw [e3, cx1]; exact cx4))
          · have : c' = d2 := by omega
            subst this
            exact ⟨rfl, by omega⟩
          · rw [← dd]; exact Nat.sub_lt_sub_left hc2 cx2
      · have y3 : MEI Fv P PR u p n ow kd (ro (fr - 1) + hg) (rn (fr - 1) + rh (fr - 1) + cN C c) bxM := by
          rcases y2 with ⟨-, y3⟩ | ⟨y2, -⟩
          · exact y3
          · exact absurd y2 (of_decide_eq_false z0)
        have g2 := PRG_fr g1 f2 (by decide) (by decide)
        have h2 := FRS_fr h1 f2 (by decide) (by decide) (by decide) (by decide) (by decide) (by decide) (by decide) (by decide) (by decide) (by decide)
        have b6 : A u 106 p = ((cb (fr - 1) + k : Nat) : Int) := by rw [FR.A f2 (by decide)]; exact a6
        have b9 : A u 109 p = 0 := by rw [FR.A f2 (by decide)]; exact a9
        have e42 : A u 42 c = A w1 42 c := FR.A f2 (by decide)
        have r42 := A_r u 42 c
        rw [I_F' c2]
        refine ok_ck.mpr ⟨inb_at (k := 42) (n := 1400) rfl (by omega) (by omega) (by decide), ?_⟩
        rw [I_tn (x := (c : Int)) (by omega) (by omega), Int.toNat_natCast, I_A (k := 42), decE r42.1 r42.2 (by omega) (by omega)]
        refine ok_br.mpr ⟨fun _ => ?_, fun z4 => ?_⟩
        · exact ok_bnd.mpr (ok_mono (chosen_ok (N := N) (mu := mu) y3 g2 h2 t2 c2 b6 b9 (by unfold CLG; rw [FR.F f2 (by decide), FR.F f2 (by decide)]; exact cl1') (by omega)) (fun x _ hx => zero x (back2 x hx)))
        · obtain ⟨g, gg1, gg2, gg3, gg4, gg5⟩ := cg.resolve_left (fun z => of_decide_eq_false z4 (by rw [e42]; exact z))
          refine ok_lt.mpr ?_
          rw [lit1q, wi_e]
          have f4 : FR [152] [] [] [] u (wi u 152 1) := FR.wi FR.rf (by decide)
          have e4 : F (wi u 152 1) 152 = 1 := by rw [F_wi (by omega) (by omega), if_pos rfl]
          have i4 := MEI_ints y3 f4 (by decide)
          generalize wi u 152 1 = w4 at *
          rw [I_F' i4.2.2.1]
          refine ok_ck.mpr ⟨inb_at (k := 92) (n := 24) rfl (by omega) (by omega) (by decide), ok_lt.mpr ?_⟩
          rw [I_tn (x := (p : Int)) (by omega) (by omega), Int.toNat_natCast, I_A' i4.2.2.2.2.2.2.2.2.2.1.1, wi_e]
          have f5 : FR [152, 157] [] [] [] u (wi w4 157 ((ro (fr - 1) + hg : Nat) : Int)) := FR.wi (FR.mo f4 (by decide) (by decide) (by decide) (by decide)) (by decide)
          have e5 : F (wi w4 157 ((ro (fr - 1) + hg : Nat) : Int)) 157 = ((ro (fr - 1) + hg : Nat) : Int) := by rw [F_wi rgo.1 rgo.2, if_pos rfl]
          have e52 : F (wi w4 157 ((ro (fr - 1) + hg : Nat) : Int)) 152 = 1 := by rw [F_wi rgo.1 rgo.2, if_neg (by decide)]; exact e4
          generalize wi w4 157 ((ro (fr - 1) + hg : Nat) : Int) = w5 at *
          have i5 := MEI_ints y3 f5 (by decide)
          have c5' : F w5 154 = c := by rw [FR.F f5 (by decide)]; exact c2
          obtain ⟨n1, n2, n3, n4, n5, n6, n7, n8, -⟩ := (g1.2.2.1 g gg2).1
          obtain ⟨c', nc1, nc2, nc3, nc4, nc5, nc6, nc7, nc8⟩ := n8 (by omega)
          obtain rfl : c' = c := by omega
          obtain ⟨c'', cc1, cc2, cc3, cc4, cc5, cc6, cc7, cc8, cc9, cc10⟩ := u2'
          obtain rfl : c'' = c' := by omega
          rw [I_F' c5']
          refine ok_ck.mpr ⟨inb_at (k := 42) (n := 1400) rfl (by omega) (by omega) (by decide), ?_⟩
          rw [I_tn (x := (c'' : Int)) (by omega) (by omega), Int.toNat_natCast, I_A' (show A w5 42 c'' = g by rw [FR.A f5 (by decide), e42]; exact gg1)]
          refine ok_bnd.mpr (ok_mono (at_ok (N := N) (q := g) (by rw [gg3, nc3]; exact i5) (by rw [nc5, nc6, cc8, cc9]; exact FRS_fr h2 f5 (by decide) (by decide) (by decide) (by decide) (by decide) (by decide) (by decide) (by decide) (by decide) (by decide)) gg2 nd (by rw [nc4, cc7]) (by rw [FR.A f5 (by decide), nc5, cc8]; exact b6)) (fun x _ hx => ?_))
          obtain ⟨x1, x2, x3⟩ := hx
          have fx : FR [152, 157] [] [98] [] u x := FR.tr (FR.mo f5 (by decide) (by decide) (by decide) (by decide)) (FR.mo x2 (by decide) (by decide) (by decide) (by decide))
          refine zero x (back2 x ⟨Or.inr (Or.inr ⟨mu - 1, ?_, fr, ro, rn, rh, cb, pc, ct, g, n, ow, kd, bxM, x1, by rw [FR.A fx (by decide)]; exact b9, Or.inr ⟨by rw [FR.F x2 (by decide)]; exact e52, c'', s, many, hg, hb, m, r, ?_, gg4, by rw [FR.F x2 (by decide)]; exact c5', by rw [FR.F x2 (by decide)]; exact e5, ?_⟩⟩), Or.inl (FR.mo fx (by decide) (by decide) (by decide) (by decide)), OTF.tr (OTF_fr f5 (by decide)) x3, fun z _ => FR.A fx (by decide)⟩)
          · obtain ⟨q1, q2, q3, q4⟩ := cl1; omega
          · rw [nc5, nc6, cc8, cc9]; exact TRS_fr t2 fx (by decide) (by decide) (by decide)
          · obtain ⟨q1, q2, q3, q4⟩ := cl1
            unfold CLG
            rw [FR.F fx (by decide), FR.F fx (by decide), FR.F f2 (by decide), FR.F f2 (by decide)]
            refine ⟨q1, q2, q3, ?_⟩
            by_cases es : s = 3
            · have := hB es
              rw [if_pos es, FR.F fx (by decide), FR.F f2 (by decide), e158]
              omega
            · have := hB0 es
              rw [if_neg es]
              omega
end
end
section
section
variable {Fv : Int64 → Int64 → Prop} {P : Int64 → Prop} {w w2 : MS} {PR N p n n2 opM bnM bxM ND fr k tp mu CN PN SN UN FN rq q : Nat} {ow kd ow2 kd2 ro rn rh cb pc ct pM pE : Nat → Nat} {T : TY} {C : CY}
theorem rc_s {d : Nat} : rc_M_error N (d + 1) = (fm_M_error N (rc_M_error N d), fm_M_errorOf N (rc_M_error N d), fm_M_nonePart N (rc_M_error N d), fm_M_choose N (rc_M_error N d), fm_M_guardFails N (rc_M_error N d), fm_M_goesUp N (rc_M_error N d)) := rfl
def PGM (Fv : Int64 → Int64 → Prop) (P : Int64 → Prop) (PR : Nat) (T : TY) (C : CY) (pM pE : Nat → Nat) (ND CN PN SN UN FN : Nat) (w : MS) : Prop := PRG w T C pM pE ND CN PN SN UN FN ∧ PB P PR ∧ FVH Fv ∧ ATM w ∧ ∀ t, P t → PA w t
theorem PGM_fr {is ls as js : List Nat} (h : PGM Fv P PR T C pM pE ND CN PN SN UN FN w) (f : FR is ls as js w w2) (hi : ∀ k, k ∈ [14, 52, 56] → k ∉ is) (ha : ∀ k, k ∈ 12 :: 13 :: KP → k ∉ as) : PGM Fv P PR T C pM pE ND CN PN SN UN FN w2 :=
  ⟨PRG_fr h.1 f hi (fun k hk => ha k (List.mem_cons_of_mem _ (List.mem_cons_of_mem _ hk))), h.2.1, h.2.2.1, ATM_fr h.2.2.2.1 f (hi _ (by decide)) (ha _ (by decide)), PA_fr h.2.2.2.2 f (hi _ (by decide))⟩
theorem choose_ok {d s many hg hb m r b ctt : Nat} (hp : PGM Fv P PR T C pM pE ND CN PN SN UN FN w) (h : FRS w T ND p fr ro rn rh cb pc ct k tp) (h106 : A w 106 p = ((cb (fr - 1) + k : Nat) : Int)) (h109 : A w 109 p = 0) (h152 : F w 152 = 0) (i : MEI Fv P PR w p n ow kd (ro (fr - 1) + hg) b bxM) (hb' : rn (fr - 1) + rh (fr - 1) + m ≤ b) (ht : TRS w T C ND CN p (ro (fr - 1)) (rn (fr - 1)) (rh (fr - 1)) k tp s many hg hb m r bxM) (hc1 : 1 ≤ ctt) (hd : ∀ c : Nat, F w 154 = c → cT C c + 1 < ctt) (cl : CLG w (sR T pc (fr - 1) + r) ((if s = 3 then (bxM : Int) - F w 158 else 0) * 16002 + ctt) mu) (hN : 60000 ≤ N) : OK (fun w2 _ => RES Fv P PR T C ND CN p mu w w2) (fm_M_choose N (rc_M_error N (d + 3)) w) := by
  have x4 := MEI_p i
  have b30 : bxM ≤ 30 := i.2.2.2.2.2.2.2.2.2.2.2.1.2
  have cn := hp.1.1.2.1
  obtain ⟨B, hB1, hB2, hB3⟩ : ∃ B : Nat, (s = 3 → F w 158 + B = bxM) ∧ (s ≠ 3 → B = 0) ∧ B ≤ 30 := by
    by_cases e : s = 3
    · have := (ht.2.2.2.1 e).2
      exact ⟨((bxM : Int) - F w 158).toNat, fun _ => by omega, fun z => absurd e z, by omega⟩
    · exact ⟨0, fun z => absurd z e, fun _ => rfl, by omega⟩
  obtain ⟨d0, hd0, hd1⟩ : ∃ d0 : Nat, (∀ c : Nat, F w 154 = c → CN - c = d0) ∧ d0 ≤ 1400 := ⟨CN - (F w 154).toNat, fun c hc => by omega, by omega⟩
  refine choose_loop (N := N) (S := rc_M_error N (d + 3)) (S1 := rc_M_error N (d + 2)) (S2 := rc_M_error N (d + 1)) (S3 := rc_M_error N d) rfl rfl rfl rfl hp.1 hp.2.1 hp.2.2.1 hp.2.2.2.1 hp.2.2.2.2 h h106 h109 h152 hN N B d0 b ctt w FR.rf (OTF_fr (FR.rf : FR [] [] [] [] w w) (by decide)) i hb' ht hB1 hB2 hc1 (fun c hc => ⟨hd0 c hc, hd c hc⟩) ?_ (by omega)
  obtain ⟨e1, e2, e3, e4⟩ := cl
  refine ⟨e1, e2, e3, ?_⟩
  by_cases e : s = 3
  · have := hB1 e
    rw [if_pos e] at e4
    omega
  · have := hB2 e
    rw [if_neg e] at e4
    omega
def ERX (Fv : Int64 → Int64 → Prop) (P : Int64 → Prop) (PR : Nat) (T : TY) (C : CY) (ND CN p : Nat) (w : MS) (fr : Nat) (ro rn rh cb pc ct : Nat → Nat) (q n : Nat) (ow kd : Nat → Nat) (opM bnM bxM mu : Nat) : Prop :=
  MEI Fv P PR w p n ow kd opM bnM bxM ∧ FRS w T ND p fr ro rn rh cb pc ct (tK T q) (tC T q) ∧ q < ND ∧ rh (fr - 1) = tL T q ∧ A w 106 p = ((cb (fr - 1) + tK T q : Nat) : Int) ∧ A w 109 p = 0 ∧ ro (fr - 1) + tB T q ≤ opM ∧ rn (fr - 1) + rh (fr - 1) + tM T q ≤ bnM ∧ MODE w T C ND CN p (ro (fr - 1)) (rn (fr - 1)) (rh (fr - 1)) (sR T pc (fr - 1)) q bxM mu
theorem ERX_0 (e : ERX Fv P PR T C ND CN p w fr ro rn rh cb pc ct q n ow kd opM bnM bxM mu) (hg : PRG w T C pM pE ND CN PN SN UN FN) (h152 : F w 152 = 0) : ER0 Fv P PR T ND p w fr ro rn rh cb pc ct (tK T q) (tC T q) n ow kd opM bnM bxM (tR T q) mu := by
  obtain ⟨h1, h2, h3, h4, h5, h6, h7, h8, h9⟩ := e
  obtain ⟨n1, n2, n3, n4, n5, n6, n7, -⟩ := (hg.2.2.1 q h3).1
  refine ⟨h1, h2, fun z => ?_, ⟨by omega, by omega⟩, h5, n3, h6, h152, ?_⟩
  · obtain ⟨-, -, -, -, s5, s6, s7⟩ := n7 z
    exact ⟨by omega, by omega, s7⟩
  · rcases h9 with ⟨-, -, y⟩ | ⟨y, -⟩
    · obtain ⟨e1, e2, e3, e4⟩ := y
      exact ⟨e1, e2, e3, by omega⟩
    · omega
theorem guardFails_ok {d : Nat} (e : ERX Fv P PR T C ND CN p w fr ro rn rh cb pc ct q n ow kd opM bnM bxM mu) (hp : PGM Fv P PR T C pM pE ND CN PN SN UN FN w) (h152 : F w 152 = 1) (hN : 60000 ≤ N) : OK (fun w2 _ => RES Fv P PR T C ND CN p mu w w2) (fm_M_guardFails N (rc_M_error N (d + 4)) w) := by
  obtain ⟨i, h2, h3, h4, h5, h6, h7, h8, h9⟩ := e
  have x4 := MEI_p i
  obtain ⟨-, c, s, many, hg, hb, m, r, t1, t2, t3, t4, t5⟩ : F w 152 = 1 ∧ ∃ c s many hg hb m r, TRS w T C ND CN p (ro (fr - 1)) (rn (fr - 1)) (rh (fr - 1)) (tK T q) (tC T q) s many hg hb m r bxM ∧ tG T q = c + 1 ∧ F w 154 = ((c : Nat) : Int) ∧ F w 157 = ((ro (fr - 1) + hg : Nat) : Int) ∧ CLG w (sR T pc (fr - 1) + r) ((if s = 3 then (bxM : Int) - F w 158 else 0) * 16002 + tR T q + 1) mu := by
    rcases h9 with ⟨-, y, -⟩ | y
    · omega
    · exact y
  obtain ⟨c', nc1, nc2, nc3, nc4, nc5, nc6, nc7, nc8⟩ := (hp.1.2.2.1 q h3).1.2.2.2.2.2.2.2.1 (by omega)
  obtain rfl : c' = c := by omega
  have u2' : CLS C w CN many hg hb m (rh (fr - 1)) (tK T q) (tC T q) r ((c' : Nat) : Int) := by
    rcases t1.2.2.1 with u2 | u2
    · omega
    · rw [← t3]; exact u2
  obtain ⟨-, -, k3, k4, k5, -, -, -, cx⟩ := cls_c (s := 0) hp.1 u2'
  have cn := hp.1.1.2.1
  have s7 := t1.1.2.2.2.2.2.2.2.1
  have hf60 := h2.1
  have hro := (h2.2.2.1 (fr - 1) (by omega)).2.2.2.2.1
  unfold fm_M_guardFails fb_M_guardFails_0
  refine ok_lt.mpr ?_
  rw [show upI w 152 0 = wi w 152 0 from rfl]
  have f1 : FR [152] [] [] [] w (wi w 152 0) := FR.wi FR.rf (by decide)
  have e1 : F (wi w 152 0) 152 = 0 := by rw [F_wi (by decide) (by decide), if_pos rfl]
  have i1 := MEI_ints i f1 (by decide)
  generalize wi w 152 0 = w1 at *
  have e157 : F w1 157 = ((ro (fr - 1) + hg : Nat) : Int) := by rw [FR.F f1 (by decide)]; exact t4
  rw [I_F' i1.2.2.1, I_F' e157]
  refine ok_ck.mpr ⟨inb_at (k := 92) (n := 24) rfl (by omega) (by omega) (by decide), ok_lt.mpr ?_⟩
  rw [I_tn (x := (p : Int)) (by omega) (by omega), Int.toNat_natCast, wa_e]
  have f2 : FR [152] [] [92] [] w (wa w1 92 p ((ro (fr - 1) + hg : Nat) : Int)) := FR.wa (FR.mo f1 (by decide) (by decide) (by decide) (by decide)) (by decide)
  have o2 : OTF p w (wa w1 92 p ((ro (fr - 1) + hg : Nat) : Int)) := OTF.tr (OTF_fr f1 (by decide)) (OTF_at (FR.wa FR.rf (by decide) : FR [] [] [92] [] w1 _) (i0 := p) (fun j hj => by rw [A_eq (by omega) (by omega), if_neg hj]) (Or.inl ⟨by decide, rfl⟩))
  have e2 : F (wa w1 92 p ((ro (fr - 1) + hg : Nat) : Int)) 152 = 0 := e1
  have i2 := ops_less i1 (k := ro (fr - 1) + hg) (by omega)
  generalize wa w1 92 p ((ro (fr - 1) + hg : Nat) : Int) = v2 at *
  have c2 : F v2 154 = c' := by rw [FR.F f2 (by decide)]; exact t3
  rw [I_F' c2]
  refine ok_ck.mpr ⟨inb_at (k := 45) (n := 1400) rfl (by omega) (by omega) (by decide), ok_lt.mpr ?_⟩
  have r45 := A_r v2 45 c'
  rw [I_tn (x := (c' : Int)) (by omega) (by omega), Int.toNat_natCast, I_A (k := 45), wi_e]
  have f3 : FR [152, 154] [] [92] [] w (wi v2 154 (A v2 45 c')) := FR.wi (FR.mo f2 (by decide) (by decide) (by decide) (by decide)) (by decide)
  have o3 : OTF p w (wi v2 154 (A v2 45 c')) := OTF.tr o2 (OTF_fr (FR.wi FR.rf (by decide) : FR [154] [] [] [] v2 _) (by decide))
  have e3 : F (wi v2 154 (A v2 45 c')) 152 = 0 := by rw [F_wi r45.1 r45.2, if_neg (by decide)]; exact e2
  have e34 : F (wi v2 154 (A v2 45 c')) 154 = A w 45 c' := by rw [F_wi r45.1 r45.2, if_pos rfl, FR.A f2 (by decide)]
  have i3 := MEI_ints i2 (FR.wi FR.rf (by decide) : FR [154] [] [] [] v2 (wi v2 154 (A v2 45 c'))) (by decide)
  generalize wi v2 154 (A v2 45 c') = w3 at *
  have e8 : F w3 158 = F w 158 := FR.F f3 (by decide)
  have nx : F w3 154 = -1 ∨ CLS C w CN many hg hb m (rh (fr - 1)) (tK T q) (tC T q) r (F w3 154) := by
    rw [e34]
    rcases cx with cx | ⟨d2, y1, y2, y3, y4⟩
    · exact Or.inl cx
    · exact Or.inr (by rw [y1]; exact y4)
  clear cx
  have tr := TRS_at t1 f3 (by decide) (by decide) (by decide) nx (fun z => by rw [e8]; exact ⟨(t1.2.2.2.1 z).2.1, (t1.2.2.2.1 z).2.2.1⟩)
  have := choose_ok (N := N) (d := d) (mu := mu) (ctt := tR T q + 1) (PGM_fr hp f3 (by decide) (by decide)) (FRS_fr h2 f3 (by decide) (by decide) (by decide) (by decide) (by decide) (by decide) (by decide) (by decide) (by decide) (by decide)) (by rw [FR.A f3 (by decide)]; exact h5) (by rw [FR.A f3 (by decide)]; exact h6) e3 i3 (by omega) tr (by omega) (fun c hc => by have := nc8 c (by rw [← e34]; exact hc); omega) (by obtain ⟨q1, q2, q3, q4⟩ := t5; unfold CLG; rw [FR.F f3 (by decide), FR.F f3 (by decide), e8]; exact ⟨q1, q2, q3, by omega⟩) hN
  exact ok_bnd.mpr (ok_mono this (fun u _ hu => ok_some.mpr (RES.tr (FR.mo f3 (by decide) (by decide) (by decide) (by decide)) o3 (fun z _ => FR.A f3 (by decide)) hu (Nat.le_refl _))))
theorem up_ok {t : Int64} {kn : Int} {d : Nat} (e : ERX Fv P PR T C ND CN p w fr ro rn rh cb pc ct q n ow kd opM bnM bxM mu) (hp : PGM Fv P PR T C pM pE ND CN PN SN UN FN w) (g : GT n ow kd P t) (hk : 0 ≤ kn ∧ kn ≤ 2) (hN : 60000 ≤ N) : OK (fun w2 _ => RES Fv P PR T C ND CN p mu w w2) (fm_M_goesUp N (rc_M_error N (d + 5)) w (I kn) t) := by
  have h9 := e.2.2.2.2.2.2.2.2
  by_cases h152 : F w 152 = 0
  · exact ok_mono (up0 (ERX_0 e hp.1 h152) hp.1 hp.2.1 g hk hN) (fun v _ h => RES_stp h)
  · have h1 : F w 152 = 1 := by
      rcases h9 with ⟨-, y, -⟩ | ⟨y, -⟩
      · exact absurd y h152
      · exact y
    clear h9
    unfold fm_M_goesUp fb_M_goesUp_0
    rw [I_F' h1, lit0q, decE (by omega) (by omega) (by omega) (by omega), decide_eq_false (by omega), br_fq, rc_s]
    exact ok_bnd.mpr (ok_mono (guardFails_ok (d := d) e hp h1 hN) (fun u _ hu => ok_some.mpr hu))
theorem err_ok {a : Int} (e : ERX Fv P PR T C ND CN p w fr ro rn rh cb pc ct q n ow kd opM bnM bxM mu) (hp : PGM Fv P PR T C pM pE ND CN PN SN UN FN w) (ha : 0 ≤ a ∧ a < 22) (hN : 60000 ≤ N) : OK (fun w2 _ => RES Fv P PR T C ND CN p mu w w2) (fr_M_error N w (I a)) := by
  unfold fr_M_error
  rw [show (20 : Nat) = 19 + 1 from rfl, rc_s]
  show OK _ (fm_M_error N (rc_M_error N 19) w (I a))
  unfold fm_M_error fb_M_error_0
  rw [lit1q, term_e, bnd_so, show (19 : Nat) = 18 + 1 from rfl, rc_s]
  exact ok_bnd.mpr (ok_mono (up_ok (kn := 0) (d := 13) e hp (Or.inl ⟨nh_mk (by omega), hp.2.1.1 a ha.1 ha.2⟩) (by omega) hN) (fun v _ h => ok_some.mpr h))
theorem errOf_ok {a : Int} {t : Int64} (e : ERX Fv P PR T C ND CN p w fr ro rn rh cb pc ct q n ow kd opM bnM bxM mu) (hp : PGM Fv P PR T C pM pE ND CN PN SN UN FN w) (g : GT n ow kd P t) (ha : 0 ≤ a ∧ a < 22) (hN : 60000 ≤ N) : OK (fun w2 _ => RES Fv P PR T C ND CN p mu w w2) (fr_M_errorOf N w (I a) t) := by
  have h9 := e.2.2.2.2.2.2.2.2
  unfold fr_M_errorOf
  rw [show (20 : Nat) = 19 + 1 from rfl, rc_s]
  show OK _ (fm_M_errorOf N (rc_M_error N 19) w (I a) t)
  by_cases h152 : F w 152 = 0
  · exact ok_mono (errorOf0 (S2 := rc_M_error N 18) rfl (ERX_0 e hp.1 h152) hp.1 hp.2.1 g ha hN) (fun v _ h => RES_stp h)
  · have h1 : F w 152 = 1 := by
      rcases h9 with ⟨-, y, -⟩ | ⟨y, -⟩
      · exact absurd y h152
      · exact y
    clear h9
    unfold fm_M_errorOf fb_M_errorOf_0
    rw [I_F' h1, lit0q, decE (by omega) (by omega) (by omega) (by omega), decide_eq_false (by omega), br_fq, show (19 : Nat) = 18 + 1 from rfl, rc_s]
    exact ok_bnd.mpr (ok_mono (guardFails_ok (d := 14) e hp h1 hN) (fun u _ hu => ok_some.mpr hu))
theorem fails_ok (e : ERX Fv P PR T C ND CN p w fr ro rn rh cb pc ct q n ow kd opM bnM bxM mu) (hp : PGM Fv P PR T C pM pE ND CN PN SN UN FN w) (h1 : F w 152 = 1) (hN : 60000 ≤ N) : OK (fun w2 _ => RES Fv P PR T C ND CN p mu w w2) (fr_M_guardFails N w) := by
  unfold fr_M_guardFails
  rw [show (20 : Nat) = 19 + 1 from rfl, rc_s]
  exact guardFails_ok (d := 15) e hp h1 hN
theorem ups_ok {t : Int64} {kn : Int} (e : ERX Fv P PR T C ND CN p w fr ro rn rh cb pc ct q n ow kd opM bnM bxM mu) (hp : PGM Fv P PR T C pM pE ND CN PN SN UN FN w) (g : GT n ow kd P t) (hk : 0 ≤ kn ∧ kn ≤ 2) (hN : 60000 ≤ N) : OK (fun w2 _ => RES Fv P PR T C ND CN p mu w w2) (fr_M_goesUp N w (I kn) t) := by
  unfold fr_M_goesUp
  rw [show (20 : Nat) = 19 + 1 from rfl, rc_s]
  exact up_ok (d := 14) e hp g hk hN
end
end
section
section
variable {Fv : Int64 → Int64 → Prop} {P : Int64 → Prop} {u v w w2 : MS} {PR N p n n2 opM bnM bxM bx2 ND fr k tp mu CN PN SN UN FN rq q m h mm : Nat} {ow kd ow2 kd2 ro rn rh cb pc ct pM pE : Nat → Nat} {T : TY} {C : CY}
theorem MODE_nx {is ls as js : List Nat} {a1 a2 a3 sr : Nat} (hm : MODE u T C ND CN p a1 a2 a3 sr q bxM mu) (hx : NX T q m h mm) (f : FR is ls as js u v) (hi : ∀ k, k ∈ [149, 150, 151, 152, 153, 154, 155, 156, 157, 158, 159, 164, 165] → k ∉ is) (ha : ∀ k, k ∈ [23, 25, 31, 41] → k ∉ as) (hj : 111 ∉ js) (hb : bx2 = bxM ∨ tG T q = 0) : ∃ m2, m2 < mu ∧ MODE v T C ND CN p a1 a2 a3 sr m bx2 m2 := by
  obtain ⟨n1, n2, n3, n4, n5, n6, n7, n8, n9⟩ := hx
  rcases hm with ⟨y1, y2, y3⟩ | ⟨y1, c, s, many, hg, hb', mm', r, t1, t2, t3, t4, t5⟩
  · obtain ⟨e1, e2, e3, e4⟩ := y3
    refine ⟨mu - 1, by omega, Or.inl ⟨by rw [n5]; exact y1, by rw [FR.F f (hi _ (by decide))]; exact y2, ?_⟩⟩
    unfold CLG
    rw [FR.F f (hi _ (by decide)), FR.F f (hi _ (by decide))]
    exact ⟨e1, e2, e3, by omega⟩
  · obtain ⟨e1, e2, e3, e4⟩ := t5
    have hb2 : bx2 = bxM := by omega
    subst hb2
    have e8 : s = 3 → 0 ≤ F u 158 ∧ F u 158 < bx2 := fun z => ⟨(t1.2.2.2.1 z).2.1, (t1.2.2.2.1 z).2.2.1⟩
    have pos : 0 ≤ (if s = 3 then (bx2 : Int) - F u 158 else 0) := by
      by_cases e : s = 3
      · rw [if_pos e]; have := e8 e; omega
      · rw [if_neg e]; omega
    refine ⟨mu - 1, by omega, Or.inr ⟨by rw [FR.F f (hi _ (by decide))]; exact y1, c, s, many, hg, hb', mm', r, by rw [n4, n8]; exact TRS_fr t1 f (fun k hk => hi k (by revert hk; simp; omega)) ha hj, by rw [n5]; exact t2, by rw [FR.F f (hi _ (by decide))]; exact t3, by rw [FR.F f (hi _ (by decide))]; exact t4, ?_⟩⟩
    unfold CLG
    rw [FR.F f (hi _ (by decide)), FR.F f (hi _ (by decide)), FR.F f (hi _ (by decide))]
    exact ⟨e1, e2, e3, by omega⟩
theorem nxt {is ls as js : List Nat} (e : ERX Fv P PR T C ND CN p u fr ro rn rh cb pc ct q n ow kd opM bnM bxM mu) (hm : m < ND) (hx : NX T q m h mm) (f : FR is ls as js u v) (hi : ∀ k, k ∈ [149, 150, 151, 152, 153, 154, 155, 156, 157, 158, 159, 164, 165] → k ∉ is) (ha : ∀ k, k ∈ [23, 25, 31, 41, 95, 99, 100, 101, 102, 103, 104, 105, 106] → k ∉ as) (hj : 111 ∉ js) (h98 : A v 98 (60 * p + (fr - 1)) = ((m : Nat) : Int)) (h98' : ∀ j, j ≠ 60 * p + (fr - 1) → A v 98 j = A u 98 j) (h109 : A v 109 p = 0) (i : MEI Fv P PR v p n2 ow2 kd2 (ro (fr - 1) + h) (rn (fr - 1) + rh (fr - 1) + mm) bx2) (hb : bx2 = bxM ∨ tG T q = 0) : ∃ m2, m2 < mu ∧ STE Fv P PR T C ND CN p m2 v := by
  obtain ⟨-, h2, h3, h4, h5, h6, h7, h8, h9⟩ := e
  obtain ⟨m2, q1, q2⟩ := MODE_nx h9 hx f hi (fun k hk => ha k (by revert hk; simp; omega)) hj hb
  obtain ⟨n1, n2', n3, n4, n5, n6, n7, n8, n9⟩ := hx
  exact ⟨m2, q1, fr, ro, rn, rh, cb, pc, ct, m, n2, ow2, kd2, bx2, ⟨by rw [n1, n2']; exact i, by rw [n4, n8]; exact FRS_98 h2 f (fun k hk => ha k (by revert hk; simp; omega)) h98', h98, hm, by rw [n3]; exact h4, by rw [FR.A f (ha _ (by decide)), n4]; exact h5⟩, h109, q2⟩
theorem nxtR {is ls as js : List Nat} (e : ERX Fv P PR T C ND CN p u fr ro rn rh cb pc ct q n ow kd opM bnM bxM mu) (hm : m < ND) (hx : NX T q m h mm) (f : FR is ls as js u v) (hi : ∀ k, k ∈ [149, 150, 151, 152, 153, 154, 155, 156, 157, 158, 159, 164, 165] → k ∉ is) (ha : ∀ k, k ∈ [23, 25, 31, 41, 95, 98, 99, 100, 101, 102, 103, 104, 105, 106, 109] → k ∉ as) (hj : 111 ∉ js) (h98 : A u 98 (60 * p + (fr - 1)) = ((m : Nat) : Int)) (i : MEI Fv P PR v p n2 ow2 kd2 (ro (fr - 1) + h) (rn (fr - 1) + rh (fr - 1) + mm) bxM) (hs : STF0 u v) (ho : OTF p u v) : RES Fv P PR T C ND CN p mu u v :=
  ⟨Or.inr (Or.inr (nxt e hm hx f hi (fun k hk => ha k (by revert hk; simp; omega)) hj (by rw [FR.A f (ha _ (by decide))]; exact h98) (fun j _ => FR.A f (ha _ (by decide))) (by rw [FR.A f (ha _ (by decide))]; exact e.2.2.2.2.2.1) i (Or.inl rfl))), Or.inl hs, ho, fun z _ => FR.A f (ha _ (by decide))⟩
theorem at_node {fr : Nat} {x : Nat} (a : ATQ Fv P PR T ND p w fr ro rn rh cb pc ct q n ow kd bxM) (h109 : A w 109 p = 0) (hm : MODE w T C ND CN p (ro (fr - 1)) (rn (fr - 1)) (rh (fr - 1)) (sR T pc (fr - 1)) q bxM mu) (hx : x < 100000) (hg : PRG w T C pM pE ND CN PN SN UN FN) : OK (fun v _ => ERX Fv P PR T C ND CN p v fr ro rn rh cb pc ct q n ow kd (ro (fr - 1) + tH T q) (rn (fr - 1) + rh (fr - 1) + tM T q) bxM mu ∧ A v 98 (60 * p + (fr - 1)) = ((x : Nat) : Int) ∧ FR [] [] [98] [] w v ∧ OTF p w v) (fm_M_goTo N w (I x)) := by
  obtain ⟨i, h, a3, a4, a5, a6⟩ := a
  have x4 := MEI_p i
  have hf := h.1
  obtain ⟨n1, n2, n3, n4, -⟩ := (hg.2.2.1 q a4).1
  rw [goTo_ok i h.1.2.2 ⟨h.1.1, h.1.2.1⟩ hx]
  have f98 : FR [] [] [98] [] w (wa w 98 (60 * p + (fr - 1)) x) := FR.wa FR.rf (by decide)
  have e98 : ∀ j, A (wa w 98 (60 * p + (fr - 1)) x) 98 j = if j = 60 * p + (fr - 1) then (x : Int) else A w 98 j := fun j => A_eq (by omega) (by omega)
  refine ok_some.mpr ⟨⟨MEI_fr i f98 (by decide) (by decide) (by decide) (by decide) (by decide) (by decide) (by decide) (by decide) (by decide) (by decide) (by decide) (by decide) (by decide) (by decide) (by decide) (by decide) (by decide) (by decide), FRS_98 h f98 (by decide) (fun j hj => by rw [e98, if_neg hj]), a4, a5, by rw [FR.A f98 (by decide)]; exact a6, by rw [FR.A f98 (by decide)]; exact h109, by omega, Nat.le_refl _, ?_⟩, by rw [e98, if_pos rfl], f98, OTF_at f98 (i0 := 60 * p + (fr - 1)) (fun j hj => by rw [e98, if_neg hj]) (Or.inr (Or.inl ⟨by decide, by omega, by omega⟩))⟩
  rcases hm with ⟨y1, y2, y3⟩ | ⟨y1, c, s, many, hg', hb', mm', r, t1, t2, t3, t4, t5⟩
  · exact Or.inl ⟨y1, y2, y3⟩
  · exact Or.inr ⟨y1, c, s, many, hg', hb', mm', r, TRS_fr t1 f98 (by decide) (by decide) (by decide), t2, t3, t4, t5⟩
end
end
section
section
variable {Fv : Int64 → Int64 → Prop} {P : Int64 → Prop} {u v w w2 : MS} {PR N p n n2 opM bnM bxM bx2 ND fr k tp mu CN PN SN UN FN rq q m h mm : Nat} {ow kd ow2 kd2 ro rn rh cb pc ct pM pE : Nat → Nat} {T : TY} {C : CY}
theorem ERX_fr {is ls as js : List Nat} (e : ERX Fv P PR T C ND CN p u fr ro rn rh cb pc ct q n ow kd opM bnM bxM mu) (f : FR is ls as js u v) (hi : ∀ k, k ∈ [149, 150, 151, 152, 153, 154, 155, 156, 157, 158, 159, 164, 165] → k ∉ is) (ha : ∀ k, k ∈ [23, 25, 31, 41, 95, 98, 99, 100, 101, 102, 103, 104, 105, 106, 109] → k ∉ as) (hj : 111 ∉ js) {o2 b2 : Nat} (i : MEI Fv P PR v p n2 ow2 kd2 o2 b2 bxM) (ho : ro (fr - 1) + tB T q ≤ o2) (hb : rn (fr - 1) + rh (fr - 1) + tM T q ≤ b2) : ERX Fv P PR T C ND CN p v fr ro rn rh cb pc ct q n2 ow2 kd2 o2 b2 bxM mu := by
  obtain ⟨-, h2, h3, h4, h5, h6, h7, h8, h9⟩ := e
  refine ⟨i, FRS_98 h2 f (fun k hk => ha k (by revert hk; simp; omega)) (fun j _ => FR.A f (ha _ (by decide))), h3, h4, by rw [FR.A f (ha _ (by decide))]; exact h5, by rw [FR.A f (ha _ (by decide))]; exact h6, ho, hb, ?_⟩
  rcases h9 with ⟨y1, y2, y3⟩ | ⟨y1, c, s, many, hg', hb', mm', r, t1, t2, t3, t4, t5⟩
  · refine Or.inl ⟨y1, by rw [FR.F f (hi _ (by decide))]; exact y2, ?_⟩
    unfold CLG; rw [FR.F f (hi _ (by decide)), FR.F f (hi _ (by decide))]; exact y3
  · refine Or.inr ⟨by rw [FR.F f (hi _ (by decide))]; exact y1, c, s, many, hg', hb', mm', r, TRS_fr t1 f (fun k hk => hi k (by revert hk; simp; omega)) (fun k hk => ha k (by revert hk; simp; omega)) hj, t2, by rw [FR.F f (hi _ (by decide))]; exact t3, by rw [FR.F f (hi _ (by decide))]; exact t4, ?_⟩
    unfold CLG; rw [FR.F f (hi _ (by decide)), FR.F f (hi _ (by decide)), FR.F f (hi _ (by decide))]; exact t5
theorem putR {t : Int64} (e : ERX Fv P PR T C ND CN p u fr ro rn rh cb pc ct q n ow kd opM bnM bxM mu) (hm : m < ND) (hx : NX T q m h mm) (h98 : A u 98 (60 * p + (fr - 1)) = ((m : Nat) : Int)) (ho : opM + 1 = ro (fr - 1) + h) (hb : bnM = rn (fr - 1) + rh (fr - 1) + mm) (g : GT n ow kd P t) (hc : opM < 46000) : OK (fun v _ => RES Fv P PR T C ND CN p mu u v) (fm_M_put N u t) := by
  refine ok_mono (put_ok (N := N) e.1 g hc) (fun v _ hv => ?_)
  obtain ⟨v1, v2⟩ := hv
  have x4 := MEI_p e.1
  have f : FR [] [] [92] [91] u v := by rw [v1]; exact FR.wa (FR.wj FR.rf (by decide)) (by decide)
  refine nxtR e hm hx f (by decide) (by decide) (by decide) h98 (by rw [← ho, ← hb]; exact v2) (FR.mo f (by decide) (by decide) (by decide) (by decide)) ?_
  refine ⟨fun z hz => ⟨?_, FR.A f (by decide), FR.A f (by decide), FR.A f (by decide)⟩, fun j _ => ⟨FR.A f (by decide), FR.A f (by decide), FR.A f (by decide), FR.A f (by decide)⟩, fun j _ => ⟨FR.A f (by decide), FR.A f (by decide), FR.A f (by decide), FR.A f (by decide)⟩, OTF_9 f (by decide)⟩
  rw [v1, A_eq (by omega) (by omega), if_neg hz]; rfl
theorem takeE (e : ERX Fv P PR T C ND CN p u fr ro rn rh cb pc ct q n ow kd (opM + 1) bnM bxM mu) (ho : ro (fr - 1) + tB T q ≤ opM) : OK (fun v r => ERX Fv P PR T C ND CN p v fr ro rn rh cb pc ct q n ow kd opM bnM bxM mu ∧ GT n ow kd P r ∧ FR [] [] [92] [] u v ∧ OTF p u v) (fm_M_take N u) := by
  refine ok_mono (take_ok (N := N) e.1) (fun v r hv => ?_)
  obtain ⟨v1, v2, v3, v4⟩ := hv
  have x4 := MEI_p e.1
  have om : opM ≤ 46000 := v4.2.2.2.2.2.2.2.2.2.1.2
  have f : FR [] [] [92] [] u v := by rw [v1]; exact FR.wa FR.rf (by decide)
  exact ⟨ERX_fr e f (by decide) (by decide) (by decide) v4 ho e.2.2.2.2.2.2.2.1, v3, f, OTF_at f (i0 := p) (fun j hj => by rw [v1, A_eq (by omega) (by omega), if_neg hj]) (Or.inl ⟨by decide, rfl⟩)⟩
theorem RES.pre {is ls as js : List Nat} {w0 : MS} (f : FR is ls as js w0 u) (o : OTF p w0 u) (h1 : ∀ k, k ∈ is → k ∈ [119, 136, 138, 140, 152, 153, 154, 155, 156, 157, 158, 159, 165, 166, 169]) (h2 : ∀ k, k ∈ ls → k ∈ [139]) (h3 : ∀ k, k ∈ as → k ∈ [89, 90, 92, 94, 95, 96, 97, 98, 99, 100, 101, 102, 103, 104, 105, 106, 108, 110, 114, 115, 135, 142, 145, 146, 147, 160, 162, 168]) (h4 : ∀ k, k ∈ js → k ∈ [88, 91, 93, 107, 111, 134, 137, 141, 148, 161, 163, 167]) (r : RES Fv P PR T C ND CN p mu u w) : RES Fv P PR T C ND CN p mu w0 w :=
  RES.tr (FR.mo f h1 h2 (fun k hk => by have := h3 k hk; revert this; simp; omega) h4) o (fun z _ => FR.A f (fun hk => by have := h3 109 hk; revert this; decide)) r (Nat.le_refl _)
theorem i17 (e : ERX Fv P PR T C ND CN p u fr ro rn rh cb pc ct q n ow kd (ro (fr - 1) + tH T q) (rn (fr - 1) + rh (fr - 1) + tM T q) bxM mu) (hq : tB T q + 1 ≤ tH T q) (hm : m < ND) (hx : NX T q m (tH T q - 1) (tM T q)) (h98 : A u 98 (60 * p + (fr - 1)) = ((m : Nat) : Int)) : OK (fun v _ => RES Fv P PR T C ND CN p mu u v) (bnd (fm_M_take N u) (fun u20 r20 => fb_M_one_468 N () u20)) := by
  have e' := e
  rw [show ro (fr - 1) + tH T q = ro (fr - 1) + (tH T q - 1) + 1 from by omega] at e'
  unfold fb_M_one_468
  refine ok_bnd.mpr (ok_mono (takeE (N := N) e' (by omega)) (fun v r hv => ok_some.mpr ?_))
  obtain ⟨v1, v2, v3, v4⟩ := hv
  exact nxtR e hm hx v3 (by decide) (by decide) (by decide) h98 v1.1 (FR.mo v3 (by decide) (by decide) (by decide) (by decide)) v4
theorem i1 {a b : Int} (e : ERX Fv P PR T C ND CN p u fr ro rn rh cb pc ct q n ow kd (ro (fr - 1) + tH T q) (rn (fr - 1) + rh (fr - 1) + tM T q) bxM mu) (hp : PGM Fv P PR T C pM pE ND CN PN SN UN FN u) (hPa : ∀ a : Int, 0 ≤ a → a < F u 14 → P (mk 1 a)) (hm : m < ND) (hx : NX T q m (tH T q + 1) (tM T q)) (h98 : A u 98 (60 * p + (fr - 1)) = ((m : Nat) : Int)) (ha : A u 25 q = a) (hb : A u 26 q = b) (hab : a = 0 ∨ (a = 1 ∧ 0 ≤ b ∧ b < F u 14)) : OK (fun v _ => RES Fv P PR T C ND CN p mu u v) (ck (inb (I q) (ln 25)) (ck (inb (I q) (ln 26)) (bnd (fm_M_term N u (u.2.2.1 25 (I q).toNatClampNeg) (u.2.2.1 26 (I q).toNatClampNeg)) (fun u27 r27 => bnd (fm_M_put N u27 r27) (fun u28 _ => fb_M_one_468 N () u28))))) := by
  have q1 := e.2.2.1
  have nd := hp.1.1.1
  have rb := A_r u 26 q
  have hf := e.2.1.1
  have hro := (e.2.1.2.2.1 (fr - 1) (by omega)).2.2.2.2.1
  have hH := (hp.1.2.2.1 q q1).1.1
  unfold fb_M_one_468
  refine ok_ck.mpr ⟨inb_at (k := 25) (n := 16000) rfl (by omega) (by omega) (by decide), ok_ck.mpr ⟨inb_at (k := 26) (n := 16000) rfl (by omega) (by omega) (by decide), ?_⟩⟩
  rw [I_tn (by omega) (by omega), Int.toNat_natCast, I_A' ha, I_A' hb, term_e, bnd_so]
  have g : GT n ow kd P (mk a b) := by
    refine Or.inl ⟨nh_mk (by omega), ?_⟩
    rcases hab with z | ⟨z, z1, z2⟩
    · subst z; exact hp.2.1.2.2.2.1 b (by omega) (by omega)
    · subst z; exact hPa b z1 z2
  exact ok_bnd.mpr (ok_mono (putR (N := N) e hm hx h98 (by omega) rfl g (by omega)) (fun v _ hv => ok_some.mpr hv))
theorem i3 {c : Int} (e : ERX Fv P PR T C ND CN p u fr ro rn rh cb pc ct q n ow kd (ro (fr - 1) + tH T q) (rn (fr - 1) + rh (fr - 1) + tM T q) bxM mu) (hp : PGM Fv P PR T C pM pE ND CN PN SN UN FN u) (hm : m < ND) (hx : NX T q m (tH T q + 1) (tM T q)) (h98 : A u 98 (60 * p + (fr - 1)) = ((m : Nat) : Int)) (ha : A u 25 q = c) (hc : NCO c (tM T q) (tL T q)) : OK (fun v _ => RES Fv P PR T C ND CN p mu u v) (ck (inb (I q) (ln 25)) (bnd (fm_M_nameAt N u (u.2.2.1 25 (I q).toNatClampNeg)) (fun u25 r25 => bnd (fm_M_put N u25 r25) (fun u26 _ => fb_M_one_468 N () u26)))) := by
  have q1 := e.2.2.1
  have nd := hp.1.1.1
  have hf := e.2.1.1
  have hro := (e.2.1.2.2.1 (fr - 1) (by omega))
  have hH := (hp.1.2.2.1 q q1).1.1
  have hMM := (hp.1.2.2.1 q q1).1.2.1
  have hl := e.2.2.2.1
  unfold fb_M_one_468
  refine ok_ck.mpr ⟨inb_at (k := 25) (n := 16000) rfl (by omega) (by omega) (by decide), ?_⟩
  rw [I_tn (by omega) (by omega), Int.toNat_natCast, I_A' ha]
  have hc' := hc
  unfold NCO at hc'
  rw [← hl] at hc'
  refine ok_bnd.mpr (ok_mono (nameAt_ok (N := N) (fr := fr) (rn := rn (fr - 1)) (rh := rh (fr - 1)) (m := tM T q) e.1 ⟨hf.2.2, hf.1, hf.2.1, hro.2.1, hro.2.2.1⟩ rfl hc' (by omega)) (fun v r hv => ?_))
  obtain ⟨v1, v2⟩ := hv
  subst v1
  exact ok_bnd.mpr (ok_mono (putR (N := N) e hm hx h98 (by omega) rfl v2 (by omega)) (fun v _ hv => ok_some.mpr hv))
end
end
section
section
variable {Fv : Int64 → Int64 → Prop} {P : Int64 → Prop} {u v w w2 : MS} {PR N p n n2 opM bnM bxM bx2 ND fr k tp mu CN PN SN UN FN rq q m h mm : Nat} {ow kd ow2 kd2 ro rn rh cb pc ct pM pE : Nat → Nat} {T : TY} {C : CY}
theorem gotoR (e : ERX Fv P PR T C ND CN p u fr ro rn rh cb pc ct q n ow kd opM bnM bxM mu) (hm : m < ND) (hnd : ND ≤ 16000) (hx : NX T q m h mm) (ho : opM = ro (fr - 1) + h) (hb : bnM = rn (fr - 1) + rh (fr - 1) + mm) : OK (fun v _ => RES Fv P PR T C ND CN p mu u v) (fm_M_goTo N u (I m)) := by
  have x4 := MEI_p e.1
  have hf := e.2.1.1
  rw [goTo_ok e.1 hf.2.2 ⟨hf.1, hf.2.1⟩ (by omega)]
  have f98 : FR [] [] [98] [] u (wa u 98 (60 * p + (fr - 1)) m) := FR.wa FR.rf (by decide)
  have e98 : ∀ j, A (wa u 98 (60 * p + (fr - 1)) m) 98 j = if j = 60 * p + (fr - 1) then (m : Int) else A u 98 j := fun j => A_eq (by omega) (by omega)
  have i2 := MEI_fr e.1 f98 (by decide) (by decide) (by decide) (by decide) (by decide) (by decide) (by decide) (by decide) (by decide) (by decide) (by decide) (by decide) (by decide) (by decide) (by decide) (by decide) (by decide) (by decide)
  rw [ho, hb] at i2
  exact ok_some.mpr ⟨Or.inr (Or.inr (nxt e hm hx f98 (by decide) (by decide) (by decide) (by rw [e98, if_pos rfl]) (fun j hj => by rw [e98, if_neg hj]) (by rw [FR.A f98 (by decide)]; exact e.2.2.2.2.2.1) i2 (Or.inl rfl))), Or.inl (FR.mo f98 (by decide) (by decide) (by decide) (by decide)), OTF_at f98 (i0 := 60 * p + (fr - 1)) (fun j hj => by rw [e98, if_neg hj]) (Or.inr (Or.inl ⟨by decide, by omega, by omega⟩)), fun z _ => FR.A f98 (by decide)⟩
theorem namesTo_ok {a : Nat} (e : ERX Fv P PR T C ND CN p u fr ro rn rh cb pc ct q n ow kd opM bnM bxM mu) (hb : rn (fr - 1) + rh (fr - 1) + a ≤ bnM) : OK (fun v _ => v = wa u 94 p ((rn (fr - 1) + rh (fr - 1) + a : Nat) : Int) ∧ MEI Fv P PR v p n ow kd opM (rn (fr - 1) + rh (fr - 1) + a) bxM ∧ FR [] [] [94] [] u v ∧ OTF p u v) (fm_M_namesTo N u (I a)) := by
  have x4 := MEI_p e.1
  have hf := e.2.1.1
  have hro := (e.2.1.2.2.1 (fr - 1) (by omega))
  have bb : bnM ≤ 2500 := e.1.2.2.2.2.2.2.2.2.2.2.1.2
  unfold fm_M_namesTo fb_M_namesTo_0
  rw [frame0_f e.1 hf.2.2 ⟨hf.1, hf.2.1⟩, bnd_so]
  refine ok_ck.mpr ⟨inb_at (k := 99) (n := 1440) rfl (by omega) (by omega) (by decide), ok_ck.mpr ⟨inb_at (k := 101) (n := 1440) rfl (by omega) (by omega) (by decide), ?_⟩⟩
  rw [I_F' e.1.2.2.1]
  refine ok_ck.mpr ⟨inb_at (k := 94) (n := 24) rfl (by omega) (by omega) (by decide), ok_lt.mpr ?_⟩
  rw [I_tn (x := ((60 * p + (fr - 1) : Nat) : Int)) (by omega) (by omega), Int.toNat_natCast, I_tn (x := (p : Int)) (by omega) (by omega), Int.toNat_natCast, I_A' hro.2.1, I_A' hro.2.2.1, I_add, I_add, show ((rn (fr - 1) : Nat) : Int) + ((rh (fr - 1) : Nat) : Int) + (a : Int) = ((rn (fr - 1) + rh (fr - 1) + a : Nat) : Int) from by omega, wa_e]
  have f : FR [] [] [94] [] u (wa u 94 p ((rn (fr - 1) + rh (fr - 1) + a : Nat) : Int)) := FR.wa FR.rf (by decide)
  exact ok_some.mpr ⟨rfl, names_less e.1 (k := rn (fr - 1) + rh (fr - 1) + a) hb, f, OTF_at f (i0 := p) (fun j hj => by rw [A_eq (by omega) (by omega), if_neg hj]) (Or.inl ⟨by decide, rfl⟩)⟩
theorem i18 {a : Nat} (e : ERX Fv P PR T C ND CN p u fr ro rn rh cb pc ct q n ow kd (ro (fr - 1) + tH T q) (rn (fr - 1) + rh (fr - 1) + tM T q) bxM mu) (hnd : ND ≤ 16000) (hm : m < ND) (ha : A u 25 q = a) (ham : a ≤ tM T q) (hx : NX T q m (tH T q) a) (h98 : A u 98 (60 * p + (fr - 1)) = ((m : Nat) : Int)) : OK (fun v _ => RES Fv P PR T C ND CN p mu u v) (ck (inb (I q) (ln 25)) (bnd (fm_M_namesTo N u (u.2.2.1 25 (I q).toNatClampNeg)) (fun u19 _ => fb_M_one_468 N () u19))) := by
  have q1 := e.2.2.1
  unfold fb_M_one_468
  refine ok_ck.mpr ⟨inb_at (k := 25) (n := 16000) rfl (by omega) (by omega) (by decide), ?_⟩
  rw [I_tn (by omega) (by omega), Int.toNat_natCast, I_A' ha]
  refine ok_bnd.mpr (ok_mono (namesTo_ok (N := N) e (by omega)) (fun v _ hv => ok_some.mpr ?_))
  obtain ⟨-, v2, v3, v4⟩ := hv
  exact nxtR e hm hx v3 (by decide) (by decide) (by decide) h98 v2 (FR.mo v3 (by decide) (by decide) (by decide) (by decide)) v4
theorem truth1 : fm_M_truth N u 1 = some (u, mk 1 0) := rfl
theorem truth0 : fm_M_truth N u 0 = some (u, mk 1 1) := rfl
theorem isTruth_ok {t : Int64} : OK (fun v r => v = u ∧ (r = I 0 ∨ r = I 1)) (fm_M_isTruth N u t) := by
  unfold fm_M_isTruth fb_M_isTruth_0 fb_M_isTruth_18 fb_M_isTruth_23
  rw [truth1, bnd_so, truth0, bnd_so]
  exact ok_br.mpr ⟨fun _ => ok_ck.mpr ⟨rfl, ok_some.mpr ⟨rfl, Or.inr rfl⟩⟩, fun _ => ok_br.mpr ⟨fun _ => ok_ck.mpr ⟨rfl, ok_some.mpr ⟨rfl, Or.inr rfl⟩⟩, fun _ => ok_ck.mpr ⟨rfl, ok_some.mpr ⟨rfl, Or.inl rfl⟩⟩⟩⟩
theorem GT_atom {a : Int} (hPB : PB P PR) (h : 0 ≤ a ∧ a < 22) : GT n ow kd P (mk 1 a) := Or.inl ⟨nh_mk (by omega), hPB.1 a h.1 h.2⟩
theorem ERX_g (e : ERX Fv P PR T C ND CN p u fr ro rn rh cb pc ct q n ow kd opM bnM bxM mu) (h : tG T q ≠ 0) : F u 152 = 1 := by
  rcases e.2.2.2.2.2.2.2.2 with ⟨y, -⟩ | ⟨y, -⟩
  · exact absurd y h
  · exact y
theorem i22 (e : ERX Fv P PR T C ND CN p u fr ro rn rh cb pc ct q n ow kd (ro (fr - 1) + tH T q) (rn (fr - 1) + rh (fr - 1) + tM T q) bxM mu) (hp : PGM Fv P PR T C pM pE ND CN PN SN UN FN u) (hG : tG T q ≠ 0) (hq : tB T q + 1 ≤ tH T q) (hm : m < ND) (hx : NX T q m (tH T q - 1) (tM T q)) (h98 : A u 98 (60 * p + (fr - 1)) = ((m : Nat) : Int)) (hN : 60000 ≤ N) : OK (fun v _ => RES Fv P PR T C ND CN p mu u v) (bnd (fm_M_take N u) (fun u10 r10 => bnd (fm_M_truth N u10 1) (fun u11 r11 => br (decide ((lg_cmp r10 r11) = 0)) (fb_M_one_468 N () u11) (bnd (fr_M_guardFails N u11) (fun u12 _ => fb_M_one_468 N () u12))))) := by
  have e' := e
  rw [show ro (fr - 1) + tH T q = ro (fr - 1) + (tH T q - 1) + 1 from by omega] at e'
  unfold fb_M_one_468
  refine ok_bnd.mpr (ok_mono (takeE (N := N) e' (by omega)) (fun v r hv => ?_))
  obtain ⟨v1, v2, v3, v4⟩ := hv
  rw [truth1, bnd_so]
  refine ok_br.mpr ⟨fun _ => ok_some.mpr (nxtR e hm hx v3 (by decide) (by decide) (by decide) h98 v1.1 (FR.mo v3 (by decide) (by decide) (by decide) (by decide)) v4), fun _ => ?_⟩
  exact ok_bnd.mpr (ok_mono (fails_ok (N := N) v1 (PGM_fr hp v3 (by decide) (by decide)) (ERX_g v1 hG) hN) (fun x _ hx => ok_some.mpr (RES.tr (FR.mo v3 (by decide) (by decide) (by decide) (by decide)) v4 (fun z _ => FR.A v3 (by decide)) hx (Nat.le_refl _))))
theorem i23 (e : ERX Fv P PR T C ND CN p u fr ro rn rh cb pc ct q n ow kd (ro (fr - 1) + tH T q) (rn (fr - 1) + rh (fr - 1) + tM T q) bxM mu) (hp : PGM Fv P PR T C pM pE ND CN PN SN UN FN u) (hG : tG T q ≠ 0) (hq : tH T q = cH C (tG T q - 1)) (hN : 60000 ≤ N) : OK (fun v _ => RES Fv P PR T C ND CN p mu u v) (bnd (fm_M_chosen N u) (fun u9 _ => fb_M_one_468 N () u9)) := by
  obtain ⟨i, h2, h3, h4, h5, h6, h7, h8, h9⟩ := e
  obtain ⟨c, s, many, hg, hb, mm', r, t1, t2, t3, t4, t5⟩ : ∃ c s many hg hb m r, TRS u T C ND CN p (ro (fr - 1)) (rn (fr - 1)) (rh (fr - 1)) (tK T q) (tC T q) s many hg hb m r bxM ∧ tG T q = c + 1 ∧ F u 154 = ((c : Nat) : Int) ∧ F u 157 = ((ro (fr - 1) + hg : Nat) : Int) ∧ CLG u (sR T pc (fr - 1) + r) ((if s = 3 then (bxM : Int) - F u 158 else 0) * 16002 + tR T q + 1) mu := by
    rcases h9 with ⟨y, -⟩ | ⟨-, y⟩
    · exact absurd y hG
    · exact y
  obtain ⟨c', nc1, nc2, nc3, nc4, nc5, nc6, nc7, nc8⟩ := (hp.1.2.2.1 q h3).1.2.2.2.2.2.2.2.1 hG
  obtain rfl : c' = c := by omega
  have hgc : cH C c' = hg := by
    rcases t1.2.2.1 with u2 | ⟨c'', d1, d2, d3, d4, -⟩
    · omega
    · obtain rfl : c'' = c' := by omega
      exact d4
  have e8 : s = 3 → F u 158 < bxM := fun z => (t1.2.2.2.1 z).2.2.1
  unfold fb_M_one_468
  refine ok_bnd.mpr (ok_mono (chosen_ok (N := N) (mu := mu) (c := c') (by rw [t2, show c' + 1 - 1 = c' from by omega, hgc] at hq; rw [← hq, ← nc3]; exact i) hp.1 h2 t1 t3 h5 h6 ?_ (by omega)) (fun v _ hv => ok_some.mpr hv))
  obtain ⟨q1, q2, q3, q4⟩ := t5
  refine ⟨q1, q2, q3, ?_⟩
  by_cases es : s = 3
  · have := e8 es
    rw [if_pos es] at q4
    omega
  · rw [if_neg es] at q4
    omega
theorem i7 (e : ERX Fv P PR T C ND CN p u fr ro rn rh cb pc ct q n ow kd (ro (fr - 1) + tH T q) (rn (fr - 1) + rh (fr - 1) + tM T q) bxM mu) (hp : PGM Fv P PR T C pM pE ND CN PN SN UN FN u) (hq : tB T q + 1 ≤ tH T q) (hm : m < ND) (hx : NX T q m (tH T q) (tM T q)) (h98 : A u 98 (60 * p + (fr - 1)) = ((m : Nat) : Int)) (hN : 60000 ≤ N) : OK (fun v _ => RES Fv P PR T C ND CN p mu u v) (bnd (fm_M_take N u) (fun u27 r27 => bnd (fm_M_isTruth N u27 r27) (fun u28 r28 => br (decide (r28 = 0)) (bnd (fr_M_error N u28 11) (fun u29 _ => fb_M_otherRun_122 N () u29)) (bnd (fm_M_truth N u28 0) (fun u30 r30 => br (decide ((lg_cmp r27 r30) = 0)) (fb_M_otherRun_107 N () u30 (1)) (fb_M_otherRun_107 N () u30 (0))))))) := by
  have e' := e
  rw [show ro (fr - 1) + tH T q = ro (fr - 1) + (tH T q - 1) + 1 from by omega] at e'
  have hf := e.2.1.1
  have hro := (e.2.1.2.2.1 (fr - 1) (by omega)).2.2.2.2.1
  have hH := (hp.1.2.2.1 q e.2.2.1).1.1
  unfold fb_M_otherRun_122 fb_M_otherRun_107 fb_M_otherRun_122 fb_M_otherRun_328
  refine ok_bnd.mpr (ok_mono (takeE (N := N) e' (by omega)) (fun v r hv => ?_))
  obtain ⟨v1, v2, v3, v4⟩ := hv
  have back : ∀ x, RES Fv P PR T C ND CN p mu v x → RES Fv P PR T C ND CN p mu u x := fun x hx => RES.tr (FR.mo v3 (by decide) (by decide) (by decide) (by decide)) v4 (fun z _ => FR.A v3 (by decide)) hx (Nat.le_refl _)
  refine ok_bnd.mpr (ok_mono isTruth_ok (fun x r2 hx' => ?_))
  obtain ⟨x1, x2⟩ := hx'
  subst x1
  have pt : ∀ a : Int, 0 ≤ a ∧ a < 22 → OK (fun v _ => RES Fv P PR T C ND CN p mu u v) (bnd (fm_M_put N x (mk 1 a)) (fun u6 _ => some (u6, ()))) := fun a ha => ok_bnd.mpr (ok_mono (putR (N := N) v1 hm hx (by rw [FR.A v3 (by decide)]; exact h98) (by omega) rfl (GT_atom hp.2.1 ha) (by omega)) (fun y _ hy => ok_some.mpr (back y hy)))
  refine ok_br.mpr ⟨fun _ => ?_, fun _ => ?_⟩
  · exact ok_bnd.mpr (ok_mono (err_ok (N := N) (a := 11) v1 (PGM_fr hp v3 (by decide) (by decide)) (by omega) hN) (fun y _ hy => ok_some.mpr (back y hy)))
  · rw [truth0, bnd_so, truth1, bnd_so, truth0, bnd_so]
    exact ok_br.mpr ⟨fun _ => pt 0 (by omega), fun _ => pt 1 (by omega)⟩
end
end
section
section
variable {Fv : Int64 → Int64 → Prop} {P : Int64 → Prop} {u v w w2 : MS} {PR N p n n2 opM bnM bxM bx2 ND fr k tp mu CN PN SN UN FN rq q m h mm : Nat} {ow kd ow2 kd2 ro rn rh cb pc ct pM pE : Nat → Nat} {T : TY} {C : CY}
theorem GT_int {x : Int32} (hPB : PB P PR) : GT n ow kd P (mk 0 x.toInt) := Or.inl ⟨nh_mk (by omega), hPB.2.2.2.1 _ (ti_rng x).1 (ti_rng x).2⟩
theorem term0_e {x : Int32} : fm_M_term N u 0 x = some (u, mk 0 x.toInt) := by
  have := term_e (N := N) (u := u) (s := 0) (v := x.toInt)
  rw [← I_of x] at this
  exact this
theorem i8 (e : ERX Fv P PR T C ND CN p u fr ro rn rh cb pc ct q n ow kd (ro (fr - 1) + tH T q) (rn (fr - 1) + rh (fr - 1) + tM T q) bxM mu) (hp : PGM Fv P PR T C pM pE ND CN PN SN UN FN u) (hq : tB T q + 1 ≤ tH T q) (hm : m < ND) (hx : NX T q m (tH T q) (tM T q)) (h98 : A u 98 (60 * p + (fr - 1)) = ((m : Nat) : Int)) (hN : 60000 ≤ N) : OK (fun v _ => RES Fv P PR T C ND CN p mu u v) (bnd (fm_M_take N u) (fun u22 r22 => bnd (fm_M_sortOf N u22 r22) (fun u23 r23 => br (decide (r23 = 0)) (bnd (fm_M_valueOf N u23 r22) (fun u24 r24 => bnd (fm_M_valueOf N u24 r22) (fun u25 r25 => br (decide (r24 = (-r25))) (bnd (fm_M_valueOf N u25 r22) (fun u26 r26 => br (decide (r26 = 0)) (fb_M_otherRun_171 N () u26 (r22)) (fb_M_otherRun_162 N () u26))) (fb_M_otherRun_171 N () u25 (r22))))) (fb_M_otherRun_162 N () u23)))) := by
  have e' := e
  rw [show ro (fr - 1) + tH T q = ro (fr - 1) + (tH T q - 1) + 1 from by omega] at e'
  have hf := e.2.1.1
  have hro := (e.2.1.2.2.1 (fr - 1) (by omega)).2.2.2.2.1
  have hH := (hp.1.2.2.1 q e.2.2.1).1.1
  refine ok_bnd.mpr (ok_mono (takeE (N := N) e' (by omega)) (fun v r hv => ?_))
  obtain ⟨v1, v2, v3, v4⟩ := hv
  have back : ∀ x, RES Fv P PR T C ND CN p mu v x → RES Fv P PR T C ND CN p mu u x := fun x hx => RES.tr (FR.mo v3 (by decide) (by decide) (by decide) (by decide)) v4 (fun z _ => FR.A v3 (by decide)) hx (Nat.le_refl _)
  have no : OK (fun v _ => RES Fv P PR T C ND CN p mu u v) (fb_M_otherRun_162 N () v) := by
    unfold fb_M_otherRun_162 fb_M_otherRun_184 fb_M_otherRun_328
    exact ok_bnd.mpr (ok_mono (err_ok (N := N) (a := 12) v1 (PGM_fr hp v3 (by decide) (by decide)) (by omega) hN) (fun y _ hy => ok_some.mpr (back y hy)))
  have yes : OK (fun v _ => RES Fv P PR T C ND CN p mu u v) (fb_M_otherRun_171 N () v r) := by
    unfold fb_M_otherRun_171 fb_M_otherRun_184 fb_M_otherRun_328
    rw [valueOf_e, bnd_so, term0_e, bnd_so]
    exact ok_bnd.mpr (ok_mono (putR (N := N) v1 hm hx (by rw [FR.A v3 (by decide)]; exact h98) (by omega) rfl (GT_int hp.2.1) (by omega)) (fun y _ hy => ok_some.mpr (back y hy)))
  rw [sortOf_e, bnd_so, valueOf_e, bnd_so, valueOf_e, bnd_so, valueOf_e, bnd_so]
  exact ok_br.mpr ⟨fun _ => ok_br.mpr ⟨fun _ => ok_br.mpr ⟨fun _ => yes, fun _ => no⟩, fun _ => yes⟩, fun _ => no⟩
theorem i9 {a : Nat} {v2 : Int32} (e : ERX Fv P PR T C ND CN p u fr ro rn rh cb pc ct q n ow kd (ro (fr - 1) + tH T q) (rn (fr - 1) + rh (fr - 1) + tM T q) bxM mu) (hp : PGM Fv P PR T C pM pE ND CN PN SN UN FN u) (hq : tB T q + 1 ≤ tH T q) (hm : m < ND) (hx : NX T q m (tH T q - 1) (tM T q)) (h98 : A u 98 (60 * p + (fr - 1)) = ((m : Nat) : Int)) (ha : A u 25 q = a) (haN : a < ND) (hxa : NX T q a (tH T q) (tM T q)) (hN : 60000 ≤ N) : OK (fun v _ => RES Fv P PR T C ND CN p mu u v) (fb_M_otherRun_12 N () u (I q) v2) := by
  have e' := e
  rw [show ro (fr - 1) + tH T q = ro (fr - 1) + (tH T q - 1) + 1 from by omega] at e'
  have hf := e.2.1.1
  have q1 := e.2.2.1
  have nd := hp.1.1.1
  unfold fb_M_otherRun_12 fb_M_otherRun_71 fb_M_otherRun_328
  obtain ⟨t1, t2⟩ := top_ok (N := N) (k := 0) e.1 (by omega)
  rw [lit0q, show (0 : Int) = ((0 : Nat) : Int) from rfl, t1, bnd_so]
  have alt : ∀ (t : Int64) (b : Int32) (y : Int64), fm_M_truth N u b = some (u, y) → OK (fun v _ => RES Fv P PR T C ND CN p mu u v) (fb_M_otherRun_46 N () u (I q) t b) := fun t b y hy => by
    unfold fb_M_otherRun_46 fb_M_otherRun_71 fb_M_otherRun_328
    rw [hy, bnd_so]
    refine ok_br.mpr ⟨fun _ => ok_ck.mpr ⟨inb_at (k := 25) (n := 16000) rfl (by omega) (by omega) (by decide), ?_⟩, fun _ => ?_⟩
    · rw [I_tn (by omega) (by omega), Int.toNat_natCast, I_A' ha]
      exact ok_bnd.mpr (ok_mono (gotoR (N := N) e haN nd hxa rfl rfl) (fun y _ hy => ok_some.mpr hy))
    · refine ok_bnd.mpr (ok_mono (takeE (N := N) e' (by omega)) (fun v r hv => ok_some.mpr ?_))
      obtain ⟨v1, v2, v3, v4⟩ := hv
      exact nxtR e hm hx v3 (by decide) (by decide) (by decide) h98 v1.1 (FR.mo v3 (by decide) (by decide) (by decide) (by decide)) v4
  refine ok_bnd.mpr (ok_mono isTruth_ok (fun x r2 hx' => ?_))
  obtain ⟨x1, x2⟩ := hx'
  subst x1
  refine ok_br.mpr ⟨fun _ => ?_, fun _ => ok_br.mpr ⟨fun _ => alt _ _ _ truth1, fun _ => alt _ _ _ truth0⟩⟩
  exact ok_bnd.mpr (ok_mono (err_ok (N := N) (a := 11) e hp (by omega) hN) (fun y _ hy => ok_some.mpr hy))
theorem i16 {m2 : Nat} (e : ERX Fv P PR T C ND CN p u fr ro rn rh cb pc ct q n ow kd (ro (fr - 1) + tH T q) (rn (fr - 1) + rh (fr - 1) + tM T q) bxM mu) (hp : PGM Fv P PR T C pM pE ND CN PN SN UN FN u) (hq : tB T q + 1 ≤ tH T q) (hm : m < ND) (hpat : PAT u pM pE PN SN (tL T q) (tM T q) m2 (A u 25 q)) (hx : NX T q m (tH T q) m2) (h98 : A u 98 (60 * p + (fr - 1)) = ((m : Nat) : Int)) (hN : 60000 ≤ N) : OK (fun v _ => RES Fv P PR T C ND CN p mu u v) (ck (inb (u.1 133) (ln 94)) (lt (u.2.2.1 94 (u.1 133).toNatClampNeg) (fun y13 => ck (inb (I q) (ln 25)) (bnd (fm_M_top N u 0) (fun u14 r14 => bnd (fm_M_fits N u14 (u.2.2.1 25 (I q).toNatClampNeg) r14) (fun u15 r15 => br (decide (r15 = 0)) (ck (inb (u15.1 133) (ln 94)) (lt (upA u15 94 (upd (u15.2.2.1 94) (u15.1 133).toNatClampNeg y13)) (fun w16 => bnd (fm_M_top N w16 0) (fun u17 r17 => bnd (fr_M_errorOf N u17 13 r17) (fun u18 _ => fb_M_one_400 N () u18))))) (fb_M_one_400 N () u15))))))) := by
  have i := e.1
  have x4 := MEI_p i
  have hf := e.2.1.1
  have q1 := e.2.2.1
  have nd := hp.1.1.1
  have hl := e.2.2.2.1
  have hro := (e.2.1.2.2.1 (fr - 1) (by omega))
  have hMq := (hp.1.2.2.1 q q1).1.2.1
  obtain ⟨qq, pM, pE, p1, p2, p3, p4, p5, p6, p7⟩ := hpat
  have hM2 : m2 + tL T q ≤ 40 := by have := (hp.1.2.2.1 m hm).1.2.1; obtain ⟨-, z2, z3, -⟩ := hx; omega
  have hb94 : A u 94 p = ((rn (fr - 1) + rh (fr - 1) + tM T q : Nat) : Int) := i.2.2.2.2.2.2.2.2.2.2.1.1
  unfold fb_M_one_400 fb_M_one_468
  rw [I_F' i.2.2.1]
  refine ok_ck.mpr ⟨inb_at (k := 94) (n := 24) rfl (by omega) (by omega) (by decide), ok_lt.mpr (ok_ck.mpr ⟨inb_at (k := 25) (n := 16000) rfl (by omega) (by omega) (by decide), ?_⟩)⟩
  obtain ⟨t1, t2⟩ := top_ok (N := N) (k := 0) i (by omega)
  rw [lit0q, show (0 : Int) = ((0 : Nat) : Int) from rfl, t1, bnd_so, I_tn (x := (q : Int)) (by omega) (by omega), Int.toNat_natCast, I_tn (x := (p : Int)) (by omega) (by omega), Int.toNat_natCast, I_A' p1, I_A' hb94]
  refine ok_bnd.mpr (ok_mono (fits_ok (N := N) (q := qq) (e := pE qq) (pM := pM) (pE := pE) (PN := PN) (SN := SN) (fr := fr) (rn := rn (fr - 1)) (rh := rh (fr - 1)) i hp.1.1.2.2.1 p3 rfl p2 (by rw [hl]; exact p7) hp.2.2.1 hp.2.2.2.1 hp.2.2.2.2 hp.1.2.1 ⟨hf.2.2, hf.1, hf.2.1, hro.2.1, hro.2.2.1⟩ (fun k h1 h2 => by have := p6 k h1 h2; omega) (by rw [p4]) t2 (by omega)) (fun v r hv => ?_))
  obtain ⟨v1, v2⟩ := hv
  have f1 := v1.1
  have o1 : OTF p u v := ⟨fun z hz => ⟨FR.A f1 (by decide), v1.2 z hz, FR.A f1 (by decide), FR.A f1 (by decide)⟩, fun j _ => ⟨FR.A f1 (by decide), FR.A f1 (by decide), FR.A f1 (by decide), FR.A f1 (by decide)⟩, fun j _ => ⟨FR.A f1 (by decide), FR.A f1 (by decide), FR.A f1 (by decide), FR.A f1 (by decide)⟩, OTF_9 f1 (by decide)⟩
  refine ok_br.mpr ⟨fun z0 => ?_, fun z0 => ?_⟩
  · obtain ⟨b2, y3, c2, y4, y5, y6⟩ : ∃ b2, MEI Fv P PR v p n ow kd (ro (fr - 1) + tH T q) b2 bxM ∧ ∃ c2, qq ≤ c2 ∧ c2 ≤ pE qq ∧ b2 = rn (fr - 1) + rh (fr - 1) + pM c2 := by
      rcases v2 with ⟨y2, -⟩ | ⟨-, y3⟩
      · exfalso; rw [y2] at z0; exact absurd (of_decide_eq_true z0) (by decide)
      · exact y3
    have mono := pM_mono p7 (c2 - qq) (by omega)
    rw [show qq + (c2 - qq) = c2 from by omega] at mono
    rw [I_F' y3.2.2.1]
    refine ok_ck.mpr ⟨inb_at (k := 94) (n := 24) rfl (by omega) (by omega) (by decide), ok_lt.mpr ?_⟩
    rw [I_tn (x := (p : Int)) (by omega) (by omega), Int.toNat_natCast, wa_e]
    have f2 : FR [] [] [94] [] v (wa v 94 p ((rn (fr - 1) + rh (fr - 1) + tM T q : Nat) : Int)) := FR.wa FR.rf (by decide)
    have o2 : OTF p v (wa v 94 p ((rn (fr - 1) + rh (fr - 1) + tM T q : Nat) : Int)) := OTF_at f2 (i0 := p) (fun j hj => by rw [A_eq (by omega) (by omega), if_neg hj]) (Or.inl ⟨by decide, rfl⟩)
    have i2 := names_less y3 (k := rn (fr - 1) + rh (fr - 1) + tM T q) (by omega)
    generalize wa v 94 p ((rn (fr - 1) + rh (fr - 1) + tM T q : Nat) : Int) = w3 at *
    have f3 : FR [] [] [94, 160, 162] [93, 141, 161, 163] u w3 := FR.tr f1 (FR.mo f2 (by decide) (by decide) (by decide) (by decide))
    have e3 := ERX_fr e f3 (by decide) (by decide) (by decide) i2 (by have := (hp.1.2.2.1 q q1).1.2.2.2.1; omega) (Nat.le_refl _)
    obtain ⟨t3, t4⟩ := top_ok (N := N) (k := 0) i2 (by omega)
    rw [t3, bnd_so]
    exact ok_bnd.mpr (ok_mono (errOf_ok (N := N) (a := 13) e3 (PGM_fr hp f3 (by decide) (by decide)) t4 (by omega) hN) (fun y _ hy => ok_some.mpr (RES.tr (FR.mo f3 (by decide) (by decide) (by decide) (by decide)) (OTF.tr o1 o2) (fun z _ => FR.A f3 (by decide)) hy (Nat.le_refl _))))
  · have y3 : MEI Fv P PR v p n ow kd (ro (fr - 1) + tH T q) (rn (fr - 1) + rh (fr - 1) + pM (pE qq)) bxM := by
      rcases v2 with ⟨-, y3⟩ | ⟨y2, -⟩
      · exact y3
      · exact absurd y2 (of_decide_eq_false z0)
    rw [p5] at y3
    exact ok_some.mpr (nxtR e hm hx f1 (by decide) (by decide) (by decide) h98 y3 (FR.mo f1 (by decide) (by decide) (by decide) (by decide)) o1)
end
end
section
section
variable {Fv : Int64 → Int64 → Prop} {P : Int64 → Prop} {u v w w2 : MS} {PR N p n n2 opM bnM bxM bx2 ND fr k tp mu CN PN SN UN FN rq q m h mm : Nat} {ow kd ow2 kd2 ro rn rh cb pc ct pM pE : Nat → Nat} {T : TY} {C : CY}
theorem cb_le (h : FRS w T ND p fr ro rn rh cb pc ct k tp) {i : Nat} (hi : i + 1 < fr) : cb i + tK T (pc i) ≤ cb (fr - 1) := by
  have := ro_mono h (fr - 1 - (i + 1)) (i + 1) (by omega)
  rw [show i + 1 + (fr - 1 - (i + 1)) = fr - 1 from by omega] at this
  have := (h.2.2.2.1 i hi).2.2.2.2.2.2.2.1
  omega
theorem FRS_push {is ls as js : List Nat} (h : FRS w T ND p fr ro rn rh cb pc ct (tK T q) (tC T q)) (f : FR is ls as js w w2) (ha : ∀ k, k ∈ [23, 95, 98, 99, 100, 101] → k ∉ as) (hp : p < 24) (hk : tK T q ≤ 26) (hq : q < ND) (h23 : A w 23 q = 19) (hl : rh (fr - 1) = tL T q)
    (h102 : ∀ j, A w2 102 j = if j = 1600 * p + (cb (fr - 1) + tK T q) then ((fr - 1 : Nat) : Int) else A w 102 j) (h103 : ∀ j, A w2 103 j = if j = 1600 * p + (cb (fr - 1) + tK T q) then ((q : Nat) : Int) else A w 103 j) (h104 : ∀ j, A w2 104 j = if j = 1600 * p + (cb (fr - 1) + tK T q) then ((ro (fr - 1) + tH T q : Nat) : Int) else A w 104 j) (h105 : ∀ j, A w2 105 j = if j = 1600 * p + (cb (fr - 1) + tK T q) then ((rn (fr - 1) + rh (fr - 1) + tM T q : Nat) : Int) else A w 105 j) :
    FRS w2 T ND p fr ro rn rh cb pc (fun x => if x = cb (fr - 1) + tK T q then q else ct x) (tK T q + 1) q := by
  have h0 := h
  obtain ⟨⟨q1, q2, q3⟩, z, h5, h6, h7⟩ := h
  have cti : ∀ (i c0 kk tt a1 a2 a3 : Nat), c0 + kk ≤ cb (fr - 1) + tK T q → CTI w T ND p ct i c0 kk tt a1 a2 a3 → CTI w2 T ND p (fun x => if x = cb (fr - 1) + tK T q then q else ct x) i c0 kk tt a1 a2 a3 := fun i c0 kk tt a1 a2 a3 hle hc j hj => by
    obtain ⟨y1, y2, y3, y4, y5, y6, y8, y9, y10, y11⟩ := hc j hj
    have ne : c0 + j ≠ cb (fr - 1) + tK T q := by omega
    have ne2 : 1600 * p + (c0 + j) ≠ 1600 * p + (cb (fr - 1) + tK T q) := by omega
    simp only [if_neg ne]
    refine ⟨by rw [h102, if_neg ne2]; exact y1, by rw [h103, if_neg ne2]; exact y2, y3, by rw [FR.A f (ha _ (by decide))]; exact y4, y5, y6, by rw [h104, if_neg ne2]; exact y8, by rw [h105, if_neg ne2]; exact y9, y10, fun mm hmm => ?_⟩
    rw [if_neg (by omega)]; exact y11 mm hmm
  refine ⟨⟨q1, q2, by rw [FR.A f (ha _ (by decide))]; exact q3⟩, z, fun i hi => by rw [FR.A f (ha _ (by decide)), FR.A f (ha _ (by decide)), FR.A f (ha _ (by decide))]; exact h5 i hi, fun i hi => ?_, fun j hj => ?_⟩
  · obtain ⟨r1, r2, r3, r4, r5, r6, r7, r8, r9⟩ := h6 i hi
    exact ⟨by rw [FR.A f (ha _ (by decide))]; exact r1, r2, r3, r4, r5, r6, r7, r8, cti _ _ _ _ _ _ _ (by have := cb_le h0 hi; omega) r9⟩
  · by_cases e : j = tK T q
    · subst e
      have e0 : (fun x => if x = cb (fr - 1) + tK T q then q else ct x) (cb (fr - 1) + tK T q) = q := if_pos rfl
      rw [e0]
      refine ⟨by rw [h102, if_pos rfl], by rw [h103, if_pos rfl], hq, by rw [FR.A f (ha _ (by decide))]; exact h23, rfl, hl.symm, by rw [h104, if_pos rfl], by rw [h105, if_pos rfl], fun _ => rfl, fun mm hmm => ?_⟩
      show (if cb (fr - 1) + mm = cb (fr - 1) + tK T q then q else ct (cb (fr - 1) + mm)) = _
      rw [if_neg (by omega)]
      exact (h7 mm (by omega)).2.2.2.2.2.2.2.2.1 hmm
    · obtain ⟨y1, y2, y3, y4, y5, y6, y8, y9, y10, y11⟩ := cti _ _ _ _ _ _ _ (Nat.le_refl _) h7 j (by omega)
      exact ⟨y1, y2, y3, y4, y5, y6, y8, y9, fun z => by omega, y11⟩
theorem FRS_pop {is ls as js : List Nat} (h : FRS w T ND p fr ro rn rh cb pc ct (tK T q) (tC T q)) (f : FR is ls as js w w2) (ha : ∀ k, k ∈ [23, 95, 98, 99, 100, 101, 102, 103, 104, 105] → k ∉ as) (hk : 1 ≤ tK T q) (hc : 1 < tK T q → tp = tC T (tC T q)) : FRS w2 T ND p fr ro rn rh cb pc ct (tK T q - 1) tp := by
  have h2 := FRS_98 h f (fun k hk => ha k (by revert hk; simp; omega)) (fun j _ => FR.A f (ha _ (by decide)))
  obtain ⟨q1, z, h5, h6, h7⟩ := h2
  refine ⟨q1, z, h5, h6, fun j hj => ?_⟩
  obtain ⟨y1, y2, y3, y4, y5, y6, y8, y9, y10, y11⟩ := h7 j (by omega)
  refine ⟨y1, y2, y3, y4, y5, y6, y8, y9, fun e => ?_, y11⟩
  obtain ⟨-, -, -, -, -, -, -, -, x10, x11⟩ := h7 (tK T q - 1) (by omega)
  rw [x11 j (by omega), x10 (by omega), hc (by omega)]
theorem catch_next {is ls as js : List Nat} (e : ERX Fv P PR T C ND CN p u fr ro rn rh cb pc ct q n ow kd (ro (fr - 1) + tH T q) (rn (fr - 1) + rh (fr - 1) + tM T q) bxM mu) (hG : tG T q = 0) (hm : m < ND) (h1 : tH T m = tH T q) (h2 : tM T m = tM T q) (h3 : tL T m = tL T q) (h4 : tG T m = 0) (h5 : tR T m < tR T q) (f : FR is ls as js u v) (hi : ∀ k, k ∈ [152, 164, 165] → k ∉ is) (h98 : A v 98 (60 * p + (fr - 1)) = ((m : Nat) : Int)) (h109 : A v 109 p = 0) (i : MEI Fv P PR v p n ow kd (ro (fr - 1) + tH T q) (rn (fr - 1) + rh (fr - 1) + tM T q) bxM) {ct2 : Nat → Nat} (hf : FRS v T ND p fr ro rn rh cb pc ct2 (tK T m) (tC T m)) (h106 : A v 106 p = ((cb (fr - 1) + tK T m : Nat) : Int)) : ∃ m2, m2 < mu ∧ STE Fv P PR T C ND CN p m2 v := by
  obtain ⟨-, -, e3, e4, -, -, -, -, e9⟩ := e
  obtain ⟨y2, y3⟩ : F u 152 = 0 ∧ CLG u (sR T pc (fr - 1) + tR T q) 0 mu := by
    rcases e9 with ⟨-, y⟩ | ⟨-, c, s, many, hg', hb', mm', r, t1, t2, -⟩
    · exact y
    · omega
  obtain ⟨c1, c2, c3, c4⟩ := y3
  refine ⟨mu - 1, by omega, fr, ro, rn, rh, cb, pc, ct2, m, n, ow, kd, bxM, ⟨by rw [h1, h2]; exact i, hf, h98, hm, by rw [h3]; exact e4, h106⟩, h109, Or.inl ⟨h4, by rw [FR.F f (hi _ (by decide))]; exact y2, ?_⟩⟩
  unfold CLG
  rw [FR.F f (hi _ (by decide)), FR.F f (hi _ (by decide))]
  exact ⟨c1, c2, c3, by omega⟩
end
end
section
section
variable {Fv : Int64 → Int64 → Prop} {P : Int64 → Prop} {u v w w2 : MS} {PR N p n n2 opM bnM bxM bx2 ND fr k tp mu CN PN SN UN FN rq q m h mm : Nat} {ow kd ow2 kd2 ro rn rh cb pc ct pM pE : Nat → Nat} {T : TY} {C : CY}
theorem i20 (e : ERX Fv P PR T C ND CN p u fr ro rn rh cb pc ct q n ow kd (ro (fr - 1) + tH T q) (rn (fr - 1) + rh (fr - 1) + tM T q) bxM mu) (hG : tG T q = 0) (hk : 1 ≤ tK T q) (hk26 : tK T q ≤ 26) (hm : m < ND) (h1 : tH T m = tH T q) (h2 : tM T m = tM T q) (h3 : tL T m = tL T q) (h4 : tG T m = 0) (hkm : tK T m = tK T q - 1) (hcm : 1 < tK T q → tC T m = tC T (tC T q)) (h5 : tR T m < tR T q) (h98 : A u 98 (60 * p + (fr - 1)) = ((m : Nat) : Int)) : OK (fun v _ => RES Fv P PR T C ND CN p mu u v) (ck (inb (u.1 133) (ln 106)) (ck (inb (u.1 133) (ln 106)) (lt (upA u 106 (upd (u.2.2.1 106) (u.1 133).toNatClampNeg ((u.2.2.1 106 (u.1 133).toNatClampNeg) - 1))) (fun w14 => fb_M_otherRun_328 N () w14)))) := by
  have i := e.1
  have x4 := MEI_p i
  have hf := e.2.1.1
  have hro := (e.2.1.2.2.1 (fr - 1) (by omega))
  unfold fb_M_otherRun_328
  rw [I_F' i.2.2.1]
  refine ok_ck.mpr ⟨inb_at (k := 106) (n := 24) rfl (by omega) (by omega) (by decide), ok_ck.mpr ⟨inb_at (k := 106) (n := 24) rfl (by omega) (by omega) (by decide), ok_lt.mpr ?_⟩⟩
  rw [I_tn (x := (p : Int)) (by omega) (by omega), Int.toNat_natCast, I_A' e.2.2.2.2.1, lit1q, I_sub, show ((cb (fr - 1) + tK T q : Nat) : Int) - 1 = ((cb (fr - 1) + tK T m : Nat) : Int) from by omega, wa_e]
  have f : FR [] [] [106] [] u (wa u 106 p ((cb (fr - 1) + tK T m : Nat) : Int)) := FR.wa FR.rf (by decide)
  have e6 : ∀ j, A (wa u 106 p ((cb (fr - 1) + tK T m : Nat) : Int)) 106 j = if j = p then ((cb (fr - 1) + tK T m : Nat) : Int) else A u 106 j := fun j => A_eq (by omega) (by omega)
  have i2 := MEI_fr i f (by decide) (by decide) (by decide) (by decide) (by decide) (by decide) (by decide) (by decide) (by decide) (by decide) (by decide) (by decide) (by decide) (by decide) (by decide) (by decide) (by decide) (by decide)
  generalize wa u 106 p ((cb (fr - 1) + tK T m : Nat) : Int) = v at *
  have hfr := FRS_pop (tp := tC T m) e.2.1 f (by decide) hk hcm
  rw [← hkm] at hfr
  exact ok_some.mpr ⟨Or.inr (Or.inr (catch_next e hG hm h1 h2 h3 h4 h5 f (by decide) (by rw [FR.A f (by decide)]; exact h98) (by rw [FR.A f (by decide)]; exact e.2.2.2.2.2.1) i2 hfr (by rw [e6, if_pos rfl]))), Or.inl (FR.mo f (by decide) (by decide) (by decide) (by decide)), OTF_at f (i0 := p) (fun j hj => by rw [e6, if_neg hj]) (Or.inl ⟨by decide, rfl⟩), fun z _ => FR.A f (by decide)⟩
theorem i19 (e : ERX Fv P PR T C ND CN p u fr ro rn rh cb pc ct q n ow kd (ro (fr - 1) + tH T q) (rn (fr - 1) + rh (fr - 1) + tM T q) bxM mu) (hp : PGM Fv P PR T C pM pE ND CN PN SN UN FN u) (h23 : A u 23 q = 19) (h98 : A u 98 (60 * p + (fr - 1)) = ((q + 1 : Nat) : Int)) : OK (fun v _ => RES Fv P PR T C ND CN p mu u v) (ck (inb (u.1 133) (ln 106)) (lt (((u.1 133) * 1600) + (u.2.2.1 106 (u.1 133).toNatClampNeg)) (fun y15 => ck (inb (u.1 133) (ln 95)) (ck (inb y15 (ln 102)) (lt (upA u 102 (upd (u.2.2.1 102) y15.toNatClampNeg ((u.2.2.1 95 (u.1 133).toNatClampNeg) - 1))) (fun w16 => ck (inb y15 (ln 103)) (lt (upA w16 103 (upd (w16.2.2.1 103) y15.toNatClampNeg (I q))) (fun w17 => ck (inb (w17.1 133) (ln 92)) (ck (inb y15 (ln 104)) (lt (upA w17 104 (upd (w17.2.2.1 104) y15.toNatClampNeg (w17.2.2.1 92 (w17.1 133).toNatClampNeg))) (fun w18 => ck (inb (w18.1 133) (ln 94)) (ck (inb y15 (ln 105)) (lt (upA w18 105 (upd (w18.2.2.1 105) y15.toNatClampNeg (w18.2.2.1 94 (w18.1 133).toNatClampNeg))) (fun w19 => ck (inb (w19.1 133) (ln 106)) (ck (inb (w19.1 133) (ln 106)) (lt (upA w19 106 (upd (w19.2.2.1 106) (w19.1 133).toNatClampNeg ((w19.2.2.1 106 (w19.1 133).toNatClampNeg) + 1))) (fun w20 => fb_M_otherRun_328 N () w20))))))))))))))))) := by
  have i := e.1
  have x4 := MEI_p i
  have hf := e.2.1.1
  have q1 := e.2.2.1
  have nd := hp.1.1.1
  have hro := (e.2.1.2.2.1 (fr - 1) (by omega))
  obtain ⟨n1, n2, n3, -⟩ := (hp.1.2.2.1 q q1).1
  obtain ⟨g0, g1, g2, g3, g4, g5, g6, g7, g8, g9, -⟩ := PRG_19 hp.1 q1 h23
  have hm : q + 1 < ND := (hp.1.2.2.1 q q1).1.2.2.2.2.2.2.2.2.2.2.2.2.1 (by rw [h23]; decide)
  have p92 : A u 92 p = ((ro (fr - 1) + tH T q : Nat) : Int) := i.2.2.2.2.2.2.2.2.2.1.1
  have p94 : A u 94 p = ((rn (fr - 1) + rh (fr - 1) + tM T q : Nat) : Int) := i.2.2.2.2.2.2.2.2.2.2.1.1
  have hc : cb (fr - 1) + tK T q < 1600 := by omega
  generalize hcc : cb (fr - 1) + tK T q = c at *
  have p106 : A u 106 p = (c : Int) := e.2.2.2.2.1.trans (by rw [hcc])
  unfold fb_M_otherRun_328
  rw [I_F' i.2.2.1, I_tn (x := (p : Int)) (by omega) (by omega), Int.toNat_natCast, I_A' p106, show (1600 : Int32) = I 1600 from rfl, I_mul, I_add, show (p : Int) * 1600 + (c : Int) = ((1600 * p + c : Nat) : Int) from by omega]
  refine ok_ck.mpr ⟨inb_at (k := 106) (n := 24) rfl (by omega) (by omega) (by decide), ok_lt.mpr (ok_ck.mpr ⟨inb_at (k := 95) (n := 24) rfl (by omega) (by omega) (by decide), ok_ck.mpr ⟨inb_at (k := 102) (n := 38400) rfl (by omega) (by omega) (by decide), ok_lt.mpr ?_⟩⟩)⟩
  rw [I_tn (x := ((1600 * p + c : Nat) : Int)) (by omega) (by omega), Int.toNat_natCast, I_A' hf.2.2, lit1q, I_sub, show (fr : Int) - 1 = ((fr - 1 : Nat) : Int) from by omega, wa_e (k := 102)]
  have f2 : FR [] [] [102] [] u (wa u 102 (1600 * p + c) ((fr - 1 : Nat) : Int)) := FR.wa FR.rf (by decide)
  have e2 : ∀ j, A (wa u 102 (1600 * p + c) ((fr - 1 : Nat) : Int)) 102 j = if j = 1600 * p + c then ((fr - 1 : Nat) : Int) else A u 102 j := fun j => A_eq (by omega) (by omega)
  generalize wa u 102 (1600 * p + c) ((fr - 1 : Nat) : Int) = v2 at *
  refine ok_ck.mpr ⟨inb_at (k := 103) (n := 38400) rfl (by omega) (by omega) (by decide), ok_lt.mpr ?_⟩
  rw [wa_e (k := 103)]
  have f3 : FR [] [] [102, 103] [] u (wa v2 103 (1600 * p + c) q) := FR.wa (FR.mo f2 (by decide) (by decide) (by decide) (by decide)) (by decide)
  have e3 : ∀ j, A (wa v2 103 (1600 * p + c) q) 103 j = if j = 1600 * p + c then (q : Int) else A u 103 j := fun j => by rw [A_eq (by omega) (by omega), FR.A f2 (by decide)]
  have e32 : ∀ j, A (wa v2 103 (1600 * p + c) q) 102 j = if j = 1600 * p + c then ((fr - 1 : Nat) : Int) else A u 102 j := fun j => by rw [A_ne (by decide), e2]
  generalize wa v2 103 (1600 * p + c) q = v3 at *
  rw [I_F' (show F v3 133 = p by rw [FR.F f3 (by decide)]; exact i.2.2.1)]
  refine ok_ck.mpr ⟨inb_at (k := 92) (n := 24) rfl (by omega) (by omega) (by decide), ok_ck.mpr ⟨inb_at (k := 104) (n := 38400) rfl (by omega) (by omega) (by decide), ok_lt.mpr ?_⟩⟩
  rw [I_tn (x := (p : Int)) (by omega) (by omega), Int.toNat_natCast, I_A' (show A v3 92 p = ((ro (fr - 1) + tH T q : Nat) : Int) by rw [FR.A f3 (by decide)]; exact p92), wa_e (k := 104)]
  have f4 : FR [] [] [102, 103, 104] [] u (wa v3 104 (1600 * p + c) ((ro (fr - 1) + tH T q : Nat) : Int)) := FR.wa (FR.mo f3 (by decide) (by decide) (by decide) (by decide)) (by decide)
  have e4 : ∀ j, A (wa v3 104 (1600 * p + c) ((ro (fr - 1) + tH T q : Nat) : Int)) 104 j = if j = 1600 * p + c then ((ro (fr - 1) + tH T q : Nat) : Int) else A u 104 j := fun j => by rw [A_eq (by omega) (by omega), FR.A f3 (by decide)]
  have e42 : ∀ j, A (wa v3 104 (1600 * p + c) ((ro (fr - 1) + tH T q : Nat) : Int)) 102 j = if j = 1600 * p + c then ((fr - 1 : Nat) : Int) else A u 102 j := fun j => by rw [A_ne (by decide), e32]
  have e43 : ∀ j, A (wa v3 104 (1600 * p + c) ((ro (fr - 1) + tH T q : Nat) : Int)) 103 j = if j = 1600 * p + c then (q : Int) else A u 103 j := fun j => by rw [A_ne (by decide), e3]
  generalize wa v3 104 (1600 * p + c) ((ro (fr - 1) + tH T q : Nat) : Int) = v4 at *
  rw [I_F' (show F v4 133 = p by rw [FR.F f4 (by decide)]; exact i.2.2.1)]
  refine ok_ck.mpr ⟨inb_at (k := 94) (n := 24) rfl (by omega) (by omega) (by decide), ok_ck.mpr ⟨inb_at (k := 105) (n := 38400) rfl (by omega) (by omega) (by decide), ok_lt.mpr ?_⟩⟩
  rw [I_tn (x := (p : Int)) (by omega) (by omega), Int.toNat_natCast, I_A' (show A v4 94 p = ((rn (fr - 1) + rh (fr - 1) + tM T q : Nat) : Int) by rw [FR.A f4 (by decide)]; exact p94), wa_e (k := 105)]
  have f5 : FR [] [] [102, 103, 104, 105] [] u (wa v4 105 (1600 * p + c) ((rn (fr - 1) + rh (fr - 1) + tM T q : Nat) : Int)) := FR.wa (FR.mo f4 (by decide) (by decide) (by decide) (by decide)) (by decide)
  have e5 : ∀ j, A (wa v4 105 (1600 * p + c) ((rn (fr - 1) + rh (fr - 1) + tM T q : Nat) : Int)) 105 j = if j = 1600 * p + c then ((rn (fr - 1) + rh (fr - 1) + tM T q : Nat) : Int) else A u 105 j := fun j => by rw [A_eq (by omega) (by omega), FR.A f4 (by decide)]
  have e52 : ∀ j, A (wa v4 105 (1600 * p + c) ((rn (fr - 1) + rh (fr - 1) + tM T q : Nat) : Int)) 102 j = if j = 1600 * p + c then ((fr - 1 : Nat) : Int) else A u 102 j := fun j => by rw [A_ne (by decide), e42]
  have e53 : ∀ j, A (wa v4 105 (1600 * p + c) ((rn (fr - 1) + rh (fr - 1) + tM T q : Nat) : Int)) 103 j = if j = 1600 * p + c then (q : Int) else A u 103 j := fun j => by rw [A_ne (by decide), e43]
  have e54 : ∀ j, A (wa v4 105 (1600 * p + c) ((rn (fr - 1) + rh (fr - 1) + tM T q : Nat) : Int)) 104 j = if j = 1600 * p + c then ((ro (fr - 1) + tH T q : Nat) : Int) else A u 104 j := fun j => by rw [A_ne (by decide), e4]
  generalize wa v4 105 (1600 * p + c) ((rn (fr - 1) + rh (fr - 1) + tM T q : Nat) : Int) = v5 at *
  rw [I_F' (show F v5 133 = p by rw [FR.F f5 (by decide)]; exact i.2.2.1)]
  refine ok_ck.mpr ⟨inb_at (k := 106) (n := 24) rfl (by omega) (by omega) (by decide), ok_ck.mpr ⟨inb_at (k := 106) (n := 24) rfl (by omega) (by omega) (by decide), ok_lt.mpr ?_⟩⟩
  rw [I_tn (x := (p : Int)) (by omega) (by omega), Int.toNat_natCast, I_A' (show A v5 106 p = (c : Int) by rw [FR.A f5 (by decide)]; exact p106), I_add, wa_e (k := 106)]
  have f6 : FR [] [] [102, 103, 104, 105, 106] [] u (wa v5 106 p ((c : Int) + 1)) := FR.wa (FR.mo f5 (by decide) (by decide) (by decide) (by decide)) (by decide)
  have e6 : ∀ j, A (wa v5 106 p ((c : Int) + 1)) 106 j = if j = p then (c : Int) + 1 else A u 106 j := fun j => by rw [A_eq (by omega) (by omega), FR.A f5 (by decide)]
  have e62 : ∀ j, A (wa v5 106 p ((c : Int) + 1)) 102 j = if j = 1600 * p + c then ((fr - 1 : Nat) : Int) else A u 102 j := fun j => by rw [A_ne (by decide), e52]
  have e63 : ∀ j, A (wa v5 106 p ((c : Int) + 1)) 103 j = if j = 1600 * p + c then (q : Int) else A u 103 j := fun j => by rw [A_ne (by decide), e53]
  have e64 : ∀ j, A (wa v5 106 p ((c : Int) + 1)) 104 j = if j = 1600 * p + c then ((ro (fr - 1) + tH T q : Nat) : Int) else A u 104 j := fun j => by rw [A_ne (by decide), e54]
  have e65 : ∀ j, A (wa v5 106 p ((c : Int) + 1)) 105 j = if j = 1600 * p + c then ((rn (fr - 1) + rh (fr - 1) + tM T q : Nat) : Int) else A u 105 j := fun j => by rw [A_ne (by decide), e5]
  generalize wa v5 106 p ((c : Int) + 1) = v6 at *
  have i6 := MEI_fr i f6 (by decide) (by decide) (by decide) (by decide) (by decide) (by decide) (by decide) (by decide) (by decide) (by decide) (by decide) (by decide) (by decide) (by decide) (by decide) (by decide) (by decide) (by decide)
  have hfr := FRS_push e.2.1 f6 (by decide) x4 n3 q1 h23 e.2.2.2.1 (by rw [hcc]; exact e62) (by rw [hcc]; exact e63) (by rw [hcc]; exact e64) (by rw [hcc]; exact e65)
  have hfr2 : FRS v6 T ND p fr ro rn rh cb pc (fun x => if x = cb (fr - 1) + tK T q then q else ct x) (tK T (q + 1)) (tC T (q + 1)) := by rw [g4, g8]; exact hfr
  refine ok_some.mpr ⟨Or.inr (Or.inr (catch_next e g0 hm g1 g2 g3 g5 g9 f6 (by decide) (by rw [FR.A f6 (by decide)]; exact h98) (by rw [FR.A f6 (by decide)]; exact e.2.2.2.2.2.1) i6 hfr2 (by rw [e6, if_pos rfl, g4]; omega))), Or.inl (FR.mo f6 (by decide) (by decide) (by decide) (by decide)), ?_, fun z _ => FR.A f6 (by decide)⟩
  exact ⟨fun z hz => ⟨FR.A f6 (by decide), FR.A f6 (by decide), FR.A f6 (by decide), by rw [e6, if_neg hz]⟩, fun j _ => ⟨FR.A f6 (by decide), FR.A f6 (by decide), FR.A f6 (by decide), FR.A f6 (by decide)⟩, fun j hj => ⟨by rw [e62, if_neg (by omega)], by rw [e63, if_neg (by omega)], by rw [e64, if_neg (by omega)], by rw [e65, if_neg (by omega)]⟩, OTF_9 f6 (by decide)⟩
end
end
section
section
variable {Fv : Int64 → Int64 → Prop} {P : Int64 → Prop} {u v w w2 : MS} {PR N p n n2 opM bnM bxM bx2 ND fr k tp mu CN PN SN UN FN rq q m h mm : Nat} {ow kd ow2 kd2 ro rn rh cb pc ct pM pE : Nat → Nat} {T : TY} {C : CY}
theorem cls_tp {many hg hb m r c : Nat} (hg' : PRG w T C pM pE ND CN PN SN UN FN) (ht : CLS C w CN many hg hb m (rh (fr - 1)) k tp r ((c : Nat) : Int)) (hk : 0 < k) : ∃ a : Nat, A w 25 tp = a ∧ tR T a < r := by
  obtain ⟨-, -, -, -, -, -, -, ⟨b, b1, b2, b3, b4, b5, b6, b7, b8, b9⟩, -⟩ := cls_c (s := 0) hg' ht
  obtain ⟨-, -, -, -, -, -, n7, -⟩ := (hg'.2.2.1 b b2).1
  obtain ⟨-, -, -, -, -, -, a, s7, s8⟩ := n7 (by omega)
  rw [b8] at s7
  exact ⟨a, s7, by omega⟩
theorem tryFrom_ok {s many hg hb m r b c : Nat} (hp : PGM Fv P PR T C pM pE ND CN PN SN UN FN w) (h : FRS w T ND p fr ro rn rh cb pc ct k tp) (h106 : A w 106 p = ((cb (fr - 1) + k : Nat) : Int)) (h109 : A w 109 p = 0) (h152 : F w 152 = 0) (i : MEI Fv P PR w p n ow kd (ro (fr - 1) + hg) b bxM) (hb' : rn (fr - 1) + rh (fr - 1) + m ≤ b) (hs : s < 3 ∧ hg = hb + (if s = 0 then many else if s = 1 then 1 else 0) ∧ (s = 1 → many = 1) ∧ (s = 2 → many = 0) ∧ many ≤ 6 ∧ k ≤ 26 ∧ hg ≤ 760 ∧ m + rh (fr - 1) ≤ 40) (hc : CLS C w CN many hg hb m (rh (fr - 1)) k tp r ((c : Nat) : Int)) (hlow : 0 < k → tH T tp ≤ hb ∧ tM T tp ≤ m) (cl : CLG w (sR T pc (fr - 1) + r) 16002 mu) (hE : F w 149 = F w 150 ∧ F w 151 = 0) (hN : 60000 ≤ N) : OK (fun w2 _ => RES Fv P PR T C ND CN p mu w w2) (fm_M_tryFrom N w (I s) (I c) (I ((rn (fr - 1) + rh (fr - 1) + m : Nat) : Int))) := by
  obtain ⟨s1, s2, s3, s4, s5, s6, s7, s8⟩ := hs
  have hf := h.1
  have hrn := (h.2.2.1 (fr - 1) (by omega)).2.2.2.2.2.1
  have cn := hp.1.1.2.1
  have ctp := fun hk => cls_tp (fr := fr) (rh := rh) hp.1 hc hk
  have hr : r < 16000 ∧ cT C c ≤ 16000 ∧ c < CN := by
    obtain ⟨c', d1, d2, d3, d4, d5, d6, d7, d8, d9, d10⟩ := id hc
    obtain rfl : c' = c := by omega
    have := (hp.1.2.2.2.1 c' d2).2.1
    omega
  unfold fm_M_tryFrom fb_M_tryFrom_0
  refine ok_lt.mpr (ok_lt.mpr (ok_lt.mpr (ok_lt.mpr ?_)))
  have e1 : upI (upI (upI (upI w 153 (I s)) 155 (I c)) 154 (I c)) 156 (I ((rn (fr - 1) + rh (fr - 1) + m : Nat) : Int)) = wi (wi (wi (wi w 153 s) 155 c) 154 c) 156 ((rn (fr - 1) + rh (fr - 1) + m : Nat) : Int) := rfl
  rw [e1]
  have f : FR [153, 154, 155, 156] [] [] [] w (wi (wi (wi (wi w 153 s) 155 c) 154 c) 156 ((rn (fr - 1) + rh (fr - 1) + m : Nat) : Int)) := FR.wi (FR.wi (FR.wi (FR.wi FR.rf (by decide)) (by decide)) (by decide)) (by decide)
  have a6 : F (wi (wi (wi (wi w 153 s) 155 c) 154 c) 156 ((rn (fr - 1) + rh (fr - 1) + m : Nat) : Int)) 156 = ((rn (fr - 1) + rh (fr - 1) + m : Nat) : Int) := by rw [F_wi (by omega) (by omega), if_pos rfl]
  have a4 : F (wi (wi (wi (wi w 153 s) 155 c) 154 c) 156 ((rn (fr - 1) + rh (fr - 1) + m : Nat) : Int)) 154 = ((c : Nat) : Int) := by rw [F_wi (by omega) (by omega), if_neg (by decide), F_wi (by omega) (by omega), if_pos rfl]
  have a3 : F (wi (wi (wi (wi w 153 s) 155 c) 154 c) 156 ((rn (fr - 1) + rh (fr - 1) + m : Nat) : Int)) 153 = ((s : Nat) : Int) := by rw [F_wi (by omega) (by omega), if_neg (by decide), F_wi (by omega) (by omega), if_neg (by decide), F_wi (by omega) (by omega), if_neg (by decide), F_wi (by omega) (by omega), if_pos rfl]
  generalize wi (wi (wi (wi w 153 s) 155 c) 154 c) 156 ((rn (fr - 1) + rh (fr - 1) + m : Nat) : Int) = v at *
  have cls : CLS C v CN many hg hb m (rh (fr - 1)) k tp r ((c : Nat) : Int) := by
    obtain ⟨c', d1, d2, d3, d4⟩ := hc
    exact ⟨c', d1, d2, by rw [FR.A f (by decide)]; exact d3, d4⟩
  have tr : TRS v T C ND CN p (ro (fr - 1)) (rn (fr - 1)) (rh (fr - 1)) k tp s many hg hb m r bxM := ⟨⟨a3, by omega, s2, fun z => s3 (by omega), s4, s5, s6, s7, s8, hr.1⟩, a6, Or.inr (by rw [a4]; exact cls), fun z => absurd z (by omega), fun z => ⟨(hlow z).1, (hlow z).2, by rw [FR.A f (by decide)]; exact ctp z⟩, by rw [FR.F f (by decide), FR.F f (by decide), FR.F f (by decide)]; exact hE⟩
  clear ctp
  unfold fr_M_choose
  rw [show (20 : Nat) = 19 + 1 from rfl, rc_s]
  refine ok_bnd.mpr (ok_mono (choose_ok (N := N) (d := 16) (mu := mu) (ctt := 16002) (PGM_fr hp f (by decide) (by decide)) (FRS_fr h f (by decide) (by decide) (by decide) (by decide) (by decide) (by decide) (by decide) (by decide) (by decide) (by decide)) (by rw [FR.A f (by decide)]; exact h106) (by rw [FR.A f (by decide)]; exact h109) (by rw [FR.F f (by decide)]; exact h152) (MEI_ints i f (by decide)) hb' tr (by omega) (fun c' hc' => ?_) ?_ hN) (fun x _ hx => ok_some.mpr (RES.tr (FR.mo f (by decide) (by decide) (by decide) (by decide)) (OTF_fr f (by decide)) (fun z _ => FR.A f (by decide)) hx (Nat.le_refl _))))
  · have : c' = c := by omega
    subst this
    omega
  · obtain ⟨e2, e3, e4, e5⟩ := cl
    unfold CLG
    rw [FR.F f (by decide), FR.F f (by decide), if_neg (by omega)]
    exact ⟨e2, e3, e4, by omega⟩
theorem i21 {s many r c : Nat} (a : ATQ Fv P PR T ND p w fr ro rn rh cb pc ct q n ow kd bxM) (h109 : A w 109 p = 0) (hm : MODE w T C ND CN p (ro (fr - 1)) (rn (fr - 1)) (rh (fr - 1)) (sR T pc (fr - 1)) q bxM mu) (hp : PGM Fv P PR T C pM pE ND CN PN SN UN FN w) (hG : tG T q = 0) (h27 : A w 27 q = ((tM T q : Nat) : Int)) (h25 : A w 25 q = ((c : Nat) : Int)) (hs : (s = 1 ∧ many = 1 ∧ tB T q + 1 ≤ tH T q) ∨ (s = 2 ∧ many = 0)) (hr : r < tR T q) (hc : CLS C w CN many (tH T q) (tH T q - many) (tM T q) (tL T q) (tK T q) (tC T q) r ((c : Nat) : Int)) (hE : F w 149 = F w 150 ∧ F w 151 = 0) (hN : 60000 ≤ N) : OK (fun w2 _ => RES Fv P PR T C ND CN p mu w w2) (fb_M_one_92 N () w (I q) (I ((60 * p + (fr - 1) : Nat) : Int)) (I s)) := by
  obtain ⟨i, h, a3, a4, a5, a6⟩ := a
  have x4 := MEI_p i
  have hf := h.1
  have nd := hp.1.1.1
  have hro := h.2.2.1 (fr - 1) (by omega)
  obtain ⟨n1, n2, n3, n4, n5, n6, -⟩ := (hp.1.2.2.1 q a4).1
  have n7 : 0 < tK T q → tH T (tC T q) ≤ tB T q ∧ tM T (tC T q) ≤ tD T q := fun z => by
    obtain ⟨-, -, -, -, w5, w6, -⟩ := (hp.1.2.2.1 q a4).1.2.2.2.2.2.2.1 z
    exact ⟨w5, w6⟩
  obtain ⟨y2, y3⟩ : F w 152 = 0 ∧ CLG w (sR T pc (fr - 1) + tR T q) 0 mu := by
    rcases hm with ⟨-, y⟩ | ⟨-, c, s, many, hg', hb', mm', r, t1, t2, -⟩
    · exact y
    · omega
  unfold fb_M_one_92
  refine ok_ck.mpr ⟨inb_at (k := 25) (n := 16000) rfl (by omega) (by omega) (by decide), ok_ck.mpr ⟨inb_at (k := 99) (n := 1440) rfl (by omega) (by omega) (by decide), ok_ck.mpr ⟨inb_at (k := 101) (n := 1440) rfl (by omega) (by omega) (by decide), ok_ck.mpr ⟨inb_at (k := 27) (n := 16000) rfl (by omega) (by omega) (by decide), ?_⟩⟩⟩⟩
  rw [I_tn (x := (q : Int)) (by omega) (by omega), Int.toNat_natCast, I_tn (x := ((60 * p + (fr - 1) : Nat) : Int)) (by omega) (by omega), Int.toNat_natCast, I_A' h25, I_A' hro.2.1, I_A' hro.2.2.1, I_A' h27, I_add, I_add, show ((rn (fr - 1) : Nat) : Int) + ((rh (fr - 1) : Nat) : Int) + ((tM T q : Nat) : Int) = ((rn (fr - 1) + rh (fr - 1) + tM T q : Nat) : Int) from by omega]
  refine ok_bnd.mpr (ok_mono (tryFrom_ok (N := N) (mu := mu) (s := s) (many := many) (hg := tH T q) (hb := tH T q - many) (m := tM T q) (r := r) hp h a6 h109 y2 i (Nat.le_refl _) ?_ (by rw [a5]; exact hc) (fun z => ?_) ?_ hE hN) (fun x _ hx => ok_some.mpr hx))
  · refine ⟨by omega, ?_, by omega, by omega, by omega, n3, n1, by omega⟩
    rcases hs with ⟨z1, z2, z3⟩ | ⟨z1, z2⟩
    · rw [if_neg (by omega), if_pos z1]; omega
    · rw [if_neg (by omega), if_neg (by omega)]; omega
  · obtain ⟨w5, w6⟩ := n7 z
    exact ⟨by omega, by omega⟩
  · obtain ⟨e2, e3, e4, e5⟩ := y3
    exact ⟨e2, e3, e4, by omega⟩
end
end
section
section
variable {Fv : Int64 → Int64 → Prop} {P : Int64 → Prop} {u v w w2 : MS} {PR N p n n2 opM bnM bxM bx2 ND fr k tp mu CN PN SN UN FN rq q m h mm : Nat} {ow kd ow2 kd2 ro rn rh cb pc ct pM pE : Nat → Nat} {T : TY} {C : CY}
theorem FRS_ret {is ls as js : List Nat} (h : FRS w T ND p fr ro rn rh cb pc ct 0 tp) (hf2 : 2 ≤ fr) (f : FR is ls as js w w2) (ha : ∀ k, k ∈ [23, 98, 99, 100, 101, 102, 103, 104, 105] → k ∉ as) (h95 : A w2 95 p = ((fr - 1 : Nat) : Int)) : FRS w2 T ND p (fr - 1) ro rn rh cb pc ct (tK T (pc (fr - 2))) (tC T (pc (fr - 2))) := by
  obtain ⟨⟨q1, q2, q3⟩, z, h5, h6, h7⟩ := h
  have fr2 : ∀ i c0 kk tt a1 a2 a3, CTI w T ND p ct i c0 kk tt a1 a2 a3 → CTI w2 T ND p ct i c0 kk tt a1 a2 a3 := fun i c0 kk tt a1 a2 a3 hc => CTI_fr hc f (ha _ (by decide)) (ha _ (by decide)) (ha _ (by decide)) (ha _ (by decide)) (ha _ (by decide))
  refine ⟨⟨by omega, by omega, h95⟩, z, fun i hi => by rw [FR.A f (ha _ (by decide)), FR.A f (ha _ (by decide)), FR.A f (ha _ (by decide))]; exact h5 i (by omega), fun i hi => ?_, ?_⟩
  · obtain ⟨r1, r2, r3, r4, r5, r6, r7, r8, r9⟩ := h6 i (by omega)
    exact ⟨by rw [FR.A f (ha _ (by decide))]; exact r1, r2, r3, r4, r5, r6, r7, r8, fr2 _ _ _ _ _ _ _ r9⟩
  · obtain ⟨r1, r2, r3, r4, r5, r6, r7, r8, r9⟩ := h6 (fr - 2) (by omega)
    rw [show fr - 1 - 1 = fr - 2 from by omega]
    exact fr2 _ _ _ _ _ _ _ r9
theorem returns_ok (a : ATQ Fv P PR T ND p w fr ro rn rh cb pc ct q n ow kd bxM) (h109 : A w 109 p = 0) (hm : MODE w T C ND CN p (ro (fr - 1)) (rn (fr - 1)) (rh (fr - 1)) (sR T pc (fr - 1)) q bxM mu) (hp : PGM Fv P PR T C pM pE ND CN PN SN UN FN w) (hG : tG T q = 0) (hH : 1 ≤ tH T q) (hK : tK T q = 0) (hR : 1 ≤ tR T q) : OK (fun w2 _ => RES Fv P PR T C ND CN p mu w w2) (fm_M_returns N w) := by
  obtain ⟨i, h, a3, a4, a5, a6⟩ := a
  have x4 := MEI_p i
  have hf := h.1
  have hro := h.2.2.1 (fr - 1) (by omega)
  obtain ⟨n1, n2, -⟩ := (hp.1.2.2.1 q a4).1
  obtain ⟨y2, y3⟩ : F w 152 = 0 ∧ CLG w (sR T pc (fr - 1) + tR T q) 0 mu := by
    rcases hm with ⟨-, y⟩ | ⟨-, c, s, many, hg', hb', mm', r, t1, t2, -⟩
    · exact y
    · omega
  clear hm
  have i' := i
  rw [show ro (fr - 1) + tH T q = ro (fr - 1) + (tH T q - 1) + 1 from by omega] at i'
  unfold fm_M_returns fb_M_returns_0 fb_M_returns_83
  refine ok_bnd.mpr (ok_mono (take_ok (N := N) i') (fun v1 r hv => ?_))
  obtain ⟨z1, -, gr, i1⟩ := hv
  have f1 : FR [] [] [92] [] w v1 := by rw [z1]; exact FR.wa FR.rf (by decide)
  have e1 : ∀ j, j ≠ p → A v1 92 j = A w 92 j := fun j hj => by rw [z1, A_eq (by omega) (by omega), if_neg hj]
  clear z1
  rw [frame0_f (fr := fr) i1 (by rw [FR.A f1 (by decide)]; exact hf.2.2) ⟨hf.1, hf.2.1⟩, bnd_so, I_F' i1.2.2.1]
  refine ok_ck.mpr ⟨inb_at (k := 100) (n := 1440) rfl (by omega) (by omega) (by decide), ok_ck.mpr ⟨inb_at (k := 92) (n := 24) rfl (by omega) (by omega) (by decide), ok_lt.mpr ?_⟩⟩
  rw [I_tn (x := ((60 * p + (fr - 1) : Nat) : Int)) (by omega) (by omega), Int.toNat_natCast, I_tn (x := (p : Int)) (by omega) (by omega), Int.toNat_natCast, I_A' (show A v1 100 (60 * p + (fr - 1)) = ((ro (fr - 1) : Nat) : Int) by rw [FR.A f1 (by decide)]; exact hro.1), wa_e (k := 92)]
  have f2 : FR [] [] [92] [] w (wa v1 92 p ((ro (fr - 1) : Nat) : Int)) := FR.wa f1 (by decide)
  have e2 : ∀ j, j ≠ p → A (wa v1 92 p ((ro (fr - 1) : Nat) : Int)) 92 j = A w 92 j := fun j hj => by rw [A_eq (by omega) (by omega), if_neg hj, e1 j hj]
  have i2 := ops_less i1 (k := ro (fr - 1)) (by omega)
  generalize wa v1 92 p ((ro (fr - 1) : Nat) : Int) = v2 at *
  rw [I_F' i2.2.2.1]
  refine ok_ck.mpr ⟨inb_at (k := 99) (n := 1440) rfl (by omega) (by omega) (by decide), ok_ck.mpr ⟨inb_at (k := 94) (n := 24) rfl (by omega) (by omega) (by decide), ok_lt.mpr ?_⟩⟩
  rw [I_tn (x := (p : Int)) (by omega) (by omega), Int.toNat_natCast, I_A' (show A v2 99 (60 * p + (fr - 1)) = ((rn (fr - 1) : Nat) : Int) by rw [FR.A f2 (by decide)]; exact hro.2.1), wa_e (k := 94)]
  have f3 : FR [] [] [92, 94] [] w (wa v2 94 p ((rn (fr - 1) : Nat) : Int)) := FR.wa (FR.mo f2 (by decide) (by decide) (by decide) (by decide)) (by decide)
  have e3 : ∀ j, j ≠ p → A (wa v2 94 p ((rn (fr - 1) : Nat) : Int)) 94 j = A w 94 j := fun j hj => by rw [A_eq (by omega) (by omega), if_neg hj, FR.A f2 (by decide)]
  have e32 : ∀ j, j ≠ p → A (wa v2 94 p ((rn (fr - 1) : Nat) : Int)) 92 j = A w 92 j := fun j hj => by rw [A_ne (by decide), e2 j hj]
  have i3 := names_less i2 (k := rn (fr - 1)) (by omega)
  generalize wa v2 94 p ((rn (fr - 1) : Nat) : Int) = v3 at *
  rw [I_F' i3.2.2.1]
  refine ok_ck.mpr ⟨inb_at (k := 95) (n := 24) rfl (by omega) (by omega) (by decide), ok_ck.mpr ⟨inb_at (k := 95) (n := 24) rfl (by omega) (by omega) (by decide), ok_lt.mpr ?_⟩⟩
  rw [I_tn (x := (p : Int)) (by omega) (by omega), Int.toNat_natCast, I_A' (show A v3 95 p = ((fr : Nat) : Int) by rw [FR.A f3 (by decide)]; exact hf.2.2), lit1q, I_sub, show ((fr : Nat) : Int) - 1 = ((fr - 1 : Nat) : Int) from by omega, wa_e (k := 95)]
  have f4 : FR [] [] [92, 94, 95] [] w (wa v3 95 p ((fr - 1 : Nat) : Int)) := FR.wa (FR.mo f3 (by decide) (by decide) (by decide) (by decide)) (by decide)
  have f34 : FR [] [] [95] [] v3 (wa v3 95 p ((fr - 1 : Nat) : Int)) := FR.wa FR.rf (by decide)
  have e4 : ∀ j, A (wa v3 95 p ((fr - 1 : Nat) : Int)) 95 j = if j = p then ((fr - 1 : Nat) : Int) else A w 95 j := fun j => by rw [A_eq (by omega) (by omega), FR.A f3 (by decide)]
  have e42 : ∀ j, j ≠ p → A (wa v3 95 p ((fr - 1 : Nat) : Int)) 92 j = A w 92 j := fun j hj => by rw [A_ne (by decide), e32 j hj]
  have e43 : ∀ j, j ≠ p → A (wa v3 95 p ((fr - 1 : Nat) : Int)) 94 j = A w 94 j := fun j hj => by rw [A_ne (by decide), e3 j hj]
  have i4 := MEI_fr i3 f34 (by decide) (by decide) (by decide) (by decide) (by decide) (by decide) (by decide) (by decide) (by decide) (by decide) (by decide) (by decide) (by decide) (by decide) (by decide) (by decide) (by decide) (by decide)
  generalize wa v3 95 p ((fr - 1 : Nat) : Int) = v4 at *
  have o4 : OTF p w v4 := ⟨fun z hz => ⟨e42 z hz, e43 z hz, by rw [e4, if_neg hz], FR.A f4 (by decide)⟩, fun j _ => ⟨FR.A f4 (by decide), FR.A f4 (by decide), FR.A f4 (by decide), FR.A f4 (by decide)⟩, fun j _ => ⟨FR.A f4 (by decide), FR.A f4 (by decide), FR.A f4 (by decide), FR.A f4 (by decide)⟩, OTF_9 f4 (by decide)⟩
  rw [I_F' i4.2.2.1]
  refine ok_ck.mpr ⟨inb_at (k := 95) (n := 24) rfl (by omega) (by omega) (by decide), ?_⟩
  rw [I_tn (x := (p : Int)) (by omega) (by omega), Int.toNat_natCast, I_A' (show A v4 95 p = ((fr - 1 : Nat) : Int) by rw [e4, if_pos rfl]), lit0q, decE (by omega) (by omega) (by omega) (by omega)]
  refine ok_br.mpr ⟨fun _ => ?_, fun z => ?_⟩
  · rw [show (4 : Int32) = I 4 from rfl, term_e, bnd_so]
    exact ok_bnd.mpr (ok_mono (ends_ok (N := N) (wr := 0) i4 (GT_atom (a := 4) hp.2.1 (by omega)) (by omega)) (fun v _ hv => ok_some.mpr ⟨Or.inl hv.1, Or.inr ⟨FR.tr (FR.mo f4 (by decide) (by decide) (by decide) (by decide)) (FR.mo hv.2.1 (by decide) (by decide) (by decide) (by decide)), hv.1.2⟩, OTF.tr o4 (OTF_fr hv.2.1 (by decide)), fun z hz => by rw [hv.2.2 z hz, FR.A f4 (by decide)]⟩))
  · have z' := of_decide_eq_false z
    refine ok_bnd.mpr (ok_mono (put_ok (N := N) i4 gr (by omega)) (fun v _ hv => ok_some.mpr ?_))
    obtain ⟨v0, iv⟩ := hv
    have fv : FR [] [] [92] [91] v4 v := by rw [v0]; exact FR.wa (FR.wj FR.rf (by decide)) (by decide)
    have ev : ∀ j, j ≠ p → A v 92 j = A v4 92 j := fun j hj => by rw [v0, A_eq (by omega) (by omega), if_neg hj]; rfl
    clear v0
    have fw : FR [] [] [92, 94, 95] [91] w v := FR.tr (FR.mo f4 (by decide) (by decide) (by decide) (by decide)) (FR.mo fv (by decide) (by decide) (by decide) (by decide))
    obtain ⟨r1, r2, r3, r4, r5, r6, r7, r8, -⟩ := h.2.2.2.1 (fr - 2) (by omega)
    rw [show fr - 2 + 1 = fr - 1 from by omega] at r5 r7 r8
    rw [hK] at h a6
    have hfr := FRS_ret h (by omega) fw (by decide) (by rw [FR.A fv (by decide), e4, if_pos rfl])
    have sr : sR T pc (fr - 1) = sR T pc (fr - 2) + tR T (pc (fr - 2)) := by
      obtain ⟨f2, hf2⟩ : ∃ f2, fr = f2 + 2 := ⟨fr - 2, by omega⟩
      subst hf2
      rfl
    refine ⟨Or.inr (Or.inr ⟨mu - 1, ?_, fr - 1, ro, rn, rh, cb, pc, ct, pc (fr - 2), n, ow, kd, bxM, ⟨?_, hfr, ?_, r2, ?_, ?_⟩, by rw [FR.A fw (by decide)]; exact h109, Or.inl ⟨r3, by rw [FR.F fw (by decide)]; exact y2, ?_⟩⟩), Or.inl (FR.mo fw (by decide) (by decide) (by decide) (by decide)), OTF.tr o4 ⟨fun z hz => ⟨ev z hz, FR.A fv (by decide), FR.A fv (by decide), FR.A fv (by decide)⟩, fun j _ => ⟨FR.A fv (by decide), FR.A fv (by decide), FR.A fv (by decide), FR.A fv (by decide)⟩, fun j _ => ⟨FR.A fv (by decide), FR.A fv (by decide), FR.A fv (by decide), FR.A fv (by decide)⟩, OTF_9 fv (by decide)⟩, fun z _ => FR.A fw (by decide)⟩
    · obtain ⟨c1, c2, c3, c4⟩ := y3; omega
    · rw [show fr - 1 - 1 = fr - 2 from by omega, ← r5, ← r7]; exact iv
    · rw [show fr - 1 - 1 = fr - 2 from by omega, FR.A fw (by decide)]; exact r1
    · rw [show fr - 1 - 1 = fr - 2 from by omega]; exact r6
    · rw [show fr - 1 - 1 = fr - 2 from by omega, FR.A fw (by decide), ← r8]; exact a6
    · obtain ⟨c1, c2, c3, c4⟩ := y3
      unfold CLG
      rw [FR.F fw (by decide), FR.F fw (by decide), show fr - 1 - 1 = fr - 2 from by omega]
      exact ⟨c1, c2, c3, by omega⟩
end
end
