def CTI (w : MS) (T : TY) (ND p : Nat) (ct : Nat → Nat) (i c0 k tp ro rn rh : Nat) : Prop :=
  ∀ j, j < k → A w 102 (1600 * p + (c0 + j)) = ((i : Nat) : Int) ∧ A w 103 (1600 * p + (c0 + j)) = ((ct (c0 + j) : Nat) : Int) ∧ ct (c0 + j) < ND ∧ A w 23 (ct (c0 + j)) = 19 ∧ tK T (ct (c0 + j)) = j ∧ tL T (ct (c0 + j)) = rh ∧ A w 104 (1600 * p + (c0 + j)) = ((ro + tH T (ct (c0 + j)) : Nat) : Int) ∧ A w 105 (1600 * p + (c0 + j)) = ((rn + rh + tM T (ct (c0 + j)) : Nat) : Int) ∧ (j + 1 = k → ct (c0 + j) = tp) ∧ ∀ m, m + 1 = j → ct (c0 + m) = tC T (ct (c0 + j))
def FRS (w : MS) (T : TY) (ND p fr : Nat) (ro rn rh cb pc ct : Nat → Nat) (k tp : Nat) : Prop :=
  (1 ≤ fr ∧ fr ≤ 60 ∧ A w 95 p = ((fr : Nat) : Int)) ∧ (ro 0 = 0 ∧ rn 0 = 0 ∧ cb 0 = 0) ∧
  (∀ i, i < fr → A w 100 (60 * p + i) = ((ro i : Nat) : Int) ∧ A w 99 (60 * p + i) = ((rn i : Nat) : Int) ∧ A w 101 (60 * p + i) = ((rh i : Nat) : Int) ∧ rh i ≤ 40 ∧ ro i ≤ 760 * i ∧ rn i ≤ 40 * i ∧ cb i ≤ 26 * i) ∧
  (∀ i, i + 1 < fr → A w 98 (60 * p + i) = ((pc i : Nat) : Int) ∧ pc i < ND ∧ tG T (pc i) = 0 ∧ tB T (pc i) + 1 ≤ tH T (pc i) ∧ ro (i + 1) + 1 = ro i + tH T (pc i) ∧ rh i = tL T (pc i) ∧ rn (i + 1) = rn i + rh i + tM T (pc i) ∧ cb (i + 1) = cb i + tK T (pc i) ∧ CTI w T ND p ct i (cb i) (tK T (pc i)) (tC T (pc i)) (ro i) (rn i) (rh i)) ∧
  CTI w T ND p ct (fr - 1) (cb (fr - 1)) k tp (ro (fr - 1)) (rn (fr - 1)) (rh (fr - 1))
def sR (T : TY) (pc : Nat → Nat) : Nat → Nat
  | 0 => 0
  | m + 1 => sR T pc m + tR T (pc m)
section
variable {Fv : Int64 → Int64 → Prop} {P : Int64 → Prop} {w w2 : MS} {PR N p n opM bnM bxM ND fr k tp mu CN PN SN UN FN : Nat} {ow kd ro rn rh cb pc ct pM pE : Nat → Nat} {T : TY} {C : CY}
theorem CTI_fr {is ls as js : List Nat} {i c0 roi rni rhi : Nat} (c : CTI w T ND p ct i c0 k tp roi rni rhi) (f : FR is ls as js w w2) (a1 : 23 ∉ as) (a2 : 102 ∉ as) (a3 : 103 ∉ as) (a4 : 104 ∉ as) (a5 : 105 ∉ as) : CTI w2 T ND p ct i c0 k tp roi rni rhi := fun j hj => by
  rw [FR.A f a1, FR.A f a2, FR.A f a3, FR.A f a4, FR.A f a5]; exact c j hj
theorem FRS_fr {is ls as js : List Nat} (h : FRS w T ND p fr ro rn rh cb pc ct k tp) (f : FR is ls as js w w2) (a1 : 23 ∉ as) (a2 : 102 ∉ as) (a3 : 103 ∉ as) (a4 : 104 ∉ as) (a5 : 105 ∉ as) (a6 : 95 ∉ as) (a7 : 98 ∉ as) (a8 : 99 ∉ as) (a9 : 100 ∉ as) (a10 : 101 ∉ as) : FRS w2 T ND p fr ro rn rh cb pc ct k tp := by
  obtain ⟨⟨h1, h2, h3⟩, h4, h5, h6, h7⟩ := h
  refine ⟨⟨h1, h2, by rw [FR.A f a6]; exact h3⟩, h4, fun i hi => by rw [FR.A f a9, FR.A f a8, FR.A f a10]; exact h5 i hi, fun i hi => ?_, CTI_fr h7 f a1 a2 a3 a4 a5⟩
  obtain ⟨q1, q2, q3, q4, q6, q7, q8, q9, q10⟩ := h6 i hi
  exact ⟨by rw [FR.A f a7]; exact q1, q2, q3, q4, q6, q7, q8, q9, CTI_fr q10 f a1 a2 a3 a4 a5⟩
theorem ro_mono (h : FRS w T ND p fr ro rn rh cb pc ct k tp) : ∀ e i, i + e < fr → ro i ≤ ro (i + e) ∧ rn i ≤ rn (i + e) ∧ cb i ≤ cb (i + e) := by
  intro e
  induction e with
  | zero => intro i _; exact ⟨Nat.le_refl _, Nat.le_refl _, Nat.le_refl _⟩
  | succ e ih =>
    intro i hi
    obtain ⟨a, b', c⟩ := ih i (by omega)
    obtain ⟨-, -, -, q4, q6, -, q8, q9, -⟩ := h.2.2.2.1 (i + e) (by omega)
    rw [show i + (e + 1) = i + e + 1 from by omega]
    omega
theorem sR_mono {m e : Nat} : sR T pc m ≤ sR T pc (m + e) := by
  induction e with
  | zero => exact Nat.le_refl _
  | succ e ih => exact Nat.le_trans ih (Nat.le_add_right _ _)
theorem CT_top (hg : PRG w T C pM pE ND CN PN SN UN FN) (h : FRS w T ND p fr ro rn rh cb pc ct k tp) {rq : Nat} (h1 : 0 < k → ro (fr - 1) + tH T tp ≤ opM ∧ rn (fr - 1) + rh (fr - 1) + tM T tp ≤ bnM ∧ ∃ a : Nat, A w 25 tp = a ∧ tR T a < rq) (h2 : ro (fr - 1) ≤ opM ∧ rn (fr - 1) ≤ bnM) (hk : 0 < cb (fr - 1) + k) : ∃ i kk tt, i < fr ∧ 0 < kk ∧ cb i + kk = cb (fr - 1) + k ∧ CTI w T ND p ct i (cb i) kk tt (ro i) (rn i) (rh i) ∧ ro i + tH T tt ≤ opM ∧ rn i + rh i + tM T tt ≤ bnM ∧ ∀ a : Nat, A w 25 tt = a → sR T pc i + tR T a < sR T pc (fr - 1) + rq := by
  obtain ⟨⟨q1, q2, q3⟩, ⟨z1, z2, z3⟩, h5, h6, h7⟩ := id h
  by_cases k0 : 0 < k
  · obtain ⟨a1, a2, a, a3, a4⟩ := h1 k0
    exact ⟨fr - 1, k, tp, by omega, k0, rfl, h7, a1, a2, fun a' ha' => by obtain rfl : a' = a := (by omega); omega⟩
  have ek : k = 0 := by omega
  subst ek
  have key : ∀ m, m < fr → 0 < cb m → ∃ i kk tt, i < m ∧ 0 < kk ∧ cb i + kk = cb m ∧ CTI w T ND p ct i (cb i) kk tt (ro i) (rn i) (rh i) ∧ ro i + tH T tt ≤ ro m ∧ rn i + rh i + tM T tt ≤ rn m ∧ ∀ a : Nat, A w 25 tt = a → sR T pc i + tR T a < sR T pc m := by
    intro m
    induction m with
    | zero => intro _ z; omega
    | succ m ih =>
      intro hm hc
      obtain ⟨-, r2, -, r4, r6, -, r8, r9, r10⟩ := h6 m hm
      by_cases e : 0 < tK T (pc m)
      · obtain ⟨-, -, -, -, n5, -, n7, -⟩ := (hg.2.2.1 (pc m) r2).1
        obtain ⟨-, -, -, -, s5, s6, a, s7, s8⟩ := n7 e
        exact ⟨m, _, _, by omega, e, r9.symm, r10, by omega, by omega, fun a' ha' => by obtain rfl : a' = a := (by omega); show _ < sR T pc m + tR T (pc m); omega⟩
      · obtain ⟨i, kk, tt, s1, s2, s3, s4, s5, s6, s7⟩ := ih (by omega) (by omega)
        exact ⟨i, kk, tt, by omega, s2, by omega, s4, by omega, by omega, fun a ha => by have := s7 a ha; show _ < sR T pc m + tR T (pc m); omega⟩
  obtain ⟨i, kk, tt, s1, s2, s3, s4, s5, s6, s7⟩ := key (fr - 1) (by omega) (by omega)
  exact ⟨i, kk, tt, by omega, s2, by omega, s4, by omega, by omega, fun a ha => by have := s7 a ha; omega⟩
def CLK (w : MS) (r : Nat) (mu : Nat) : Prop := 0 ≤ F w 165 ∧ F w 165 ≤ F w 164 ∧ F w 164 ≤ 500 ∧ (F w 164 - F w 165) * 1000000000000 + 500000 * (r : Int) ≤ mu
def ATN (Fv : Int64 → Int64 → Prop) (P : Int64 → Prop) (PR : Nat) (T : TY) (ND p mu : Nat) (w : MS) : Prop := ∃ fr ro rn rh cb pc ct q n ow kd bxM, MEI Fv P PR w p n ow kd (ro (fr - 1) + tH T q) (rn (fr - 1) + rh (fr - 1) + tM T q) bxM ∧ FRS w T ND p fr ro rn rh cb pc ct (tK T q) (tC T q) ∧ A w 98 (60 * p + (fr - 1)) = ((q : Nat) : Int) ∧ q < ND ∧ rh (fr - 1) = tL T q ∧ A w 106 p = ((cb (fr - 1) + tK T q : Nat) : Int) ∧ tG T q = 0 ∧ A w 109 p = 0 ∧ F w 152 = 0 ∧ CLK w (sR T pc (fr - 1) + tR T q) mu
def ENDD (Fv : Int64 → Int64 → Prop) (P : Int64 → Prop) (PR p : Nat) (w : MS) : Prop := DW Fv P PR w ∧ A w 109 p = 3
def STF (u w : MS) : Prop := FR [119, 136, 138, 140, 150, 151, 152, 153, 154, 155, 156, 157, 158, 159, 165, 166, 169] [139] [89, 90, 92, 94, 95, 96, 97, 98, 99, 100, 101, 102, 103, 104, 105, 106, 108, 109, 110, 114, 115, 135, 142, 145, 146, 147, 160, 162, 168] [88, 91, 93, 107, 111, 134, 137, 141, 148, 161, 163, 167] u w
def STF0 (u w : MS) : Prop := FR [119, 136, 138, 140, 152, 153, 154, 155, 156, 157, 158, 159, 165, 166, 169] [139] [89, 90, 92, 94, 95, 96, 97, 98, 99, 100, 101, 102, 103, 104, 105, 106, 108, 109, 110, 114, 115, 135, 142, 145, 146, 147, 160, 162, 168] [88, 91, 93, 107, 111, 134, 137, 141, 148, 161, 163, 167] u w
def STG (p : Nat) (u w : MS) : Prop := STF0 u w ∨ (STF u w ∧ A w 109 p = 3)
theorem STF0.st {u w : MS} (a : STF0 u w) : STF u w := FR.mo a (by decide) (by decide) (by decide) (by decide)
theorem STG.tr {p : Nat} {u v w : MS} (a : STF0 u v) (b : STG p v w) : STG p u w := by
  rcases b with b | ⟨b, c⟩
  · exact Or.inl (FR.tr a b)
  · exact Or.inr ⟨FR.tr a.st b, c⟩
theorem STG.st {p : Nat} {u w : MS} (a : STG p u w) : STF u w := by
  rcases a with a | a
  · exact a.st
  · exact a.1
theorem ends_ok {t : Int64} {wr : Int} (i : MEI Fv P PR w p n ow kd opM bnM bxM) (g : GT n ow kd P t) (hw : 0 ≤ wr ∧ wr ≤ 2) : OK (fun w2 _ => ENDD Fv P PR p w2 ∧ FR [150, 151] [] [109, 145, 146, 147] [148] w w2 ∧ ∀ z, z ≠ p → A w2 109 z = A w 109 z) (fm_M_ends N w (I wr) t) := by
  have x4 := MEI_p i
  obtain ⟨m1, m2, m3, m4, m5, ⟨x1, x2, x3, -⟩⟩ := id i
  unfold fm_M_ends fb_M_ends_0
  rw [I_F' m3]
  have ht : (¬ isH t ∧ P t) ∨ (isH t ∧ (p = 24 ∨ (p < PR ∧ (A w 109 p = 3 ∨ p = p))) ∧ GTP Fv P w p t) := by
    by_cases hh : isH t
    · exact Or.inr ⟨hh, Or.inr ⟨m2, Or.inr rfl⟩, n, ow, kd, m5, x3, x2, g⟩
    · rcases g with z | ⟨z, -⟩
      · exact Or.inl z
      · exact absurd z hh
  refine ok_bnd.mpr (ok_mono (willEnd_ok (N := N) m1 m2 hw (show p ≤ 24 by omega) ht) (fun v _ h => ?_))
  obtain ⟨h1, h2, h3, h4⟩ := h
  rw [lt_e, lit1q, wi_e]
  have f0 : FR [151] [] [] [] v (wi v 151 1) := FR.wi FR.rf (by decide)
  refine ok_some.mpr ⟨⟨DW_fr h1 f0 (by decide) (by decide) (by decide) (by decide) (by decide) (by decide) (by decide) (by decide) (by decide) (by decide) (by decide) (by decide) (by decide) (by decide) (by decide) (by decide) (by decide), h3⟩, FR.wi (FR.mo h2 (by decide) (by decide) (by decide) (by decide)) (by decide), h4⟩
theorem noRoom_ok (i : MEI Fv P PR w p n ow kd opM bnM bxM) (hPB : PB P PR) : OK (fun w2 _ => ENDD Fv P PR p w2 ∧ FR [150, 151] [] [109, 145, 146, 147] [148] w w2 ∧ ∀ z, z ≠ p → A w2 109 z = A w 109 z) (fm_M_noRoom N w) := by
  unfold fm_M_noRoom fb_M_noRoom_0
  rw [lit1q, show (20 : Int32) = I 20 from rfl, term_e, bnd_so, lit0q]
  exact ok_bnd.mpr (ok_mono (ends_ok i (Or.inl ⟨nh_mk (by omega), hPB.1 20 (by omega) (by omega)⟩) (by omega)) (fun v _ h => ok_some.mpr h))
end
