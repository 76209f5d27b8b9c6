section
def TYM (SN σ : Nat) (g lv xb : Int) (v : MS) (M : Nat → Nat) (m q q2 : Nat) (R : Nat → Prop) : Prop := ∃ mm X Y : Nat, SEQ v SN (gq g) M (mks v) q q2 m (nmo σ v) m mm X Y (hlo σ v) R ∧ mm ≤ 40 ∧ (mm : Int) ≤ A v 64 σ ∧ 2 * (X : Int) ≤ xb ∧ (Y : Int) + lv ≤ 25
def PCE (SN σ : Nat) (g lv xb : Int) (v : MS) (M0 M : Nat → Nat) (m0 m : Nat) : Prop := ∃ mm X Y : Nat, SEQ v SN (gq g) M0 M 0 1 m0 m m0 mm X Y (hlo σ v) (fun _ => False) ∧ mm ≤ 40 ∧ (mm : Int) ≤ A v 64 σ ∧ 2 * (X : Int) ≤ xb ∧ (Y : Int) + lv ≤ 25
def TRN (σ : Nat) (wt : Int) (J : Nat) (v w : MS) (M : Nat → Nat) : Prop := F w 14 = F v 14 ∧ ((∀ r i, r ∈ [23, 24, 25, 26, 27, 28, 29, 30, 31] → i < M 0 → A w r i = A v r i) ∧ (∀ r i, r ∈ [40, 41, 42, 43, 45] → i < M 1 → A w r i = A v r i) ∧ (∀ r i, r ∈ [33, 35, 36, 37, 38] → i < M 2 → A w r i = A v r i) ∧ (∀ r i, r ∈ [53, 54, 55] → i < M 3 → A w r i = A v r i) ∧ ∀ i, i < M 4 → A w 57 i = A v 57 i) ∧ (hlo σ v ≤ hlo σ w ∧ A v 64 σ ≤ A w 64 σ) ∧ ∀ r i, r ∈ [79, 80, 81, 82] → (i : Nat) < wt + J → A w r i = A v r i
def STK (SN σ : Nat) (g lv wt p : Int) (u v : MS) : Nat → (Nat → Nat) → Nat → Int → Prop
  | 0, M, m, ps => M = mks u ∧ m = nmo σ u ∧ ps = p
  | J + 1, M, m, ps => ∃ (M0 : Nat → Nat) (m0 : Nat) (ps0 : Int), STK SN σ g lv wt p u v J M0 m0 ps0 ∧ (∀ i, M0 i ≤ M i) ∧ ((A v 79 (wt + J).toNat = 7 ∧ M = M0 ∧ m = m0 ∧ ps0 + 1 ≤ ps) ∨ (3 ≤ A v 79 (wt + J).toNat ∧ A v 79 (wt + J).toNat ≤ 6 ∧ ps0 + 2 ≤ ps ∧ PCE SN σ g lv (ps - ps0) v M0 M m0 m) ∨ ((A v 79 (wt + J).toNat = 1 ∨ A v 79 (wt + J).toNat = 2) ∧ ps0 + 2 ≤ ps ∧ A v 82 (wt + J).toNat = ((m : Nat) : Int) ∧ ∃ M1 : Nat → Nat, PCE SN σ g lv (ps - ps0) v M0 M1 m0 m ∧ ONE M1 M (M1 0) ∧ A v 81 (wt + J).toNat = ((M1 0 : Nat) : Int) ∧ (KND v (M1 0) 9 ∨ KND v (M1 0) 10)))
section
variable {α : Type} {Q : MS → α → Prop} {u0 u v v1 w x : MS} {N σ TN SN e q0 q1 q2 q3 : Nat} {bw : Nat → Nat} {p o n q c f h s wt g lv xb xb1 xb2 k t D d y z l : Int} {r y1 y2 y3 : Int32} {R R1 R2 : Nat → Prop} {M M0 M1 : Nat → Nat} {m m0 J : Nat}
theorem TYM_of (a : TYG TN SN σ g lv xb u v q0 q1 R) (h1 : F v 72 = 0) (h2 : F v 66 = 0) (h3 : TN ≤ 1500) : TYM SN σ g lv xb v (mks u) (nmo σ u) q0 q1 R := a h1 h2 h3
theorem TYM_mo {lv2 : Int} (a : TYM SN σ g lv xb1 v M m q0 q1 R) (h1 : xb1 ≤ xb) (h2 : lv2 ≤ lv) : TYM SN σ g lv2 xb v M m q0 q1 R := by
  obtain ⟨m1, X1, Y1, s1, a1, a2, a3, a4⟩ := a
  exact ⟨m1, X1, Y1, s1, a1, a2, by omega, by omega⟩
theorem TYM_ro (a : TYM SN σ g lv xb v M m q0 q1 R1) (h6 : ∀ n, R2 n → R1 n) (h7 : ∀ n, R1 n → R2 n ∨ A v 29 n = -1) : TYM SN σ g lv xb v M m q0 q1 R2 := by
  obtain ⟨m1, X1, Y1, s1, a1⟩ := a
  exact ⟨m1, X1, Y1, SEQ_ro s1 h6 h7, a1⟩
theorem TYM_app (a : TYM SN σ g lv xb1 v M m q0 q1 R1) (k : KPR σ v w) (b : TYM SN σ g lv xb2 w (mks v) (nmo σ v) q2 q3 R2) (hq : q1 = q2 + e) (h1 : xb1 ≤ xb) (h2 : xb2 + 2 * e ≤ xb) : TYM SN σ g lv xb w M m q0 (q3 + e) (fun n => R1 n ∨ R2 n) := by
  obtain ⟨m1, X1, Y1, s1, a1, a2, a3, a4⟩ := a
  obtain ⟨m2, X2, Y2, s2, b1, b2, b3, b4⟩ := b
  have kn := KPR_n k
  have t1 := SEQ_kp s1 (fun i => Nat.le_refl _) k
  have lo := s1.1.2.2.2.1
  refine ⟨max m1 m2, max X1 (X2 + e), max Y1 Y2, SEQ_app (SEQ_mo t1 (Nat.le_refl _) (Nat.le_max_left _ _) (Nat.le_max_left _ _) (Nat.le_max_left _ _) kn.2.1) (by rw [hq]; exact SEQ_mo (SEQ_up s2 e) lo (Nat.le_max_right _ _) (Nat.le_max_right _ _) (Nat.le_max_right _ _) (Nat.le_refl _)), ?_, ?_, ?_, ?_⟩
  all_goals omega
theorem TYM_v (a : TYM SN σ g lv xb v M m q0 q1 R) (k : KPR σ v w) (h1 : mks w = mks v) (h2 : nmo σ w = nmo σ v) : TYM SN σ g lv xb w M m q0 q1 R := by
  obtain ⟨m1, X1, Y1, s1, a1, a2, a3⟩ := a
  have kn := KPR_n k
  refine ⟨m1, X1, Y1, ?_, a1, by omega, a3⟩
  rw [h1, h2]
  exact SEQ_mo (SEQ_kp s1 (fun i => Nat.le_refl _) k) (Nat.le_refl _) (Nat.le_refl _) (Nat.le_refl _) (Nat.le_refl _) kn.2.1
theorem PCE_of (a : TYM SN σ g lv xb v M m 0 1 R) (h : ∀ n, R n → A v 29 n = -1) : PCE SN σ g lv xb v M (mks v) m (nmo σ v) := by
  obtain ⟨m1, X1, Y1, s1, a1⟩ := TYM_ro (R2 := fun _ => False) a (fun n hn => hn.elim) (fun n hn => Or.inr (h n hn))
  exact ⟨m1, X1, Y1, s1, a1⟩
theorem PCE_app (a : PCE SN σ g lv xb1 v M0 M m0 m) (b : TYM SN σ g lv xb2 v M m q2 q3 R2) (hq : 1 = q2 + e) (h1 : xb1 ≤ xb) (h2 : xb2 + 2 * e ≤ xb) : TYM SN σ g lv xb v M0 m0 0 (q3 + e) R2 := by
  obtain ⟨m1, X1, Y1, s1, a1, a2, a3, a4⟩ := a
  obtain ⟨m2, X2, Y2, s2, b1, b2, b3, b4⟩ := b
  have lo := s1.1.2.2.2.1
  refine ⟨max m1 m2, max X1 (X2 + e), max Y1 Y2, SEQ_ro (SEQ_app (SEQ_mo s1 (Nat.le_refl _) (Nat.le_max_left _ _) (Nat.le_max_left _ _) (Nat.le_max_left _ _) (Nat.le_refl _)) (by rw [hq]; exact SEQ_mo (SEQ_up s2 e) lo (Nat.le_max_right _ _) (Nat.le_max_right _ _) (Nat.le_max_right _ _) (Nat.le_refl _))) (fun n hn => Or.inr hn) (fun n hn => Or.inl (hn.resolve_left id)), ?_, ?_, ?_, ?_⟩
  all_goals omega
theorem TRN_le (a : TRN σ wt J v w M) (h : ∀ i, M0 i ≤ M i) {J2 : Nat} (hj : J2 ≤ J) : TRN σ wt J2 v w M0 := by
  obtain ⟨a0, ⟨a1, a2, a3, a4, a5⟩, a6, a7⟩ := a
  have h0 := h 0
  have h1 := h 1
  have h2 := h 2
  have h3 := h 3
  have h4 := h 4
  exact ⟨a0, ⟨fun r i hr hi => a1 r i hr (by omega), fun r i hr hi => a2 r i hr (by omega), fun r i hr hi => a3 r i hr (by omega), fun r i hr hi => a4 r i hr (by omega), fun i hi => a5 i (by omega)⟩, a6, fun r i hr hi => a7 r i hr (by omega)⟩
theorem TRN_kp (k : KPR σ v w) (h : ∀ i, M i ≤ mks v i) (hw : F v 83 = wt + J) : TRN σ wt J v w M := by
  obtain ⟨k0, ⟨k1, k2, k3, k4, k5⟩, -, ⟨-, -, k6⟩, -⟩ := id k
  have b0 : M 0 ≤ (F v 32).toNat := h 0
  have b1 : M 1 ≤ (F v 46).toNat := h 1
  have b2 : M 2 ≤ (F v 39).toNat := h 2
  have b3 : M 3 ≤ (F v 56).toNat := h 3
  have b4 : M 4 ≤ (F v 58).toNat := h 4
  have kn := KPR_n k
  exact ⟨k0.F (by decide), ⟨fun r i hr hi => k1 r i hr (by omega), fun r i hr hi => k3 r i hr (by omega), fun r i hr hi => k2 r i hr (by omega), fun r i hr hi => k4 r i hr (by omega), fun i hi => k5 i (by omega)⟩, kn.2, fun r i hr hi => k6 r i hr (by omega)⟩
theorem TRN_tr {x : MS} (a : TRN σ wt J v w M) (b : TRN σ wt J w x M) : TRN σ wt J v x M := by
  obtain ⟨a0, ⟨a1, a2, a3, a4, a5⟩, a6, a7⟩ := a
  obtain ⟨b0, ⟨b1, b2, b3, b4, b5⟩, b6, b7⟩ := b
  exact ⟨b0.trans a0, ⟨fun r i hr hi => (b1 r i hr hi).trans (a1 r i hr hi), fun r i hr hi => (b2 r i hr hi).trans (a2 r i hr hi), fun r i hr hi => (b3 r i hr hi).trans (a3 r i hr hi), fun r i hr hi => (b4 r i hr hi).trans (a4 r i hr hi), fun i hi => (b5 i hi).trans (a5 i hi)⟩, ⟨by omega, by omega⟩, fun r i hr hi => (b7 r i hr hi).trans (a7 r i hr hi)⟩
theorem TRN_60 : TRN σ wt J v (wa v 60 σ y) M := by
  have m1 : ∀ r, r ∈ [23, 24, 25, 26, 27, 28, 29, 30, 31] → r ≠ 60 := by decide
  have m2 : ∀ r, r ∈ [40, 41, 42, 43, 45] → r ≠ 60 := by decide
  have m3 : ∀ r, r ∈ [33, 35, 36, 37, 38] → r ≠ 60 := by decide
  have m4 : ∀ r, r ∈ [53, 54, 55] → r ≠ 60 := by decide
  have m5 : ∀ r, r ∈ [79, 80, 81, 82] → r ≠ 60 := by decide
  refine ⟨rfl, ⟨fun r i hr _ => wa_rne (m1 r hr), fun r i hr _ => wa_rne (m2 r hr), fun r i hr _ => wa_rne (m3 r hr), fun r i hr _ => wa_rne (m4 r hr), fun i _ => wa_rne (by decide)⟩, ⟨?_, ?_⟩, fun r i hr _ => wa_rne (m5 r hr)⟩
  · unfold hlo; rw [wa_rne (by decide)]; exact Nat.le_refl _
  · rw [wa_rne (by decide)]; exact Int.le_refl _
theorem TRN_wn {r i : Nat} (hr : r ∈ [23, 24, 25, 26, 27, 28, 29, 30, 31]) (hi : M 0 ≤ i) : TRN σ wt J v (wa v r i y) M := by
  have m1 : ∀ r, r ∈ [23, 24, 25, 26, 27, 28, 29, 30, 31] → r ∉ [40, 41, 42, 43, 45] ∧ r ∉ [33, 35, 36, 37, 38] ∧ r ∉ [53, 54, 55] ∧ 57 ≠ r ∧ r ∉ [79, 80, 81, 82] ∧ 63 ≠ r ∧ 64 ≠ r := by decide
  obtain ⟨b1, b2, b3, b4, b5, b6, b7⟩ := m1 r hr
  refine ⟨rfl, ⟨fun r2 j h1 h2 => wa_ne (by omega), fun r2 j h1 h2 => wa_rne (fun z => b1 (by rw [← z]; exact h1)), fun r2 j h1 h2 => wa_rne (fun z => b2 (by rw [← z]; exact h1)), fun r2 j h1 h2 => wa_rne (fun z => b3 (by rw [← z]; exact h1)), fun j _ => wa_rne b4⟩, ⟨?_, ?_⟩, fun r2 j h1 h2 => wa_rne (fun z => b5 (by rw [← z]; exact h1))⟩
  · unfold hlo; rw [wa_rne b6]; exact Nat.le_refl _
  · rw [wa_rne b7]; exact Int.le_refl _
theorem TRN_wi {b : Nat} (hb : b ≠ 14) : TRN σ wt J v (wi v b y) M := ⟨wi_ne (fun z => hb z.symm), ⟨fun _ _ _ _ => rfl, fun _ _ _ _ => rfl, fun _ _ _ _ => rfl, fun _ _ _ _ => rfl, fun _ _ => rfl⟩, ⟨Nat.le_refl _, Int.le_refl _⟩, fun _ _ _ _ => rfl⟩
theorem SEQ_tr {gg qq qq2 mq mq2 lo mm X Y sh : Nat} (s : SEQ v SN gg M0 M qq qq2 mq mq2 lo mm X Y sh R) (a : TRN σ wt J v w M) : SEQ w SN gg M0 M qq qq2 mq mq2 lo mm X Y sh R := by
  obtain ⟨a0, ⟨a1, a2, a3, a4, a5⟩, a6, a7⟩ := a
  have m1 : ∀ r, r ∈ [23, 24, 25, 26, 27, 31] → r ∈ [23, 24, 25, 26, 27, 28, 29, 30, 31] := by decide
  have m2 : ∀ r, r ∈ [28, 29, 30] → r ∈ [23, 24, 25, 26, 27, 28, 29, 30, 31] := by decide
  exact SEQ_st s ⟨a0, fun r i hr _ hi => a1 r i (m1 r hr) hi, fun r i hr _ hi => a2 r i hr hi, fun r i hr hi => a3 r i hr hi, fun r i hr _ hi => a4 r i hr hi, fun i hi => a5 i hi⟩ (fun r i hr _ hi _ => a1 r i (m2 r hr) hi)
theorem PCE_tr (a : PCE SN σ g lv xb v M0 M m0 m) (b : TRN σ wt J v w M) : PCE SN σ g lv xb w M0 M m0 m := by
  obtain ⟨mm, X, Y, s1, a1, a2, a3⟩ := a
  have b6 := b.2.2.1
  exact ⟨mm, X, Y, SEQ_mo (SEQ_tr s1 b) (Nat.le_refl _) (Nat.le_refl _) (Nat.le_refl _) (Nat.le_refl _) b6.1, a1, by omega, a3⟩
theorem STK_tr : ∀ (J : Nat) (M : Nat → Nat) (m : Nat) (ps : Int), STK SN σ g lv wt p u v J M m ps → 0 ≤ wt → TRN σ wt J v w M → STK SN σ g lv wt p u w J M m ps := by
  intro J
  induction J with
  | zero => intro M m ps h _ _; exact h
  | succ J ih =>
    intro M m ps hh hw tr
    obtain ⟨M0, m0, ps0, h1, h2, h3⟩ := hh
    have row : ∀ r, r ∈ [79, 80, 81, 82] → A w r (wt + J).toNat = A v r (wt + J).toNat := fun r hr => tr.2.2.2 r _ hr (by omega)
    refine ⟨M0, m0, ps0, ih M0 m0 ps0 h1 hw (TRN_le tr h2 (by omega)), h2, ?_⟩
    rw [row 79 (by decide), row 81 (by decide), row 82 (by decide)]
    rcases h3 with h3 | h3 | h3
    · exact Or.inl h3
    · exact Or.inr (Or.inl ⟨h3.1, h3.2.1, h3.2.2.1, PCE_tr h3.2.2.2 tr⟩)
    · obtain ⟨a1, a2, a3, M1, a4, a5, a6, a7⟩ := h3
      have tr1 : TRN σ wt J v w M1 := TRN_le tr a5.2.2.2.2 (by omega)
      have kn : ∀ k, KND v (M1 0) k → KND w (M1 0) k := fun k hk => KND_eq hk (fun r hr => by
        have : ∀ r, r ∈ [23, 24, 28, 29] → r ∈ [23, 24, 25, 26, 27, 28, 29, 30, 31] := by decide
        exact tr.2.1.1 r _ (this r hr) (by have := a5.2.1; omega))
      exact Or.inr (Or.inr ⟨a1, a2, a3, M1, PCE_tr a4 tr1, a5, a6, a7.imp (kn 9) (kn 10)⟩)
theorem unbind_M {y : Int32} {fn : MS → Unit → Option (MS × α)} {B : Int} (hs : ST u0 σ p o n q c f h s wt g v) (hf : F v 67 = 0) (kp : KPR σ u v) (hp : 0 ≤ p ∧ p < 4002) (hn : 0 ≤ n ∧ n < 16000) (hσ : σ ≤ 26) (hy : y = I B) (hu : 0 ≤ B ∧ RG B ∧ A u 60 σ ≤ B ∧ (F v 66 = 0 → B ≤ 40)) (lv0 : LGS σ v) (hu32 : 0 ≤ F u 32) (a : ∀ (w : MS) (n2 : Int), (n ≤ n2 ∧ n2 ≤ n + 1) → ST u0 σ p o n2 q c f h s wt g w → F w 67 = 0 → KPR σ u w → (FR [32] [] [23, 24, 25, 26, 27, 28, 29, 30, 31, 60] [] v w ∧ ∀ r i, r ∈ [23, 24, 25, 26, 27, 28, 29, 30, 31] → (i : Nat) < F v 32 → A w r i = A v r i) → LGS σ w → (∀ J M wt, (∀ i, M i ≤ mks v i) → F v 83 = wt + (J : Nat) → TRN σ wt J v w M) → (∀ (M : Nat → Nat) (m : Nat) (lv xb : Int) (R : Nat → Prop), B = m → 2 ≤ xb → TYM SN σ g lv xb v M m 0 1 R → TYM SN σ g lv xb w M m 0 1 R ∧ nmo σ w = m) → OK Q (fn w ())) : OK Q (bnd (fm_M_unbind N v y) fn) := by
  have e32 : F v 32 = n := hs.2.1.2.2.1
  have e69 : F v 69 = p := hs.2.1.1
  have sc := (hs.2.2.2.1 σ (Nat.le_refl σ)).1
  refine k_unbind hy hu.2.1 hs.2.1.2.2.2.2.2.2.2.2.2.2.2 hσ (by omega) (by omega) (fun e => ?_) (fun e w hw => ?_)
  · refine a v n (by omega) hs hf kp ⟨FR.rf, fun _ _ _ _ => rfl⟩ lv0 (fun J M wt h1 h2 => TRN_kp KPR_rf h1 h2) (fun M m lv xb R hB hx ty => ⟨ty, ?_⟩)
    obtain ⟨mm, X, Y, s1, -⟩ := ty
    have := s1.1.2.2.2.1
    unfold nmo at this ⊢
    omega
  · have sw := ST_unb hs hw hp (by omega) (by omega)
    have kw := KPR_unb kp hw (by omega) hu.2.2.1 hu.2.1
    obtain ⟨v1, hv, rfl⟩ := hw
    rw [e69] at hv
    have k2 : KPR σ v (wa v1 25 (F v 32).toNat B) := KPR_wn (KPR_nd KPR_rf hv.1 (by omega)) (by decide) (by omega)
    have a60 : A (wa (wa v1 25 (F v 32).toNat B) 60 σ B) 60 σ = B := wa_eq hu.2.1
    have fr : FR [32] [] [23, 24, 25, 26, 27, 28, 29, 30, 31, 60] [] v (wa (wa v1 25 (F v 32).toNat B) 60 σ B) := FR.wa (FR.wa (FR.mo hv.1.1 (by decide) (by decide) (by decide) (by decide)) (by decide)) (by decide)
    refine a _ (n + 1) (by omega) sw ((fr.F (by decide)).trans hf) kw ⟨fr, fun r i hr hi => ?_⟩ (fun z => ?_) (fun J M wt h1 h2 => TRN_tr (TRN_kp k2 h1 h2) TRN_60) (fun M m lv xb R hB hx ty => ?_)
    · have : ∀ r, r ∈ [23, 24, 25, 26, 27, 28, 29, 30, 31] → r ≠ 60 := by decide
      rw [wa_rne (this r hr), wa_ne (by omega)]
      exact hv.1.2.2.2.2 r i (by omega)
    · rw [a60]; exact hu.2.2.2 (by rw [← z]; exact (fr.F (by decide)).symm)
    · obtain ⟨mm, X, Y, s1, s2, s3, s4, s5⟩ := ty
      have g0 : gq g = 0 := by
        by_cases z : gq g = 0
        · exact z
        · have := s1.1.2.1 z
          unfold nmo at this
          omega
      have t2 := SEQ_tr (wt := F v 83) (J := 0) s1 (TRN_tr (TRN_kp (wt := F v 83) (J := 0) k2 (fun i => Nat.le_refl _) (by omega)) (TRN_60 (y := B)))
      have on : ONE (mks v) (mks (wa (wa v1 25 (F v 32).toNat B) 60 σ B)) (F v 32).toNat := ONE_nd (w := v1) hv.1 (by omega)
      have hw60 : nmo σ (wa (wa v1 25 (F v 32).toNat B) 60 σ B) = m := by unfold nmo; rw [a60]; omega
      have hw63 : hlo σ (wa (wa v1 25 (F v 32).toNat B) 60 σ B) = hlo σ v := by unfold hlo; rw [fr.A (by decide)]
      have nw : NEWN (wa (wa v1 25 (F v 32).toNat B) 60 σ B) (F v 32).toNat 18 := by
        have := NEWN_wa (r := 25) (y := B) (NEWN_of hv hp) (by decide)
        unfold NEWN at this ⊢
        rw [wa_rne (by decide), wa_rne (by decide), wa_rne (by decide), wa_rne (by decide), wa_rne (by decide)]
        exact this
      have lo := s1.1
      have x1 : 1 ≤ X := lo.2.2.2.2.2.2.2.1
      have un := s18 (SN := SN) (mm := mm) (X := X - 1) (Y := Y) (sh := hlo σ v) (m := nmo σ v) (lo := m) (x := m) on nw ⟨lo.2.2.2.1, lo.2.2.2.2.2.1, Nat.le_refl _, lo.2.2.2.1⟩ (by rw [wa_rne (by decide), wa_eq hu.2.1]; exact hB)
      refine ⟨⟨mm, X, Y, ?_, s2, ?_, s4, s5⟩, hw60⟩
      · rw [hw60, hw63]
        rw [g0] at t2 ⊢
        have un1 := SEQ_up un 1
        rw [show X - 1 + 1 = X by omega] at un1
        refine SEQ_ro (SEQ_app t2 un1) (fun i hi => Or.inl hi) (fun i hi => ?_)
        rcases hi with hi | hi
        · exact Or.inl hi
        · exact Or.inr (by rw [hi]; exact nw.2.2.2.2.1)
      · rw [fr.A (by decide)]; exact s3
end
end
section
def WEN (u0 : MS) (TN σ : Nat) (n : Int) (u v : MS) (i : Nat) : Prop := (A v 79 i = 7 ∧ 0 ≤ A v 80 i ∧ A v 80 i < 4002) ∨ ((A v 79 i = 1 ∨ A v 79 i = 2) ∧ (n ≤ A v 81 i ∧ A v 81 i < F v 32 ∧ (A v 23 (A v 81 i).toNat = 9 ∨ A v 23 (A v 81 i).toNat = 10) ∧ A v 28 (A v 81 i).toNat = -1 ∧ A v 29 (A v 81 i).toNat = -1) ∧ A u 60 σ ≤ A v 82 i ∧ (F v 66 = 0 → A v 82 i ≤ 40)) ∨ ((3 ≤ A v 79 i ∧ A v 79 i ≤ 6) ∧ (0 ≤ A v 80 i ∧ A v 80 i < TN) ∧ (A u0 6 (A v 80 i).toNat = 3 ∨ (A u0 6 (A v 80 i).toNat = 6 ∧ ((12 ≤ A u0 7 (A v 80 i).toNat ∧ A u0 7 (A v 80 i).toNat ≤ 20) ∨ A u0 7 (A v 80 i).toNat = 22 ∨ A u0 7 (A v 80 i).toNat = 23))))
def c7 (v : MS) (wt : Int) : Nat → Int
  | 0 => 0
  | J + 1 => c7 v wt J + (if A v 79 (wt + J).toNat = 7 then 1 else 0)
def WKN (bw : Nat → Nat) (κ : Int) (b : Nat) (p o n q c f h wt p1 o1 n1 q1 c1 f1 h1 : Int) (J : Nat) : Prop := (p + κ ≤ p1 ∧ o ≤ o1 ∧ o1 ≤ 25) ∧ (n ≤ n1 ∧ n1 - n + J + 2 * κ ≤ 3 * (p1 - p)) ∧ (q ≤ q1 ∧ 2 * (q1 - q) ≤ p1 - p) ∧ (c ≤ c1 ∧ 3 * (c1 - c) + κ ≤ p1 - p) ∧ (f ≤ f1 ∧ f1 - f ≤ c1 - c) ∧ (h ≤ h1 ∧ 11 * (h1 - h) + 60 * (b : Int) ≤ 60 * ((bw p1.toNat : Int) - bw p.toNat)) ∧ 2 * (wt + J) + κ ≤ p1 + 2 * o1
def WKB (u0 : MS) (TN σ : Nat) (bw : Nat → Nat) (κ : Int) (b : Nat) (p o n q c f h s wt g : Int) (u v : MS) (p1 o1 n1 q1 c1 f1 h1 : Int) (J : Nat) : Prop := ST u0 σ p1 o1 n1 q1 c1 f1 h1 s (wt + J) g v ∧ F v 67 = 0 ∧ KPR σ u v ∧ p1 ≤ TN ∧ WKN bw κ b p o n q c f h wt p1 o1 n1 q1 c1 f1 h1 J ∧ (∀ i, i < J → WEN u0 TN σ n u v (wt + i).toNat) ∧ o1 = o + c7 v wt J ∧ LGS σ v
def RTC (v : MS) (o n n1 : Int) (e : Nat) : Prop := n ≤ e ∧ (e : Int) < n1 ∧ RTD v (27 - o).toNat n.toNat e ∧ A v 29 e = -1
def TYC (TN SN σ : Nat) (g o wt p p1 : Int) (u v : MS) (J e : Nat) : Prop := F v 72 = 0 → F v 66 = 0 → TN ≤ 1500 → ∃ (M : Nat → Nat) (m : Nat) (ps : Int), STK SN σ g (o - 1) wt p u v J M m ps ∧ (∀ i, M i ≤ mks v i) ∧ ps ≤ p1 ∧ TYM SN σ g (o - 1) (p1 - ps + 1) v M m 0 1 (fun i => i = e)
def WKC (u0 : MS) (TN SN σ : Nat) (bw : Nat → Nat) (p o n q c f h s wt g : Int) (u v : MS) (p1 o1 n1 q1 c1 f1 h1 : Int) (J e : Nat) : Prop := WKB u0 TN σ bw 1 (1 + nu u0 p1.toNat) p o n q c f h s wt g u v p1 o1 n1 q1 c1 f1 h1 J ∧ RTC v o n n1 e ∧ TYC TN SN σ g o wt p p1 u v J e
section
variable {α : Type} {Q : MS → Int32 → Prop} {u0 u v v1 w x : MS} {N σ TN SN e q0 q1 q2 q3 : Nat} {bw : Nat → Nat} {p o n q c f h s wt g lv xb xb1 xb2 k t D d y z l p1 o1 n1 q1' c1 f1 h1 κ : Int} {r y1 y2 y3 : Int32} {R R1 R2 : Nat → Prop} {M M0 M1 : Nat → Nat} {m m0 J : Nat} {G : MS → Int32 → Int32 → Int32 → Int32 → Option (MS × Int32)}
theorem WEN_tr {i : Nat} (hh : WEN u0 TN σ n u v i) (e79 : ∀ r, r ∈ [79, 80, 81, 82] → A w r i = A v r i) (e23 : ∀ (r j : Nat), r ∈ [23, 28, 29] → (j : Int) < F v 32 → A w r j = A v r j) (h32 : F v 32 ≤ F w 32) (h66 : F w 66 = 0 → F v 66 = 0) (hn : 0 ≤ n) : WEN u0 TN σ n u w i := by
  unfold WEN
  rw [e79 79 (by decide), e79 80 (by decide), e79 81 (by decide), e79 82 (by decide)]
  rcases hh with a | ⟨a1, ⟨a2, a3, a4, a5, a6⟩, a7, a8⟩ | a
  · exact Or.inl a
  · refine Or.inr (Or.inl ⟨a1, ⟨a2, by omega, ?_, ?_, ?_⟩, a7, fun z => a8 (h66 z)⟩)
    · rw [e23 23 _ (by decide) (by omega)]; exact a4
    · rw [e23 28 _ (by decide) (by omega)]; exact a5
    · rw [e23 29 _ (by decide) (by omega)]; exact a6
  · exact Or.inr (Or.inr a)
theorem c7_tr : ∀ J : Nat, (∀ i, (i : Nat) < wt + J → A w 79 i = A v 79 i) → 0 ≤ wt → c7 w wt J = c7 v wt J := by
  intro J
  induction J with
  | zero => intro _ _; rfl
  | succ J ih =>
    intro h1 h2
    show c7 w wt J + _ = c7 v wt J + _
    rw [ih (fun i hi => h1 i (by omega)) h2, h1 (wt + J).toNat (by omega)]
theorem c7_0 : ∀ J : Nat, 0 ≤ c7 v wt J := by
  intro J
  induction J with
  | zero => exact Int.le_refl _
  | succ J ih =>
    show 0 ≤ c7 v wt J + _
    split <;> omega
theorem TYM_tr (a : TYM SN σ g lv xb v M m q0 q1 R) (b : TRN σ wt J v w (mks v)) (h1 : mks w = mks v) (h2 : nmo σ w = nmo σ v) : TYM SN σ g lv xb w M m q0 q1 R := by
  obtain ⟨mm, X, Y, s1, a1, a2, a3⟩ := a
  have b6 := b.2.2.1
  refine ⟨mm, X, Y, ?_, a1, by omega, a3⟩
  rw [h1, h2]
  exact SEQ_mo (SEQ_tr s1 b) (Nat.le_refl _) (Nat.le_refl _) (Nat.le_refl _) (Nat.le_refl _) b6.1
theorem red_fin (hn0 : 0 ≤ n) (hw0 : 0 ≤ wt) (hu : F u 32 = n ∧ F u 83 = wt) (sx : ST u0 σ p1 o1 n1 q1' c1 f1 h1 s (wt + J) g x) (fx : F x 67 = 0) (kx : KPR σ u x) (hp : p1 ≤ TN) (wn : WKN bw 1 (1 + nu u0 p1.toNat) p o n q c f h wt p1 o1 (n1 + 1) q1' c1 f1 h1 J) (en : ∀ i, i < J → WEN u0 TN σ n u x (wt + i).toNat) (ho : o1 = o + c7 x wt J) (lx : LGS σ x) (nd : NDW x w k t) (nw : NEWN w (F x 32).toNat k) (ht : 0 ≤ t ∧ t < 4002) (hk : k ≠ 12) (ty : F x 72 = 0 → F x 66 = 0 → TN ≤ 1500 → ∃ (M : Nat → Nat) (m : Nat) (ps : Int), STK SN σ g (o - 1) wt p u x J M m ps ∧ (∀ i, M i ≤ mks x i) ∧ ps ≤ p1 ∧ TYM SN σ g (o - 1) (p1 - ps + 1) w M m 0 1 (fun i => i = (F x 32).toNat)) : WKC u0 TN SN σ bw p o n q c f h s wt g u w p1 o1 (n1 + 1) q1' c1 f1 h1 J n1.toNat := by
  have e32 : F x 32 = n1 := sx.2.1.2.2.1
  have e83 : F x 83 = wt + J := sx.2.1.2.2.2.2.2.2.2.2.2.1
  have n1b : 0 ≤ n1 ∧ n ≤ n1 := by
    have := kx.2.2.2.2.1.1
    omega
  have kw : KPR σ x w := KPR_nd KPR_rf nd (by omega)
  have mr : ∀ r, r ∈ [79, 80, 81, 82] → r ∉ [23, 24, 25, 26, 27, 28, 29, 30, 31] := by decide
  have row : ∀ r i, r ∈ [79, 80, 81, 82] → A w r i = A x r i := fun r i hr => nd.1.A (mr r hr)
  have f66 : F w 66 = F x 66 := nd.1.F (by decide)
  refine ⟨⟨ST_nd sx nd ht (by omega) (fun z => absurd z hk), (nd.1.F (by decide)).trans fx, KPR_tr kx kw, hp, wn, fun i hi => WEN_tr (en i hi) (fun r hr => row r _ hr) (fun r j hr hj => ?_) (by rw [nd.2.1]; omega) (fun z => by rw [← f66]; exact z) hn0, ?_, fun z => ?_⟩, ⟨by omega, by omega, ?_, ?_⟩, fun z1 z2 z3 => ?_⟩
  · exact nd.2.2.2.2 r j (by omega)
  · rw [ho, c7_tr J (fun i _ => row 79 i (by decide)) hw0]
  · rw [nd.1.A (by decide)]; exact lx (by rw [← f66]; exact z)
  · rw [e32] at nw
    exact RTD_mo 0 _ _ ⟨by omega, nw.2.2.2.1⟩ (Nat.zero_le _)
  · rw [e32] at nw; exact nw.2.2.2.2.1
  · obtain ⟨M, m, ps, t1, t2, t3, t4⟩ := ty (kw.2.2.2.2.2.1 z1) (by rw [← f66]; exact z2) z3
    refine ⟨M, m, ps, STK_tr J M m ps t1 hw0 (TRN_kp kw t2 e83), fun i => Nat.le_trans (t2 i) ?_, t3, by rw [e32] at t4; exact t4⟩
    exact (ONE_nd nd (by omega)).2.2.2.2 i
theorem red_7 (hT : TN ≤ 4000) (hn0 : 0 ≤ n) (hw0 : 0 ≤ wt ∧ 0 ≤ o ∧ 0 ≤ p) (hu : F u 32 = n ∧ F u 83 = wt) (hw : WKC u0 TN SN σ bw p o n q c f h s wt g u v p1 o1 n1 q1' c1 f1 h1 (J + 1) e) (h7 : A v 79 (wt + J).toNat = 7) (hb : n1 ≤ 15000 ∧ p ≤ 4000) (hG : ∀ w e2, WKC u0 TN SN σ bw p o n q c f h s wt g u w p1 (o1 - 1) (n1 + 1) q1' c1 f1 h1 J e2 → OK Q (G w y1 y2 (I (e2 : Int)) 1)) : OK Q (fb_M_reduce_61 N G v y1 y2 r (I 7) 1) := by
  obtain ⟨⟨s0, f0, k0, hp, wn, en, ho, l0⟩, rt, ty⟩ := hw
  have e83 : F v 83 = wt + (J + 1 : Nat) := s0.2.1.2.2.2.2.2.2.2.2.2.1
  have e32 : F v 32 = n1 := s0.2.1.2.2.1
  have wnb : p ≤ p1 ∧ o ≤ o1 ∧ o1 ≤ 25 ∧ n ≤ n1 ∧ 2 * (wt + (J + 1 : Nat)) + 1 ≤ p1 + 2 * o1 := by unfold WKN at wn; omega
  have tok : 0 ≤ A v 80 (wt + J).toNat ∧ A v 80 (wt + J).toNat < 4002 := by
    rcases en J (by omega) with a | ⟨a, -⟩ | ⟨a, -⟩
    · exact a.2
    · omega
    · omega
  have o1e : o1 - 1 = o + c7 v wt J := by
    have : c7 v wt (J + 1) = c7 v wt J + 1 := by show c7 v wt J + (if A v 79 (wt + J).toNat = 7 then 1 else 0) = _; rw [if_pos h7]
    omega
  have c0 := c7_0 (v := v) (wt := wt) J
  unfold fb_M_reduce_61
  rw [br10]
  refine ok_lt.mpr ?_
  rw [I_F' e83, lit1q, I_sub, show wt + (J + 1 : Nat) - 1 = wt + J from by omega, wi_e]
  have s1 := ST_83 (x := wt + J) s0 ⟨by omega, by omega⟩
  have e70 : F (wi v 83 (wt + J)) 70 = o1 := s1.2.1.2.1
  rw [show (7 : Int32) = I 7 from rfl]
  refine k_eq ⟨by decide, by decide⟩ ⟨by decide, by decide⟩ (fun _ => ok_lt.mpr ?_) (fun z => absurd rfl z)
  rw [← lit1q, clo1_e]
  have s2 := ST_cl s1 (by omega)
  have a2 : ∀ r i, A (clo1 (wi v 83 (wt + J))) r i = A v r i := fun _ _ => rfl
  have f2 : ∀ j, j ∉ [70, 83] → F (clo1 (wi v 83 (wt + J))) j = F v j := fun j hj => by
    rw [show F (clo1 (wi v 83 (wt + J))) j = F (wi v 83 (wt + J)) j from wi_ne (fun z => hj (by rw [z]; decide)), wi_ne (fun z => hj (by rw [z]; decide))]
  have k2 : KPR σ u (clo1 (wi v 83 (wt + J))) := KPR_w0 (KPR_wi k0 (by decide) (by omega) ⟨by omega, by omega⟩) (by decide)
  have m2 : mks (clo1 (wi v 83 (wt + J))) = mks v := (wi_mks (by decide)).trans (wi_mks (by decide))
  have tr2 : TRN σ wt J v (clo1 (wi v 83 (wt + J))) (mks v) := TRN_tr (TRN_wi (by decide)) (TRN_wi (by decide))
  have e83b : F (clo1 (wi v 83 (wt + J))) 83 = wt + J := s2.2.1.2.2.2.2.2.2.2.2.2.1
  have e32b : F (clo1 (wi v 83 (wt + J))) 32 = n1 := s2.2.1.2.2.1
  generalize clo1 (wi v 83 (wt + J)) = x at *
  have main : ∀ (t1 : Int32) (k : Int), vp_nar .byte (t1.toInt8.toInt32) = I k → (k = 7 ∨ k = 8) → OK Q (fb_M_reduce_121 N G x y1 y2 1 t1) := fun t1 k hk1 hk2 => by
    unfold fb_M_reduce_121 fb_M_reduce_255
    refine k_at (k := 80) (n := 3000) rfl (by decide) (by omega) ?_
    rw [tn_F, e83b, I_A' (a2 80 (wt + J).toNat)]
    refine k_node hk1 (by omega) rfl tok (by omega) (fun w hv => ?_)
    have nw := NEWN_of hv tok
    rw [e32b, show I n1 = I ((n1.toNat : Nat) : Int) by congr 1; omega]
    refine hG w n1.toNat (red_fin hn0 hw0.1 hu s2 ((f2 67 (by decide)).trans f0) k2 hp (by unfold WKN at wn ⊢; omega) (fun i hi => WEN_tr (en i (by omega)) (fun r _ => a2 r _) (fun r j _ _ => a2 r j) (by rw [f2 32 (by decide)]; omega) (fun z => by rw [← f2 66 (by decide)]; exact z) hn0) ?_ (fun z => ?_) hv.1 nw tok (by omega) (fun z1 z2 z3 => ?_))
    · rw [o1e]; congr 1; exact (c7_tr J (fun i _ => a2 79 i) hw0.1).symm
    · rw [a2]; exact l0 (by rw [← f2 66 (by decide)]; exact z)
    · obtain ⟨M, m, ps, t1, t2, t3, t4⟩ := ty (by rw [← f2 72 (by decide)]; exact z1) (by rw [← f2 66 (by decide)]; exact z2) z3
      obtain ⟨M0, m0, ps0, g1, g2, g3⟩ := t1
      rcases g3 with ⟨-, g4, g5, g6⟩ | ⟨g4, g5, -⟩ | ⟨g4, -⟩
      · subst g4
        subst g5
        have tx : TYM SN σ g (o - 1) (p1 - ps0 + 1) x M m 0 1 (fun i => i = e) := TYM_tr (TYM_mo t4 (by omega) (Int.le_refl _)) tr2 m2 (by unfold nmo; rw [a2])
        have kw : KPR σ x w := KPR_nd KPR_rf hv.1 (by omega)
        have tn : TYM SN σ g (o - 1) (p1 - ps0 + 1) w (mks x) (nmo σ x) 1 1 (fun i => i = (F x 32).toNat) := by
          have lx : LGS σ x := fun z => by rw [a2]; exact l0 (by rw [← f2 66 (by decide)]; exact z)
          refine TYM_of (TYG_nd (TN := TN) (xx := 1) hv.1 (by omega) s2.2.2.2.1 lx (fun mm X Y y1 y2 => ?_) (by omega) (by omega)) ((hv.1.1.F (by decide)).trans z1) ((hv.1.1.F (by decide)).trans z2) z3
          rcases hk2 with hk2 | hk2
          · rw [hk2] at nw; exact s7 (ONE_nd hv.1 (by omega)) nw ⟨Nat.le_refl _, y1, y2⟩
          · rw [hk2] at nw; exact s8 (ONE_nd hv.1 (by omega)) nw ⟨Nat.le_refl _, y1, y2⟩
        refine ⟨M, m, ps0, STK_tr J M m ps0 g1 hw0.1 (TRN_le tr2 t2 (Nat.le_refl _)), fun i => by rw [m2]; exact t2 i, by omega, ?_⟩
        refine TYM_ro (TYM_app (e := 0) tx kw tn rfl (Int.le_refl _) (by omega)) (fun i hi => Or.inr hi) (fun i hi => ?_)
        rcases hi with hi | hi
        · refine Or.inr ?_
          rw [hi, hv.1.2.2.2.2 29 e (by rw [e32b]; have := rt.2.1; omega), a2]
          exact rt.2.2.2
        · exact Or.inl hi
      · omega
      · omega
  refine k_at (k := 80) (n := 3000) rfl (by decide) (by omega) ?_
  rw [tn_F, e83b, I_A' (a2 80 (wt + J).toNat)]
  refine k_in (k := 6) (n := 4002) rfl (by decide) (by omega) (ok_br.mpr ⟨fun _ => main 7 7 rfl (Or.inl rfl), fun _ => main 8 8 rfl (Or.inr rfl)⟩)
end
end
section
section
variable {α : Type} {Q : MS → Int32 → Prop} {u0 u v v1 w x : MS} {N σ TN SN e q0 q1 q2 q3 : Nat} {bw : Nat → Nat} {p o n q c f h s wt g lv xb xb1 xb2 k t D d y z l p1 o1 n1 q1' c1 f1 h1 κ : Int} {r y1 y2 y3 : Int32} {R R1 R2 : Nat → Prop} {M M0 M1 : Nat → Nat} {m m0 J : Nat} {G : MS → Int32 → Int32 → Int32 → Int32 → Option (MS × Int32)}
theorem red_op {L : Int} (tk : TKW u0 TN SN bw) (hn0 : 0 ≤ n) (hw0 : 0 ≤ wt ∧ 0 ≤ o ∧ 0 ≤ p) (hu : F u 32 = n ∧ F u 83 = wt) (hw : WKC u0 TN SN σ bw p o n q c f h s wt g u v p1 o1 n1 q1' c1 f1 h1 (J + 1) e) (hL : A v 79 (wt + J).toNat = L ∧ 3 ≤ L ∧ L ≤ 6) (hb : n1 ≤ 15000 ∧ p ≤ 4000) (hG : ∀ w e2, WKC u0 TN SN σ bw p o n q c f h s wt g u w p1 o1 (n1 + 1) q1' c1 f1 h1 J e2 → OK Q (G w y1 y2 (I (e2 : Int)) 1)) : OK Q (fb_M_reduce_61 N G v y1 y2 r (I L) 1) := by
  obtain ⟨⟨s0, f0, k0, hp, wn, en, ho, l0⟩, rt, ty⟩ := hw
  have hT := tk.1.1
  have e83 : F v 83 = wt + (J + 1 : Nat) := s0.2.1.2.2.2.2.2.2.2.2.2.1
  have e32 : F v 32 = n1 := s0.2.1.2.2.1
  have wnb : p ≤ p1 ∧ o ≤ o1 ∧ o1 ≤ 25 ∧ n ≤ n1 ∧ 2 * (wt + (J + 1 : Nat)) + 1 ≤ p1 + 2 * o1 := by unfold WKN at wn; omega
  have tok : (0 ≤ A v 80 (wt + J).toNat ∧ A v 80 (wt + J).toNat < TN) ∧ (A u0 6 (A v 80 (wt + J).toNat).toNat = 3 ∨ (A u0 6 (A v 80 (wt + J).toNat).toNat = 6 ∧ ((12 ≤ A u0 7 (A v 80 (wt + J).toNat).toNat ∧ A u0 7 (A v 80 (wt + J).toNat).toNat ≤ 20) ∨ A u0 7 (A v 80 (wt + J).toNat).toNat = 22 ∨ A u0 7 (A v 80 (wt + J).toNat).toNat = 23))) := by
    rcases en J (by omega) with a | ⟨a, -⟩ | ⟨-, a⟩
    · omega
    · omega
    · exact a
  have o1e : o1 = o + c7 v wt J := by
    have : c7 v wt (J + 1) = c7 v wt J + 0 := by show c7 v wt J + (if A v 79 (wt + J).toNat = 7 then 1 else 0) = _; rw [if_neg (by omega)]
    omega
  obtain ⟨tk1, tk2⟩ := tok
  generalize hT0 : A v 80 (wt + J).toNat = T0 at *
  have tv := (tk.2.1 T0.toNat (by omega)).2.2.2.2.1
  unfold fb_M_reduce_61
  rw [br10]
  refine ok_lt.mpr ?_
  rw [I_F' e83, lit1q, I_sub, show wt + (J + 1 : Nat) - 1 = wt + J from by omega, wi_e]
  have s2 := ST_83 (x := wt + J) s0 ⟨by omega, by omega⟩
  rw [show (7 : Int32) = I 7 from rfl, show (3 : Int32) = I 3 from rfl]
  refine k_eq ⟨by omega, by omega⟩ ⟨by decide, by decide⟩ (fun z => by omega) (fun _ => ?_)
  refine k_le ⟨by decide, by decide⟩ ⟨by omega, by omega⟩ (fun _ => ?_) (fun z => by omega)
  have a2 : ∀ r i, A (wi v 83 (wt + J)) r i = A v r i := fun _ _ => rfl
  have f2 : ∀ j, j ∉ [83] → F (wi v 83 (wt + J)) j = F v j := fun j hj => wi_ne (fun z => hj (by rw [z]; decide))
  have k2 : KPR σ u (wi v 83 (wt + J)) := KPR_wi k0 (by decide) (by omega) ⟨by omega, by omega⟩
  have m2 : mks (wi v 83 (wt + J)) = mks v := wi_mks (by decide)
  have tr2 : TRN σ wt J v (wi v 83 (wt + J)) (mks v) := TRN_wi (by decide)
  have e83b : F (wi v 83 (wt + J)) 83 = wt + J := s2.2.1.2.2.2.2.2.2.2.2.2.1
  have e32b : F (wi v 83 (wt + J)) 32 = n1 := s2.2.1.2.2.1
  generalize wi v 83 (wt + J) = x at *
  refine k_at (k := 80) (n := 3000) rfl (by decide) (by omega) ?_
  rw [tn_F, e83b, I_A' ((a2 80 (wt + J).toNat).trans hT0)]
  refine k_node (k := 6) rfl (by decide) rfl (by omega) (by omega) (fun v4 hv => ?_)
  have e83c : F v4 83 = wt + J := (hv.1.1.F (by decide)).trans e83b
  have a80 : A v4 80 (wt + J).toNat = T0 := (hv.1.1.A (by decide)).trans ((a2 80 _).trans hT0)
  refine k_at (k := 80) (n := 3000) rfl (by decide) (by omega) (ok_lt.mpr ?_)
  rw [tn_F, e83c, I_A' a80]
  have a6 : ∀ i, A v4 6 i = A u0 6 i := fun i => (hv.1.1.A (by decide)).trans (ST_A s2 (by decide))
  have a7 : ∀ i, A v4 7 i = A u0 7 i := fun i => (hv.1.1.A (by decide)).trans (ST_A s2 (by decide))
  have tnT : (I T0).toNatClampNeg = T0.toNat := I_tn (by omega) (by omega)
  have main : ∀ (t2 : Int32) (y : Int), t2 = I y → RG y → (100 ≤ y ∨ (12 ≤ y ∧ y ≤ 20) ∨ y = 22 ∨ y = 23) → OK Q (fb_M_reduce_254 N G v4 y1 y2 (I (F x 32)) 1 25 (I (F x 32)) t2) := fun t2 y ht2 hy hyy => by
    unfold fb_M_reduce_254 fb_M_reduce_255
    rw [show isK 25 4 = true by decide, ck_t, ht2]
    refine k_in (k := 25) (n := 16000) rfl (by decide) (by omega) (ok_lt.mpr ?_)
    rw [I_tn (x := F x 32) (by omega) (by omega), wa_e]
    have nd : NDW x (wa v4 25 (F x 32).toNat y) 6 T0 := NDW_wa hv.1 (by decide)
    have nw : NEWN (wa v4 25 (F x 32).toNat y) (F x 32).toNat 6 := NEWN_wa (NEWN_of hv (by omega)) (by decide)
    have b25 : A (wa v4 25 (F x 32).toNat y) 25 (F x 32).toNat = y := wa_eq hy
    generalize wa v4 25 (F x 32).toNat y = w at *
    rw [e32b, show I n1 = I ((n1.toNat : Nat) : Int) by congr 1; omega]
    refine hG w n1.toNat (red_fin hn0 hw0.1 hu s2 ((f2 67 (by decide)).trans f0) k2 hp (by unfold WKN at wn ⊢; omega) (fun i hi => WEN_tr (en i (by omega)) (fun r _ => a2 r _) (fun r j _ _ => a2 r j) (by rw [f2 32 (by decide)]; omega) (fun z => by rw [← f2 66 (by decide)]; exact z) hn0) ?_ (fun z => ?_) nd nw (by omega) (by omega) (fun z1 z2 z3 => ?_))
    · rw [o1e]; congr 1; exact (c7_tr J (fun i _ => a2 79 i) hw0.1).symm
    · rw [a2]; exact l0 (by rw [← f2 66 (by decide)]; exact z)
    · obtain ⟨M, m, ps, t1, t2, t3, t4⟩ := ty (by rw [← f2 72 (by decide)]; exact z1) (by rw [← f2 66 (by decide)]; exact z2) z3
      obtain ⟨M0, m0, ps0, g1, g2, g3⟩ := t1
      rcases g3 with ⟨g4, -⟩ | ⟨-, -, g5, g6⟩ | ⟨g4, -⟩
      · omega
      · have tx : TYM SN σ g (o - 1) (p1 - ps + 1) x M m 0 1 (fun i => i = e) := TYM_tr t4 tr2 m2 (by unfold nmo; rw [a2])
        have x2 : 2 ≤ p1 - ps + 1 := by
          obtain ⟨mm, X, Y, s1, -, -, s5, -⟩ := tx
          have := s1.1.2.2.2.2.2.2.2.1
          omega
        have px : PCE SN σ g (o - 1) (ps - ps0) x M0 M m0 m := PCE_tr g6 (TRN_le tr2 t2 (Nat.le_refl _))
        have t6 : TYM SN σ g (o - 1) (p1 - ps0 + 1) x M0 m0 0 (1 + 1) (fun i => i = e) := PCE_app (e := 1) px tx rfl (by omega) (by omega)
        have kw : KPR σ x w := KPR_nd KPR_rf nd (by omega)
        have tn : TYM SN σ g (o - 1) (p1 - ps0 + 1) w (mks x) (nmo σ x) 2 1 (fun i => i = (F x 32).toNat) := by
          have lx : LGS σ x := fun z => by rw [a2]; exact l0 (by rw [← f2 66 (by decide)]; exact z)
          refine TYM_of (TYG_nd (TN := TN) (xx := 2) nd (by omega) s2.2.2.2.1 lx (fun mm X Y y1 y2 => ?_) (by omega) (by omega)) ((nd.1.F (by decide)).trans z1) ((nd.1.F (by decide)).trans z2) z3
          exact s6 (ONE_nd nd (by omega)) nw ⟨Nat.le_refl _, y1, y2⟩ (by rw [b25]; exact hyy)
        refine ⟨M0, m0, ps0, STK_tr J M0 m0 ps0 g1 hw0.1 (TRN_le tr2 (fun i => Nat.le_trans (g2 i) (t2 i)) (Nat.le_refl _)), fun i => by rw [m2]; exact Nat.le_trans (g2 i) (t2 i), by omega, ?_⟩
        refine TYM_ro (TYM_app (e := 0) t6 kw tn rfl (Int.le_refl _) (by omega)) (fun i hi => Or.inr hi) (fun i hi => ?_)
        rcases hi with hi | hi
        · refine Or.inr ?_
          rw [hi, nd.2.2.2.2 29 e (by rw [e32b]; have := rt.2.1; omega), a2]
          exact rt.2.2.2
        · exact Or.inl hi
      · omega
  refine k_in (k := 6) (n := 4002) rfl (by decide) (by omega) ?_
  rw [tnT, I_A' (a6 T0.toNat), show (100 : Int32) = I 100 from rfl, I_A' (a7 T0.toNat), I_add]
  refine k_eq (ARG1 u0 6 _) ⟨by decide, by decide⟩ (fun z => ?_) (fun z => ?_)
  · have := tv z
    exact k_in (k := 7) (n := 4002) rfl (by decide) (by omega) (main _ _ rfl ⟨by omega, by omega⟩ (by omega))
  · refine k_in (k := 7) (n := 4002) rfl (by decide) (by omega) (main _ _ rfl (ARG1 u0 7 _) ?_)
    rcases tk2 with y | ⟨-, y⟩
    · exact absurd y z
    · exact Or.inr y
theorem red_and {L : Int} (hT : TN ≤ 4000) (hσ : σ ≤ 26) (hn0 : 0 ≤ n) (hw0 : 0 ≤ wt ∧ 0 ≤ o ∧ 0 ≤ p) (hu : F u 32 = n ∧ F u 83 = wt ∧ 0 ≤ A u 60 σ) (hw : WKC u0 TN SN σ bw p o n q c f h s wt g u v p1 o1 n1 q1' c1 f1 h1 (J + 1) e) (hL : A v 79 (wt + J).toNat = L ∧ (L = 1 ∨ L = 2)) (hb : n1 ≤ 15000 ∧ p ≤ 4000) (hG : ∀ w e2 n2, WKC u0 TN SN σ bw p o n q c f h s wt g u w p1 o1 n2 q1' c1 f1 h1 J e2 → OK Q (G w y1 y2 (I (e2 : Int)) 1)) : OK Q (fb_M_reduce_61 N G v y1 y2 r (I L) 1) := by
  obtain ⟨⟨s0, f0, k0, hp, wn, en, ho, l0⟩, rt, ty⟩ := hw
  have e83 : F v 83 = wt + (J + 1 : Nat) := s0.2.1.2.2.2.2.2.2.2.2.2.1
  have e32 : F v 32 = n1 := s0.2.1.2.2.1
  have wnb : p ≤ p1 ∧ o ≤ o1 ∧ o1 ≤ 25 ∧ n ≤ n1 ∧ 2 * (wt + (J + 1 : Nat)) + 1 ≤ p1 + 2 * o1 := by unfold WKN at wn; omega
  have ent : (n ≤ A v 81 (wt + J).toNat ∧ A v 81 (wt + J).toNat < F v 32 ∧ (A v 23 (A v 81 (wt + J).toNat).toNat = 9 ∨ A v 23 (A v 81 (wt + J).toNat).toNat = 10) ∧ A v 28 (A v 81 (wt + J).toNat).toNat = -1 ∧ A v 29 (A v 81 (wt + J).toNat).toNat = -1) ∧ A u 60 σ ≤ A v 82 (wt + J).toNat ∧ (F v 66 = 0 → A v 82 (wt + J).toNat ≤ 40) := by
    rcases en J (by omega) with a | ⟨-, a⟩ | ⟨a, -⟩
    · omega
    · exact a
    · omega
  have o1e : o1 = o + c7 v wt J := by
    have : c7 v wt (J + 1) = c7 v wt J + 0 := by show c7 v wt J + (if A v 79 (wt + J).toNat = 7 then 1 else 0) = _; rw [if_neg (by omega)]
    omega
  obtain ⟨en1, en2, en3⟩ := ent
  obtain ⟨Nn, hNn⟩ : ∃ Nn : Nat, A v 81 (wt + J).toNat = Nn := ⟨(A v 81 (wt + J).toNat).toNat, by omega⟩
  rw [hNn, Int.toNat_natCast] at en1
  unfold fb_M_reduce_61
  rw [br10]
  refine ok_lt.mpr ?_
  rw [I_F' e83, lit1q, I_sub, show wt + (J + 1 : Nat) - 1 = wt + J from by omega, wi_e]
  have s2 := ST_83 (x := wt + J) s0 ⟨by omega, by omega⟩
  rw [show (7 : Int32) = I 7 from rfl, show (3 : Int32) = I 3 from rfl]
  refine k_eq ⟨by omega, by omega⟩ ⟨by decide, by decide⟩ (fun z => by omega) (fun _ => ?_)
  refine k_le ⟨by decide, by decide⟩ ⟨by omega, by omega⟩ (fun z => by omega) (fun _ => ?_)
  have a2 : ∀ r i, A (wi v 83 (wt + J)) r i = A v r i := fun _ _ => rfl
  have f2 : ∀ j, j ∉ [83] → F (wi v 83 (wt + J)) j = F v j := fun j hj => wi_ne (fun z => hj (by rw [z]; decide))
  have k2 : KPR σ u (wi v 83 (wt + J)) := KPR_wi k0 (by decide) (by omega) ⟨by omega, by omega⟩
  have m2 : mks (wi v 83 (wt + J)) = mks v := wi_mks (by decide)
  have tr2 : TRN σ wt J v (wi v 83 (wt + J)) (mks v) := TRN_wi (by decide)
  have e83b : F (wi v 83 (wt + J)) 83 = wt + J := s2.2.1.2.2.2.2.2.2.2.2.2.1
  have e32b : F (wi v 83 (wt + J)) 32 = n1 := s2.2.1.2.2.1
  generalize wi v 83 (wt + J) = x at *
  refine k_at (k := 82) (n := 3000) rfl (by decide) (by omega) ?_
  rw [tn_F, e83b]
  refine unbind_M (SN := SN) (u := u) (B := A v 82 (wt + J).toNat) s2 ((f2 67 (by decide)).trans f0) k2 (by omega) (by omega) hσ (I_A' (a2 82 _)) ⟨by omega, ARG1 v 82 _, en2, fun z => en3 (by rw [← f2 66 (by decide)]; exact z)⟩ (fun z => by rw [a2]; exact l0 (by rw [← f2 66 (by decide)]; exact z)) (by omega) (fun w n2 hn2 s3 f3 k3 fr3 l3 tr3 ty3 => ?_)
  have e83c : F w 83 = wt + J := s3.2.1.2.2.2.2.2.2.2.2.2.1
  have e32c : F w 32 = n2 := s3.2.1.2.2.1
  have row : ∀ r i, r ∈ [79, 80, 81, 82] → A w r i = A v r i := fun r i hr => by
    have : ∀ r, r ∈ [79, 80, 81, 82] → r ∉ [23, 24, 25, 26, 27, 28, 29, 30, 31, 60] := by decide
    rw [fr3.1.A (this r hr), a2]
  refine k_at (k := 81) (n := 3000) rfl (by decide) (by omega) ?_
  rw [tn_F, e83c, I_A' ((row 81 _ (by decide)).trans hNn)]
  refine k_in (k := 25) (n := 16000) rfl (by decide) (by omega) (ok_lt.mpr ?_)
  rw [I_tn (x := ((Nn : Nat) : Int)) (by omega) (by omega), Int.toNat_natCast, I_F' e32c, wa_e]
  have nod : ∀ r i, r ∈ [23, 24, 26, 27, 28, 29, 30, 31] → (i : Nat) < n1 → A (wa w 25 Nn n2) r i = A v r i := fun r i hr hi => by
    have : ∀ r, r ∈ [23, 24, 26, 27, 28, 29, 30, 31] → r ≠ 25 ∧ r ∈ [23, 24, 25, 26, 27, 28, 29, 30, 31] := by decide
    rw [wa_rne (this r hr).1, fr3.2 r i (this r hr).2 (by omega), a2]
  have e83d : F (wa w 25 Nn n2) 83 = wt + J := e83c
  refine k_at (k := 81) (n := 3000) rfl (by decide) (by omega) (ok_lt.mpr ?_)
  rw [tn_F, e83d, I_A' (show A (wa w 25 Nn n2) 81 (wt + J).toNat = ((Nn : Nat) : Int) by rw [wa_rne (by decide)]; exact (row 81 _ (by decide)).trans hNn)]
  unfold fb_M_reduce_255
  have f66 : F w 66 = F v 66 := (fr3.1.F (by decide)).trans (f2 66 (by decide))
  have f72 : F w 72 = F v 72 := (fr3.1.F (by decide)).trans (f2 72 (by decide))
  have b23 : A (wa w 25 Nn n2) 23 Nn = 9 ∨ A (wa w 25 Nn n2) 23 Nn = 10 := by
    rw [nod 23 Nn (by decide) (by omega)]; exact en1.2.2.1
  have s4 : ST u0 σ p1 o1 n2 q1' c1 f1 h1 s (wt + J) g (wa w 25 Nn n2) := ST_wa25 s3 (by rw [wa_rne (by decide)] at b23; omega)
  refine hG (wa w 25 Nn n2) Nn n2 ⟨⟨s4, f3, KPR_wn k3 (by decide) (by omega), hp, by unfold WKN at wn ⊢; omega, fun i hi => WEN_tr (en i (by omega)) (fun r hr => ?_) (fun r j hr hj => ?_) (by show F v 32 ≤ F w 32; omega) (fun z => by rw [← f66]; exact z) hn0, ?_, fun z => ?_⟩, ⟨by omega, by omega, ?_, ?_⟩, fun z1 z2 z3 => ?_⟩
  · have : ∀ r, r ∈ [79, 80, 81, 82] → r ≠ 25 := by decide
    rw [wa_rne (this r hr)]; exact row r _ hr
  · have : ∀ r, r ∈ [23, 28, 29] → r ∈ [23, 24, 26, 27, 28, 29, 30, 31] := by decide
    exact nod r j (this r hr) (by omega)
  · rw [o1e]; congr 1
    exact (c7_tr J (fun i _ => by rw [wa_rne (by decide)]; exact row 79 i (by decide)) hw0.1).symm
  · rw [wa_rne (by decide)]; exact l3 z
  · exact RTD_mo 0 _ _ ⟨by omega, by rw [nod 28 Nn (by decide) (by omega)]; exact en1.2.2.2.1⟩ (Nat.zero_le _)
  · rw [nod 29 Nn (by decide) (by omega)]; exact en1.2.2.2.2
  · obtain ⟨M, m, ps, t1, t2, t3, t4⟩ := ty (by rw [← f72]; exact z1) (by rw [← f66]; exact z2) z3
    obtain ⟨M0, m0, ps0, g1, g2, g3⟩ := t1
    rcases g3 with ⟨g4, -⟩ | ⟨g4, -⟩ | ⟨-, g5, g6, M1, g7, g8, g9, g10⟩
    · omega
    · omega
    · have hN1 : M1 0 = Nn := by omega
      have tx : TYM SN σ g (o - 1) (p1 - ps + 1) x M m 0 1 (fun i => i = e) := TYM_tr t4 tr2 m2 (by unfold nmo; rw [a2])
      have x2 : 2 ≤ p1 - ps + 1 := by
        obtain ⟨mm, X, Y, s1, -, -, s5, -⟩ := tx
        have := s1.1.2.2.2.2.2.2.2.1
        omega
      obtain ⟨tw, nw⟩ := ty3 M m (o - 1) (p1 - ps + 1) (fun i => i = e) g6 x2 tx
      have tr4 : ∀ M', (∀ i, M' i ≤ M i) → TRN σ wt J v w M' := fun M' hM => TRN_tr (TRN_le tr2 (fun i => Nat.le_trans (hM i) (t2 i)) (Nat.le_refl _)) (tr3 J M' wt (fun i => by rw [m2]; exact Nat.le_trans (hM i) (t2 i)) e83b)
      have hM10 : ∀ i, M1 i ≤ M i := g8.2.2.2.2
      have hM01 : ∀ i, M0 i ≤ M1 i := by
        obtain ⟨mm, X, Y, s1, -⟩ := g7
        exact s1.1.1
      have m01 := hM01 0
      obtain ⟨mm, X, Y, q1, q2, q3, q4, q5⟩ := tw
      rw [nw] at q1
      have q1b := SEQ_wn (r := 25) (i := Nn) (y := n2) q1 (by decide) (Or.inl (by have := g8.2.1; omega))
      have r9 : A (wa w 25 Nn n2) 29 e = -1 := by rw [nod 29 e (by decide) (by have := rt.2.1; omega)]; exact rt.2.2.2
      have kn : KND (wa w 25 Nn n2) Nn 9 ∨ KND (wa w 25 Nn n2) Nn 10 := by
        have tr : ∀ k, KND v (M1 0) k → KND (wa w 25 Nn n2) Nn k := fun k hk => by
          rw [hN1] at hk
          exact KND_eq hk (fun r hr => nod r Nn (by have : ∀ r, r ∈ [23, 24, 28, 29] → r ∈ [23, 24, 26, 27, 28, 29, 30, 31] := by decide
                                                    exact this r hr) (by omega))
        exact g10.imp (tr 9) (tr 10)
      have mk9 : mks (wa w 25 Nn n2) = mks w := rfl
      have an : SEQ (wa w 25 Nn n2) SN (gq g) M1 (mks w) 1 1 m m m mm X Y (hlo σ w) (fun i => i = Nn) := by
        have inner := SEQ_ro (R2 := fun _ => False) q1b (fun i hi => hi.elim) (fun i hi => Or.inr (by rw [hi]; exact r9))
        have ha : M 0 = Nn + 1 ∧ M 1 = M1 1 ∧ M 3 = M1 3 ∧ ∀ i, M1 i ≤ M i := ⟨by have := g8.2.1; omega, g8.2.2.1, g8.2.2.2.1, hM10⟩
        have h25 : A (wa w 25 Nn n2) 25 Nn = ((mks w 0 : Nat) : Int) := by
          rw [wa_eq ⟨by omega, by omega⟩]; show n2 = (((F w 32).toNat : Nat) : Int); omega
        rcases kn with kn | kn
        · exact SEQ_andor (Or.inl rfl) hN1 ha kn h25 inner
        · exact SEQ_andor (Or.inr rfl) hN1 ha kn h25 inner
      have ta : TYM SN σ g (o - 1) (p1 - ps + 1) (wa w 25 Nn n2) M1 m 1 1 (fun i => i = Nn) := by
        refine ⟨mm, X, Y, ?_, q2, ?_, q4, q5⟩
        · rw [mk9, show nmo σ (wa w 25 Nn n2) = m by unfold nmo at nw ⊢; rw [wa_rne (by decide)]; exact nw, show hlo σ (wa w 25 Nn n2) = hlo σ w by unfold hlo; rw [wa_rne (by decide)]]
          exact an
        · rw [wa_rne (by decide)]; exact q3
      have pw : PCE SN σ g (o - 1) (ps - ps0) (wa w 25 Nn n2) M0 M1 m0 m := PCE_tr (PCE_tr g7 (tr4 M1 hM10)) (TRN_wn (wt := wt) (J := J) (r := 25) (y := n2) (by decide) (by omega))
      refine ⟨M0, m0, ps0, STK_tr J M0 m0 ps0 (STK_tr J M0 m0 ps0 g1 hw0.1 (tr4 M0 g2)) hw0.1 (TRN_wn (r := 25) (y := n2) (by decide) (by omega)), fun i => ?_, by omega, PCE_app (e := 0) pw ta rfl (by omega) (by omega)⟩
      have h1 := q1.1.1 i
      exact Nat.le_trans (g2 i) h1
end
end
section
def TYA (TN SN σ : Nat) (g o wt p p1 : Int) (u v : MS) (J : Nat) : Prop := F v 72 = 0 → F v 66 = 0 → TN ≤ 1500 → ∃ ps : Int, STK SN σ g (o - 1) wt p u v J (mks v) (nmo σ v) ps ∧ ps ≤ p1
def WKA (u0 : MS) (TN SN σ : Nat) (bw : Nat → Nat) (p o n q c f h s wt g : Int) (u v : MS) (p1 o1 n1 q1 c1 f1 h1 : Int) (J : Nat) : Prop := WKB u0 TN σ bw 0 0 p o n q c f h s wt g u v p1 o1 n1 q1 c1 f1 h1 J ∧ TYA TN SN σ g o wt p p1 u v J
section
variable {u0 u v v1 w x : MS} {N σ TN SN e q0 q1 q2 q3 : Nat} {bw : Nat → Nat} {p o n q c f h s wt g lv xb xb1 xb2 k t D d y z l p1 o1 n1 q1' c1 f1 h1 κ : Int} {r y1 y2 y3 : Int32} {R R1 R2 : Nat → Prop} {M M0 M1 : Nat → Nat} {m m0 J b : Nat} {S : SG_M_behind} {G : (MS → Int32 → Int32 → Int32 → Option (MS × Int32)) × (MS → Int32 → Option (MS × Int32))}
def UB (σ : Nat) (n wt : Int) (u : MS) : Prop := F u 32 = n ∧ F u 83 = wt ∧ 0 ≤ A u 60 σ
theorem red_loop (tk : TKW u0 TN SN bw) (hm : NM TN bw 0 1 0 σ p o n q c f h s wt) (hu : UB σ n wt u) (hl : RG l) : ∀ (i J : Nat) (v : MS) (e : Nat) (o1 n1 : Int), WKC u0 TN SN σ bw p o n q c f h s wt g u v p1 o1 n1 q1' c1 f1 h1 J e → J + 2 ≤ i → OK (fun w r => ∃ (J2 e2 : Nat) (o2 n2 : Int), r = I (e2 : Int) ∧ WKC u0 TN SN σ bw p o n q c f h s wt g u w p1 o2 n2 q1' c1 f1 h1 J2 e2 ∧ (l = 0 → J2 = 0)) (gg_M_reduce N i v (I wt) (I l) (I (e : Int)) 1) := by
  have hT := tk.1.1
  have fs := NM_fs hm (by omega)
  intro i
  induction i with
  | zero => intro J v e o1 n1 _ z; omega
  | succ i ih =>
    intro J v e o1 n1 hw hi
    have hmn : n ≤ 3 * p ∧ 0 ≤ wt ∧ 0 ≤ o := by unfold NM at hm; omega
    have e83 : F v 83 = wt + J := hw.1.1.2.1.2.2.2.2.2.2.2.2.2.1
    have wnb : n1 ≤ 12000 ∧ 2 * (wt + J) + 1 ≤ p1 + 2 * o1 ∧ o1 ≤ 25 ∧ p1 ≤ TN := by
      have w1 := hw.1.2.2.2.2.1
      have w2 := hw.1.2.2.2.1
      unfold WKN at w1
      omega
    show OK _ (fb_M_reduce_6 N (gg_M_reduce N i) v (I wt) (I l) (I (e : Int)) 1)
    unfold fb_M_reduce_6 fb_M_reduce_258
    rw [br10, I_F' e83]
    refine k_le ⟨by omega, by omega⟩ ⟨by omega, by omega⟩ (fun z => ok_some.mpr ⟨J, e, o1, n1, rfl, hw, fun _ => by omega⟩) (fun z => ?_)
    obtain ⟨J', rfl⟩ : ∃ J', J = J' + 1 := ⟨J - 1, by omega⟩
    rw [lit1q, I_sub, show wt + ((J' + 1 : Nat) : Int) - 1 = wt + J' from by omega]
    refine k_in (k := 79) (n := 3000) rfl (by decide) (by omega) (ok_lt.mpr ?_)
    rw [I_tn (by omega) (by omega), I_A (w := v) (k := 79)]
    have en := hw.1.2.2.2.2.2.1 J' (by omega)
    obtain ⟨L, hL⟩ : ∃ L, A v 79 (wt + J').toNat = L := ⟨_, rfl⟩
    rw [hL]
    have hLr : 1 ≤ L ∧ L ≤ 7 := by
      rcases en with a | ⟨a, -⟩ | ⟨a, -⟩
      · omega
      · omega
      · omega
    have pop : OK (fun w r => ∃ (J2 e2 : Nat) (o2 n2 : Int), r = I (e2 : Int) ∧ WKC u0 TN SN σ bw p o n q c f h s wt g u w p1 o2 n2 q1' c1 f1 h1 J2 e2 ∧ (l = 0 → J2 = 0)) (fb_M_reduce_56 N (gg_M_reduce N i) v (I wt) (I l) (I (e : Int)) (I L)) := by
      unfold fb_M_reduce_56
      rcases en with a | ⟨a, -⟩ | ⟨a, -⟩
      · have : L = 7 := by omega
        subst this
        exact red_7 hT (by omega) (by omega) ⟨hu.1, hu.2.1⟩ hw hL (by omega) (fun w e2 h2 => ih J' w e2 _ _ h2 (by omega))
      · exact red_and hT (by omega) (by omega) (by omega) hu hw ⟨hL, by omega⟩ (by omega) (fun w e2 n2 h2 => ih J' w e2 _ _ h2 (by omega))
      · exact red_op tk (by omega) (by omega) ⟨hu.1, hu.2.1⟩ hw ⟨hL, by omega, by omega⟩ (by omega) (fun w e2 h2 => ih J' w e2 _ _ h2 (by omega))
    have stop : l ≠ 0 → OK (fun w r => ∃ (J2 e2 : Nat) (o2 n2 : Int), r = I (e2 : Int) ∧ WKC u0 TN SN σ bw p o n q c f h s wt g u w p1 o2 n2 q1' c1 f1 h1 J2 e2 ∧ (l = 0 → J2 = 0)) (fb_M_reduce_60 N (gg_M_reduce N i) v (I wt) (I l) (I (e : Int)) (I L)) := fun hl0 => by
      unfold fb_M_reduce_60 fb_M_reduce_61 fb_M_reduce_255
      rw [br00]
      obtain ⟨i', rfl⟩ : ∃ i', i = i' + 1 := ⟨i - 1, by omega⟩
      show OK _ (fb_M_reduce_6 N (gg_M_reduce N i') v (I wt) (I l) (I (e : Int)) 0)
      unfold fb_M_reduce_6 fb_M_reduce_258
      rw [br00]
      exact ok_some.mpr ⟨J' + 1, e, o1, n1, rfl, hw, fun y => absurd y hl0⟩
    refine k_lt hl ⟨by omega, by omega⟩ (fun _ => pop) (fun h1 => ?_)
    rw [show (3 : Int32) = I 3 from rfl, show (4 : Int32) = I 4 from rfl]
    refine k_eq ⟨by omega, by omega⟩ hl (fun _ => ?_) (fun _ => stop (by omega))
    refine k_eq ⟨by omega, by omega⟩ ⟨by decide, by decide⟩ (fun _ => stop (by omega)) (fun _ => ?_)
    exact k_eq ⟨by omega, by omega⟩ ⟨by decide, by decide⟩ (fun _ => stop (by omega)) (fun _ => pop)
theorem WKC_end (hm : NM TN bw 0 1 0 σ p o n q c f h s wt) (ho : 1 ≤ o) (hw : WKC u0 TN SN σ bw p o n q c f h s wt g u v p1 o1 n1 q1' c1 f1 h1 0 e) : EXQ u0 TN SN bw σ (o - 1) p o n q c f h s wt g u v (I (e : Int)) := by
  obtain ⟨⟨s0, f0, k0, hp, wn, en, hoo, l0⟩, rt, ty⟩ := hw
  have o1e : o1 = o := by rw [hoo]; show o + 0 = o; omega
  subst o1e
  have s1 : ST u0 σ p1 o1 n1 q1' c1 f1 h1 s wt g v := by
    have := s0
    rw [show wt + ((0 : Nat) : Int) = wt by omega] at this
    exact this
  refine ⟨f0, p1, n1, q1', c1, f1, h1, e, rfl, s1, k0, hp, ?_, ⟨rt.1, rt.2.1, ?_, rt.2.2.2⟩, l0, fun z1 z2 z3 => ?_⟩
  · unfold WKN at wn
    unfold DLT
    omega
  · have := rt.2.2.1
    rw [show (27 - o1).toNat = (26 - (o1 - 1)).toNat by omega] at this
    exact this
  · obtain ⟨M, m, ps, ⟨rfl, rfl, rfl⟩, -, -, t4⟩ := ty z1 z2 z3
    exact t4
def WRQ (u0 : MS) (TN SN : Nat) (bw : Nat → Nat) (σ : Nat) (D p o n q c f h s wt g : Int) (u v : MS) (r : Int32) : Prop := EXQ u0 TN SN bw σ (o - 1) p o n q c f h s wt g u v r ∨ (FSM u0 TN σ D v ∧ r = -1)
theorem work334_F (hf : FSM u0 TN σ D v) : OK (WRQ u0 TN SN bw σ D p o n q c f h s wt g u) (fb_M_worked_334 N S G v y1 y2) := by
  unfold fb_M_worked_334
  exact k_F (y := 0) rfl ⟨by decide, by decide⟩ (fun z => absurd z hf.2.1) (fun _ => ok_some.mpr (Or.inr ⟨hf, rfl⟩))
theorem work334_N (tk : TKW u0 TN SN bw) (hN : 20000 ≤ N) (ho : 1 ≤ o) (hm : NM TN bw 0 1 0 σ p o n q c f h s wt) (hu : UB σ n wt u) (hw : WKC u0 TN SN σ bw p o n q c f h s wt g u v p1 o1 n1 q1' c1 f1 h1 J e) : OK (WRQ u0 TN SN bw σ D p o n q c f h s wt g u) (fb_M_worked_334 N S G v (I wt) (I (e : Int))) := by
  unfold fb_M_worked_334
  have J0 : J ≤ 4000 := by
    have w1 := hw.1.2.2.2.2.1
    have w2 := hw.1.2.2.2.1
    have := tk.1.1
    have hmn : 0 ≤ wt := by unfold NM at hm; omega
    unfold WKN at w1
    omega
  refine k_F (y := 0) rfl ⟨by decide, by decide⟩ (fun _ => ?_) (fun z => absurd hw.1.2.1 z)
  unfold fm_M_reduce fb_M_reduce_0
  rw [lit0q]
  refine ok_bnd.mpr (ok_mono (red_loop tk hm hu ⟨by decide, by decide⟩ N J v e o1 n1 hw (by omega)) (fun w r hr => ?_))
  obtain ⟨J2, e2, o2, n2, hr2, h2, h3⟩ := hr
  have := h3 rfl
  subst this
  rw [hr2]
  exact ok_some.mpr (Or.inl (WKC_end hm ho h2))
def LP1 (N : Nat) (S : SG_M_behind) (u0 : MS) (TN SN : Nat) (bw : Nat → Nat) (σ : Nat) (D p o n q c f h s wt g : Int) (u : MS) (i : Nat) : Prop := (∀ (v : MS) (r : Int32) (p1 o1 n1 q1 c1 f1 h1 : Int) (J : Nat), WKA u0 TN SN σ bw p o n q c f h s wt g u v p1 o1 n1 q1 c1 f1 h1 J → 3 * (4001 - p1) + 2 ≤ i → OK (WRQ u0 TN SN bw σ D p o n q c f h s wt g u) ((gg_M_worked N S i).1 v (I wt) r 1)) ∧ (∀ (v : MS) (p1 o1 n1 q1 c1 f1 h1 : Int) (J : Nat), WKA u0 TN SN σ bw p o n q c f h s wt g u v p1 o1 n1 q1 c1 f1 h1 J → 3 * (4001 - p1) + 1 ≤ i → OK (WRQ u0 TN SN bw σ D p o n q c f h s wt g u) ((gg_M_worked N S i).2 v (I wt)))
theorem head_F {i : Nat} (hf : FSM u0 TN σ D v) : OK (WRQ u0 TN SN bw σ D p o n q c f h s wt g u) ((gg_M_worked N S (i + 1)).1 v y1 y2 y3) := by
  show OK _ (fb_M_worked_9 N S (gg_M_worked N S i) v y1 y2 y3)
  unfold fb_M_worked_9
  exact ok_br.mpr ⟨fun _ => work334_F hf, fun _ => k_F (y := 0) rfl ⟨by decide, by decide⟩ (fun z => absurd z hf.2.1) (fun _ => work334_F hf)⟩
theorem WKB_nm (tk : TKW u0 TN SN bw) (hm : NM TN bw 0 1 0 σ p o n q c f h s wt) (hw : WKB u0 TN σ bw κ b p o n q c f h s wt g u v p1 o1 n1 q1' c1 f1 h1 J) (hk : 0 ≤ κ) : NM TN bw 0 1 0 σ p1 o1 n1 q1' c1 f1 h1 s (wt + J) := by
  obtain ⟨s0, f0, k0, hp, wn, en, hoo, l0⟩ := hw
  have p0 : 0 ≤ p1 := by unfold NM at hm; unfold WKN at wn; omega
  have := bw_top tk (i := p1.toNat) (by omega)
  unfold NM at hm ⊢
  unfold WKN at wn
  omega
theorem WKA_prim (tk : TKW u0 TN SN bw) (hm : NM TN bw 0 1 0 σ p o n q c f h s wt) (hw : WKA u0 TN SN σ bw p o n q c f h s wt g u v p1 o1 n1 q1' c1 f1 h1 J) (hr : EXQ u0 TN SN bw σ (o1 - 1) p1 o1 n1 q1' c1 f1 h1 s (wt + J) g v w r) : ∃ (e : Nat) (p2 n2 q2 c2 f2 h2 : Int), r = I (e : Int) ∧ p1 < p2 ∧ WKC u0 TN SN σ bw p o n q c f h s wt g u w p2 o1 n2 q2 c2 f2 h2 J e := by
  obtain ⟨⟨s0, f0, k0, hp, wn, en, hoo, l0⟩, ty⟩ := hw
  obtain ⟨b0, p2, n2, q2, c2, f2, h2, e, b1, b2, b3, b4, b5, b6, b7, b8⟩ := hr
  have e83 : F v 83 = wt + J := s0.2.1.2.2.2.2.2.2.2.2.2.1
  have hw0 : 0 ≤ wt ∧ 0 ≤ n ∧ 0 ≤ o := by unfold NM at hm; omega
  have wnb : o ≤ o1 ∧ n ≤ n1 := by unfold WKN at wn; omega
  have row : ∀ r i, r ∈ [79, 80, 81, 82] → (i : Nat) < wt + J → A w r i = A v r i := fun r i hr hi => b3.2.2.2.1.2.2 r i hr (by omega)
  refine ⟨e, p2, n2, q2, c2, f2, h2, b1, by unfold DLT at b5; omega, ⟨b2, b0, KPR_tr k0 b3, b4, ?_, fun i hi => WEN_tr (en i hi) (fun r hr => row r _ hr (by omega)) (fun r j hr hj => ?_) b3.2.2.2.2.1.1 b3.2.2.2.2.2.2 hw0.2.1, ?_, b7⟩, ⟨by omega, b6.2.1, ?_, b6.2.2.2⟩, fun z1 z2 z3 => ?_⟩
  · unfold DLT at b5
    unfold WKN at wn ⊢
    omega
  · have : ∀ r, r ∈ [23, 28, 29] → r ∈ [23, 24, 25, 26, 27, 28, 29, 30, 31] := by decide
    exact b3.2.1.1 r j (this r hr) hj
  · rw [hoo]; congr 1
    exact (c7_tr J (fun i hi => row 79 i (by decide) hi) hw0.1).symm
  · exact RTD_mo _ _ _ (RTD_dn (by omega) _ _ b6.2.2.1) (by omega)
  · obtain ⟨ps, t1, t2⟩ := ty (b3.2.2.2.2.2.1 z1) (b3.2.2.2.2.2.2 z2) z3
    have sz := (b8 z1 z2 z3)
    refine ⟨mks v, nmo σ v, ps, STK_tr J _ _ ps t1 hw0.1 (TRN_kp b3 (fun i => Nat.le_refl _) e83), ?_, by unfold DLT at b5; omega, TYM_mo (TYM_of b8 z1 z2 z3) (by omega) (by omega)⟩
    obtain ⟨mm, X, Y, s1, -⟩ := sz
    exact s1.1.1
end
end
section
section
variable {u0 u v v1 w x : MS} {N σ TN SN e q0 q1 q2 q3 : Nat} {bw : Nat → Nat} {p o n q c f h s wt g lv xb xb1 xb2 k t D d y z l p1 o1 o2 n1 n2 q1' c1 f1 h1 κ : Int} {r y1 y2 y3 : Int32} {R R1 R2 : Nat → Prop} {M M0 M1 : Nat → Nat} {m m0 J i b : Nat} {S : SG_M_behind}
theorem work292_F (hT : TN ≤ 4000) (hf : FSM u0 TN σ D v) (h83 : 0 ≤ F v 83 ∧ F v 83 < 3000) (hp : F v 69 ≤ TN) : OK (WRQ u0 TN SN bw σ D p o n q c f h s wt g u) (fb_M_worked_292 N S (gg_M_worked N S (i + 1)) v y1 y2 y3) := by
  unfold fb_M_worked_292 fb_M_worked_331
  refine ok_lt.mpr (ok_lt.mpr ?_)
  have hp0 := hf.2.2.1
  rw [I_F (w := v) (k := 83), lit1q, I_add, wi_e]
  rw [← lit1q, nx1_e]
  have s1 : FSM u0 TN σ D (nx1 (wi v 83 (F v 83 + 1))) := by
    unfold nx1
    exact FSM_69 (FSM_wi hf (by decide)) (by rw [wi_ne (by decide)]; omega) hT
  exact k_F (y := 0) rfl ⟨by decide, by decide⟩ (fun z => absurd z s1.2.1) (fun _ => head_F s1)
theorem work269_F {y4 : Int32} (hT : TN ≤ 4000) (hf : FSM u0 TN σ D v) (h83 : 0 ≤ F v 83 ∧ F v 83 < 3000) (hp : F v 69 ≤ TN) (h71 : 0 ≤ F v 71 ∧ F v 71 < 4002) : OK (WRQ u0 TN SN bw σ D p o n q c f h s wt g u) (fb_M_worked_269 N S (gg_M_worked N S (i + 1)) v y1 y2 y3 y4) := by
  unfold fb_M_worked_269
  have hp0 := hf.2.2.1
  refine ok_br.mpr ⟨fun _ => work292_F hT hf h83 hp, fun _ => ok_br.mpr ⟨fun _ => ?_, fun _ => work292_F hT hf h83 hp⟩⟩
  refine k_rule (s := 7) (t := F v 69) rfl ⟨by decide, by decide⟩ (by decide) I_F (by omega) h71 (fun v1 h1 h2 h3 => ?_)
  exact work292_F hT (FSM_rule hf h1 h3) (by rw [h1.F (by decide)]; exact h83) (by rw [h1.F (by decide)]; exact hp)
theorem work189_F {l : Int} (hT : TN ≤ 4000) (hσ : σ ≤ 26) (hD : D ≤ 3000) (hf : FSM u0 TN σ D v) (h83 : 0 ≤ F v 83 ∧ F v 83 < 3000) (hp : F v 69 ≤ TN) (h71 : 0 ≤ F v 71 ∧ F v 71 < 4002) (hl : RG l) : OK (WRQ u0 TN SN bw σ (D + 1) p o n q c f h s wt g u) (fb_M_worked_189 N S (gg_M_worked N S (i + 1)) v y1 y2 y3 (I l)) := by
  unfold fb_M_worked_189
  have hp0 := hf.2.2.1
  refine k_at (k := 79) (n := 3000) rfl (by decide) h83 (ok_lt.mpr ?_)
  rw [I_of (vp_nar .byte _), wa_e]
  generalize (vp_nar .byte ((I l).toInt8.toInt32)).toInt = b1
  have sA : FSM u0 TN σ D (wa v 79 (v.1 83).toNatClampNeg b1) := FSM_wa hf (by decide)
  have cA : F (wa v 79 (v.1 83).toNatClampNeg b1) 83 = F v 83 ∧ F (wa v 79 (v.1 83).toNatClampNeg b1) 69 = F v 69 ∧ F (wa v 79 (v.1 83).toNatClampNeg b1) 71 = F v 71 := ⟨F_wa, F_wa, F_wa⟩
  generalize wa v 79 (v.1 83).toNatClampNeg b1 = xA at *
  refine k_at (k := 80) (n := 3000) rfl (by decide) (by omega) (ok_lt.mpr ?_)
  rw [I_of (vp_nar .short _), wa_e]
  generalize (vp_nar .short ((xA.1 69).toInt16.toInt32)).toInt = b2
  have s1 : FSM u0 TN σ D (wa xA 80 (xA.1 83).toNatClampNeg b2) := FSM_wa sA (by decide)
  have b83 : F (wa xA 80 (xA.1 83).toNatClampNeg b2) 83 = F v 83 := F_wa.trans cA.1
  have b69 : F (wa xA 80 (xA.1 83).toNatClampNeg b2) 69 = F v 69 := F_wa.trans cA.2.1
  have b71 : F (wa xA 80 (xA.1 83).toNatClampNeg b2) 71 = F v 71 := F_wa.trans cA.2.2
  generalize wa xA 80 (xA.1 83).toNatClampNeg b2 = x at *
  have n0 := s1.2.2.2.2.1
  have e65 : F x 65 = σ := s1.2.2.2.1
  have up : ∀ z, OK (WRQ u0 TN SN bw σ D p o n q c f h s wt g u) z → OK (WRQ u0 TN SN bw σ (D + 1) p o n q c f h s wt g u) z := fun z hz => ok_mono hz (fun _ _ y => y.imp id (fun y => ⟨FSM_mo y.1 (by omega), y.2⟩))
  have t243 : ∀ (t3 : Int32) (k : Int), vp_nar .byte (t3.toInt8.toInt32) = I k → 0 ≤ k ∧ k ≤ 31 → OK (WRQ u0 TN SN bw σ (D + 1) p o n q c f h s wt g u) (fb_M_worked_243 N S (gg_M_worked N S (i + 1)) x y1 y2 y3 (I l) 81 (x.1 83) t3) := fun t3 k h1 h2 => by
    unfold fb_M_worked_243
    refine k_node h1 h2 I_F (by omega) (by omega) (fun v7 hv7 => ?_)
    rw [show isK 81 4 = true by decide, ck_t]
    refine k_at (k := 81) (n := 3000) rfl (by decide) (by omega) (ok_lt.mpr ?_)
    rw [wa_e]
    have s7 : FSM u0 TN σ (D + 1) (wa v7 81 (x.1 83).toNatClampNeg (F x 32)) := FSM_wa (FSM_nd s1 hv7.1) (by decide)
    have c83 : F (wa v7 81 (x.1 83).toNatClampNeg (F x 32)) 83 = F v 83 := F_wa.trans ((hv7.1.1.F (by decide)).trans b83)
    have c69 : F (wa v7 81 (x.1 83).toNatClampNeg (F x 32)) 69 = F v 69 := F_wa.trans ((hv7.1.1.F (by decide)).trans b69)
    have c71 : F (wa v7 81 (x.1 83).toNatClampNeg (F x 32)) 71 = F v 71 := F_wa.trans ((hv7.1.1.F (by decide)).trans b71)
    generalize wa v7 81 (x.1 83).toNatClampNeg (F x 32) = x8 at *
    refine k_65 rfl s7.2.2.2.1 hσ (k_at (k := 82) (n := 3000) rfl (by decide) (by omega) (ok_lt.mpr ?_))
    rw [I_A (w := x8) (k := 60), wa_e]
    exact work269_F hT (FSM_wa s7 (by decide)) (by rw [F_wa]; omega) (by rw [F_wa]; omega) (by rw [F_wa]; omega)
  rw [show (3 : Int32) = I 3 from rfl, lit1q]
  refine k_le ⟨by decide, by decide⟩ hl (fun _ => up _ (work269_F hT s1 (by omega) (by omega) (by omega))) (fun _ => ?_)
  exact k_eq hl ⟨by decide, by decide⟩ (fun _ => t243 10 10 rfl (by decide)) (fun _ => t243 9 9 rfl (by decide))
theorem push_B (hw0 : 0 ≤ wt ∧ 0 ≤ n) (hw : WKB u0 TN σ bw κ b p o n q c f h s wt g u v p1 o1 n1 q1' c1 f1 h1 J) (hp1 : p1 < TN) (sw : ST u0 σ (p1 + 1) o2 n2 q1' c1 f1 h1 s (wt + (J + 1 : Nat)) g w) (f67 : F w 67 = 0) (kw : KPR σ u w) (wn : WKN bw 0 0 p o n q c f h wt (p1 + 1) o2 n2 q1' c1 f1 h1 (J + 1)) (rows : ∀ r i, r ∈ [79, 80, 81, 82] → (i : Nat) < wt + J → A w r i = A v r i) (nod : ∀ (r j : Nat), r ∈ [23, 28, 29] → (j : Int) < F v 32 → A w r j = A v r j) (h32 : F v 32 ≤ F w 32) (h66 : F w 66 = F v 66) (top : WEN u0 TN σ n u w (wt + J).toNat) (hc : o2 = o1 + (if A w 79 (wt + J).toNat = 7 then 1 else 0)) (hl : A w 60 σ = A v 60 σ) : WKB u0 TN σ bw 0 0 p o n q c f h s wt g u w (p1 + 1) o2 n2 q1' c1 f1 h1 (J + 1) := by
  obtain ⟨s0, f0, k0, hp, wn0, en, hoo, l0⟩ := hw
  refine ⟨sw, f67, kw, by omega, wn, fun i hi => ?_, ?_, fun z => by rw [hl]; exact l0 (by rw [← h66]; exact z)⟩
  · by_cases z : i = J
    · rw [z]; exact top
    · exact WEN_tr (en i (by omega)) (fun r hr => rows r _ hr (by omega)) nod h32 (fun z => by rw [← h66]; exact z) hw0.2
  · show o2 = o + (c7 w wt J + (if A w 79 (wt + J).toNat = 7 then 1 else 0))
    rw [hc, c7_tr J (fun i hi => rows 79 i (by decide) hi) hw0.1, hoo]
    omega
theorem k_begins2 {fn : MS → Option (MS × Int32)} {Q : MS → Int32 → Prop} (hp : 0 ≤ F u 69 ∧ F u 69 ≤ 4001) (a : OK Q (fn u)) (b : ∀ v, FR [67, 68] [] [] [] u v → F v 67 ≠ 0 → OK Q (fn v)) : OK Q (bnd (fm_M_beginsUnit N u) (fun u1 r1 => br (decide (r1 = 0)) (bnd (fm_M_wrong N u1 2) (fun u2 _ => fn u2)) (fn u1))) :=
  k_begins hp a (k_wrong (s := 2) rfl ⟨by decide, by decide⟩ (by decide) hp b)
theorem TRN_fr {is : List Nat} (a : FR is [] [79, 80, 81, 82] [] v w) (h14 : 14 ∉ is) (rows : ∀ r i, r ∈ [79, 80, 81, 82] → (i : Nat) < wt + J → A w r i = A v r i) : TRN σ wt J v w M := by
  have m1 : ∀ r, r ∈ [23, 24, 25, 26, 27, 28, 29, 30, 31] → r ∉ [79, 80, 81, 82] := by decide
  have m2 : ∀ r, r ∈ [40, 41, 42, 43, 45] → r ∉ [79, 80, 81, 82] := by decide
  have m3 : ∀ r, r ∈ [33, 35, 36, 37, 38] → r ∉ [79, 80, 81, 82] := by decide
  have m4 : ∀ r, r ∈ [53, 54, 55] → r ∉ [79, 80, 81, 82] := by decide
  refine ⟨a.F h14, ⟨fun r i hr _ => a.A (m1 r hr), fun r i hr _ => a.A (m2 r hr), fun r i hr _ => a.A (m3 r hr), fun r i hr _ => a.A (m4 r hr), fun i _ => a.A (by decide)⟩, ⟨?_, ?_⟩, rows⟩
  · unfold hlo; rw [a.A (by decide)]; exact Nat.le_refl _
  · rw [a.A (by decide)]; exact Int.le_refl _
theorem work45_N (tk : TKW u0 TN SN bw) (hD : 0 ≤ D) (hm : NM TN bw 0 1 0 σ p o n q c f h s wt) (hu : UB σ n wt u) (hw : WKA u0 TN SN σ bw p o n q c f h s wt g u v p1 o1 n1 q1' c1 f1 h1 J) (hp1 : p1 < TN) (hG : ∀ w, WKA u0 TN SN σ bw p o n q c f h s wt g u w (p1 + 1) (o1 + 1) n1 q1' c1 f1 h1 (J + 1) → OK (WRQ u0 TN SN bw σ D p o n q c f h s wt g u) ((gg_M_worked N S (i + 1)).2 w (I wt))) (hF : ∀ w, FSM u0 TN σ D w → OK (WRQ u0 TN SN bw σ D p o n q c f h s wt g u) ((gg_M_worked N S (i + 1)).2 w (I wt))) : OK (WRQ u0 TN SN bw σ D p o n q c f h s wt g u) (fb_M_worked_45 N S (gg_M_worked N S (i + 1)) v (I wt)) := by
  have hT := tk.1.1
  obtain ⟨hwb, ty⟩ := hw
  have nm1 := WKB_nm tk hm hwb (by omega)
  have fs1 := NM_fs nm1 (by omega)
  obtain ⟨s0, f0, k0, hp, wn, en, hoo, l0⟩ := id hwb
  have e83 : F v 83 = wt + J := s0.2.1.2.2.2.2.2.2.2.2.2.1
  have e69 : F v 69 = p1 := s0.2.1.1
  have hw0 : 0 ≤ wt ∧ 0 ≤ n := by unfold NM at hm; omega
  have wb : wt + J ≤ 2100 ∧ 0 ≤ o1 ∧ o1 ≤ 25 := by unfold NM at nm1; omega
  have bws := bw_mono tk (i := p1.toNat) (m := (p1 + 1).toNat) (by omega) (by omega)
  obtain ⟨ix, hix⟩ : ∃ ix : Nat, wt + J = ix := ⟨(wt + J).toNat, by omega⟩
  unfold fb_M_worked_45 fb_M_worked_102
  refine k_at (k := 79) (n := 3000) rfl (by decide) (by omega) (ok_lt.mpr ?_)
  rw [tn_F, e83, show vp_nar .byte 7 = I 7 from rfl, wa_e, hix, Int.toNat_natCast]
  have e83b : F (wa v 79 ix 7) 83 = wt + J := e83
  have e69b : F (wa v 79 ix 7) 69 = p1 := e69
  refine k_at (k := 80) (n := 3000) rfl (by decide) (by omega) (ok_lt.mpr ?_)
  rw [tn_F, e83b, I_F' e69b, nar_short (by omega), wa_e, hix, Int.toNat_natCast]
  refine ok_lt.mpr (ok_lt.mpr ?_)
  have e83c : F (wa (wa v 79 ix 7) 80 ix p1) 83 = wt + J := e83
  rw [I_F' e83c, lit1q, I_add, wi_e, ← lit1q, nx1_e]
  have s1 := ST_nx (ST_83 (x := wt + J + 1) (ST_wa (r := 80) (i := ix) (x := p1) (ST_wa (r := 79) (i := ix) (x := 7) s0 (by decide)) (by decide)) ⟨by omega, by omega⟩) (show 0 ≤ p1 ∧ p1 ≤ 4001 by omega)
  have kx : KPR σ u (nx1 (wi (wa (wa v 79 ix 7) 80 ix p1) 83 (wt + J + 1))) := KPR_w0 (KPR_wi (KPR_ww (KPR_ww k0 (by decide) (by rw [hu.2.1]; omega)) (by decide) (by rw [hu.2.1]; omega)) (by decide) (by rw [hu.2.1]; omega) ⟨by omega, by omega⟩) (by decide)
  have fr : FR [69, 83] [] [79, 80, 81, 82] [] v (nx1 (wi (wa (wa v 79 ix 7) 80 ix p1) 83 (wt + J + 1))) := FR.wi (FR.wi (FR.wa (FR.wa FR.rf (by decide)) (by decide)) (by decide)) (by decide)
  have rows : ∀ r i, r ∈ [79, 80, 81, 82] → (i : Nat) < wt + J → A (nx1 (wi (wa (wa v 79 ix 7) 80 ix p1) 83 (wt + J + 1))) r i = A v r i := fun r i _ hi => by
    show A (wa (wa v 79 ix 7) 80 ix p1) r i = _
    rw [wa_ne (by omega), wa_ne (by omega)]
  have a79 : A (nx1 (wi (wa (wa v 79 ix 7) 80 ix p1) 83 (wt + J + 1))) 79 ix = 7 := by
    show A (wa (wa v 79 ix 7) 80 ix p1) 79 ix = _
    rw [wa_rne (by decide), wa_eq ⟨by decide, by decide⟩]
  have a80 : A (nx1 (wi (wa (wa v 79 ix 7) 80 ix p1) 83 (wt + J + 1))) 80 ix = p1 := wa_eq ⟨by omega, by omega⟩
  have mk : mks (nx1 (wi (wa (wa v 79 ix 7) 80 ix p1) 83 (wt + J + 1))) = mks v := fr_mks fr (by decide)
  have e69x : F (nx1 (wi (wa (wa v 79 ix 7) 80 ix p1) 83 (wt + J + 1))) 69 = p1 + 1 := s1.2.1.1
  generalize nx1 (wi (wa (wa v 79 ix 7) 80 ix p1) 83 (wt + J + 1)) = x at *
  have fx : F x 67 = 0 := (fr.F (by decide)).trans f0
  have e70x : F x 70 = o1 := s1.2.1.2.1
  have fin : ∀ w, OPN x w → OK (WRQ u0 TN SN bw σ D p o n q c f h s wt g u) ((gg_M_worked N S (i + 1)).2 w (I wt)) := fun w hw => by
    have sw := OPN_ST s1 (by omega) hw
    have aw : ∀ r i, A w r i = A x r i := fun r i => OPN_A hw
    have f66 := OPN_66 hw
    have kw : KPR σ x w := OPN_KP hw
    rcases OPN_67 fx hw with ⟨g0, g1, g2⟩ | ⟨g0, g1⟩
    · have mw : mks w = mks v := by rw [g2, op1_mks]; exact mk
      refine hG w ⟨push_B hw0 hwb hp1 (by rw [show wt + ((J + 1 : Nat) : Int) = wt + J + 1 by omega]; exact sw) g0 (KPR_tr kx kw) (by unfold WKN at wn ⊢; omega) (fun r i hr hi => by rw [aw]; exact rows r i hr hi) (fun r j hr _ => ?_) ?_ (f66.trans (fr.F (by decide))) (Or.inl ?_) ?_ ?_, fun z1 z2 z3 => ?_⟩
      · have : ∀ r, r ∈ [23, 28, 29] → r ∉ [79, 80, 81, 82] := by decide
        rw [aw, fr.A (this r hr)]
      · have : F w 32 = n1 := sw.2.1.2.2.1
        have : F v 32 = n1 := s0.2.1.2.2.1
        omega
      · rw [hix, Int.toNat_natCast, aw, aw, a79, a80]; exact ⟨rfl, by omega, by omega⟩
      · rw [hix, Int.toNat_natCast, aw, a79, if_pos rfl]
      · rw [aw, fr.A (by decide)]
      · have f72 : F w 72 = F v 72 := by
          rw [g2, show F (op1 x) 72 = F x 72 from wi_ne (by decide)]; exact fr.F (by decide)
        obtain ⟨ps, t1, t2⟩ := ty (by rw [← f72]; exact z1) (by rw [← fr.F (k := 66) (by decide), ← f66]; exact z2) z3
        have tr : TRN σ wt J v w (mks v) := TRN_tr (TRN_fr fr (by decide) rows) (by rw [g2]; exact TRN_wi (by decide))
        have nw : nmo σ w = nmo σ v := by unfold nmo; rw [aw, fr.A (by decide)]
        refine ⟨p1 + 1, ⟨mks v, nmo σ v, ps, STK_tr J _ _ ps t1 hw0.1 tr, fun i => by rw [mw]; exact Nat.le_refl _, Or.inl ⟨?_, mw, nw, by omega⟩⟩, Int.le_refl _⟩
        rw [hix, Int.toNat_natCast, aw, a79]
    · exact hF w (FSM_of sw (by omega) (by omega) fs1.1 g0)
  refine k_begins2 (fn := fun w => bnd (fm_M_opens N w) (fun u16 _ => (gg_M_worked N S (i + 1)).2 u16 (I wt))) (by omega) (k_opens2 (by omega) fin) (fun v1 g1 g2 => ?_)
  refine k_opens2 (by rw [g1.F (by decide)]; omega) (fun w hw => hF w ?_)
  have sw := OPN_ST (ST_67 s1 g1) (by omega) hw
  refine FSM_of sw (by omega) (by omega) fs1.1 ?_
  rcases hw with ⟨-, a⟩ | ⟨-, v2, a1, a2, a⟩
  · rw [a, show F (op1 v1) 67 = F v1 67 from wi_ne (by decide)]; exact g2
  · rw [a, show F (op1 v2) 67 = F v2 67 from wi_ne (by decide)]; exact a2
end
end
section
theorem nar_byte {t : Int} (h : 0 ≤ t ∧ t < 128) : vp_nar .byte ((I t).toInt8.toInt32) = I t := by
  have e : (I t).toInt8.toInt32 = I t := by
    apply Int32.toInt_inj.mp
    rw [Int8.toInt_toInt32, Int32.toInt_toInt8, I_ti (by omega) (by omega)]
    exact Int.bmod_eq_of_le (by omega) (by omega)
  show ((I t).toInt8.toInt32).toInt8.toInt32 = I t
  rw [e, e]
section
variable {u0 u v v1 w x y : MS} {N σ TN SN e q0 q1 q2 q3 : Nat} {bw : Nat → Nat} {p o n q c f h s wt g lv xb xb1 xb2 k t D d z l p1 o1 o2 n1 n2 q1' c1 f1 h1 κ : Int} {r y1 y2 y3 : Int32} {R R1 R2 : Nat → Prop} {M M0 M1 : Nat → Nat} {m m0 J i : Nat} {S : SG_M_behind}
theorem TYC_x2 (ty : TYM SN σ g lv xb v M m 0 1 R) : 2 ≤ xb := by
  obtain ⟨mm, X, Y, s1, -, -, s5, -⟩ := ty
  have := s1.1.2.2.2.2.2.2.2.1
  omega
theorem work292_N (tk : TKW u0 TN SN bw) (hw : WKA u0 TN SN σ bw p o n q c f h s wt g u (nx1 (wi y 83 (wt + J + 1))) (p1 + 1) o1 n2 q1' c1 f1 h1 (J + 1)) (hm : NM TN bw 0 1 0 σ p o n q c f h s wt) (h83 : F y 83 = wt + J) (hD : 0 ≤ D) (hG : ∀ w, WKA u0 TN SN σ bw p o n q c f h s wt g u w (p1 + 1) o1 n2 q1' c1 f1 h1 (J + 1) → OK (WRQ u0 TN SN bw σ D p o n q c f h s wt g u) ((gg_M_worked N S (i + 1)).1 w (I wt) r 1)) : OK (WRQ u0 TN SN bw σ D p o n q c f h s wt g u) (fb_M_worked_292 N S (gg_M_worked N S (i + 1)) y (I wt) r 1) := by
  have hT := tk.1.1
  unfold fb_M_worked_292 fb_M_worked_331
  refine ok_lt.mpr (ok_lt.mpr ?_)
  rw [I_F' h83, lit1q, I_add, wi_e, ← lit1q, nx1_e]
  have fs := NM_fs (WKB_nm tk hm hw.1 (by omega)) (by omega)
  have e69 : F (nx1 (wi y 83 (wt + J + 1))) 69 = p1 + 1 := hw.1.1.2.1.1
  generalize nx1 (wi y 83 (wt + J + 1)) = w at *
  refine k_F (y := 0) rfl ⟨by decide, by decide⟩ (fun _ => ?_) (fun z => absurd hw.1.2.1 z)
  refine k_begins2 (fn := fun w => (gg_M_worked N S (i + 1)).1 w (I wt) r 1) (by omega) (hG w hw) (fun v1 g1 g2 => head_F (FSM_of (ST_67 hw.1.1 g1) (by omega) (by omega) fs.1 g2))
theorem op_push (tk : TKW u0 TN SN bw) (hm : NM TN bw 0 1 0 σ p o n q c f h s wt) (hu : UB σ n wt u) (hw : WKC u0 TN SN σ bw p o n q c f h s wt g u v p1 o1 n1 q1' c1 f1 h1 J e) (hp1 : p1 < TN) {ix : Nat} (hix : wt + J = ix) (hl : 3 ≤ l ∧ l ≤ 6) (htok : A u0 6 p1.toNat = 3 ∨ (A u0 6 p1.toNat = 6 ∧ ((12 ≤ A u0 7 p1.toNat ∧ A u0 7 p1.toNat ≤ 20) ∨ A u0 7 p1.toNat = 22 ∨ A u0 7 p1.toNat = 23))) (b : FR [71, 72] [] [] [] (wa (wa v 79 ix l) 80 ix p1) y) (h72 : F y 72 = F v 72 ∨ F y 72 ≠ 0) (h71 : 0 ≤ F y 71 ∧ F y 71 < 4002) : WKA u0 TN SN σ bw p o n q c f h s wt g u (nx1 (wi y 83 (wt + J + 1))) (p1 + 1) o1 n1 q1' c1 f1 h1 (J + 1) := by
  have hT := tk.1.1
  obtain ⟨hwb, rt, ty⟩ := hw
  have nm1 := WKB_nm tk hm hwb (by omega)
  obtain ⟨s0, f0, k0, hp, wn, en, hoo, l0⟩ := id hwb
  have hw0 : 0 ≤ wt ∧ 0 ≤ n := by unfold NM at hm; omega
  have pb : 0 ≤ p1 ∧ wt + J ≤ 2100 := by unfold NM at nm1; omega
  have bws := bw_mono tk (i := p1.toNat) (m := (p1 + 1).toNat) (by omega) (by omega)
  have sx : ST u0 σ p1 o1 n1 q1' c1 f1 h1 s (wt + J) g (wa (wa v 79 ix l) 80 ix p1) := ST_wa (ST_wa s0 (by decide)) (by decide)
  have kx : KPR σ u (wa (wa v 79 ix l) 80 ix p1) := KPR_ww (KPR_ww k0 (by decide) (by rw [hu.2.1]; omega)) (by decide) (by rw [hu.2.1]; omega)
  have ky : KPR σ (wa (wa v 79 ix l) 80 ix p1) y := by
    rcases h72 with z | z
    · have g : ∀ r i, A y r i = A (wa (wa v 79 ix l) 80 ix p1) r i := fun r i => b.A (by intro z; cases z)
      refine ⟨FRP b (by decide) (by decide) (by decide), ⟨fun r i _ _ => g r i, fun r i _ _ => g r i, fun r i _ _ => g r i, fun r i _ _ => g r i, fun i _ => g 57 i⟩, ⟨fun s i _ _ => g 59 _, fun r s i _ _ _ => g r _, fun s _ => g 60 s, fun s _ => ?_⟩, ⟨fun i _ => g 74 i, fun i _ => g 76 i, fun r i _ _ => g r i⟩, ?_, fun y => ?_, ?_⟩
      · rw [g, g, g]; exact ⟨Int.le_refl _, Int.le_refl _, Int.le_refl _⟩
      · rw [b.F (by decide), b.F (by decide), b.F (by decide), b.F (by decide), b.F (by decide), b.F (by decide), b.F (by decide), b.F (by decide)]
        exact ⟨Int.le_refl _, Int.le_refl _, Int.le_refl _, Int.le_refl _, Int.le_refl _, Int.le_refl _, Int.le_refl _, Int.le_refl _⟩
      · rw [F_wa, F_wa, ← z]; exact y
      · rw [b.F (by decide)]; exact id
    · exact KPR_rule KPR_rf b z
  have sy := ST_rule sx b h71
  have sw := ST_nx (ST_83 (x := wt + J + 1) sy ⟨by omega, by omega⟩) (show 0 ≤ p1 ∧ p1 ≤ 4001 by omega)
  have kw : KPR σ u (nx1 (wi y 83 (wt + J + 1))) := KPR_w0 (KPR_wi (KPR_tr kx ky) (by decide) (by rw [hu.2.1]; omega) ⟨by omega, by omega⟩) (by decide)
  have ay : ∀ r i, A (nx1 (wi y 83 (wt + J + 1))) r i = A (wa (wa v 79 ix l) 80 ix p1) r i := fun r i => b.A (by intro z; cases z)
  have fr : FR [69, 71, 72, 83] [] [79, 80, 81, 82] [] v (nx1 (wi y 83 (wt + J + 1))) := FR.wi (FR.wi (FR.tr (FR.wa (FR.wa FR.rf (by decide)) (by decide)) (FR.mo b (by decide) (by decide) (by decide) (by decide))) (by decide)) (by decide)
  have f72w : F (nx1 (wi y 83 (wt + J + 1))) 72 = F y 72 := by rw [show F (nx1 (wi y 83 (wt + J + 1))) 72 = F (wi y 83 (wt + J + 1)) 72 from wi_ne (by decide), wi_ne (by decide)]
  generalize nx1 (wi y 83 (wt + J + 1)) = w at *
  have a79 : A w 79 ix = l := by rw [ay, wa_rne (by decide), wa_eq ⟨by omega, by omega⟩]
  have a80 : A w 80 ix = p1 := by rw [ay, wa_eq ⟨by omega, by omega⟩]
  have rows : ∀ r i, r ∈ [79, 80, 81, 82] → (i : Nat) < wt + J → A w r i = A v r i := fun r i _ hi => by
    rw [ay, wa_ne (by omega), wa_ne (by omega)]
  have mw : mks w = mks v := fr_mks fr (by decide)
  have e32 : F w 32 = F v 32 := fr.F (by decide)
  refine ⟨push_B hw0 hwb hp1 (by rw [show wt + ((J + 1 : Nat) : Int) = wt + J + 1 by omega]; exact sw) ((fr.F (by decide)).trans f0) kw (by unfold WKN at wn ⊢; omega) rows (fun r j hr _ => ?_) (by omega) (fr.F (by decide)) (Or.inr (Or.inr ?_)) ?_ (fr.A (by decide)), fun z1 z2 z3 => ?_⟩
  · have : ∀ r, r ∈ [23, 28, 29] → r ∉ [79, 80, 81, 82] := by decide
    exact fr.A (this r hr)
  · rw [hix, Int.toNat_natCast, a79, a80]; exact ⟨hl, ⟨by omega, hp1⟩, htok⟩
  · rw [hix, Int.toNat_natCast, a79, if_neg (by omega)]; omega
  · have z1v : F v 72 = 0 := by
      rcases h72 with z | z
      · rw [← z, ← f72w]; exact z1
      · exact absurd (f72w.symm.trans z1) z
    obtain ⟨M, m, ps, t1, t2, t3, t4⟩ := ty z1v (by rw [← fr.F (k := 66) (by decide)]; exact z2) z3
    have x2 := TYC_x2 t4
    have tr : TRN σ wt J v w (mks v) := TRN_fr fr (by decide) rows
    have nw : nmo σ w = nmo σ v := by unfold nmo; rw [fr.A (by decide)]
    refine ⟨p1 + 1, ⟨M, m, ps, STK_tr J _ _ ps t1 hw0.1 (TRN_le tr t2 (Nat.le_refl _)), fun i => by rw [mw]; exact t2 i, Or.inr (Or.inl ⟨?_, ?_, by omega, ?_⟩)⟩, Int.le_refl _⟩
    · rw [hix, Int.toNat_natCast, a79]; exact hl.1
    · rw [hix, Int.toNat_natCast, a79]; exact hl.2
    · rw [mw, nw, show p1 + 1 - ps = p1 - ps + 1 by omega]
      exact PCE_tr (PCE_of t4 (fun i hi => by rw [hi]; exact rt.2.2.2)) tr
theorem and_push {v7 : MS} (tk : TKW u0 TN SN bw) (hm : NM TN bw 0 1 0 σ p o n q c f h s wt) (hu : UB σ n wt u) (hw : WKC u0 TN SN σ bw p o n q c f h s wt g u v p1 o1 n1 q1' c1 f1 h1 J e) (hp1 : p1 < TN) {ix : Nat} (hix : wt + J = ix) (hl : l = 1 ∨ l = 2) (hk : k = 9 ∨ k = 10) (nd : NDV (wa (wa v 79 ix l) 80 ix p1) v7 k p1) (hy : y = wa (wa v7 81 ix n1) 82 ix (A v 60 σ)) : WKA u0 TN SN σ bw p o n q c f h s wt g u (nx1 (wi y 83 (wt + J + 1))) (p1 + 1) o1 (n1 + 1) q1' c1 f1 h1 (J + 1) := by
  have hT := tk.1.1
  obtain ⟨hwb, rt, ty⟩ := hw
  have nm1 := WKB_nm tk hm hwb (by omega)
  have fs1 := NM_fs nm1 (by omega)
  obtain ⟨s0, f0, k0, hp, wn, en, hoo, l0⟩ := id hwb
  have e32 : F v 32 = n1 := s0.2.1.2.2.1
  have hw0 : 0 ≤ wt ∧ 0 ≤ n := by unfold NM at hm; omega
  have wb : n ≤ n1 := by unfold WKN at wn; omega
  have pb : 0 ≤ p1 ∧ wt + J ≤ 2100 := by unfold NM at nm1; omega
  have bws := bw_mono tk (i := p1.toNat) (m := (p1 + 1).toNat) (by omega) (by omega)
  have h60 := (s0.2.2.2.1 σ (Nat.le_refl σ)).1.1
  have k60 := (k0.2.2.1.2.2.2 σ (Nat.le_refl σ)).1
  have sx : ST u0 σ p1 o1 n1 q1' c1 f1 h1 s (wt + J) g (wa (wa v 79 ix l) 80 ix p1) := ST_wa (ST_wa s0 (by decide)) (by decide)
  have kx : KPR σ u (wa (wa v 79 ix l) 80 ix p1) := KPR_ww (KPR_ww k0 (by decide) (by rw [hu.2.1]; omega)) (by decide) (by rw [hu.2.1]; omega)
  have e32x : F (wa (wa v 79 ix l) 80 ix p1) 32 = n1 := by rw [F_wa, F_wa]; exact e32
  have s7 := ST_nd sx nd.1 (by omega) (by omega) (fun z => by omega)
  have k7 : KPR σ u v7 := KPR_nd kx nd.1 (by omega)
  have sy : ST u0 σ p1 o1 (n1 + 1) q1' c1 f1 h1 s (wt + J) g y := by rw [hy]; exact ST_wa (ST_wa s7 (by decide)) (by decide)
  have ky : KPR σ u y := by rw [hy]; exact KPR_ww (KPR_ww k7 (by decide) (by rw [hu.2.1]; omega)) (by decide) (by rw [hu.2.1]; omega)
  have sw := ST_nx (ST_83 (x := wt + J + 1) sy ⟨by omega, by omega⟩) (show 0 ≤ p1 ∧ p1 ≤ 4001 by omega)
  have kw : KPR σ u (nx1 (wi y 83 (wt + J + 1))) := KPR_w0 (KPR_wi ky (by decide) (by rw [hu.2.1]; omega) ⟨by omega, by omega⟩) (by decide)
  have frx : FR [32, 69, 83] [] [23, 24, 25, 26, 27, 28, 29, 30, 31, 79, 80, 81, 82] [] v (nx1 (wi y 83 (wt + J + 1))) := by
    rw [hy]
    exact FR.wi (FR.wi (FR.wa (FR.wa (FR.tr (FR.wa (FR.wa FR.rf (by decide)) (by decide)) (FR.mo nd.1.1 (by decide) (by decide) (by decide) (by decide))) (by decide)) (by decide)) (by decide)) (by decide)
  have ay : ∀ r i, A (nx1 (wi y 83 (wt + J + 1))) r i = A y r i := fun r i => rfl
  have nod : ∀ r i, r ∈ [23, 24, 25, 26, 27, 28, 29, 30, 31] → (i : Nat) < n1 → A (nx1 (wi y 83 (wt + J + 1))) r i = A v r i := fun r i hr hi => by
    have : ∀ r, r ∈ [23, 24, 25, 26, 27, 28, 29, 30, 31] → r ≠ 79 ∧ r ≠ 80 ∧ r ≠ 81 ∧ r ≠ 82 := by decide
    obtain ⟨m1, m2, m3, m4⟩ := this r hr
    rw [ay, hy, wa_rne m4, wa_rne m3, nd.1.2.2.2.2 r i (by omega), wa_rne m2, wa_rne m1]
  have kn : KND (nx1 (wi y 83 (wt + J + 1))) n1.toNat k := by
    have := KND_of nd (by omega)
    rw [e32x] at this
    refine KND_eq this (fun r hr => ?_)
    have m1 : ∀ r, r ∈ [23, 24, 28, 29] → r ≠ 81 ∧ r ≠ 82 := by decide
    rw [ay, hy, wa_rne (m1 r hr).2, wa_rne (m1 r hr).1]
  have mr : ∀ r i, r ∈ [79, 80, 81, 82] → A v7 r i = A (wa (wa v 79 ix l) 80 ix p1) r i := fun r i hr => by
    have : ∀ r, r ∈ [79, 80, 81, 82] → r ∉ [23, 24, 25, 26, 27, 28, 29, 30, 31] := by decide
    exact nd.1.1.A (this r hr)
  have rows : ∀ r i, r ∈ [79, 80, 81, 82] → (i : Nat) < wt + J → A (nx1 (wi y 83 (wt + J + 1))) r i = A v r i := fun r i hr hi => by
    rw [ay, hy, wa_ne (by omega), wa_ne (by omega), mr r i hr, wa_ne (by omega), wa_ne (by omega)]
  have a79 : A (nx1 (wi y 83 (wt + J + 1))) 79 ix = l := by
    rw [ay, hy, wa_rne (by decide), wa_rne (by decide), mr 79 ix (by decide), wa_rne (by decide), wa_eq ⟨by omega, by omega⟩]
  have a81 : A (nx1 (wi y 83 (wt + J + 1))) 81 ix = n1 := by
    rw [ay, hy, wa_rne (by decide), wa_eq ⟨by omega, by omega⟩]
  have a82 : A (nx1 (wi y 83 (wt + J + 1))) 82 ix = A v 60 σ := by
    rw [ay, hy, wa_eq (ARG1 v 60 σ)]
  have on : ONE (mks v) (mks (nx1 (wi y 83 (wt + J + 1)))) n1.toNat := by
    have := ONE_nd nd.1 (by omega)
    rw [e32x] at this
    have m1 : mks (nx1 (wi y 83 (wt + J + 1))) = mks v7 := by
      rw [show mks (nx1 (wi y 83 (wt + J + 1))) = mks (wi y 83 (wt + J + 1)) from wi_mks (by decide), wi_mks (by decide), hy]; rfl
    rw [m1]
    exact this
  have e32w : F (nx1 (wi y 83 (wt + J + 1))) 32 = n1 + 1 := sw.2.1.2.2.1
  generalize nx1 (wi y 83 (wt + J + 1)) = w at *
  have f66 : F w 66 = F v 66 := frx.F (by decide)
  refine ⟨push_B hw0 hwb hp1 (by rw [show wt + ((J + 1 : Nat) : Int) = wt + J + 1 by omega]; exact sw) ((frx.F (by decide)).trans f0) kw (by unfold WKN at wn ⊢; omega) rows (fun r j hr hj => ?_) (by omega) f66 (Or.inr (Or.inl ?_)) ?_ (frx.A (by decide)), fun z1 z2 z3 => ?_⟩
  · have : ∀ r, r ∈ [23, 28, 29] → r ∈ [23, 24, 25, 26, 27, 28, 29, 30, 31] := by decide
    exact nod r j (this r hr) (by omega)
  · rw [hix, Int.toNat_natCast, a79, a81, a82]
    refine ⟨hl, ⟨wb, by omega, ?_, kn.2.2.2.1, kn.2.2.2.2⟩, k60, fun z => l0 (by rw [← f66]; exact z)⟩
    rw [kn.1]; exact hk
  · rw [hix, Int.toNat_natCast, a79, if_neg (by omega)]; omega
  · obtain ⟨M, m, ps, t1, t2, t3, t4⟩ := ty (by rw [← frx.F (k := 72) (by decide)]; exact z1) (by rw [← f66]; exact z2) z3
    have x2 := TYC_x2 t4
    have tr : TRN σ wt J v w (mks v) := by
      have m1 : ∀ r, r ∈ [40, 41, 42, 43, 45] → r ∉ [23, 24, 25, 26, 27, 28, 29, 30, 31, 79, 80, 81, 82] := by decide
      have m2 : ∀ r, r ∈ [33, 35, 36, 37, 38] → r ∉ [23, 24, 25, 26, 27, 28, 29, 30, 31, 79, 80, 81, 82] := by decide
      have m3 : ∀ r, r ∈ [53, 54, 55] → r ∉ [23, 24, 25, 26, 27, 28, 29, 30, 31, 79, 80, 81, 82] := by decide
      refine ⟨frx.F (by decide), ⟨fun r i hr hi => nod r i hr (by have : i < (F v 32).toNat := hi; omega), fun r i hr _ => frx.A (m1 r hr), fun r i hr _ => frx.A (m2 r hr), fun r i hr _ => frx.A (m3 r hr), fun i _ => frx.A (by decide)⟩, ⟨?_, ?_⟩, rows⟩
      · unfold hlo; rw [frx.A (by decide)]; exact Nat.le_refl _
      · rw [frx.A (by decide)]; exact Int.le_refl _
    have nw : nmo σ w = nmo σ v := by unfold nmo; rw [frx.A (by decide)]
    have m0e : mks v 0 = n1.toNat := by show (F v 32).toNat = _; omega
    refine ⟨p1 + 1, ⟨M, m, ps, STK_tr J _ _ ps t1 hw0.1 (TRN_le tr t2 (Nat.le_refl _)), fun i => Nat.le_trans (t2 i) (on.2.2.2.2 i), Or.inr (Or.inr ⟨?_, by omega, ?_, mks v, ?_, by rw [m0e]; exact on, ?_, ?_⟩)⟩, Int.le_refl _⟩
    · rw [hix, Int.toNat_natCast, a79]; exact hl
    · rw [hix, Int.toNat_natCast, a82, nw]; unfold nmo; omega
    · rw [nw, show p1 + 1 - ps = p1 - ps + 1 by omega]
      exact PCE_tr (PCE_of t4 (fun i hi => by rw [hi]; exact rt.2.2.2)) tr
    · rw [hix, Int.toNat_natCast, a81, m0e]; omega
    · rw [m0e]
      rcases hk with hk | hk
      · rw [hk] at kn; exact Or.inl kn
      · rw [hk] at kn; exact Or.inr kn
end
end
section
section
variable {u0 u v v1 w x y : MS} {N σ TN SN e q0 q1 q2 q3 : Nat} {bw : Nat → Nat} {p o n q c f h s wt g lv xb xb1 xb2 k t D d z l p1 o1 o2 n1 n2 q1' c1 f1 h1 κ : Int} {r y1 y2 y3 : Int32} {R R1 R2 : Nat → Prop} {M M0 M1 : Nat → Nat} {m m0 J i : Nat} {S : SG_M_behind}
theorem work189_N (tk : TKW u0 TN SN bw) (hD : 0 ≤ D) (hm : NM TN bw 0 1 0 σ p o n q c f h s wt) (hu : UB σ n wt u) (hw : WKC u0 TN SN σ bw p o n q c f h s wt g u v p1 o1 n1 q1' c1 f1 h1 J e) (hl : 1 ≤ l ∧ l ≤ 6) (hlv : LVL v l) (hG : ∀ w n2, WKA u0 TN SN σ bw p o n q c f h s wt g u w (p1 + 1) o1 n2 q1' c1 f1 h1 (J + 1) → OK (WRQ u0 TN SN bw σ D p o n q c f h s wt g u) ((gg_M_worked N S (i + 1)).1 w (I wt) r 1)) : OK (WRQ u0 TN SN bw σ D p o n q c f h s wt g u) (fb_M_worked_189 N S (gg_M_worked N S (i + 1)) v (I wt) r 1 (I l)) := by
  have hT := tk.1.1
  have nm1 := WKB_nm tk hm hw.1 (by omega)
  have fs1 := NM_fs nm1 (by omega)
  have s0 := hw.1.1
  have e83 : F v 83 = wt + J := s0.2.1.2.2.2.2.2.2.2.2.2.1
  have e69 : F v 69 = p1 := s0.2.1.1
  have e65 : F v 65 = σ := s0.2.1.2.2.2.2.2.2.2.2.2.2.2
  have e32 : F v 32 = n1 := s0.2.1.2.2.1
  have pb : 0 ≤ p1 ∧ wt + J ≤ 2100 ∧ 0 ≤ wt := by unfold NM at nm1 hm; omega
  obtain ⟨ix, hix⟩ : ∃ ix : Nat, wt + J = ix := ⟨(wt + J).toNat, by omega⟩
  have ts : TSO v = A u0 6 p1.toNat := by unfold TSO; rw [e69]; exact ST_A s0 (by decide)
  have t7 : A v 7 (F v 69).toNat = A u0 7 p1.toNat := by rw [e69]; exact ST_A s0 (by decide)
  have hp1 : p1 < TN := by
    refine tok_lt tk (by omega) ?_
    unfold LVL at hlv
    rw [ts] at hlv
    omega
  unfold fb_M_worked_189
  refine k_at (k := 79) (n := 3000) rfl (by decide) (by omega) (ok_lt.mpr ?_)
  rw [tn_F, e83, nar_byte (by omega), wa_e, hix, Int.toNat_natCast]
  refine k_at (k := 80) (n := 3000) rfl (by decide) (by rw [F_wa]; omega) (ok_lt.mpr ?_)
  rw [tn_F, F_wa, e83, I_F' (show F (wa v 79 ix l) 69 = p1 by rw [F_wa]; exact e69), nar_short (by omega), wa_e, hix, Int.toNat_natCast]
  have sx : ST u0 σ p1 o1 n1 q1' c1 f1 h1 s (wt + J) g (wa (wa v 79 ix l) 80 ix p1) := ST_wa (ST_wa s0 (by decide)) (by decide)
  rw [show (3 : Int32) = I 3 from rfl, lit1q]
  refine k_le ⟨by decide, by decide⟩ ⟨by omega, by omega⟩ (fun h3 => ?_) (fun h3 => ?_)
  · have htok : A u0 6 p1.toNat = 3 ∨ (A u0 6 p1.toNat = 6 ∧ ((12 ≤ A u0 7 p1.toNat ∧ A u0 7 p1.toNat ≤ 20) ∨ A u0 7 p1.toNat = 22 ∨ A u0 7 p1.toNat = 23)) := by
      rcases hlv with a | ⟨a, -⟩ | ⟨-, -, a⟩
      · omega
      · omega
      · rw [ts, t7] at a; exact a
    have fin0 : OK (WRQ u0 TN SN bw σ D p o n q c f h s wt g u) (fb_M_worked_292 N S (gg_M_worked N S (i + 1)) (wa (wa v 79 ix l) 80 ix p1) (I wt) r (I 1)) :=
      work292_N tk (op_push tk hm hu hw hp1 hix ⟨h3, hl.2⟩ htok FR.rf (Or.inl (by rw [F_wa, F_wa])) sx.2.2.1.1) hm (by rw [F_wa, F_wa]; exact e83) hD (fun w hw2 => hG w n1 hw2)
    unfold fb_M_worked_269
    refine ok_br.mpr ⟨fun _ => fin0, fun _ => ?_⟩
    rw [show (4 : Int32) = I 4 from rfl]
    refine k_eq ⟨by omega, by omega⟩ ⟨by decide, by decide⟩ (fun _ => ?_) (fun _ => fin0)
    refine k_rule (s := 7) (t := p1) rfl ⟨by decide, by decide⟩ (by decide) (I_F' sx.2.1.1) (by omega) sx.2.2.1.1 (fun v1 g1 g2 g3 => ?_)
    exact work292_N tk (op_push tk hm hu hw hp1 hix ⟨h3, hl.2⟩ htok g1 (Or.inr g2) g3) hm (by rw [g1.F (by decide), F_wa, F_wa]; exact e83) hD (fun w hw2 => hG w n1 hw2)
  · have t243 : ∀ (t3 : Int32) (k : Int), vp_nar .byte (t3.toInt8.toInt32) = I k → (k = 9 ∨ k = 10) → OK (WRQ u0 TN SN bw σ D p o n q c f h s wt g u) (fb_M_worked_243 N S (gg_M_worked N S (i + 1)) (wa (wa v 79 ix l) 80 ix p1) (I wt) r (I 1) (I l) 81 ((wa (wa v 79 ix l) 80 ix p1).1 83) t3) := fun t3 k hk1 hk2 => by
      unfold fb_M_worked_243
      have e32x : F (wa (wa v 79 ix l) 80 ix p1) 32 = n1 := by rw [F_wa, F_wa]; exact e32
      have e83x : F (wa (wa v 79 ix l) 80 ix p1) 83 = wt + J := by rw [F_wa, F_wa]; exact e83
      have a60x : A (wa (wa v 79 ix l) 80 ix p1) 60 σ = A v 60 σ := by rw [wa_rne (by decide), wa_rne (by decide)]
      refine k_node (k := k) (t := p1) hk1 (by omega) (I_F' sx.2.1.1) (by omega) (by omega) (fun v7 hv7 => ?_)
      rw [show isK 81 4 = true by decide, ck_t]
      refine k_at (k := 81) (n := 3000) rfl (by decide) (by omega) (ok_lt.mpr ?_)
      rw [tn_F, e83x, hix, Int.toNat_natCast, wa_e, e32x]
      have e65y : F (wa v7 81 ix n1) 65 = σ := by rw [F_wa, hv7.1.1.F (by decide), F_wa, F_wa]; exact e65
      have e83y : F (wa v7 81 ix n1) 83 = wt + J := by rw [F_wa, hv7.1.1.F (by decide)]; exact e83x
      have a60y : A (wa v7 81 ix n1) 60 σ = A v 60 σ := by rw [wa_rne (by decide), hv7.1.1.A (by decide)]; exact a60x
      refine k_65 rfl e65y (by omega) (k_at (k := 82) (n := 3000) rfl (by decide) (by omega) (ok_lt.mpr ?_))
      rw [tn_65 e65y, tn_F, e83y, hix, Int.toNat_natCast, I_A' a60y, wa_e]
      have e83z : F (wa (wa v7 81 ix n1) 82 ix (A v 60 σ)) 83 = wt + J := by rw [F_wa]; exact e83y
      have fin0 : OK (WRQ u0 TN SN bw σ D p o n q c f h s wt g u) (fb_M_worked_292 N S (gg_M_worked N S (i + 1)) (wa (wa v7 81 ix n1) 82 ix (A v 60 σ)) (I wt) r (I 1)) :=
        work292_N tk (and_push tk hm hu hw hp1 hix (by omega) hk2 hv7 rfl) hm e83z hD (fun w hw2 => hG w (n1 + 1) hw2)
      unfold fb_M_worked_269
      refine ok_br.mpr ⟨fun _ => fin0, fun _ => ?_⟩
      rw [show (4 : Int32) = I 4 from rfl]
      exact k_eq ⟨by omega, by omega⟩ ⟨by decide, by decide⟩ (fun z => by omega) (fun _ => fin0)
    exact k_eq ⟨by omega, by omega⟩ ⟨by decide, by decide⟩ (fun _ => t243 10 10 rfl (Or.inr rfl)) (fun _ => t243 9 9 rfl (Or.inl rfl))
theorem head2_F (hpn : XNO S.2.2.2.2.2.2.2.2.2.2.1) (hf : FSM u0 TN σ D v) : OK (WRQ u0 TN SN bw σ D p o n q c f h s wt g u) ((gg_M_worked N S (i + 2)).2 v y1) := by
  show OK _ (fb_M_worked_20 N S (gg_M_worked N S (i + 1)) v y1)
  unfold fb_M_worked_20
  refine k_F (y := 0) rfl ⟨by decide, by decide⟩ (fun z => absurd z hf.2.1) (fun _ => ?_)
  unfold fb_M_worked_109
  rw [hpn v hf.2.1, bnd_so]
  refine k_F (y := 0) rfl ⟨by decide, by decide⟩ (fun z => absurd z hf.2.1) (fun _ => ?_)
  unfold fb_M_worked_129 fb_M_worked_141 fb_M_worked_331
  refine ok_br.mpr ⟨fun _ => ?_, fun z => ?_⟩
  · rw [br00]; exact head_F hf
  · exact absurd z (by decide)
theorem work109_N (tk : TKW u0 TN SN bw) (hN : 20000 ≤ N) (hD : 0 ≤ D ∧ D ≤ 2900) (ho : 1 ≤ o ∧ o ≤ 25) (hprim : ∀ o1, o ≤ o1 → o1 ≤ 25 → XPR u0 TN SN bw D o1 S.2.2.2.2.2.2.2.2.2.2.1) (hm : NM TN bw 0 1 0 σ p o n q c f h s wt) (hu : UB σ n wt u) (hw : WKA u0 TN SN σ bw p o n q c f h s wt g u v p1 o1 n1 q1' c1 f1 h1 J) (hG : ∀ w r p2 o2 n2 q2 c2 f2 h2 J2, p1 + 1 < p2 → WKA u0 TN SN σ bw p o n q c f h s wt g u w p2 o2 n2 q2 c2 f2 h2 J2 → OK (WRQ u0 TN SN bw σ (D + 1) p o n q c f h s wt g u) ((gg_M_worked N S (i + 1)).1 w (I wt) r 1)) : OK (WRQ u0 TN SN bw σ (D + 1) p o n q c f h s wt g u) (fb_M_worked_109 N S (gg_M_worked N S (i + 1)) v (I wt)) := by
  have hT := tk.1.1
  have nm1 := WKB_nm tk hm hw.1 (by omega)
  have wnb : o ≤ o1 ∧ o1 ≤ 25 := by
    have := hw.1.2.2.2.2.1
    unfold WKN at this; omega
  unfold fb_M_worked_109
  refine ok_bnd.mpr (ok_mono (hprim o1 wnb.1 wnb.2 v σ _ _ _ _ _ _ _ _ _ hw.1.1 hw.1.2.1 nm1 hw.1.2.2.2.2.2.2.2) (fun w r hr => ?_))
  have up : ∀ z, OK (WRQ u0 TN SN bw σ D p o n q c f h s wt g u) z → OK (WRQ u0 TN SN bw σ (D + 1) p o n q c f h s wt g u) z := fun z hz => ok_mono hz (fun _ _ y => y.imp id (fun y => ⟨FSM_mo y.1 (by omega), y.2⟩))
  rcases hr with hr | hr
  · obtain ⟨e, p2, n2, q2, c2, f2, h2, hre, hpp, hc⟩ := WKA_prim tk hm hw hr
    have nm2 := WKB_nm tk hm hc.1 (by omega)
    have fs2 := NM_fs nm2 (by omega)
    have e69 : F w 69 = p2 := hc.1.1.2.1.1
    rw [hre]
    refine k_F (y := 0) rfl ⟨by decide, by decide⟩ (fun _ => ?_) (fun z => absurd hc.1.2.1 z)
    refine ok_bnd.mpr (ok_mono (level_ok (by omega)) (fun w1 r1 hw1 => ?_))
    obtain ⟨rfl, l, hl, hlv⟩ := hw1
    rw [hl]
    have lr : 0 ≤ l ∧ l ≤ 6 := by unfold LVL at hlv; omega
    unfold fb_M_worked_129
    rw [lit0q]
    refine k_le ⟨by omega, by omega⟩ ⟨by decide, by decide⟩ (fun hl0 => ?_) (fun hl0 => ?_)
    · unfold fb_M_worked_141 fb_M_worked_331
      rw [← lit0q, br00]
      show OK _ (fb_M_worked_9 N S (gg_M_worked N S i) w1 (I wt) (I (e : Int)) 0)
      unfold fb_M_worked_9
      rw [br00]
      exact work334_N tk hN ho.1 hm hu hc
    · unfold fb_M_worked_141
      rw [br10]
      unfold fm_M_reduce fb_M_reduce_0
      have J0 : J ≤ 4000 := by unfold NM at nm2; have := hm; unfold NM at this; omega
      refine ok_bnd.mpr (ok_mono (red_loop tk hm hu ⟨by omega, by omega⟩ N J w1 e o1 n2 hc (by omega)) (fun w2 r2 hw2 => ?_))
      obtain ⟨J2, e2, o3, n3, hr2, hc2, -⟩ := hw2
      rw [hr2]
      have nm3 := WKB_nm tk hm hc2.1 (by omega)
      have fs3 := NM_fs nm3 (by omega)
      have e69b : F w2 69 = p2 := hc2.1.1.2.1.1
      have e83b : F w2 83 = wt + J2 := hc2.1.1.2.1.2.2.2.2.2.2.2.2.2.1
      have wb : 0 ≤ wt ∧ wt + J2 ≤ 2100 := by unfold NM at nm3 hm; omega
      have hlv2 : LVL w2 l := by
        unfold LVL TSO at hlv ⊢
        rw [e69b, ST_A hc2.1.1 (by decide), ST_A hc2.1.1 (by decide)]
        rw [e69, ST_A hc.1.1 (by decide), ST_A hc.1.1 (by decide)] at hlv
        exact hlv
      have goN : OK (WRQ u0 TN SN bw σ (D + 1) p o n q c f h s wt g u) (fb_M_worked_189 N S (gg_M_worked N S (i + 1)) w2 (I wt) (I (e2 : Int)) 1 (I l)) :=
        work189_N tk (by omega) hm hu hc2 ⟨by omega, lr.2⟩ hlv2 (fun w n4 hw4 => hG w _ (p2 + 1) _ _ _ _ _ _ _ (by omega) hw4)
      rw [show (3 : Int32) = I 3 from rfl]
      refine k_eq ⟨by omega, by omega⟩ ⟨by decide, by decide⟩ (fun _ => ?_) (fun _ => goN)
      rw [I_F' e83b]
      refine k_le ⟨by omega, by omega⟩ ⟨by omega, by omega⟩ (fun _ => goN) (fun hj => ?_)
      rw [lit1q, I_sub]
      refine k_in (k := 79) (n := 3000) rfl (by decide) (by omega) (ok_br.mpr ⟨fun _ => ?_, fun _ => by rw [← lit1q]; exact goN⟩)
      refine k_wrong (s := 2) rfl ⟨by decide, by decide⟩ (by decide) (by omega) (fun v4 g1 g2 => ?_)
      have s4 := ST_67 hc2.1.1 g1
      exact work189_F hT (by omega) (by omega) (FSM_of s4 (by omega) (by omega) fs3.1 g2) (by rw [g1.F (by decide)]; omega) (by rw [g1.F (by decide)]; omega) s4.2.2.1.1 ⟨by omega, by omega⟩
  · refine k_F (y := 0) rfl ⟨by decide, by decide⟩ (fun z => absurd z hr.2.1) (fun _ => ?_)
    unfold fb_M_worked_129 fb_M_worked_141 fb_M_worked_331
    refine ok_br.mpr ⟨fun _ => ?_, fun z => absurd z (by decide)⟩
    rw [br00]
    exact up _ (head_F hr)
theorem work_loop (tk : TKW u0 TN SN bw) (hN : 20000 ≤ N) (hD : 0 ≤ D ∧ D ≤ 2900) (ho : 1 ≤ o ∧ o ≤ 25) (hprim : ∀ o1, o ≤ o1 → o1 ≤ 25 → XPR u0 TN SN bw D o1 S.2.2.2.2.2.2.2.2.2.2.1) (hpn : XNO S.2.2.2.2.2.2.2.2.2.2.1) (hm : NM TN bw 0 1 0 σ p o n q c f h s wt) (hu : UB σ n wt u) : ∀ i, LP1 N S u0 TN SN bw σ (D + 1) p o n q c f h s wt g u i := by
  have hT := tk.1.1
  have p0 := (NM_fs hm (by omega)).2.2.1
  intro i
  induction i with
  | zero =>
    refine ⟨fun v r p1 o1 n1 q1 c1 f1 h1 J hw hi => ?_, fun v p1 o1 n1 q1 c1 f1 h1 J hw hi => ?_⟩
    · have := hw.1.2.2.2.1; omega
    · have := hw.1.2.2.2.1; omega
  | succ i ih =>
    refine ⟨fun v r p1 o1 n1 q1 c1 f1 h1 J hw hi => ?_, fun v p1 o1 n1 q1 c1 f1 h1 J hw hi => ?_⟩
    · show OK _ (fb_M_worked_9 N S (gg_M_worked N S i) v (I wt) r 1)
      unfold fb_M_worked_9
      rw [br10]
      refine k_F (y := 0) rfl ⟨by decide, by decide⟩ (fun _ => ih.2 v p1 o1 n1 q1 c1 f1 h1 J hw (by omega)) (fun z => absurd hw.1.2.1 z)
    · have hp := hw.1.2.2.2.1
      have nm1 := WKB_nm tk hm hw.1 (by omega)
      have fs1 := NM_fs nm1 (by omega)
      have e69 : F v 69 = p1 := hw.1.1.2.1.1
      obtain ⟨i', rfl⟩ : ∃ i', i = i' + 1 + 1 := ⟨i - 2, by omega⟩
      show OK _ (fb_M_worked_20 N S (gg_M_worked N S (i' + 1 + 1)) v (I wt))
      unfold fb_M_worked_20
      have t45 : p1 < TN → OK (WRQ u0 TN SN bw σ (D + 1) p o n q c f h s wt g u) (fb_M_worked_45 N S (gg_M_worked N S (i' + 1 + 1)) v (I wt)) := fun hp1 =>
        work45_N tk (by omega) hm hu hw hp1 (fun w hw2 => ih.2 w _ _ _ _ _ _ _ _ hw2 (by omega)) (fun w hw2 => head2_F hpn hw2)
      refine k_F (y := 0) rfl ⟨by decide, by decide⟩ (fun _ => ?_) (fun z => absurd hw.1.2.1 z)
      refine k_isSign (s := 19) rfl ⟨by decide, by decide⟩ (by omega) (fun z => t45 (tok_lt tk (by omega) (by have := (ST_IS hw.1.1 z).1; omega))) (fun _ => ?_)
      refine k_isWord (s := 9) rfl ⟨by decide, by decide⟩ (by omega) (fun z => t45 (tok_lt tk (by omega) (by have := (ST_IW hw.1.1 z).1; omega))) (fun _ => ?_)
      exact work109_N tk hN hD ho hprim hm hu hw (fun w r p2 o2 n2 q2 c2 f2 h2 J2 hpp hw2 => ih.1 w r p2 o2 n2 q2 c2 f2 h2 J2 hw2 (by omega))
theorem worked_ok (tk : TKW u0 TN SN bw) (hN : 20000 ≤ N) (hD : 0 ≤ D ∧ D ≤ 2900) (ho : 1 ≤ o ∧ o ≤ 25) (hprim : ∀ o1, o ≤ o1 → o1 ≤ 25 → XPR u0 TN SN bw D o1 S.2.2.2.2.2.2.2.2.2.2.1) (hpn : XNO S.2.2.2.2.2.2.2.2.2.2.1) : XSP u0 TN SN bw (D + 10) 0 1 0 1 o (fm_M_worked N S) := by
  intro u σ p n q c f h s wt g hs hf hm hl
  have hT := tk.1.1
  have fs := NM_fs hm (by omega)
  have e83 : F u 83 = wt := hs.2.1.2.2.2.2.2.2.2.2.2.1
  unfold fm_M_worked fb_M_worked_0
  rw [I_F' e83]
  have hu : UB σ n wt u := ⟨hs.2.1.2.2.1, e83, (hs.2.2.2.1 σ (Nat.le_refl σ)).1.1⟩
  have w0 : WKA u0 TN SN σ bw p o n q c f h s wt g u u p o n q c f h 0 := by
    refine ⟨⟨by rw [show wt + ((0 : Nat) : Int) = wt by omega]; exact hs, hf, KPR_rf, by omega, ?_, fun i hi => by omega, ?_, hl⟩, fun _ _ _ => ⟨p, ⟨rfl, rfl, rfl⟩, Int.le_refl _⟩⟩
    · unfold NM at hm
      unfold WKN
      omega
    · show o = o + 0; omega
  refine ok_mono ((work_loop tk hN hD ho hprim hpn hm hu N).1 u (-1) p o n q c f h 0 w0 (by omega)) (fun v r hv => ?_)
  rcases hv with hv | ⟨hv, hr⟩
  · exact Or.inl hv
  · rw [hr]; exact Or.inr (FEQ_none (FSM_mo hv (by omega)))
theorem worked_F (hN : 1 ≤ N) : XNO (fm_M_worked N S) := fun u hf => by
  obtain ⟨N', rfl⟩ : ∃ N', N = N' + 1 := ⟨N - 1, by omega⟩
  unfold fm_M_worked fb_M_worked_0
  show fb_M_worked_9 (N' + 1) S (gg_M_worked (N' + 1) S N') u (u.1 83) (-1) 1 = _
  unfold fb_M_worked_9 fb_M_worked_334
  rw [br10, I_F (k := 67), lit0q, decE (F_r u 67).1 (F_r u 67).2 (by omega) (by omega), decide_eq_false hf, br_fq, br_fq]
end
end
section
section
variable {Q : MS → Int32 → Prop} {u0 u v v1 w x y : MS} {N σ TN SN e sN : Nat} {bw : Nat → Nat} {p o n q c f h s wt g k t D d z l p1 p2 o1 n1 n2 q1' q2 c1 c2 f1 f2 h1 h2 : Int} {r y1 y2 y3 : Int32} {S : SG_M_behind} {i : Nat}
theorem mks_st {p3 o3 s3 w3 g3 : Int} (a : ST u0 σ p o n q c f h s wt g u) (b : ST u0 σ p3 o3 n q c f h s3 w3 g3 x) : mks x = mks u := by
  obtain ⟨-, ⟨-, -, a1, a2, a3, a4, a5, -⟩, -⟩ := a
  obtain ⟨-, ⟨-, -, b1, b2, b3, b4, b5, -⟩, -⟩ := b
  funext i
  unfold mks
  by_cases z : i = 0
  · rw [if_pos z, a1, b1]
  · rw [if_neg z]
    by_cases z1 : i = 1
    · rw [if_pos z1, a3, b3]
    · rw [if_neg z1]
      by_cases z2 : i = 2
      · rw [if_pos z2, a2, b2]
      · rw [if_neg z2]
        by_cases z3 : i = 3
        · rw [if_pos z3, a4, b4]
        · rw [if_neg z3, a5, b5]
theorem ST_78 (hs : ST u0 σ p o n q c f h s wt g u) (a : FR [] [] [78] [] u v) : ST u0 σ p o n q c f h s wt g v := by
  obtain ⟨b1, e, b2, b6, b7, b8⟩ := hs
  have ef : ∀ k, F v k = F u k := fun k => a.F (by intro z; cases z)
  refine ⟨FR.tr b1 (FRP a (by decide) (by decide) (by decide)), ?_, ?_, SCP_fr b6 a (by decide), K44_fr b7 a (by decide), NGD_fr b8 a (by decide) (by decide)⟩
  · simp only [ef]; exact e
  · simp only [ef]; exact b2
theorem FSM_re (hs : FSM u0 TN σ D v) (a : FR [67, 68, 69] [] [] [] v w) (h67 : F w 67 ≠ 0) (h69 : 0 ≤ F w 69 ∧ F w 69 ≤ TN + 1) : FSM u0 TN σ D w := by
  obtain ⟨g1, g2, g3, g4, g5, g6, g7, g8⟩ := hs
  refine ⟨FR.tr g1 (FRP a (by decide) (by decide) (by decide)), h67, ⟨h69.1, h69.2, by rw [a.F (k := 71) (by decide)]; exact g3.2.2⟩, ?_, ?_, ?_, fun s hs => ?_, K44_fr g8 a (by decide)⟩
  · rw [a.F (by decide)]; exact g4
  · rw [a.F (by decide)]; exact g5
  · rw [a.F (by decide)]; exact g6
  · rw [a.A (by decide)]; exact g7 s hs
theorem match55 {G : (MS → Int32 → Int32 → Int32 → Option (MS × Int32)) × (MS → Int32 → Int32 → Int32 → Option (MS × Int32))} (hT : TN ≤ 4000) (hp : 0 ≤ p2 ∧ p2 ≤ TN) (hs : ∀ w, FR [67, 68, 69] [] [] [] v w → F w 67 ≠ 0 → 0 ≤ F w 69 ∧ F w 69 ≤ TN + 1 → FSM u0 TN σ D w) : OK (FEQ u0 TN σ D) (fb_M_matched_55 N S G v (I p2)) := by
  unfold fb_M_matched_55
  refine ok_lt.mpr (ok_lt.mpr ?_)
  rw [lit0q, wi_e, wi_e]
  have e69 : F (wi (wi v 67 0) 69 p2) 69 = p2 := wi_eq ⟨by omega, by omega⟩
  have fr : FR [67, 68, 69] [] [] [] v (wi (wi v 67 0) 69 p2) := FR.wi (FR.wi FR.rf (by decide)) (by decide)
  refine k_wrong (s := 2) rfl ⟨by decide, by decide⟩ (by decide) (by omega) (fun v1 g1 g2 => ok_some.mpr (FEQ_none (hs v1 (FR.tr fr (FR.mo g1 (by decide) (by decide) (by decide) (by decide))) g2 ?_)))
  rw [g1.F (by decide), e69]; omega
theorem mloop1 {K : Nat} (hσ : σ ≤ 26) (hK : ∀ v', FR [] [] [78] [] v v' → (∀ t, t ≤ σ → A v' 78 t = A v 63 t) → OK Q (bnd (fm_M_takeBack N v') (fun u12 _ => (gg_M_matched N S K).2 u12 y1 y2 0))) (h65 : F v 65 = σ) : ∀ (j i : Nat) (v' : MS), i + j = σ + 1 → FR [] [] [78] [] v v' → (∀ t, t < i → A v' 78 t = A v 63 t) → OK Q ((gg_M_matched N S (j + 1 + K)).1 v' y1 y2 (I (i : Int))) := by
  intro j
  induction j with
  | zero =>
    intro i v' hi fr ht
    rw [show 0 + 1 + K = K + 1 by omega]
    show OK Q (fb_M_matched_75 N S (gg_M_matched N S K) v' y1 y2 (I (i : Int)))
    unfold fb_M_matched_75
    rw [I_F' ((fr.F (k := 65) (by intro z; cases z)).trans h65)]
    exact k_lt ⟨by omega, by omega⟩ ⟨by omega, by omega⟩ (fun _ => hK v' fr (fun t ht2 => ht t (by omega))) (fun z => by omega)
  | succ j ih =>
    intro i v' hi fr ht
    rw [show j + 1 + 1 + K = (j + 1 + K) + 1 by omega]
    show OK Q (fb_M_matched_75 N S (gg_M_matched N S (j + 1 + K)) v' y1 y2 (I (i : Int)))
    unfold fb_M_matched_75
    rw [I_F' ((fr.F (k := 65) (by intro z; cases z)).trans h65)]
    refine k_lt ⟨by omega, by omega⟩ ⟨by omega, by omega⟩ (fun z => by omega) (fun _ => ?_)
    have ti : (I (i : Int)).toNatClampNeg = i := by rw [I_tn (by omega) (by omega)]; omega
    refine k_in (k := 63) (n := 27) rfl (by decide) (by omega) (k_in (k := 78) (n := 27) rfl (by decide) (by omega) (ok_lt.mpr ?_))
    rw [ti, I_A' (fr.A (k := 63) (i := i) (by decide)), wa_e, lit1q, I_add, show (i : Int) + 1 = ((i + 1 : Nat) : Int) from by omega]
    refine ih (i + 1) _ (by omega) (FR.wa fr (by decide)) (fun t h1 => ?_)
    by_cases z : t = i
    · rw [z, wa_eq (ARG1 v 63 i)]
    · rw [wa_ne z]; exact ht t (by omega)
theorem mloop2 {K : Nat} (hσ : σ ≤ 26) (hK : ∀ v', FR [] [] [63] [] v v' → (∀ t, t ≤ σ → A v' 63 t = A v 78 t) → OK Q (br (decide ((v'.1 73) = 0)) (fb_M_matched_154 N S (gg_M_matched N S K) v' y1 y2) (bnd (fm_M_rule N v' 7 y2) (fun u10 _ => fb_M_matched_154 N S (gg_M_matched N S K) u10 y1 y2)))) (h65 : F v 65 = σ) : ∀ (j i : Nat) (v' : MS), i + j = σ + 1 → FR [] [] [63] [] v v' → (∀ t, t < i → A v' 63 t = A v 78 t) → OK Q ((gg_M_matched N S (j + 1 + K)).2 v' y1 y2 (I (i : Int))) := by
  intro j
  induction j with
  | zero =>
    intro i v' hi fr ht
    rw [show 0 + 1 + K = K + 1 by omega]
    show OK Q (fb_M_matched_111 N S (gg_M_matched N S K) v' y1 y2 (I (i : Int)))
    unfold fb_M_matched_111
    rw [I_F' ((fr.F (k := 65) (by intro z; cases z)).trans h65)]
    exact k_lt ⟨by omega, by omega⟩ ⟨by omega, by omega⟩ (fun _ => hK v' fr (fun t ht2 => ht t (by omega))) (fun z => by omega)
  | succ j ih =>
    intro i v' hi fr ht
    rw [show j + 1 + 1 + K = (j + 1 + K) + 1 by omega]
    show OK Q (fb_M_matched_111 N S (gg_M_matched N S (j + 1 + K)) v' y1 y2 (I (i : Int)))
    unfold fb_M_matched_111
    rw [I_F' ((fr.F (k := 65) (by intro z; cases z)).trans h65)]
    refine k_lt ⟨by omega, by omega⟩ ⟨by omega, by omega⟩ (fun z => by omega) (fun _ => ?_)
    have ti : (I (i : Int)).toNatClampNeg = i := by rw [I_tn (by omega) (by omega)]; omega
    refine k_in (k := 78) (n := 27) rfl (by decide) (by omega) (k_in (k := 63) (n := 27) rfl (by decide) (by omega) (ok_lt.mpr ?_))
    rw [ti, I_A' (fr.A (k := 78) (i := i) (by decide)), wa_e, lit1q, I_add, show (i : Int) + 1 = ((i + 1 : Nat) : Int) from by omega]
    refine ih (i + 1) _ (by omega) (FR.wa fr (by decide)) (fun t h1 => ?_)
    by_cases z : t = i
    · rw [z, wa_eq (ARG1 v 78 i)]
    · rw [wa_ne z]; exact ht t (by omega)
theorem PTT_PAT {a b m m2 L : Nat} (hh : PTT w SN a b m m2 L) : PAT w id id b SN L m m2 ((a : Nat) : Int) := by
  obtain ⟨pM, pE, g1, g2, g3, g4, g5, g6⟩ := hh
  exact ⟨a, pM, pE, rfl, by omega, by omega, g3, by rw [g1]; exact g4, fun k k1 k2 => g5 k k1 (by omega), fun k k1 k2 => g6 k k1 (by omega)⟩
theorem match154 {G : (MS → Int32 → Int32 → Int32 → Option (MS × Int32)) × (MS → Int32 → Int32 → Int32 → Option (MS × Int32))} (tk : TKW u0 TN SN bw) (hN : 5000 ≤ N) (hD : 0 ≤ D ∧ D ≤ 2900) (ho : 1 ≤ o ∧ o ≤ 25) (hb : XSP u0 TN SN bw D 3 0 0 0 o S.1) (hu : ST u0 σ p o n q c f h s wt g u) (hm : NM TN bw 0 1 1 σ p o n q c f h s wt) (sx : ST u0 σ p1 o n q c f h (s + 1) wt g x) (fx : F x 67 = 0) (kx : KPR σ u x) (a60 : A x 60 σ = A u 60 σ) (lx : LGS σ x) (hg : g = 0 ∨ F x 72 ≠ 0) (hp : p < p2 ∧ p2 < TN) (pe : PEND u0 p.toNat p2.toNat) : OK (fun v r => EXQ u0 TN SN bw σ (o - 1) p o n q c f h (s + 1) wt g u v r ∨ FEQ u0 TN σ (D + 5) v r) (fb_M_matched_154 N S G x (I p) (I p2)) := by
  have hT := tk.1.1
  have fs := NM_fs hm (by omega)
  have hσ : σ ≤ 26 := by omega
  unfold fb_M_matched_154
  refine ok_lt.mpr ?_
  rw [lit1q, I_add, wi_e, ← lit1q]
  have s9 := ST_69 (x := p2 + 1) sx ⟨by omega, by omega⟩
  have k9 : KPR σ u (wi x 69 (p2 + 1)) := KPR_w0 kx (by decide)
  have f9 : F (wi x 69 (p2 + 1)) 67 = 0 := (wi_ne (by decide)).trans fx
  have m9 : mks (wi x 69 (p2 + 1)) = mks u := mks_st hu s9
  have n9 : nmo σ (wi x 69 (p2 + 1)) = nmo σ u := by unfold nmo; rw [A_wi, a60]
  have l9 : LGS σ (wi x 69 (p2 + 1)) := fun z => lx (by rw [← z]; exact (wi_ne (by decide)).symm)
  have f72 : F (wi x 69 (p2 + 1)) 72 = F x 72 := wi_ne (by decide)
  have bw1 := bw_mono tk (i := p.toNat) (m := (p2 + 1).toNat) (by omega) (by omega)
  have bw2 := bw_top tk (i := (p2 + 1).toNat) (by omega)
  have nm9 : NM TN bw 3 0 0 σ (p2 + 1) o n q c f h (s + 1) wt := by unfold NM at hm ⊢; omega
  generalize wi x 69 (p2 + 1) = x9 at *
  refine ok_bnd.mpr (ok_mono (hb x9 σ _ _ _ _ _ _ _ _ _ s9 f9 nm9 l9) (fun y r hy => ?_))
  rw [show o - 0 = o by omega] at hy
  rcases hy with ⟨b0, p4, n4, q4, c4, f4, h4, e, b1, b2, b3, b4, b5, b6, b7, b8⟩ | hy
  · refine k_F (y := 0) rfl ⟨by decide, by decide⟩ (fun _ => ?_) (fun z => absurd b0 z)
    have nm4 := NM_dlt tk nm9 b5 (by omega) (by omega) b4
    have fs4 := NM_fs nm4 (by omega)
    have dlt := b5
    refine ok_lt.mpr (ok_lt.mpr ?_)
    rw [wi_e, clo1_e]
    have sA := ST_cl (ST_69 (x := p) b2 ⟨by omega, by omega⟩) (by omega)
    have kA : KPR σ y (clo1 (wi y 69 p)) := KPR_w0 (KPR_w0 KPR_rf (by decide)) (by decide)
    have fA : F (clo1 (wi y 69 p)) 67 = 0 := by rw [show F (clo1 (wi y 69 p)) 67 = F (wi y 69 p) 67 from wi_ne (by decide), wi_ne (by decide)]; exact b0
    have aA : ∀ r i, A (clo1 (wi y 69 p)) r i = A y r i := fun _ _ => rfl
    have f66A : F (clo1 (wi y 69 p)) 66 = F y 66 := by rw [show F (clo1 (wi y 69 p)) 66 = F (wi y 69 p) 66 from wi_ne (by decide), wi_ne (by decide)]
    have e69y : F y 69 = p4 := b2.2.1.1
    generalize clo1 (wi y 69 p) = yA at *
    have q4b : 0 ≤ q4 ∧ 2 * q4 ≤ p4 := by unfold NM at nm4; omega
    refine ok_bnd.mpr (ok_mono (patternAt_ok (d := D) tk hN hσ (show 0 ≤ o - 1 ∧ o - 1 ≤ 25 by omega) yA 0 _ _ _ _ _ _ _ _ _ sA fA (by omega) (by omega) (by omega) fs4.1) (fun y5 r5 hy5 => ok_lt.mpr (ok_lt.mpr ?_)))
    rw [op1_e, I_F' e69y, wi_e]
    rcases hy5 with ⟨c0, c1, p5, q5, c2, c3, c4', c5, c6, c7, c8⟩ | ⟨hy5, x5, hx5, -⟩
    · have hp5 := PEND_eq c5 pe
      have s7 := ST_69 (x := p4) (ST_op c2 (by omega)) ⟨by omega, by omega⟩
      rw [show o - 1 + 1 = o by omega] at s7
      have k7 : KPR σ y (wi (op1 y5) 69 p4) := KPR_w0 (KPR_w0 (KPR_tr kA c3) (by decide)) (by decide)
      have f7 : F (wi (op1 y5) 69 p4) 67 = 0 := by rw [wi_ne (by decide), show F (op1 y5) 67 = F y5 67 from wi_ne (by decide)]; exact c0
      have a7 : ∀ r i, A (wi (op1 y5) 69 p4) r i = A y5 r i := fun _ _ => rfl
      have f66 : F (wi (op1 y5) 69 p4) 66 = F y5 66 := by rw [wi_ne (by decide), show F (op1 y5) 66 = F y5 66 from wi_ne (by decide)]
      generalize wi (op1 y5) 69 p4 = y7 at *
      have e32 : F y7 32 = n4 := s7.2.1.2.2.1
      have e32y : F y 32 = n4 := b2.2.1.2.2.1
      refine k_node (k := 16) rfl (by decide) rfl (by omega) (by omega) (fun y8 hy8 => ?_)
      refine k_in (k := 25) (n := 16000) rfl (by decide) (by omega) (ok_lt.mpr (ok_some.mpr (Or.inl ?_)))
      rw [I_tn (by omega) (by omega), c1, wa_e, e32]
      have nd : NDW y7 (wa y8 25 n4.toNat q4) 16 p2 := by rw [← e32]; exact NDW_wa hy8.1 (by decide)
      have nw : NEWN (wa y8 25 n4.toNat q4) n4.toNat 16 := by
        have := NEWN_of hy8 (show 0 ≤ p2 ∧ p2 < 4002 by omega)
        rw [e32] at this
        exact NEWN_wa this (by decide)
      have a25 : A (wa y8 25 n4.toNat q4) 25 n4.toNat = q4 := wa_eq ⟨by omega, by omega⟩
      generalize wa y8 25 n4.toNat q4 = y9 at *
      have s9' := ST_nd s7 nd (by omega) (by omega) (fun z => by omega)
      have k9' : KPR σ y y9 := KPR_nd k7 nd (by omega)
      have b60 : A y9 60 σ = A y5 60 σ := (nd.1.A (by decide)).trans (a7 60 σ)
      have b63 : A y9 63 σ = A y5 63 σ := (nd.1.A (by decide)).trans (a7 63 σ)
      have b66 : F y9 66 = F y5 66 := (nd.1.F (by decide)).trans f66
      have l9' : LGS σ y9 := fun z => by
        rw [b60]
        have z2 : F y5 66 = 0 := by rw [← b66]; exact z
        rcases c8 z2 with z3 | z3
        · exact z3
        · rw [z3, aA]; exact b7 (k9'.2.2.2.2.2.2 z)
      refine ⟨(nd.1.F (by decide)).trans f7, p4, n4 + 1, q5, c4, f4, h4, n4.toNat, by congr 1; omega, s9', KPR_tr k9 (KPR_tr b3 k9'), b4, ?_, ⟨by unfold DLT at dlt; omega, by omega, RTD_mo 0 _ _ ⟨by unfold DLT at dlt; omega, nw.2.2.2.1⟩ (by omega), nw.2.2.2.2.1⟩, l9', ?_⟩
      · unfold DLT at dlt ⊢
        omega
      · rcases hg with hg | hg
        · have t1 : TYG TN SN σ g (o - 1) (p4 - p + 1) u y 0 1 (fun i => i = e) := TYG_mo (TYG_u b8 m9 n9) (by omega) (by omega)
          have on : ONE (mks y) (mks y9) n4.toNat := by
            have fy : ∀ k, k ∈ [46, 56, 58] → F y9 k = F y k := fun k hk => by
              have g1 := s9'.2.1
              have g2 := b2.2.1
              have : ∀ k, k ∈ [46, 56, 58] → k = 46 ∨ k = 56 ∨ k = 58 := by decide
              rcases this k hk with z | z | z
              · rw [z, g1.2.2.2.2.1, g2.2.2.2.2.1]
              · rw [z, g1.2.2.2.2.2.1, g2.2.2.2.2.2.1]
              · rw [z, g1.2.2.2.2.2.2.1, g2.2.2.2.2.2.2.1]
            have f39 := k9'.2.2.2.2.1.2.1
            refine ⟨by show (F y 32).toNat = _; omega, by show (F y9 32).toNat = _; rw [s9'.2.1.2.2.1]; omega, by show (F y9 46).toNat = (F y 46).toNat; rw [fy 46 (by decide)], by show (F y9 56).toNat = (F y 56).toNat; rw [fy 56 (by decide)], fun i => ?_⟩
            unfold mks
            by_cases z : i = 0
            · rw [if_pos z, s9'.2.1.2.2.1]; omega
            · rw [if_neg z]
              by_cases z1 : i = 1
              · rw [if_pos z1, fy 46 (by decide)]; exact Nat.le_refl _
              · rw [if_neg z1]
                by_cases z2 : i = 2
                · rw [if_pos z2]; omega
                · rw [if_neg z2]
                  by_cases z3 : i = 3
                  · rw [if_pos z3, fy 56 (by decide)]; exact Nat.le_refl _
                  · rw [if_neg z3, fy 58 (by decide)]; exact Nat.le_refl _
          have ptt : PTT y9 SN q4.toNat q5.toNat (nmo σ y) (nmo σ y9) (hlo σ y9) := by
            unfold nmo hlo
            rw [b60, b63, ← aA 60 σ]
            refine PTT_ag c6 (fun r i hr _ _ => ?_) (fun i _ _ => ?_) (Nat.le_refl _)
            · have : ∀ r, r ∈ [33, 35, 36, 38] → r ∉ [23, 24, 25, 26, 27, 28, 29, 30, 31] := by decide
              rw [nd.1.A (this r hr), a7]
            · rw [nd.1.A (by decide), a7]
          have hmn := PTT_lt ptt
          have t2 : TYG TN SN σ g (o - 1) (p4 - p + 1) y y9 1 1 (fun i => i = n4.toNat) := by
            have sc := (s9'.2.2.2.1 σ (Nat.le_refl σ)).1
            have kk := k9'.2.2.1.2.2.2 σ (Nat.le_refl σ)
            have sy := (b2.2.2.2.1 σ (Nat.le_refl σ)).1
            refine TYG_mk (nm := 0) (xx := 1) l9' (fun z => b7 (k9'.2.2.2.2.2.2 z)) (by omega) (fun mm X Y g1 g2 g3 => ?_) (by unfold DLT at dlt; omega) (by omega)
            rw [show gq g = 0 by unfold gq; rw [if_pos hg]]
            refine s16 on nw ⟨Nat.le_refl _, g1, g3, hmn.2, g2⟩ ?_
            rw [a25, show mks y9 2 = q5.toNat by show (F y9 39).toNat = _; rw [s9'.2.1.2.2.2.1], show q4 = ((q4.toNat : Nat) : Int) by omega]
            exact PTT_PAT ptt
          refine TYG_ro (TYG_app (e := 0) t1 k9' t2 rfl (Int.le_refl _) (by omega)) (fun i hi => Or.inr hi) (fun i hi => ?_)
          rcases hi with hi | hi
          · refine Or.inr ?_
            rw [hi, k9'.2.1.1 29 e (by decide) (by rw [b2.2.1.2.2.1]; exact b6.2.1)]
            exact b6.2.2.2
          · exact Or.inl hi
        · intro z1
          exact absurd ((KPR_tr b3 k9').2.2.2.2.2.1 z1) (by rw [f72]; exact hg)
    · have s7 : FSM u0 TN σ D (wi (op1 y5) 69 p4) := FSM_69 (FSM_wi hy5 (by decide)) (by omega) hT
      generalize wi (op1 y5) 69 p4 = y7 at *
      have n7 := s7.2.2.2.2.1
      refine k_node (k := 16) rfl (by decide) rfl (by omega) (by omega) (fun y8 hy8 => ?_)
      refine k_in (k := 25) (n := 16000) rfl (by decide) (by omega) (ok_lt.mpr (ok_some.mpr (Or.inr ?_)))
      rw [I_tn (by omega) (by omega), hx5, wa_e]
      refine ⟨FSM_mo (FSM_wa (FSM_nd s7 hy8.1) (by decide)) (by omega), F y7 32, rfl, Or.inr ⟨by omega, ?_, ?_⟩⟩
      · rw [F_wa, hy8.1.2.1]; omega
      · rw [wa_rne (by decide)]; exact hy8.2.2.2.2.1
  · refine k_F (y := 0) rfl ⟨by decide, by decide⟩ (fun z => absurd z hy.1.2.1) (fun _ => ok_some.mpr (Or.inr (FEQ_none (FSM_mo hy.1 (by omega)))))
end
end
section
def XMT (u0 : MS) (TN SN : Nat) (bw : Nat → Nat) (D o : Int) (fn : MS → Int32 → Option (MS × Int32)) : Prop := ∀ (u w : MS) (σ sN : Nat) (p n q c f h wt g p2 n2 q2 c2 f2 h2 : Int), ST u0 σ p o n q c f h (sN : Int) wt g u → NM TN bw 0 1 1 σ p o n q c f h (sN : Int) wt → LGS σ u → ST u0 σ p2 o n2 q2 c2 f2 h2 ((sN : Int) + 1) wt g w → F w 67 = 0 → KPR σ u w → SVD σ sN u w → IS w 11 → p < p2 ∧ p2 ≤ TN → OK (fun v r => EXQ u0 TN SN bw σ (o - 1) p o n q c f h ((sN : Int) + 1) wt g u v r ∨ FEQ u0 TN σ D v r) (fn w (I p))
section
variable {u0 u v v1 w x y : MS} {N σ TN SN e sN : Nat} {bw : Nat → Nat} {p o n q c f h s wt g k t D d z l p1 p2 o1 n1 n2 q1' q2 c1 c2 f1 f2 h1 h2 : Int} {r y1 y2 y3 : Int32} {S : SG_M_behind} {i : Nat} {lv : Int}
theorem SVD_eq (a : SVD σ sN u v) (e : ∀ r i, r ∈ [74, 76] → A w r i = A v r i) : SVD σ sN u w := by
  obtain ⟨⟨a0, a1, a2, a3, a4, a5, a6, a7⟩, b⟩ := a
  unfold SVD
  simp only [e 74 _ (by decide), e 76 _ (by decide)]
  exact ⟨⟨a0, a1, a2, a3, a4, a5, a6, a7⟩, b⟩
theorem matched_ok (tk : TKW u0 TN SN bw) (hN : 20000 ≤ N) (hD : 0 ≤ D ∧ D ≤ 2900) (ho : 1 ≤ o ∧ o ≤ 25) (hb : XSP u0 TN SN bw D 3 0 0 0 o S.1) : XMT u0 TN SN bw (D + 10) o (fm_M_matched N S) := by
  intro u w σ sN p n q c f h wt g p2 n2 q2 c2 f2 h2 hu hm hl hw fw kw sv his hp
  have hT := tk.1.1
  have fs := NM_fs hm (by omega)
  have hσ : σ ≤ 26 := by omega
  have hs26 : sN ≤ 26 := by unfold NM at hm; omega
  have e69w : F w 69 = p2 := hw.2.1.1
  have e65w : F w 65 = σ := hw.2.1.2.2.2.2.2.2.2.2.2.2.2
  have e75w : F w 75 = 8 * (sN : Int) + 8 := by rw [hw.2.1.2.2.2.2.2.2.2.1]; omega
  have e77w : F w 77 = 54 * (sN : Int) + 54 := by rw [hw.2.1.2.2.2.2.2.2.2.2.1]; omega
  have u66 : F u 66 = 0 ∨ F u 66 = 1 := hu.2.2.1.2.2
  have hp2 : p2 < TN := tok_lt tk (by omega) (by have := (ST_IS hw his).1; omega)
  unfold fm_M_matched fb_M_matched_0
  refine ok_bnd.mpr (ok_mono (tback_0 (by omega) hσ hs26 e65w e75w e77w sv u66) (fun x1 _ hx1 => ?_))
  have s1 := TBF_ST hu hw kw hx1
  have k1 := TBF_KP hx1 kw
  have f1 : F x1 67 = 0 := (hx1.1.F (by decide)).trans fw
  have sv1 : SVD σ sN u x1 := SVD_eq sv (fun r i hr => by
    have : ∀ r, r ∈ [74, 76] → r ∉ [60, 63] := by decide
    exact hx1.1.A (this r hr))
  refine ok_lt.mpr (ok_lt.mpr ?_)
  rw [wi_e, clo1_e]
  have s2 := ST_cl (ST_69 (x := p) s1 ⟨by omega, by omega⟩) (by omega)
  have k2 : KPR σ u (clo1 (wi x1 69 p)) := KPR_w0 (KPR_w0 k1 (by decide)) (by decide)
  have f2 : F (clo1 (wi x1 69 p)) 67 = 0 := by rw [show F (clo1 (wi x1 69 p)) 67 = F (wi x1 69 p) 67 from wi_ne (by decide), wi_ne (by decide)]; exact f1
  have sv2 : SVD σ sN u (clo1 (wi x1 69 p)) := SVD_eq sv1 (fun _ _ _ => rfl)
  generalize clo1 (wi x1 69 p) = x2 at *
  have qb : 0 ≤ q ∧ 2 * q ≤ p := by unfold NM at hm; omega
  refine ok_bnd.mpr (ok_mono (patternAt_ok (d := D) tk (by omega) hσ (show 0 ≤ o - 1 ∧ o - 1 ≤ 25 by omega) x2 0 _ _ _ _ _ _ _ _ _ s2 f2 (by omega) (by omega) (by omega) fs.1) (fun x3 r3 hx3 => ok_lt.mpr ?_))
  rw [op1_e, I_F' e69w]
  have upF : ∀ z, OK (FEQ u0 TN σ D) z → OK (fun v r => EXQ u0 TN SN bw σ (o - 1) p o n q c f h ((sN : Int) + 1) wt g u v r ∨ FEQ u0 TN σ (D + 10) v r) z := fun z hz => ok_mono hz (fun _ _ y => Or.inr (FEQ_mo y (by omega)))
  rcases hx3 with ⟨c0, -, p5, q5, c2', c3, c4', c5, -, -, -⟩ | ⟨hx3, -⟩
  · have s4 := ST_op c2' (by omega)
    rw [show o - 1 + 1 = o by omega] at s4
    have k4 : KPR σ u (op1 x3) := KPR_w0 (KPR_tr k2 c3) (by decide)
    have f4 : F (op1 x3) 67 = 0 := (wi_ne (by decide)).trans c0
    have sv4 : SVD σ sN u (op1 x3) := SVD_eq (SVD_kp sv2 c3 (by rw [s2.2.1.2.2.2.2.2.2.2.1]; omega) (by rw [s2.2.1.2.2.2.2.2.2.2.2.1]; omega) hσ) (fun _ _ _ => rfl)
    generalize op1 x3 = x4 at *
    have e69 : F x4 69 = p5 := s4.2.1.1
    have e65 : F x4 65 = σ := s4.2.1.2.2.2.2.2.2.2.2.2.2.2
    have p5b : 0 ≤ p5 := by have := (PEND_b c5).1; omega
    refine k_F (y := 0) rfl ⟨by decide, by decide⟩ (fun _ => ?_) (fun z => absurd f4 z)
    rw [I_F' e69]
    refine k_eq ⟨by omega, by omega⟩ ⟨by omega, by omega⟩ (fun he => ?_) (fun _ => ?_)
    · subst he
      obtain ⟨K1, hK1⟩ : ∃ K1, N = (σ + 1) + 1 + K1 := ⟨N - (σ + 2), by omega⟩
      obtain ⟨K2, hK2⟩ : ∃ K2, K1 = (σ + 1) + 1 + K2 := ⟨K1 - (σ + 2), by omega⟩
      have hG : ∀ fu, fu = (σ + 1) + 1 + K1 → OK (fun v r => EXQ u0 TN SN bw σ (o - 1) p o n q c f h ((sN : Int) + 1) wt g u v r ∨ FEQ u0 TN σ (D + 10) v r) ((gg_M_matched N S fu).1 x4 (I p) (I p5) (I ((0 : Nat) : Int))) := fun fu hfu => by
        rw [hfu]
        refine mloop1 (K := K1) hσ (fun x5 fr5 h78 => ?_) e65 (σ + 1) 0 x4 (by omega) FR.rf (fun t ht => absurd ht (Nat.not_lt_zero _))
        have s5 := ST_78 s4 fr5
        have k5 : KPR σ u x5 := KPR_tr k4 (KPR_fr (is := []) (js := [78]) (FR.mo fr5 (fun _ z => z) (fun _ z => z) (fun _ z => z) (fun _ z => by cases z)) (by decide) (by decide))
        have sv5 : SVD σ sN u x5 := SVD_eq sv4 (fun r i hr => by
          have : ∀ r, r ∈ [74, 76] → r ∉ [78] := by decide
          exact fr5.A (this r hr))
        refine ok_bnd.mpr (ok_mono (tback_0 (by omega) hσ hs26 s5.2.1.2.2.2.2.2.2.2.2.2.2.2 (by rw [s5.2.1.2.2.2.2.2.2.2.1]; omega) (by rw [s5.2.1.2.2.2.2.2.2.2.2.1]; omega) sv5 u66) (fun x6 _ hx6 => ?_))
        have s6 := TBF_ST hu s5 k5 hx6
        have k6 := TBF_KP hx6 k5
        rw [lit0q, hK2]
        refine mloop2 (K := K2) hσ (fun x7 fr7 h63 => ?_) s6.2.1.2.2.2.2.2.2.2.2.2.2.2 (σ + 1) 0 x6 (by omega) FR.rf (fun t ht => absurd ht (Nat.not_lt_zero _))
        have a63 : ∀ t, t ≤ σ → A x7 63 t = A x4 63 t := fun t ht => by rw [h63 t ht, hx6.1.A (by decide), h78 t ht]
        have a60 : ∀ t, t ≤ σ → A x7 60 t = A u 60 t := fun t ht => by rw [fr7.A (by decide)]; exact (hx6.2.2 t ht).1
        have k60 : ∀ t, t < σ → A x4 60 t = A u 60 t := fun t ht => k4.2.2.1.2.2.1 t ht
        have sc : SCP (F u0 17) σ x7 := fun t ht => by
          obtain ⟨⟨g1, g2, g3, g4⟩, g5, g6, g7⟩ := s6.2.2.2.1 t ht
          obtain ⟨⟨d1, d2, d3, d4⟩, d5, d6, d7⟩ := s4.2.2.2.1 t ht
          rw [fr7.A (k := 60) (by decide), fr7.A (k := 64) (by decide), a63 t ht]
          refine ⟨⟨g1, g2, d3, d4.1, g4.2⟩, fun i hi => ?_, d6, fun i hi ht0 => ?_⟩
          · rw [fr7.A (by decide)]
            exact ⟨(g5 i hi).1, (g5 i hi).2.1, fun j hj => by rw [fr7.A (by decide)]; exact (g5 i hi).2.2 j hj⟩
          · have := d7 i hi ht0
            rw [fr7.A (k := 62) (by decide), hx6.1.A (by decide), fr5.A (by decide), a63 (t - 1) (by omega), a60 (t - 1) (by omega)]
            rw [k60 (t - 1) (by omega)] at this
            exact this
        have k7 : KPR σ u x7 := KPR_tr k6 (KPR_sc (FR.mo fr7 (by decide) (by decide) (by decide) (by decide)) (fun s i _ _ => fr7.A (by decide)) (fun r s i hr _ _ => fr7.A (by
            have : ∀ r, r ∈ [61, 62] → r ∉ [63] := by decide
            exact this r hr)) (fun s _ => fr7.A (by decide)) (fun s hs => ?_) (fun z => by rw [← fr7.F (k := 66) (by intro z; cases z)]; exact z))
        · have s7 := ST_sc s6 (FR.mo fr7 (by decide) (by decide) (by decide) (by decide)) sc (Or.inl (fr7.F (by intro z; cases z)))
          have f7 : F x7 67 = 0 := by
            rw [fr7.F (by intro z; cases z), hx6.1.F (by decide), fr5.F (by intro z; cases z)]; exact f4
          have l7 : LGS σ x7 := fun z => by
            rw [a60 σ (Nat.le_refl σ)]
            exact hl (k7.2.2.2.2.2.2 z)
          have fin : ∀ x8, FR [71, 72] [] [] [] x7 x8 → ST u0 σ p5 o n q c f h ((sN : Int) + 1) wt g x8 → KPR σ u x8 → (g = 0 ∨ F x8 72 ≠ 0) → OK (fun v r => EXQ u0 TN SN bw σ (o - 1) p o n q c f h ((sN : Int) + 1) wt g u v r ∨ FEQ u0 TN σ (D + 10) v r) (fb_M_matched_154 N S (gg_M_matched N S K2) x8 (I p) (I p5)) := fun x8 fr8 s8 k8 hg => by
            refine ok_mono (match154 tk (by omega) hD ho hb hu hm s8 ((fr8.F (by decide)).trans f7) k8 ((fr8.A (by intro z; cases z)).trans (a60 σ (Nat.le_refl σ))) (fun z => ?_) hg ⟨hp.1, hp2⟩ c5) (fun _ _ y => y.imp id (fun z => FEQ_mo z (by omega)))
            rw [fr8.A (by intro z; cases z)]
            exact l7 (by rw [← z]; exact (fr8.F (by decide)).symm)
          refine k_F (k := 73) (y := 0) rfl ⟨by decide, by decide⟩ (fun hg => ?_) (fun hg => ?_)
          · rw [s7.2.1.2.2.2.2.2.2.2.2.2.2.1] at hg
            exact fin x7 FR.rf s7 k7 (Or.inl hg)
          · refine k_rule (s := 7) (t := p5) rfl ⟨by decide, by decide⟩ (by decide) rfl (by omega) s7.2.2.1.1 (fun v1 g1 g2 g3 => ?_)
            exact fin v1 g1 (ST_rule s7 g1 g3) (KPR_rule k7 g1 g2) (Or.inr g2)
        · have h9 := k4.2.2.1.2.2.2 s hs
          rw [fr7.A (k := 60) (by decide), fr7.A (k := 64) (by decide), a63 s hs]
          refine ⟨Int.le_refl _, ?_, Int.le_refl _⟩
          rw [(hx6.2.2 s hs).2]
          exact h9.2.1
      have := hG N hK1
      rw [show ((0 : Nat) : Int) = 0 from rfl, ← lit0q] at this
      exact this
    · refine upF _ (match55 hT (by omega) (fun w2 fr2 g1 g2 => ?_))
      refine ⟨FR.tr s4.1 (FRP fr2 (by decide) (by decide) (by decide)), g1, ⟨g2.1, g2.2, by rw [fr2.F (k := 71) (by decide)]; exact s4.2.2.1.1⟩, ?_, ?_, ?_, fun t ht => ?_, K44_fr s4.2.2.2.2.1 fr2 (by decide)⟩
      · rw [fr2.F (by decide)]; exact e65
      · rw [fr2.F (by decide), s4.2.1.2.2.1]; omega
      · rw [fr2.F (by decide), s4.2.1.2.2.2.2.2.2.1]; exact fs.1
      · rw [fr2.A (by intro z; cases z)]
        have := (s4.2.2.2.1 t ht).1
        omega
  · have s4 : FSM u0 TN σ D (op1 x3) := FSM_wi hx3 (by decide)
    refine k_F (y := 0) rfl ⟨by decide, by decide⟩ (fun z => absurd z s4.2.1) (fun _ => ?_)
    exact upF _ (match55 hT (by omega) (fun w2 fr2 g1 g2 => FSM_re s4 fr2 g1 g2))
theorem save_st (hN : 5000 ≤ N) (hσ : σ ≤ 26) (hs : sN ≤ 26) (hu : ST u0 σ p o n q c f h (sN : Int) wt g u) : OK (fun v _ => ST u0 σ p o n q c f h ((sN : Int) + 1) wt g v ∧ KPR σ u v ∧ SVD σ sN u v ∧ FR [75, 77] [] [74, 76] [] u v) (fm_M_save N u) := by
  refine ok_mono (save_ok hN hσ hs hu.2.1.2.2.2.2.2.2.2.2.2.2.2 hu.2.1.2.2.2.2.2.2.2.1 hu.2.1.2.2.2.2.2.2.2.2.1 hu.2.2.1.2.2) (fun v _ hv => ?_)
  obtain ⟨a, a75, a77, a74, a76, sv⟩ := hv
  obtain ⟨b1, ⟨e1, e2, e3, e4, e5, e6, e7, e8, e9, e10, e11, e12⟩, ⟨b3, b4, b5⟩, b6, b7, b8⟩ := hu
  refine ⟨⟨FR.tr b1 (FRP a (by decide) (by decide) (by decide)), ⟨?_, ?_, ?_, ?_, ?_, ?_, ?_, by omega, by omega, ?_, ?_, ?_⟩, ⟨?_, b4, ?_⟩, SCP_fr b6 a (by decide), K44_fr b7 a (by decide), NGD_fr b8 a (by decide) (by decide)⟩, ?_, sv, a⟩
  all_goals try (rw [a.F (by decide)]; assumption)
  have g2 : ∀ r i, r ∉ [74, 76] → A v r i = A u r i := fun r i hr => a.A hr
  have m1 : ∀ r, r ∈ [23, 24, 25, 26, 27, 28, 29, 30, 31] → r ∉ [74, 76] := by decide
  have m2 : ∀ r, r ∈ [33, 35, 36, 37, 38] → r ∉ [74, 76] := by decide
  have m3 : ∀ r, r ∈ [40, 41, 42, 43, 45] → r ∉ [74, 76] := by decide
  have m4 : ∀ r, r ∈ [53, 54, 55] → r ∉ [74, 76] := by decide
  have m5 : ∀ r, r ∈ [61, 62] → r ∉ [74, 76] := by decide
  have m6 : ∀ r, r ∈ [79, 80, 81, 82] → r ∉ [74, 76] := by decide
  refine ⟨FRP a (by decide) (by decide) (by decide), ⟨fun r i h1 _ => g2 r i (m1 r h1), fun r i h1 _ => g2 r i (m2 r h1), fun r i h1 _ => g2 r i (m3 r h1), fun r i h1 _ => g2 r i (m4 r h1), fun i _ => g2 57 i (by decide)⟩, ⟨fun s i _ _ => g2 59 _ (by decide), fun r s i h0 _ _ => g2 r _ (m5 r h0), fun s _ => g2 60 s (by decide), fun s _ => ?_⟩, ⟨fun i hi => a74 i (by omega), fun i hi => a76 i (by omega), fun r i h1 _ => g2 r i (m6 r h1)⟩, ⟨?_, ?_, ?_, ?_, ?_, by omega, by omega, ?_⟩, ?_, ?_⟩
  · rw [g2 60 s (by decide), g2 63 s (by decide), g2 64 s (by decide)]; exact ⟨Int.le_refl _, Int.le_refl _, Int.le_refl _⟩
  all_goals rw [a.F (by decide)]
  all_goals first | exact Int.le_refl _ | exact id
theorem simp97_N {s2 : Int} (hs2 : s2 = (sN : Int)) (hu : ST u0 σ p o n q c f h (sN : Int) wt g u) (hw : EXQ u0 TN SN bw σ lv p o n q c f h ((sN : Int) + 1) wt g u w r) : OK (fun v r => EXQ u0 TN SN bw σ lv p o n q c f h s2 wt g u v r ∨ FEQ u0 TN σ D v r) (fb_M_simple_97 N S () w r) := by
  subst hs2
  obtain ⟨b0, p2, n2, q2, c2, f2, h2, e, b1, b2, b3, b4, b5, b6, b7, b8⟩ := hw
  unfold fb_M_simple_97
  rw [forget_e (s := sN) (by rw [b2.2.1.2.2.2.2.2.2.2.1]; omega) (by rw [b2.2.1.2.2.2.2.2.2.2.2.1]; omega), bnd_so]
  have fr : FR [75, 77] [] [] [] w (wi (wi w 75 (8 * (sN : Int))) 77 (54 * (sN : Int))) := FR.wi (FR.wi FR.rf (by decide)) (by decide)
  have rs : RG (8 * (sN : Int)) ∧ RG (54 * (sN : Int)) := by
    have h1 := F_r u 75
    have h2 := F_r u 77
    rw [hu.2.1.2.2.2.2.2.2.2.1] at h1
    rw [hu.2.1.2.2.2.2.2.2.2.2.1] at h2
    exact ⟨h1, h2⟩
  have kw : KPR σ u (wi (wi w 75 (8 * (sN : Int))) 77 (54 * (sN : Int))) := KPR_wi (KPR_wi b3 (by decide) (by rw [hu.2.1.2.2.2.2.2.2.2.1]; exact Int.le_refl _) rs.1) (by decide) (by rw [hu.2.1.2.2.2.2.2.2.2.2.1]; exact Int.le_refl _) rs.2
  have sw : ST u0 σ p2 o n2 q2 c2 f2 h2 (sN : Int) wt g (wi (wi w 75 (8 * (sN : Int))) 77 (54 * (sN : Int))) := by
    obtain ⟨d1, ⟨e1, e2, e3, e4, e5, e6, e7, e8, e9, e10, e11, e12⟩, ⟨d3, d4, d5⟩, d6, d7, d8⟩ := b2
    refine ⟨FR.tr d1 (FRP fr (by decide) (by decide) (by decide)), ⟨?_, ?_, ?_, ?_, ?_, ?_, ?_, ?_, wi_eq rs.2, ?_, ?_, ?_⟩, ⟨?_, d4, ?_⟩, SCP_fr d6 fr (by decide), K44_fr d7 fr (by decide), NGD_fr d8 fr (by decide) (by decide)⟩
    all_goals try (rw [fr.F (by decide)]; assumption)
    rw [wi_ne (by decide), wi_eq rs.1]
  refine ok_some.mpr (Or.inl ⟨(fr.F (by decide)).trans b0, p2, n2, q2, c2, f2, h2, e, b1, sw, kw, b4, b5, ⟨b6.1, b6.2.1, RTD_A b6.2.2.1 (fun r j _ => fr.A (by intro z; cases z)), (fr.A (by intro z; cases z)).trans b6.2.2.2⟩, fun z => ?_, fun z1 z2 z3 => ?_⟩)
  · rw [fr.A (by intro z; cases z)]; exact b7 (by rw [← z]; exact (fr.F (by decide)).symm)
  · have t := TYM_of b8 (by rw [← z1]; exact (fr.F (by decide)).symm) (by rw [← z2]; exact (fr.F (by decide)).symm) z3
    refine TYM_tr (wt := 0) (J := 0) t ?_ (fr_mks fr (by decide)) (by unfold nmo; rw [fr.A (by intro z; cases z)])
    exact TRN_fr (FR.mo fr (fun _ z => z) (fun _ z => z) (fun _ z => by cases z) (fun _ z => z)) (by decide) (fun r i hr _ => fr.A (by intro z; cases z))
theorem simp97_F (hw : FEQ u0 TN σ D w r) : OK (FEQ u0 TN σ D) (fb_M_simple_97 N S () w r) := by
  obtain ⟨a1, z, a2, a3⟩ := hw
  unfold fb_M_simple_97
  refine ok_bnd.mpr (ok_mono (forget_F a1) (fun v _ hv => ok_some.mpr ⟨hv.1, z, a2, a3.imp id (fun y => ⟨y.1, by rw [hv.2.2]; exact y.2.1, ?_⟩)⟩))
  show (v.2.2.1 28 z.toNat).toInt = -1
  rw [hv.2.1]
  exact y.2.2
end
end
section
section
variable {u0 u v v1 w x y : MS} {N σ TN SN e sN : Nat} {bw : Nat → Nat} {p o n q c f h s wt g lv k t D d z l p1 p2 o1 n1 n2 q1' q2 c1 c2 f1 f2 h1 h2 : Int} {r y1 y2 y3 : Int32} {S : SG_M_behind} {i : Nat}
theorem EXQ_base (a : EXQ u0 TN SN bw σ lv p o n q c f h s wt g v w r) (k : KPR σ u v) (hm : mks v = mks u) (hn : nmo σ v = nmo σ u) : EXQ u0 TN SN bw σ lv p o n q c f h s wt g u w r := by
  obtain ⟨b0, p2, n2, q2, c2, f2, h2, e, b1, b2, b3, b4, b5, b6, b7, b8⟩ := a
  exact ⟨b0, p2, n2, q2, c2, f2, h2, e, b1, b2, KPR_tr k b3, b4, b5, b6, b7, TYG_u b8 hm hn⟩
theorem simp74 (tk : TKW u0 TN SN bw) (hD : 0 ≤ D ∧ D ≤ 2900) (ho : 1 ≤ o ∧ o ≤ 25) (hb : XSP u0 TN SN bw D 3 0 0 0 o S.1) (hu : ST u0 σ p o n q c f h (sN : Int) wt g u) (hm : NM TN bw 0 1 1 σ p o n q c f h (sN : Int) wt) (a : EXQ u0 TN SN bw σ (o - 1) p o n q c f h ((sN : Int) + 1) wt g u w r) (b : FR [71, 72] [] [] [] w v) (hv : ST u0 σ p2 o n2 q2 c2 f2 h2 ((sN : Int) + 1) wt g v) (kv : KPR σ w v) (hg : g = 0 ∨ F v 72 ≠ 0) (hp : p2 < TN) : OK (fun v r => EXQ u0 TN SN bw σ (o - 1) p o n q c f h (sN : Int) wt g u v r ∨ FEQ u0 TN σ (D + 5) v r) (fb_M_simple_74 N S () v (I p2)) := by
  have hT := tk.1.1
  have fs := NM_fs hm (by omega)
  obtain ⟨b0, p2', n2', q2', c2', f2', h2', e, b1, b2, b3, b4, b5, b6, b7, b8⟩ := a
  have ee : p2' = p2 ∧ n2' = n2 ∧ q2' = q2 ∧ c2' = c2 ∧ f2' = f2 ∧ h2' = h2 := by
    have g1 := b2.2.1
    have g2 := hv.2.1
    have fe : ∀ k, k ∉ [71, 72] → F v k = F w k := fun k hk => b.F hk
    have w69 := fe 69 (by decide)
    have w32 := fe 32 (by decide)
    have w39 := fe 39 (by decide)
    have w46 := fe 46 (by decide)
    have w56 := fe 56 (by decide)
    have w58 := fe 58 (by decide)
    omega
  obtain ⟨rfl, rfl, rfl, rfl, rfl, rfl⟩ := ee
  have av : ∀ r i, A v r i = A w r i := fun r i => b.A (by intro z; cases z)
  have nm2 : NM TN bw 0 1 0 σ p2' o n2' q2' c2' f2' h2' ((sN : Int) + 1) wt := by
    have := NM_dlt tk hm b5 (by omega) (by omega) b4
    unfold NM at this ⊢
    omega
  have fs2 := NM_fs nm2 (by omega)
  unfold fb_M_simple_74
  refine ok_lt.mpr ?_
  rw [nx1_e]
  have s1 := ST_nx hv (show 0 ≤ p2' ∧ p2' ≤ 4001 by omega)
  have k1 : KPR σ w (nx1 v) := KPR_w0 kv (by decide)
  have f1 : F (nx1 v) 67 = 0 := (wi_ne (by decide)).trans ((b.F (by decide)).trans b0)
  have d1 := DLT_1 (n := n2') (q := q2') (c := c2') (f := f2') (h := h2') (m := 0) tk ⟨by omega, hp⟩ (by omega)
  rw [show n2' + 0 = n2' by omega] at d1
  have m1 := NM_mo (k2 := 3) (j2 := 0) (l2 := 0) (NM_dlt tk nm2 d1 (by omega) (by omega) (by omega)) (by omega) (by omega) (by omega)
  have l1 : LGS σ (nx1 v) := fun z => by
    show A v 60 σ ≤ 40
    rw [av]; exact b7 (k1.2.2.2.2.2.2 z)
  have mk1 : mks (nx1 v) = mks w := (wi_mks (by decide)).trans (fr_mks b (by decide))
  have nm1 : nmo σ (nx1 v) = nmo σ w := by unfold nmo; show (A v 60 σ).toNat = _; rw [av]
  have f72 : F (nx1 v) 72 = F v 72 := wi_ne (by decide)
  generalize nx1 v = x at *
  refine ok_bnd.mpr (ok_mono (hb x σ _ _ _ _ _ _ _ _ _ s1 f1 m1 l1) (fun y r2 hy => ?_))
  rw [show o - 0 = o by omega] at hy
  rcases hy with ⟨g0, p4, n4, q4, c4, f4, h4, e4, g1, g2, g3, g4, g5, g6, g7, g8⟩ | hy
  · have nm4 := NM_dlt tk m1 g5 (by omega) (by omega) g4
    have fs4 := NM_fs nm4 (by omega)
    have e32 : F y 32 = n4 := g2.2.1.2.2.1
    refine k_node (k := 11) rfl (by decide) rfl (by omega) (by omega) (fun y9 hy9 => ?_)
    have nd := hy9.1
    have nw := NEWN_of hy9 (show 0 ≤ p2' ∧ p2' < 4002 by omega)
    have k9 : KPR σ y y9 := KPR_nd KPR_rf nd (by omega)
    have s9 := ST_nd g2 nd (by omega) (by omega) (fun z => by omega)
    have dd := DLT_tr (DLT_tr b5 d1) g5
    refine simp97_N rfl hu ⟨(nd.1.F (by decide)).trans g0, p4, n4 + 1, q4, c4, f4, h4, n4.toNat, by rw [e32]; congr 1; omega, s9, KPR_tr b3 (KPR_tr k1 (KPR_tr g3 k9)), g4, ?_, ⟨by unfold DLT at dd; omega, by omega, ?_, ?_⟩, fun z => ?_, ?_⟩
    · unfold DLT at dd ⊢; omega
    · rw [e32] at nw; exact RTD_mo 0 _ _ ⟨by unfold DLT at dd; omega, nw.2.2.2.1⟩ (by omega)
    · rw [e32] at nw; exact nw.2.2.2.2.1
    · rw [nd.1.A (by decide)]; exact g7 (by rw [← z]; exact (nd.1.F (by decide)).symm)
    · rcases hg with hg | hg
      · have t1 : TYG TN SN σ g (o - 1) (p4 - p + 1) u x 0 1 (fun i => i = e) := TYG_mo (TYG_v b8 k1 mk1 nm1) (by unfold DLT at g5; omega) (Int.le_refl _)
        have t2 : TYG TN SN σ g (o - 1) (p4 - p + 1) u y 0 (1 + 1) (fun i => i = e ∨ i = e4) := TYG_app (e := 1) t1 g3 (TYG_mo (lv2 := o - 1) g8 (Int.le_refl _) (by omega)) rfl (Int.le_refl _) (by unfold DLT at b5; omega)
        have t3 : TYG TN SN σ g (o - 1) (p4 - p + 1) y y9 2 1 (fun i => i = (F y 32).toNat) := by
          refine TYG_nd (xx := 2) nd (by omega) g2.2.2.2.1 g7 (fun mm X Y z1 z2 => ?_) (by unfold DLT at g5 b5; omega) (by omega)
          rw [show gq g = 0 by unfold gq; rw [if_pos hg]]
          exact s11 (ONE_nd nd (by omega)) nw ⟨Nat.le_refl _, z1, z2⟩
        refine TYG_ro (TYG_app (e := 0) t2 k9 t3 rfl (Int.le_refl _) (by omega)) (fun i hi => Or.inr (by rw [e32]; exact hi)) (fun i hi => ?_)
        rcases hi with (hi | hi) | hi
        · refine Or.inr ?_
          rw [hi, nd.2.2.2.2 29 e (by rw [e32]; unfold DLT at g5; omega), (KPR_tr k1 g3).2.1.1 29 e (by decide) (by rw [b2.2.1.2.2.1]; omega)]
          exact b6.2.2.2
        · refine Or.inr ?_
          rw [hi, nd.2.2.2.2 29 e4 (by rw [e32]; omega)]
          exact g6.2.2.2
        · rw [e32] at hi; exact Or.inl hi
      · intro z1
        exact absurd ((KPR_tr g3 k9).2.2.2.2.2.1 z1) (by rw [f72]; exact hg)
  · have n0 := hy.1.2.2.2.2.1
    refine k_node (k := 11) rfl (by decide) rfl (by omega) (by omega) (fun y9 hy9 => ?_)
    refine ok_mono (simp97_F (D := D + 1) ⟨FSM_nd hy.1 hy9.1, F y 32, rfl, Or.inr ⟨by omega, by rw [hy9.1.2.1]; omega, hy9.2.2.2.2.1⟩⟩) (fun _ _ z => Or.inr (FEQ_mo z (by omega)))
theorem simple_ok (tk : TKW u0 TN SN bw) (hN : 20000 ≤ N) (hD : 0 ≤ D ∧ D ≤ 2900) (ho : 1 ≤ o ∧ o ≤ 25) (hwk : XSP u0 TN SN bw D 0 1 0 1 o S.2.2.2.2.2.2.2.2.2.2.2.1) (hmt : XMT u0 TN SN bw D o S.2.1) (hb : XSP u0 TN SN bw D 3 0 0 0 o S.1) : XSP u0 TN SN bw (D + 10) 0 1 1 1 o (fm_M_simple N S) := by
  intro u σ p n q c f h s wt g hs hf hm hl
  have hT := tk.1.1
  have fs := NM_fs hm (by omega)
  obtain ⟨sN, rfl⟩ : ∃ sN : Nat, s = sN := ⟨s.toNat, by unfold NM at hm; omega⟩
  have hs26 : sN ≤ 26 := by unfold NM at hm; omega
  have e69 : F u 69 = p := hs.2.1.1
  unfold fm_M_simple fb_M_simple_0
  refine ok_bnd.mpr (ok_mono (save_st (by omega) (by omega) hs26 hs) (fun v _ hv => ?_))
  obtain ⟨sv, kv, svd, fr⟩ := hv
  have fv : F v 67 = 0 := (fr.F (by decide)).trans hf
  have lv : LGS σ v := fun z => by rw [fr.A (by decide)]; exact hl (by rw [← z]; exact (fr.F (by decide)).symm)
  have mv : mks v = mks u := fr_mks fr (by decide)
  have nv : nmo σ v = nmo σ u := by unfold nmo; rw [fr.A (by decide)]
  have nm1 : NM TN bw 0 1 0 σ p o n q c f h ((sN : Int) + 1) wt := by unfold NM at hm ⊢; omega
  have t97F : ∀ (w : MS) (r : Int32), FEQ u0 TN σ D w r → OK (fun v r => EXQ u0 TN SN bw σ (o - 1) p o n q c f h (sN : Int) wt g u v r ∨ FEQ u0 TN σ (D + 10) v r) (fb_M_simple_97 N S () w r) := fun w r hw => ok_mono (simp97_F hw) (fun _ _ z => Or.inr (FEQ_mo z (by omega)))
  refine ok_bnd.mpr (ok_mono (hwk v σ _ _ _ _ _ _ _ _ _ sv fv nm1 lv) (fun w r hw => ?_))
  rcases hw with hw | hw
  · have hw2 := EXQ_base hw kv mv nv
    obtain ⟨b0, p2, n2, q2, c2, f2, h2, e, b1, b2, b3, b4, b5, b6, b7, b8⟩ := id hw
    have e69w : F w 69 = p2 := b2.2.1.1
    have pb : p < p2 := by unfold DLT at b5; omega
    refine k_F (y := 0) rfl ⟨by decide, by decide⟩ (fun _ => ?_) (fun z => absurd b0 z)
    refine k_isSign (s := 11) rfl ⟨by decide, by decide⟩ (by omega) (fun z => ?_) (fun _ => ?_)
    · rw [I_F' e69]
      refine ok_bnd.mpr (ok_mono (hmt u w σ sN _ _ _ _ _ _ _ _ _ _ _ _ _ _ hs hm hl b2 b0 (KPR_tr kv b3) (SVD_kp svd b3 (by rw [sv.2.1.2.2.2.2.2.2.2.1]; omega) (by rw [sv.2.1.2.2.2.2.2.2.2.2.1]; omega) (by omega)) z ⟨pb, b4⟩) (fun x r2 hx => ?_))
      rcases hx with hx | hx
      · exact simp97_N rfl hs hx
      · exact t97F x r2 hx
    · unfold fb_M_simple_39
      refine k_F (y := 0) rfl ⟨by decide, by decide⟩ (fun _ => ?_) (fun z => absurd b0 z)
      refine k_isSign (s := 21) rfl ⟨by decide, by decide⟩ (by omega) (fun z => ?_) (fun _ => simp97_N rfl hs hw2)
      have hp2 : p2 < TN := tok_lt tk (by omega) (by have := (ST_IS b2 z).1; omega)
      rw [I_F' e69w]
      have up : ∀ z, OK (fun v r => EXQ u0 TN SN bw σ (o - 1) p o n q c f h (sN : Int) wt g u v r ∨ FEQ u0 TN σ (D + 5) v r) z → OK (fun v r => EXQ u0 TN SN bw σ (o - 1) p o n q c f h (sN : Int) wt g u v r ∨ FEQ u0 TN σ (D + 10) v r) z := fun z hz => ok_mono hz (fun _ _ y => y.imp id (fun y => FEQ_mo y (by omega)))
      refine up _ (k_F (k := 73) (y := 0) rfl ⟨by decide, by decide⟩ (fun hg => ?_) (fun hg => ?_))
      · rw [b2.2.1.2.2.2.2.2.2.2.2.2.2.1] at hg
        exact simp74 tk hD ho hb hs hm hw2 FR.rf b2 KPR_rf (Or.inl hg) hp2
      · refine k_rule (s := 7) (t := p2) rfl ⟨by decide, by decide⟩ (by decide) rfl (by omega) b2.2.2.1.1 (fun v1 g1 g2 g3 => ?_)
        exact simp74 tk hD ho hb hs hm hw2 g1 (ST_rule b2 g1 g3) (KPR_rule KPR_rf g1 g2) (Or.inr g2) hp2
  · refine k_F (y := 0) rfl ⟨by decide, by decide⟩ (fun z => absurd z hw.1.2.1) (fun _ => ?_)
    unfold fb_M_simple_39
    exact k_F (y := 0) rfl ⟨by decide, by decide⟩ (fun z => absurd z hw.1.2.1) (fun _ => t97F w r hw)
theorem simple_F (hN : 5000 ≤ N) (hD : 0 ≤ D) (hwn : XNO S.2.2.2.2.2.2.2.2.2.2.2.1) : XSF u0 TN D (fm_M_simple N S) := by
  intro u σ p o n q c f h s wt g hs hf hp hn hh hsb
  obtain ⟨sN, rfl⟩ : ∃ sN : Nat, s = sN := ⟨s.toNat, by omega⟩
  unfold fm_M_simple fb_M_simple_0
  refine ok_bnd.mpr (ok_mono (save_st hN hsb.2.2 (by omega) hs) (fun v _ hv => ?_))
  obtain ⟨sv, kv, svd, fr⟩ := hv
  have fv : F v 67 ≠ 0 := by rw [fr.F (by decide)]; exact hf
  rw [hwn v fv, bnd_so]
  refine k_F (y := 0) rfl ⟨by decide, by decide⟩ (fun z => absurd z fv) (fun _ => ?_)
  unfold fb_M_simple_39
  exact k_F (y := 0) rfl ⟨by decide, by decide⟩ (fun z => absurd z fv) (fun _ => simp97_F (FEQ_none (FSM_of sv (by omega) (by omega) hh fv)))
end
end
section
def GTY (TN SN σ : Nat) (o xb : Int) (u v : MS) : Prop := F v 72 = 0 → F v 66 = 0 → TN ≤ 1500 → ∃ (E : Nat → Nat) (mm X Y : Nat), SEQ v SN 2 (mks u) E 0 0 (nmo σ u) (nmo σ u) (nmo σ u) mm X Y (hlo σ v) (fun _ => False) ∧ KND v (E 0) 23 ∧ ONE E (mks v) (E 0) ∧ mm ≤ 40 ∧ (mm : Int) ≤ A v 64 σ ∧ 2 * (X : Int) ≤ xb ∧ (Y : Int) + o ≤ 25
def GTL (TN SN σ : Nat) (o xb : Int) (u v : MS) : Prop := F v 72 = 0 → F v 66 = 0 → TN ≤ 1500 → nmo σ v = nmo σ u ∧ ∃ mm X Y : Nat, SEQ v SN 2 (mks u) (mks v) 0 0 (nmo σ u) (nmo σ u) (nmo σ u) mm X Y (hlo σ v) (fun _ => False) ∧ mm ≤ 40 ∧ (mm : Int) ≤ A v 64 σ ∧ 2 * (X : Int) ≤ xb ∧ (Y : Int) + o ≤ 25
def GUQ (u0 : MS) (TN SN : Nat) (bw : Nat → Nat) (σ : Nat) (p o n q c f h s wt g : Int) (u v : MS) (r : Int32) : Prop := F v 67 = 0 ∧ r = I n ∧ ∃ p2 n2 q2 c2 f2 h2 : Int, ST u0 σ p2 o n2 q2 c2 f2 h2 s wt g v ∧ KPR σ u v ∧ p2 ≤ TN ∧ DLT bw 0 1 0 p n q c f h p2 n2 q2 c2 f2 h2 ∧ A v 60 σ = A u 60 σ ∧ LGS σ v ∧ GTY TN SN σ o (p2 - p + 1) u v
def XGC (u0 : MS) (TN SN : Nat) (bw : Nat → Nat) (D o : Int) (fn : MS → Option (MS × Int32)) : Prop := ∀ (u : MS) (σ : Nat) (p n q c f h s wt g : Int), ST u0 σ p o n q c f h s wt g u → F u 67 = 0 → NM TN bw 3 0 0 σ p o n q c f h s wt → LGS σ u → OK (fun v r => GUQ u0 TN SN bw σ p o n q c f h s wt g u v r ∨ FSM u0 TN σ D v) (fn u)
section
variable {u0 u v v1 w x y : MS} {N σ TN SN e sN : Nat} {bw : Nat → Nat} {p o n q c f h s wt g lv k t D d z l p1 p2 o1 n1 n2 q1' q2 c1 c2 f1 f2 h1 h2 xb : Int} {r y1 y2 y3 : Int32} {S : SG_M_behind} {i : Nat}
def GLS (u0 : MS) (TN SN : Nat) (bw : Nat → Nat) (σ : Nat) (xx yy p o n q c f h s wt : Int) (u v : MS) (p1 : Int) : Prop := F v 67 = 0 ∧ ∃ n1 q1 c1 f1 h1 : Int, ST u0 σ p1 o n1 q1 c1 f1 h1 s wt 1 v ∧ KPR σ u v ∧ p1 ≤ TN ∧ DLT bw xx yy 0 p n q c f h p1 n1 q1 c1 f1 h1 ∧ LGS σ v ∧ GTL TN SN σ o (p1 - p + 1) u v
theorem guard_F {G : MS → Int32 → Int32 → Int32 → Int32 → Option (MS × Int32)} (hT : TN ≤ 4000) (hσ : σ ≤ 26) (hD : D ≤ 3000) (hg : g = 0 ∨ g = 1) (hs : FSM u0 TN σ D v) : OK (fun v _ => FSM u0 TN σ (D + 1) v) (fb_M_guardCode_39 N S G v y1 (I g) y2 0) := by
  unfold fb_M_guardCode_39
  rw [br00]
  have n0 := hs.2.2.2.2.1
  have p0 := hs.2.2.1
  refine k_node (k := 23) (t := F v 69) rfl (by decide) I_F (by omega) (by omega) (fun v1 hv1 => ok_ck.mpr ⟨?_, ok_lt.mpr ?_⟩)
  · rcases hg with hg | hg
    · rw [hg]; rfl
    · rw [hg]; rfl
  rw [wi_e]
  have s1 : FSM u0 TN σ (D + 1) (wi v1 73 g) := FSM_wi (FSM_nd hs hv1.1) (by decide)
  refine k_65 rfl s1.2.2.2.1 hσ (ok_lt.mpr (ok_some.mpr ?_))
  rw [I_of y2, wa_e]
  exact FSM_wa s1 (by decide)
theorem guard_loop (tk : TKW u0 TN SN bw) (hD : 0 ≤ D ∧ D ≤ 2900) (ho : 0 ≤ o ∧ o ≤ 25) (hx : XSP u0 TN SN bw D 3 0 0 0 o S.2.2.2.2.2.2.2.2.2.2.2.2.2.1) (hu : ST u0 σ p o n q c f h s wt g u) (hm : NM TN bw 3 0 0 σ p o n q c f h s wt) : ∀ (i : Nat) (v : MS) (p1 : Int), GLS u0 TN SN bw σ 0 0 p o n q c f h s wt u v p1 → 4001 - p1 < i → OK (fun v r => GUQ u0 TN SN bw σ p o n q c f h s wt g u v r ∨ FSM u0 TN σ (D + 5) v) (gg_M_guardCode N S i v (I n) (I g) (I (A u 60 σ)) 1) := by
  have hT := tk.1.1
  have fs := NM_fs hm (by omega)
  have g01 := hu.2.2.1.2.1
  have h60 := (hu.2.2.2.1 σ (Nat.le_refl σ)).1
  intro i
  induction i with
  | zero => intro v p1 hv hi; obtain ⟨-, _, _, _, _, _, _, _, h3, -⟩ := hv; omega
  | succ i ih =>
    intro v p1 hv hi
    obtain ⟨f0, n1, q1, c1, f1, h1, s1, k1, hp1, d1, l1, t1⟩ := hv
    obtain ⟨i', rfl⟩ : ∃ i', i = i' + 1 := ⟨i - 1, by omega⟩
    show OK _ (fb_M_guardCode_39 N S (gg_M_guardCode N S (i' + 1)) v (I n) (I g) (I (A u 60 σ)) 1)
    unfold fb_M_guardCode_39
    rw [br10]
    have nm1 := NM_dlt tk hm d1 (by omega) (by omega) hp1
    refine ok_bnd.mpr (ok_mono (hx v σ _ _ _ _ _ _ _ _ _ s1 f0 nm1 l1) (fun w r hw => ?_))
    rw [show o - 0 = o by omega] at hw
    have tailF : ∀ w3, FSM u0 TN σ (D + 1) w3 → OK (fun v r => GUQ u0 TN SN bw σ p o n q c f h s wt g u v r ∨ FSM u0 TN σ (D + 5) v) (bnd (fm_M_takeSign N w3 6) (fun u6 r6 => gg_M_guardCode N S (i' + 1) u6 (I n) (I g) (I (A u 60 σ)) r6)) := fun w3 hw3 => by
      refine k_takeSign (s := 6) rfl ⟨by decide, by decide⟩ (FSM_p hw3 hT) (fun z => absurd z hw3.2.1) (fun _ => ?_)
      exact ok_mono (guard_F (D := D + 1) hT (by omega) (by omega) g01 hw3) (fun _ _ z => Or.inr (FSM_mo z (by omega)))
    rcases hw with ⟨b0, p2, n2, q2, c2, f2, h2, e, b1, b2, b3, b4, b5, b6, b7, b8⟩ | hw
    · have nm2 := NM_dlt tk nm1 b5 (by omega) (by omega) b4
      have fs2 := NM_fs nm2 (by omega)
      have e32 : F w 32 = n2 := b2.2.1.2.2.1
      have e69 : F w 69 = p2 := b2.2.1.1
      refine k_node (k := 22) (t := F w 69) rfl (by decide) I_F (by omega) (by omega) (fun w3 hw3 => ?_)
      have nd := hw3.1
      have nw := NEWN_of hw3 (show 0 ≤ F w 69 ∧ F w 69 < 4002 by omega)
      have k3 : KPR σ w w3 := KPR_nd KPR_rf nd (by omega)
      have s3 := ST_nd b2 nd (by omega) (by omega) (fun z => by omega)
      have f3 : F w3 67 = 0 := (nd.1.F (by decide)).trans b0
      have l3 : LGS σ w3 := fun z => by rw [nd.1.A (by decide)]; exact b7 (k3.2.2.2.2.2.2 z)
      have dd := DLT_tr d1 b5
      have t3 : GTL TN SN σ o (p2 - p + 1) u w3 := by
        intro z1 z2 z3
        obtain ⟨m0, mm, X, Y, q1', q2', q3', q4', q5'⟩ := t1 (KPR_tr b3 k3 |>.2.2.2.2.2.1 z1) (KPR_tr b3 k3 |>.2.2.2.2.2.2 z2) z3
        obtain ⟨mm2, X2, Y2, a1, a2, a3, a4, a5⟩ := b8 (k3.2.2.2.2.2.1 z1) (k3.2.2.2.2.2.2 z2) z3
        have a1g : SEQ w SN 1 (mks v) (mks w) 0 1 (nmo σ v) (nmo σ w) (nmo σ v) mm2 X2 Y2 (hlo σ w) (fun i => i = e) := a1
        have nmw : nmo σ w = nmo σ v := a1g.1.2.1 (by decide)
        have nm3 : nmo σ w3 = nmo σ w := by unfold nmo; rw [nd.1.A (by decide)]
        have hl3 : hlo σ w3 = hlo σ w := by unfold hlo; rw [nd.1.A (by decide)]
        have h64 : A w3 64 σ = A w 64 σ := nd.1.A (by decide)
        have kvw := KPR_n b3
        have on := ONE_nd nd (show 0 ≤ F w 32 by omega)
        have g1 := SEQ_kp (SEQ_g2 a1g) (fun i => Nat.le_refl _) k3
        rw [nmw] at g1
        have x2 : 1 ≤ X2 := g1.1.2.2.2.2.2.2.2.1
        have m2 : nmo σ v ≤ mm2 := g1.1.2.2.2.2.1
        have g2 := s22 (SN := SN) (lo := nmo σ v) (m := nmo σ v) (mm := mm2) (X := X2) (Y := Y2) (sh := hlo σ w3) on nw ⟨Nat.le_refl _, m2, x2⟩
        rw [← hl3] at g1
        have g3 := SEQ_app g1 g2
        have e29 : A w3 29 e = -1 := by rw [nd.2.2.2.2 29 e (by rw [e32]; omega)]; exact b6.2.2.2
        have g4 := SEQ_ro (R2 := fun _ => False) g3 (fun i hi => hi.elim) (fun i hi => Or.inr (by
          rcases hi with hi | hi
          · rw [hi]; exact e29
          · rw [hi]; exact nw.2.2.2.2.1))
        have g5 := SEQ_kp q1' (fun i => Nat.le_refl _) (KPR_tr b3 k3)
        rw [m0] at g4
        refine ⟨by rw [nm3, nmw, m0], max mm mm2, max X X2, max Y Y2, ?_, by omega, by omega, ?_, by omega⟩
        · refine SEQ_ro (SEQ_app (SEQ_mo g5 (Nat.le_refl _) (Nat.le_max_left _ _) (Nat.le_max_left _ _) (Nat.le_max_left _ _) (by omega)) (SEQ_mo g4 (Nat.le_refl _) (Nat.le_max_right _ _) (Nat.le_max_right _ _) (Nat.le_max_right _ _) (Nat.le_refl _))) (fun i hi => hi.elim) (fun i hi => ?_)
          rcases hi with hi | hi
          · exact hi.elim
          · exact hi.elim
        · have : p ≤ p1 := by unfold DLT at d1; omega
          have : p1 < p2 := by unfold DLT at b5; omega
          omega
      have e69c : F w3 69 = p2 := s3.2.1.1
      refine k_takeSign (s := 6) rfl ⟨by decide, by decide⟩ (by omega) (fun _ z => ?_) (fun _ => ?_)
      · have z2 := ST_IS s3 z
        have ltp := tok_lt tk (by omega) (show ¬ (A u0 6 (p2).toNat = 0 ∨ A u0 6 (p2).toNat = 7) by omega)
        have dc := DLT_1 (n := n2 + 1) (q := q2) (c := c2) (f := f2) (h := h2) (m := 0) tk ⟨by omega, ltp⟩ (by omega)
        rw [show n2 + 1 + 0 = n2 + 1 by omega] at dc
        have kc : KPR σ w3 (nx1 w3) := KPR_w0 KPR_rf (by decide)
        refine ih (nx1 w3) (p2 + 1) ⟨(wi_ne (by decide)).trans f3, n2 + 1, q2, c2, f2, h2, ST_nx s3 (by omega), KPR_tr k1 (KPR_tr b3 (KPR_tr k3 kc)), by omega, ?_, fun z => l3 (kc.2.2.2.2.2.2 z), fun z1 z2 z3 => ?_⟩ (by unfold DLT at b5; omega)
        · unfold DLT at dd dc ⊢; omega
        · obtain ⟨m0, mm, X, Y, q1', q2', q3', q4', q5'⟩ := t3 (kc.2.2.2.2.2.1 z1) (kc.2.2.2.2.2.2 z2) z3
          exact ⟨m0, mm, X, Y, by rw [show mks (nx1 w3) = mks w3 from wi_mks (by decide)]; exact SEQ_kp q1' (fun i => Nat.le_refl _) kc, q2', q3', by omega, q5'⟩
      · show OK _ (fb_M_guardCode_39 N S (gg_M_guardCode N S i') w3 (I n) (I g) (I (A u 60 σ)) 0)
        unfold fb_M_guardCode_39
        rw [br00]
        have e32c : F w3 32 = n2 + 1 := s3.2.1.2.2.1
        refine k_node (k := 23) (t := F w3 69) rfl (by decide) I_F (by omega) (by omega) (fun w4 hw4 => ok_ck.mpr ⟨?_, ok_lt.mpr ?_⟩)
        · rcases g01 with z | z
          · rw [z]; rfl
          · rw [z]; rfl
        rw [wi_e]
        have nd4 := hw4.1
        have s4 := ST_73 (x := g) (ST_nd s3 nd4 (by omega) (by omega) (fun z => by omega)) g01
        have k4 : KPR σ w3 (wi w4 73 g) := KPR_w0 (KPR_nd KPR_rf nd4 (by omega)) (by decide)
        have a60 : A (wi w4 73 g) 60 σ = A w3 60 σ := nd4.1.A (by decide)
        have kn : KND (wi w4 73 g) (F w3 32).toNat 23 := KND_eq (KND_of hw4 (by omega)) (fun _ _ => rfl)
        have on4 : ONE (mks w3) (mks (wi w4 73 g)) (F w3 32).toNat := by
          rw [show mks (wi w4 73 g) = mks w4 from wi_mks (by decide)]
          exact ONE_nd nd4 (by omega)
        have kk := KPR_tr k1 (KPR_tr b3 (KPR_tr k3 k4))
        have f4 : F (wi w4 73 g) 67 = 0 := by rw [wi_ne (by decide), nd4.1.F (by decide)]; exact f3
        have e65 : F (wi w4 73 g) 65 = σ := s4.2.1.2.2.2.2.2.2.2.2.2.2.2
        generalize wi w4 73 g = w5 at *
        have k60 := (kk.2.2.1.2.2.2 σ (Nat.le_refl σ)).1
        refine k_65 rfl e65 (by omega) (ok_lt.mpr (ok_some.mpr (Or.inl ?_)))
        rw [tn_65 e65, wa_e]
        have s6 := ST_60 (x := A u 60 σ) s4 ⟨h60.1, k60⟩
        have k6 := KPR_60 (x := A u 60 σ) kk (Int.le_refl _) (ARG1 u 60 σ)
        have b60 : A (wa w5 60 σ (A u 60 σ)) 60 σ = A u 60 σ := wa_eq (ARG1 u 60 σ)
        refine ⟨f4, rfl, p2, n2 + 1 + 1, q2, c2, f2, h2, s6, k6, b4, ?_, b60, fun z => ?_, fun z1 z2 z3 => ?_⟩
        · unfold DLT at dd ⊢; omega
        · rw [b60]
          have hz := (KPR_tr b3 (KPR_tr k3 k4)).2.2.2.2.2.2 (show F w5 66 = 0 from z)
          have l0 := l1 hz
          have k60b := (k1.2.2.1.2.2.2 σ (Nat.le_refl σ)).1
          omega
        · obtain ⟨m0, mm, X, Y, q1', q2', q3', q4', q5'⟩ := t3 (k4.2.2.2.2.2.1 z1) (k4.2.2.2.2.2.2 z2) z3
          have k4n := KPR_n k4
          refine ⟨mks w3, mm, X, Y, ?_, ?_, ?_, q2', ?_, q4', q5'⟩
          · have g5 := SEQ_kp q1' (fun i => Nat.le_refl _) k4
            have g6 := SEQ_tr (σ := σ) (wt := 0) (J := 0) g5 (TRN_60 (y := A u 60 σ))
            refine SEQ_mo g6 (Nat.le_refl _) (Nat.le_refl _) (Nat.le_refl _) (Nat.le_refl _) ?_
            have : hlo σ (wa w5 60 σ (A u 60 σ)) = hlo σ w5 := by unfold hlo; rw [wa_rne (by decide)]
            rw [this]
            exact k4n.2.1
          · have m1 : ∀ r, r ∈ [23, 24, 28, 29] → r ≠ 60 := by decide
            exact KND_eq kn (fun r hr => wa_rne (m1 r hr))
          · exact on4
          · rw [wa_rne (by decide)]; omega
    · have n0 := hw.1.2.2.2.2.1
      have p0 := hw.1.2.2.1
      refine k_node (k := 22) (t := F w 69) rfl (by decide) I_F (by omega) (by omega) (fun w3 hw3 => tailF w3 (FSM_nd hw.1 hw3.1))
theorem guardCode_ok (tk : TKW u0 TN SN bw) (hN : 5000 ≤ N) (hD : 0 ≤ D ∧ D ≤ 2900) (ho : 0 ≤ o ∧ o ≤ 25) (hx : XSP u0 TN SN bw D 3 0 0 0 o S.2.2.2.2.2.2.2.2.2.2.2.2.2.1) : XGC u0 TN SN bw (D + 10) o (fm_M_guardCode N S) := by
  intro u σ p n q c f h s wt g hs hf hm hl
  have hT := tk.1.1
  have fs := NM_fs hm (by omega)
  have e65 : F u 65 = σ := hs.2.1.2.2.2.2.2.2.2.2.2.2.2
  have e32 : F u 32 = n := hs.2.1.2.2.1
  have eg : F u 73 = g := hs.2.1.2.2.2.2.2.2.2.2.2.2.1
  unfold fm_M_guardCode fb_M_guardCode_0 fb_M_guardCode_37
  refine k_65 rfl e65 (by omega) (ok_lt.mpr (ok_lt.mpr ?_))
  rw [tn_65 e65, I_A (w := u) (k := 60), show upI u 73 1 = wi u 73 1 from rfl]
  have s1 := ST_73 (x := 1) hs (Or.inr rfl)
  have k1 : KPR σ u (wi u 73 1) := KPR_w0 KPR_rf (by decide)
  have f1 : F (wi u 73 1) 67 = 0 := (wi_ne (by decide)).trans hf
  have l1 : LGS σ (wi u 73 1) := fun z => hl (by rw [← z]; exact (wi_ne (by decide)).symm)
  refine k_F (y := 0) rfl ⟨by decide, by decide⟩ (fun _ => ?_) (fun z => absurd f1 z)
  rw [I_F' e32, I_F' eg]
  refine ok_mono (guard_loop tk hD ho hx hs hm N (wi u 73 1) p ⟨f1, n, q, c, f, h, s1, k1, by omega, DLT_0, l1, fun z1 z2 z3 => ⟨rfl, ?_⟩⟩ (by omega)) (fun _ _ z => z.imp id (fun y => FSM_mo y (by omega)))
  have s2 := (hs.2.2.2.1 σ (Nat.le_refl σ)).1
  have lz := l1 z2
  have lz2 : A u 60 σ ≤ 40 := lz
  refine ⟨nmo σ u, 0, 0, ?_, by unfold nmo; omega, ?_, by omega, by omega⟩
  · rw [show mks (wi u 73 1) = mks u from wi_mks (by decide)]
    exact SEQ_nil ⟨Nat.le_refl _, Nat.le_refl _, Nat.le_refl _⟩
  · show ((nmo σ u : Nat) : Int) ≤ A u 64 σ
    unfold nmo; omega
def GDQ (u0 : MS) (TN SN : Nat) (bw : Nat → Nat) (σ : Nat) (p o n q c f h s wt g : Int) (u v : MS) (r : Int32) : Prop := F v 67 = 0 ∧ ∃ p2 n2 q2 c2 f2 h2 : Int, ST u0 σ p2 o n2 q2 c2 f2 h2 s wt g v ∧ KPR σ u v ∧ p2 ≤ TN ∧ DLT bw 0 0 0 p n q c f h p2 n2 q2 c2 f2 h2 ∧ A v 60 σ = A u 60 σ ∧ LGS σ v ∧ ((r = -1 ∧ v = u) ∨ (r = I n ∧ GTY TN SN σ o (p2 - p + 1) u v))
def XGD (u0 : MS) (TN SN : Nat) (bw : Nat → Nat) (D o : Int) (fn : MS → Option (MS × Int32)) : Prop := ∀ (u : MS) (σ : Nat) (p n q c f h s wt g : Int), ST u0 σ p o n q c f h s wt g u → F u 67 = 0 → NM TN bw 3 0 0 σ p o n q c f h s wt → LGS σ u → OK (fun v r => GDQ u0 TN SN bw σ p o n q c f h s wt g u v r ∨ FSM u0 TN σ D v) (fn u)
theorem guard_ok (tk : TKW u0 TN SN bw) (hD : 0 ≤ D) (hx : XGC u0 TN SN bw D o S.2.2.2.2.2.2.2.2.2.2.2.2.2.2.1) : XGD u0 TN SN bw (D + 10) o (fm_M_guard N S) := by
  intro u σ p n q c f h s wt g hs hf hm0 hl
  have hT := tk.1.1
  have fs := NM_fs hm0 (by omega)
  have e69 : F u 69 = p := hs.2.1.1
  unfold fm_M_guard fb_M_guard_0
  refine k_takeWord (s := 14) rfl ⟨by decide, by decide⟩ (by omega) (fun _ z => ?_) (fun _ => ?_)
  · rw [br10]
    have z2 := ST_IW hs z
    have ltp := tok_lt tk (by omega) (show ¬ (A u0 6 (p).toNat = 0 ∨ A u0 6 (p).toNat = 7) by omega)
    have d1 := DLT_1 (n := n) (q := q) (c := c) (f := f) (h := h) (m := 0) tk ⟨by omega, ltp⟩ (by omega)
    rw [show n + 0 = n by omega] at d1
    have k1 : KPR σ u (nx1 u) := KPR_w0 KPR_rf (by decide)
    refine ok_bnd.mpr (ok_mono (hx (nx1 u) σ _ _ _ _ _ _ _ _ _ (ST_nx hs (by omega)) ((wi_ne (by decide)).trans hf) (NM_dlt tk hm0 d1 (by omega) (by omega) (by omega)) (fun z => hl (k1.2.2.2.2.2.2 z))) (fun v r hv => ok_some.mpr ?_))
    rcases hv with ⟨a0, a1, p2, n2, q2, c2, f2, h2, a2, a3, a4, a5, a6, a7, a8⟩ | hv
    · refine Or.inl ⟨a0, p2, n2, q2, c2, f2, h2, a2, KPR_tr k1 a3, a4, DLT_mo (DLT_tr d1 a5) (by omega) (by omega) (by omega), a6, a7, Or.inr ⟨a1, fun z1 z2 z3 => ?_⟩⟩
      obtain ⟨E, mm, X, Y, g1, g2, g3, g4, g5, g6, g7⟩ := a8 z1 z2 z3
      rw [show mks (nx1 u) = mks u from wi_mks (by decide)] at g1
      exact ⟨E, mm, X, Y, g1, g2, g3, g4, g5, by omega, g7⟩
    · exact Or.inr (FSM_mo hv (by omega))
  · rw [br00]
    exact ok_some.mpr (Or.inl ⟨hf, p, n, q, c, f, h, hs, KPR_rf, by omega, DLT_0, rfl, hl, Or.inl ⟨rfl, rfl⟩⟩)
theorem guard_none (hp : 0 ≤ F u 69 ∧ F u 69 ≤ 4001) (hf : F u 67 ≠ 0) : fm_M_guard N S u = some (u, -1) := by
  unfold fm_M_guard fb_M_guard_0
  rw [show (14 : Int32) = I 14 from rfl, takeWord_0 hp ⟨by decide, by decide⟩ (Or.inl hf), bnd_so, br00]
end
end
section
theorem SEQR_last {v w : MS} {SN q q2 m m2 lo mm X Y sh r : Nat} {a b : Nat → Nat} (s : SEQ w SN 0 a b q q2 m m2 lo mm X Y sh (fun i => i = r)) (ls : LSQ w (fun i => i = r) v) (h29 : A w 29 r = -1) : SEQR true v SN 0 a b q q2 m m2 lo mm X Y sh (fun i => i = r) := by
  refine ⟨s.1, fun Z h rk hz z1 z2 z3 z4 z5 z6 z7 z8 z9 => ?_⟩
  obtain ⟨T, C, t1, t2, t3, t4, t5, t6, t7⟩ := s.2 Z h rk z1 z2 z3 z4 z5 z6 z7 z8 z9
  have fr := ls.1
  have z0 : Z 3 = 0 := hz rfl
  have rr := s.1.2.2.2.2.2.2.2.2 r rfl
  have nr : ∀ r, r ≠ 30 → r ∉ [30] := fun r hr => by simpa using hr
  have e : ∀ r i, r ≠ 30 → A v r i = A w r i := fun r i hr => fr.A (nr r hr)
  have kk : ∀ n, kq v T n = kq w T n := fun n => by unfold kq; rw [e 23 n (by decide)]
  have ch : ∀ n, A v 30 n ≠ A w 30 n → a 0 ≤ n ∧ n < b 0 ∧ kq w T n = 0 := by
    refine ls.2.2 (fun n => a 0 ≤ n ∧ n < b 0 ∧ kq w T n = 0) (fun n hn => ?_) (fun n x hn hx => ?_) (fun n x hn hx => ?_)
    · rw [hn]; exact ⟨rr.1, rr.2, (t6 r rfl).trans z0⟩
    · have y := (t7.1 n hn.1 hn.2.1).2.2.2.2.2.2.2.1
      rcases y with y | ⟨x2, y1, y2, y3, y4⟩
      · omega
      · obtain rfl : x = x2 := by omega
        exact ⟨y2, y3, y4.trans hn.2.2⟩
    · have y := (t7.1 n hn.1 hn.2.1).2.2.2.2.2.2.2.2
      rcases y with y | y | ⟨x2, y1, y2, y3, y4⟩
      · rw [y, h29] at hx; omega
      · omega
      · obtain rfl : x = x2 := by omega
        exact ⟨y2, y3, y4.trans hn.2.2⟩
  have m1 : ∀ r, r ∈ [23, 24, 25, 26, 27, 31] → r ≠ 30 := by decide
  have m2 : ∀ r, r ∈ [40, 41, 42, 43, 45] → r ≠ 30 := by decide
  have m3 : ∀ r, r ∈ [33, 35, 36, 37, 38] → r ≠ 30 := by decide
  have m4 : ∀ r, r ∈ [53, 54, 55] → r ≠ 30 := by decide
  refine ⟨T, C, t1, t2, t3, t4, t5, fun n hn => (kk n).trans (t6 n hn), FRG_st t7 ⟨fr.F (by intro z; cases z), fun r i hr _ _ => e r i (m1 r hr), fun r i hr _ _ => e r i (m2 r hr), fun r i hr _ => e r i (m3 r hr), fun r i hr _ _ => e r i (m4 r hr), fun i _ => e 57 i (by decide)⟩ (fun n h1 h2 hn => ?_) (fun n h1 h2 => ?_)⟩
  · by_cases z : A v 30 n = A w 30 n
    · exact Or.inl (by rw [← z]; exact hn)
    · have y1 := (ch n z).2.2
      have y2 := ls.2.1 n z
      refine Or.inr ?_
      unfold kq at y1
      rw [if_neg (by omega)] at y1
      exact y1
  · have y := (t7.1 n h1 h2).2.2.2.2.2.2.2
    unfold RNK at y ⊢
    rw [e 28 n (by decide), e 29 n (by decide), kk n]
    exact ⟨y.1.imp id (fun ⟨x, g1, g2, g3, g4⟩ => ⟨x, g1, g2, g3, (kk x).trans g4⟩), y.2.imp id (fun y => y.imp id (fun ⟨x, g1, g2, g3, g4⟩ => ⟨x, g1, g2, g3, (kk x).trans g4⟩))⟩
section
variable {u0 u v v2 w x y : MS} {N σ TN SN j : Nat} {bw : Nat → Nat} {p o n q c f h s wt g k t D d z l p1 p2 o1 n1 n2 q1 q2 c1 c2 f1 f2 h1 h2 xb : Int} {r y1 y2 y3 : Int32} {S : SG_M_behind} {i : Nat}
def PCL (SN σ : Nat) (u v : MS) (c q : Int) (j : Nat) (q1 l : Int) : Prop := ∃ e mm : Nat → Nat, (e 0 = q.toNat ∧ e j = q1.toNat ∧ mm 0 = nmo σ u ∧ mm j = nmo σ v) ∧ (∀ i, i < j → PTT v SN (e i) (e (i + 1)) (mm i) (mm (i + 1)) (hlo σ v)) ∧ LNK v j e ∧ LSTI j e l ∧ (A v 41 c.toNat = j ∧ (0 < j → A v 40 c.toNat = q) ∧ (j = 0 → A v 40 c.toNat = -1))
theorem PCL_l (a : PCL SN σ u v c q j q1 l) (hq : 0 ≤ q ∧ q ≤ q1) : (j = 0 ∧ l = -1) ∨ (0 < j ∧ q ≤ l ∧ l < q1) := by
  obtain ⟨e, mm, ⟨e1, e2, e3, e4⟩, pt, ln, ls, -⟩ := a
  rcases ls with ⟨l1, l2⟩ | ⟨l1, l2⟩
  · exact Or.inl ⟨l1, l2⟩
  · have t1 := PTT_e pt (j - 1) (by omega)
    have t2 := (JND_le pt (j - 1) (by omega)).1
    exact Or.inr ⟨l1, by omega, by omega⟩
theorem PCL_add (a : PCL SN σ u v c q j q1 l) (b : PAQ u0 TN SN σ p1 o n q1 c1 f h s wt g v v2 r) (hq : 0 ≤ q ∧ q ≤ q1) (hq0 : j = 0 → q1 = q) (hq1 : F v 39 = q1) (hc : 0 ≤ c ∧ c < c1) (hc1 : F v 46 = c1) (hx : RG q1) (hj : j ≤ 1000) (hw : (j = 0 ∧ w = wa (wa v2 40 c.toNat q1) 41 c.toNat ((j : Int) + 1)) ∨ (0 < j ∧ w = wa (wa v2 37 l.toNat q1) 41 c.toNat ((j : Int) + 1))) : ∃ p2 q2, ST u0 σ p2 o n q2 c1 f h s wt g w ∧ (p2 ≤ TN ∧ q1 < q2 ∧ 2 * (q2 - q1) ≤ p2 - p1 + 1 ∧ p1 < p2) ∧ PCL SN σ u w c q (j + 1) q2 q1 ∧ F w 67 = 0 ∧ KPR σ v v2 ∧ (F v2 66 = 0 → A v2 60 σ ≤ 40 ∨ A v2 60 σ = A v 60 σ) ∧ A w 60 σ = A v2 60 σ ∧ F w 66 = F v2 66 ∨ p1 < 0 := by
  by_cases hp1 : p1 < 0
  · exact ⟨0, 0, Or.inr hp1⟩
  obtain ⟨e, mm, ⟨e1, e2, e3, e4⟩, pt, ln, ls, k1, k2, k3⟩ := a
  obtain ⟨b1, b2, p2, q2, b3, b4, b5, b6, b7, b8, b9⟩ := b
  have bl := PTT_lt b7
  have kp : ∀ (r i : Nat), r ∈ [33, 35, 36, 37, 38] → (i : Int) < q1 → A v2 r i = A v r i := fun r i hr hi => b4.2.1.2.1 r i hr (by rw [hq1]; exact hi)
  have kc : ∀ (r i : Nat), r ∈ [40, 41, 42, 43, 45] → (i : Int) < c1 → A v2 r i = A v r i := fun r i hr hi => b4.2.1.2.2.1 r i hr (by rw [hc1]; exact hi)
  have h63 := (b4.2.2.1.2.2.2 σ (Nat.le_refl σ)).2.1
  have ei : ∀ i, i < j → e i < e j := PTT_e pt
  have e1i : ∀ i, i ≤ j → e 0 ≤ e i := fun i hi => (JND_le pt i hi).1
  have hl : l < q1 ∧ (0 < j → q ≤ l ∧ l.toNat = e (j - 1)) := by
    rcases ls with ⟨ls, l2⟩ | ⟨ls, l2⟩
    · exact ⟨by omega, fun z => by omega⟩
    · have := ei (j - 1) (by omega)
      have := e1i (j - 1) (by omega)
      exact ⟨by omega, fun _ => by omega⟩
  have w37 : ∀ (r i : Nat), r ∈ [33, 35, 36, 37, 38] → (r = 37 → (i : Int) ≠ l ∨ j = 0) → A w r i = A v2 r i := fun r i hr hi => by
    have m1 : ∀ r, r ∈ [33, 35, 36, 37, 38] → r ≠ 40 ∧ r ≠ 41 := by decide
    rcases hw with ⟨-, hw⟩ | ⟨hj, hw⟩
    · rw [hw, wa_rne (m1 r hr).2, wa_rne (m1 r hr).1]
    · rw [hw, wa_rne (m1 r hr).2]
      by_cases z : r = 37
      · rw [wa_ne]
        rcases hi z with y | y
        · have := (hl.2 hj).1
          omega
        · omega
      · rw [wa_rne z]
  have wr : ∀ r i, r ∉ [37, 40, 41] → A w r i = A v2 r i := fun r i hr => by
    rcases hw with ⟨-, hw⟩ | ⟨-, hw⟩
    · rw [hw, wa_rne (fun z => hr (by rw [z]; decide)), wa_rne (fun z => hr (by rw [z]; decide))]
    · rw [hw, wa_rne (fun z => hr (by rw [z]; decide)), wa_rne (fun z => hr (by rw [z]; decide))]
  have wf : ∀ k, F w k = F v2 k := fun k => by
    rcases hw with ⟨-, hw⟩ | ⟨-, hw⟩
    · rw [hw, F_wa, F_wa]
    · rw [hw, F_wa, F_wa]
  have sw : ST u0 σ p2 o n q2 c1 f h s wt g w := by
    rcases hw with ⟨-, hw⟩ | ⟨-, hw⟩
    · rw [hw]; exact ST_wa (ST_wa b3 (by decide)) (by decide)
    · rw [hw]; exact ST_wa (ST_wa b3 (by decide)) (by decide)
  refine ⟨p2, q2, Or.inl ⟨sw, ⟨b5.1, b5.2.1, b5.2.2, ?_⟩, ⟨fun i => if i ≤ j then e i else q2.toNat, fun i => if i ≤ j then mm i else nmo σ w, ⟨?_, ?_, ?_, ?_⟩, fun i hi => ?_, ⟨fun i hi => ?_, fun _ => ?_⟩, Or.inr ⟨by omega, ?_⟩, ⟨?_, fun _ => ?_, fun z => by omega⟩⟩, by rw [wf]; exact b1, b4, b9, wr 60 σ (by decide), wf 66⟩⟩
  · have := (PEND_b b6).1; omega
  · simp only [if_pos (Nat.zero_le j)]; exact e1
  · simp only [if_neg (show ¬ j + 1 ≤ j by omega)]
  · simp only [if_pos (Nat.zero_le j)]; exact e3
  · simp only [if_neg (show ¬ j + 1 ≤ j by omega)]
  · by_cases z : i = j
    · subst z
      simp only [if_pos (Nat.le_refl i), if_neg (show ¬ i + 1 ≤ i by omega)]
      rw [e2, e4]
      unfold nmo hlo
      rw [wr 60 _ (by decide), wr 63 _ (by decide)]
      refine PTT_ag b7 (fun r t hr t1 t2 => ?_) (fun t t1 t2 => ?_) (Nat.le_refl _)
      · have : ∀ r, r ∈ [33, 35, 36, 38] → r ∈ [33, 35, 36, 37, 38] ∧ r ≠ 37 := by decide
        exact w37 r t (this r hr).1 (fun z => absurd z (this r hr).2)
      · exact w37 37 t (by decide) (fun _ => Or.inl (by omega))
    · simp only [if_pos (show i ≤ j by omega), if_pos (show i + 1 ≤ j by omega)]
      have hi' : i < j := by omega
      have t1' := ei i hi'
      have t2' := e1i i (by omega)
      have t3' : e (i + 1) ≤ e j := by
        rcases Nat.lt_or_ge (i + 1) j with y | y
        · exact Nat.le_of_lt (ei _ y)
        · rw [show i + 1 = j by omega]; exact Nat.le_refl _
      refine PTT_ag (pt i hi') (fun r t hr t1 t2 => ?_) (fun t t1 t2 => ?_) (by unfold hlo; rw [wr 63 _ (by decide)]; omega)
      · have : ∀ r, r ∈ [33, 35, 36, 38] → r ∈ [33, 35, 36, 37, 38] ∧ r ≠ 37 := by decide
        rw [w37 r t (this r hr).1 (fun z => absurd z (this r hr).2)]
        exact kp r t (this r hr).1 (by omega)
      · rw [w37 37 t (by decide) (fun _ => Or.inl ?_)]
        · exact kp 37 t (by decide) (by omega)
        · have h1 := (hl.2 (by omega)).2
          have h2 := (hl.2 (by omega)).1
          intro e5
          have e6 : t = e (j - 1) := by omega
          rcases Nat.lt_or_ge (i + 1) j with y | y
          · have : e (i + 1) ≤ e (j - 1) := by
              rcases Nat.lt_or_ge (i + 1) (j - 1) with y2 | y2
              · have := PTT_e (e := e) (j := j - 1) (fun a ha => pt a (by omega)) (i + 1) y2
                omega
              · rw [show i + 1 = j - 1 by omega]; exact Nat.le_refl _
            omega
          · rw [show j - 1 = i by omega] at e6; omega
  · simp only [if_pos (show i ≤ j by omega)]
    by_cases z : i + 1 = j
    · have hj0 : 0 < j := by omega
      simp only [if_pos (show i + 1 ≤ j by omega)]
      rcases hw with ⟨hj0, hw⟩ | ⟨-, hw⟩
      · omega
      · rw [hw, wa_rne (by decide), z, e2, (hl.2 hj0).2, show j - 1 = i by omega, wa_eq hx]; omega
    · simp only [if_pos (show i + 1 ≤ j by omega)]
      have t1 := ei i (by omega)
      have t2 := e1i i (by omega)
      rw [w37 37 (e i) (by decide) (fun _ => Or.inl ?_), kp 37 (e i) (by decide) (by omega)]
      · exact ln.1 i (by omega)
      · have h1 := (hl.2 (by omega)).2
        have h2 := (hl.2 (by omega)).1
        have := PTT_e (e := e) (j := j - 1) (fun a ha => pt a (by omega)) i (by omega)
        omega
  · simp only [show j + 1 - 1 = j by omega, if_pos (Nat.le_refl j)]
    rw [e2, w37 37 q1.toNat (by decide) (fun _ => Or.inl (by omega))]
    exact b8
  · simp only [show j + 1 - 1 = j by omega, if_pos (Nat.le_refl j)]; omega
  · rcases hw with ⟨-, hw⟩ | ⟨-, hw⟩
    · rw [hw, wa_eq ⟨by omega, by omega⟩]; omega
    · rw [hw, wa_eq ⟨by omega, by omega⟩]; omega
  · rcases hw with ⟨hj0, hw⟩ | ⟨hj0, hw⟩
    · rw [hw, wa_rne (by decide), wa_eq hx]; exact hq0 hj0
    · rw [hw, wa_rne (by decide), wa_rne (by decide), kc 40 c.toNat (by decide) (by omega)]; exact k2 hj0
theorem PCL_PATS (a : PCL SN σ u v c q j q1 l) (hq : 0 ≤ q) : PATS v id id q1.toNat SN (hlo σ v) (nmo σ u) (nmo σ v) j (A v 40 c.toNat) := by
  obtain ⟨e, mm, ⟨e1, e2, e3, e4⟩, pt, ln, ls, k1, k2, k3⟩ := a
  rcases Nat.eq_zero_or_pos j with z | z
  · subst z
    exact Or.inl ⟨rfl, by rw [← e3, ← e4]⟩
  · obtain ⟨pM, pE, a1, a2, a3, a4⟩ := JND_of j pt
    have c0 := CHN_e pt ln a1
    have ce := chi_e a1 j (Nat.le_refl _)
    rw [e1] at c0 ce
    have hlt := PTT_e pt 0 z
    refine Or.inr ⟨z, q.toNat, pM, pE, ?_, ?_, ?_, ?_, ?_, ?_, ?_, ?_⟩
    · rw [k2 z]; omega
    · rw [ce]; exact c0
    · rw [ce]; omega
    · rw [ce, e2]; exact Nat.le_refl _
    · rw [← e1, a2 0 (Nat.zero_le _), e3]
    · rw [ce, a2 j (Nat.le_refl _), e4]
    · rw [ce]; intro k h1 h2; rw [← e4]; exact a3 k (by omega) h2
    · rw [ce]; intro k h1 h2; rw [← e2]; exact a4 k (by omega) h2
end
end
section
section
variable {w w2 v x : MS} {a b : Nat → Nat} {g q q2 m m2 lo mm X Y sh SN σ many r : Nat} {R : Nat → Prop} {ret : Bool} {root : Int}
theorem SEQR_st (s : SEQR ret w SN g a b q q2 m m2 lo mm X Y sh R) (ag : AG w w2 a b) (h : ∀ r n, r ∈ [28, 29, 30] → a 0 ≤ n → n < b 0 → (r = 29 → ¬ R n) → A w2 r n = A w r n) : SEQR ret w2 SN g a b q q2 m m2 lo mm X Y sh R := by
  refine ⟨s.1, fun Z h' rk z0 z1 z2 z3 z4 z5 z6 z7 z8 z9 => ?_⟩
  obtain ⟨T, C, t1, t2, t3, t4, t5, t6, t7⟩ := s.2 Z h' rk z0 z1 z2 z3 z4 z5 z6 z7 z8 z9
  have kk : ∀ n, a 0 ≤ n → n < b 0 → kq w2 T n = kq w T n := fun n h1 h2 => by unfold kq; rw [ag.2.1 23 n (by decide) h1 h2]
  refine ⟨T, C, t1, t2, t3, t4, t5, fun n hn => (kk n (s.1.2.2.2.2.2.2.2.2 n hn).1 (s.1.2.2.2.2.2.2.2.2 n hn).2).trans (t6 n hn), FRG_st t7 ag (fun n h1 h2 y => Or.inl (by rw [← h 30 n (by decide) h1 h2 (fun e => by omega)]; exact y)) (fun n h1 h2 => ?_)⟩
  have y := (t7.1 n h1 h2).2.2.2.2.2.2.2
  unfold RNK
  rw [h 28 n (by decide) h1 h2 (fun e => by omega)]
  refine ⟨y.1.imp id fun ⟨x, x1, x2, x3, x4⟩ => ⟨x, x1, x2, x3, by rw [kk x x2 x3, kk n h1 h2]; exact x4⟩, ?_⟩
  by_cases z : R n
  · exact Or.inl z
  · rw [h 29 n (by decide) h1 h2 (fun _ => z)]
    exact y.2.imp id (fun o => o.imp id fun ⟨x, x1, x2, x3, x4⟩ => ⟨x, x1, x2, x3, by rw [kk x x2 x3, kk n h1 h2]; exact x4⟩)
theorem SEQR_mo {lo2 mm2 X2 Y2 sh2 : Nat} (s : SEQR ret w SN g a b q q2 m m2 lo mm X Y sh R) (h1 : lo2 ≤ lo) (h2 : mm ≤ mm2) (h3 : X ≤ X2) (h4 : Y ≤ Y2) (h5 : sh ≤ sh2) : SEQR ret w SN g a b q q2 m m2 lo2 mm2 X2 Y2 sh2 R := by
  obtain ⟨⟨s1, s2, s3, s4, s5, s6, s7, s8, s9⟩, s10⟩ := s
  exact ⟨⟨s1, s2, by omega, by omega, by omega, by omega, by omega, by omega, s9⟩, fun Z h rk z0 z1 z2 z3 z4 z5 z6 z7 z8 z9 => s10 Z h rk z0 z1 (by omega) (by omega) (by omega) (by omega) (by omega) z7 z8 z9⟩
def AGR (w w2 : MS) (a b : Nat → Nat) (x : Nat) : Prop := F w2 14 = F w 14 ∧ (∀ r i, r ∈ [23, 24, 25, 26, 27, 28, 29, 30, 31] → a 0 ≤ i → i < b 0 → (r = 29 → i ≠ x) → A w2 r i = A w r i) ∧ (∀ r i, r ∈ [40, 41, 42, 43, 45] → a 1 ≤ i → i < b 1 → (r = 45 → i ≠ a 1) → A w2 r i = A w r i) ∧ (∀ r i, r ∈ [33, 35, 36, 37, 38] → i < b 2 → A w2 r i = A w r i) ∧ (∀ r i, r ∈ [53, 54, 55] → a 3 ≤ i → i < b 3 → A w2 r i = A w r i) ∧ ∀ i, i < b 4 → A w2 57 i = A w 57 i
theorem PTD_ag (h : PTD w SN ret root a b many m mm X Y sh r) (ag : AGR w w2 a b r) : PTD w2 SN ret root a b many m mm X Y sh r := by
  have le := PTD_le h
  obtain ⟨mN, mE, p, e, p2, p3, ⟨h1, h2, h3, h4⟩, ⟨k1, k2, k3, k4, k5⟩, h6, ⟨h7, h8⟩, h9, h10⟩ := h
  have gl := GRD_le h6
  have sl := h8.1.1
  have ol := h9.2.2.2.2
  have rr := h8.1.2.2.2.2.2.2.2.2 r rfl
  obtain ⟨g0, g1, g2, g3, g4, g5⟩ := ag
  have pb : ∀ i, p i ≤ b i := fun i => Nat.le_trans (gl i) (Nat.le_trans (sl i) (ol i))
  have ap : ∀ i, a i ≤ p2 i := fun i => Nat.le_trans (h4 i) (gl i)
  have p3b : ∀ i, p3 i ≤ b i := ol
  have c41 := g2 41 (a 1) (by decide) (Nat.le_refl _) le.2.2.1 (fun z => by omega)
  have c40 := g2 40 (a 1) (by decide) (Nat.le_refl _) le.2.2.1 (fun z => by omega)
  have c42 := g2 42 (a 1) (by decide) (Nat.le_refl _) le.2.2.1 (fun z => by omega)
  have c43 := g2 43 (a 1) (by decide) (Nat.le_refl _) le.2.2.1 (fun z => by omega)
  have m1 : ∀ r, r ∈ [23, 24, 25, 26, 27, 31] → r ∈ [23, 24, 25, 26, 27, 28, 29, 30, 31] ∧ r ≠ 29 := by decide
  have m2 : ∀ r, r ∈ [28, 29, 30] → r ∈ [23, 24, 25, 26, 27, 28, 29, 30, 31] := by decide
  have m3 : ∀ r, r ∈ [23, 24, 28, 29] → r ∈ [23, 24, 25, 26, 27, 28, 29, 30, 31] := by decide
  have AGx : ∀ x y : Nat → Nat, (∀ i, p i ≤ x i) → (∀ i, y i ≤ b i) → AG w w2 x y := fun x y hx hy => by
    have x0 := hx 0
    have x1 := hx 1
    have x3 := hx 3
    have y0 := hy 0
    have y1 := hy 1
    have y2 := hy 2
    have y3 := hy 3
    have y4 := hy 4
    exact ⟨g0, fun r i hr z1 z2 => g1 r i (m1 r hr).1 (by omega) (by omega) (fun z => absurd z (m1 r hr).2), fun r i hr z1 z2 => g2 r i hr (by omega) (by omega) (fun _ => by omega), fun r i hr z => g3 r i hr (by omega), fun r i hr z1 z2 => g4 r i hr (by omega) (by omega), fun i z => g5 i (by omega)⟩
  have o0 := h9.1
  have o1 := h9.2.1
  have kz : ∀ i k, KND w i k → a 0 ≤ i → i < b 0 → i ≠ r → KND w2 i k := fun i k hk z1 z2 z3 => KND_eq hk (fun r hr => g1 r i (m3 r hr) z1 z2 (fun _ => z3))
  refine ⟨mN, mE, p, e, p2, p3, ⟨h1, h2, h3, h4⟩, ⟨by rw [c41]; exact k1, k2, k3, k4, ?_⟩, ?_, ⟨by rw [c43]; exact h7, SEQR_st h8 (AGx p2 p3 gl p3b) (fun r i hr z1 z2 z3 => ?_)⟩, h9, ?_⟩
  · rw [c40]
    have y2 := pb 2
    exact PATS_ag k5 (fun r i hr z => g3 r i hr (by omega))
  · rcases h6 with ⟨q1, q2⟩ | ⟨q1, q2, q3, q4⟩
    · exact Or.inl ⟨by rw [c42]; exact q1, q2⟩
    · have e2 : ∀ i, e i ≤ b i := fun i => Nat.le_trans (q4.2.2.2.2 i) (Nat.le_trans (sl i) (ol i))
      have q41 := q4.2.1
      have q21 := q2.1.1 0
      have s0 := sl 0
      refine Or.inr ⟨by rw [c42]; exact q1, SEQ_st q2 (AGx p e (fun i => Nat.le_refl _) e2) (fun r i hr z1 z2 z3 => ?_), kz _ _ q3 (by omega) (by omega) (by omega), q4⟩
      have := e2 0
      exact g1 r i (m2 r hr) (by omega) (by omega) (fun _ => by omega)
  · have := ap 0
    have := ol 0
    exact g1 r i (m2 r hr) (by omega) (by omega) z3
  · have s0 := sl 0
    have g00 := gl 0
    rcases h10 with ⟨q1, q2⟩ | ⟨q1, q2, q3, q4, q5⟩
    · exact Or.inl ⟨q1, kz _ _ q2 (by omega) (by omega) (by omega)⟩
    · have z1 : a 0 ≤ p3 0 := by omega
      have z2 : p3 0 < b 0 := by omega
      refine Or.inr ⟨q1, q2, kz _ _ q3 z1 z2 (by omega), ?_, ?_⟩
      · rw [g1 25 _ (by decide) z1 z2 (fun z => by omega)]; exact q4
      · rw [g1 26 _ (by decide) z1 z2 (fun z => by omega)]; exact q5
theorem PTD_mo {mm2 X2 Y2 sh2 : Nat} (h : PTD w SN ret root a b many m mm X Y sh r) (h1 : mm ≤ mm2) (h2 : X ≤ X2) (h3 : Y ≤ Y2) (h4 : sh ≤ sh2) : PTD w SN ret root a b many m mm2 X2 Y2 sh2 r := by
  obtain ⟨mN, mE, p, e, p2, p3, a1, ⟨k1, k2, k3, k4, k5⟩, h6, ⟨h7, h8⟩, h9, h10⟩ := h
  refine ⟨mN, mE, p, e, p2, p3, a1, ⟨k1, k2, k3, by omega, PATS_L k5 h4⟩, ?_, ⟨h7, SEQR_mo h8 (Nat.le_refl _) h1 h2 h3 h4⟩, h9, h10⟩
  rcases h6 with z | ⟨q1, q2, q3, q4⟩
  · exact Or.inl z
  · exact Or.inr ⟨q1, SEQ_mo q2 (Nat.le_refl _) h1 h2 h3 h4, q3, q4⟩
theorem AGR_kp (k : KPR σ v w) (h : ∀ i, b i ≤ mks v i) : AGR v w a b r := by
  obtain ⟨k0, ⟨k1, k2, k3, k4, k5⟩, -⟩ := k
  have b0 : b 0 ≤ (F v 32).toNat := h 0
  have b1 : b 1 ≤ (F v 46).toNat := h 1
  have b2 : b 2 ≤ (F v 39).toNat := h 2
  have b3 : b 3 ≤ (F v 56).toNat := h 3
  have b4 : b 4 ≤ (F v 58).toNat := h 4
  exact ⟨k0.F (by decide), fun r i hr _ hi _ => k1 r i hr (by omega), fun r i hr _ hi _ => k3 r i hr (by omega), fun r i hr hi => k2 r i hr (by omega), fun r i hr _ hi => k4 r i hr (by omega), fun i hi => k5 i (by omega)⟩
theorem AGR_tr (k : AGR v w a b r) (l : AGR w x a b r) : AGR v x a b r := by
  obtain ⟨k0, k1, k2, k3, k4, k5⟩ := k
  obtain ⟨l0, l1, l2, l3, l4, l5⟩ := l
  exact ⟨l0.trans k0, fun r i z1 z2 z3 z4 => (l1 r i z1 z2 z3 z4).trans (k1 r i z1 z2 z3 z4), fun r i z1 z2 z3 z4 => (l2 r i z1 z2 z3 z4).trans (k2 r i z1 z2 z3 z4), fun r i z1 z2 => (l3 r i z1 z2).trans (k3 r i z1 z2), fun r i z1 z2 z3 => (l4 r i z1 z2 z3).trans (k4 r i z1 z2 z3), fun i z1 => (l5 i z1).trans (k5 i z1)⟩
end
end
section
def CBT (TN SN σ : Nat) (o xb : Int) (w x : MS) : Prop := F x 72 = 0 → F x 66 = 0 → TN ≤ 1500 → ∃ (mE mm X Y e : Nat) (p3 : Nat → Nat), SEQR true x SN 0 (mks w) p3 0 1 (nmo σ w) mE (nmo σ w) mm X Y (hlo σ x) (fun i => i = e) ∧ A x 29 e = -1 ∧ ONE p3 (mks x) (p3 0) ∧ KND x (p3 0) 29 ∧ mm ≤ 40 ∧ (mm : Int) ≤ A x 64 σ ∧ 2 * (X : Int) ≤ xb ∧ (Y : Int) + o + 1 ≤ 25
def CBQ (u0 : MS) (TN SN : Nat) (bw : Nat → Nat) (σ : Nat) (p o n q c f h s wt : Int) (w x : MS) : Prop := F x 67 = 0 ∧ ∃ p2 n2 q2 c2 f2 h2 : Int, ST u0 σ p2 o n2 q2 c2 f2 h2 s wt 0 x ∧ KPR σ w x ∧ p2 ≤ TN ∧ DLT bw 1 1 (1 + nu u0 p2.toNat) p n q c f h p2 n2 q2 c2 f2 h2 ∧ LGS σ x ∧ CBT TN SN σ o (p2 - p + 1) w x
section
variable {u0 u v w x : MS} {N σ TN SN e a hh : Nat} {bw : Nat → Nat} {p o n q c f h s wt g D d : Int} {r y1 y2 y3 : Int32} {S : SG_M_behind}
theorem LSQ_ge (z : RTD w hh a e) (h29 : A w 29 e = -1) (ls : LSQ w (fun i => i = e) x) : ∀ n, A x 30 n ≠ A w 30 n → a ≤ n := by
  intro n hn
  have key := ls.2.2 (fun n => (∃ h, RTD w h a n) ∧ ∃ (b : Nat) (l : List Nat), CHL w b (A w 29 n) l ∧ ∀ r, r ∈ l → ∃ h, RTD w h a r) (fun n hn => ?_) (fun n y hn hy => ?_) (fun n y hn hy => ?_) n hn
  · obtain ⟨⟨h, hz⟩, -⟩ := key
    exact RTD_a h n hz
  · rw [hn]; exact ⟨⟨hh, z⟩, 0, [], h29, fun r hr => by cases hr⟩
  · obtain ⟨⟨h, hz⟩, -⟩ := hn
    cases h with
    | zero => have := hz.2; omega
    | succ h =>
      obtain ⟨z1, l, z2, z3⟩ := hz
      cases l with
      | nil => have : A w 28 n = -1 := z2; omega
      | cons t l =>
        obtain ⟨c1, c2, c3⟩ := z2
        obtain rfl : y = t := by omega
        exact ⟨⟨h, z3 y (List.mem_cons_self ..)⟩, y, l, c3, fun r hr => ⟨h, z3 r (List.mem_cons_of_mem _ hr)⟩⟩
  · obtain ⟨-, b, l, c1, c2⟩ := hn
    cases l with
    | nil => have : A w 29 n = -1 := c1; omega
    | cons t l =>
      obtain ⟨d1, d2, d3⟩ := c1
      obtain rfl : y = t := by omega
      exact ⟨c2 y (List.mem_cons_self ..), y, l, d3, fun r hr => c2 r (List.mem_cons_of_mem _ hr)⟩
theorem ST_30 (hs : ST u0 σ p o n q c f h s wt g u) (a : FR [] [] [30] [] u v) : ST u0 σ p o n q c f h s wt g v := by
  obtain ⟨b1, e, b2, b6, b7, b8⟩ := hs
  have ef : ∀ k, F v k = F u k := fun k => a.F (by intro z; cases z)
  refine ⟨FR.tr b1 (FRP a (by decide) (by decide) (by decide)), ?_, ?_, SCP_fr b6 a (by decide), K44_fr b7 a (by decide), NGD_fr b8 a (by decide) (by decide)⟩
  · simp only [ef]; exact e
  · simp only [ef]; exact b2
theorem KPR_30 (k : KPR σ u w) (a : FR [] [] [30] [] w x) (hz : ∀ n : Nat, A x 30 n ≠ A w 30 n → F u 32 ≤ n) : KPR σ u x := by
  have ef : ∀ k, F x k = F w k := fun k => a.F (by intro z; cases z)
  have g : ∀ r i, r ≠ 30 → A x r i = A w r i := fun r i hr => a.A (by simpa using hr)
  obtain ⟨a0, ⟨a1, a2, a3, a4, a5⟩, ⟨a6, a7, a8, a9⟩, ⟨a10, a11, a12⟩, a13, a14, a15⟩ := k
  have m2 : ∀ r, r ∈ [33, 35, 36, 37, 38] → r ≠ 30 := by decide
  have m3 : ∀ r, r ∈ [40, 41, 42, 43, 45] → r ≠ 30 := by decide
  have m4 : ∀ r, r ∈ [53, 54, 55] → r ≠ 30 := by decide
  have m5 : ∀ r, r ∈ [61, 62] → r ≠ 30 := by decide
  have m6 : ∀ r, r ∈ [79, 80, 81, 82] → r ≠ 30 := by decide
  refine ⟨FR.tr a0 (FRP a (by decide) (by decide) (by decide)), ⟨fun r i h1 h2 => ?_, fun r i h1 h2 => (g r i (m2 r h1)).trans (a2 r i h1 h2), fun r i h1 h2 => (g r i (m3 r h1)).trans (a3 r i h1 h2), fun r i h1 h2 => (g r i (m4 r h1)).trans (a4 r i h1 h2), fun i h2 => (g 57 i (by decide)).trans (a5 i h2)⟩, ⟨fun s i h1 h2 => (g 59 _ (by decide)).trans (a6 s i h1 h2), fun r s i h0 h1 h2 => (g r _ (m5 r h0)).trans (a7 r s i h0 h1 h2), fun s h1 => (g 60 s (by decide)).trans (a8 s h1), fun s h1 => ?_⟩, ⟨fun i h2 => (g 74 i (by decide)).trans (a10 i h2), fun i h2 => (g 76 i (by decide)).trans (a11 i h2), fun r i h1 h2 => (g r i (m6 r h1)).trans (a12 r i h1 h2)⟩, ?_, ?_, ?_⟩
  · by_cases e : r = 30
    · by_cases z : A x 30 i = A w 30 i
      · rw [e]; rw [e] at h1; exact z.trans (a1 30 i h1 h2)
      · have := hz i z; omega
    · exact (g r i e).trans (a1 r i h1 h2)
  · rw [g 60 s (by decide), g 63 s (by decide), g 64 s (by decide)]; exact a9 s h1
  · simp only [ef]; exact a13
  · rw [ef]; exact a14
  · rw [ef]; exact a15
theorem FSM_30 (hs : FSM u0 TN σ d u) (a : FR [] [] [30] [] u v) : FSM u0 TN σ d v := FSM_fr hs a (fun k z => by cases z) (fun k z => by rw [List.mem_singleton.mp z]; decide) (fun k z => by cases z) (by rw [a.F (by intro z; cases z)]; exact hs.2.1)
theorem tail_F (hN : 20000 ≤ N) (hT : TN ≤ 4000) (hD : D ≤ 3000) (hv : FEQ u0 TN σ D v r) : OK (fun x t => t = y2 ∧ FSM u0 TN σ (D + 1) x) (bnd (fm_M_node N v 29 (v.1 69)) (fun u7 r7 => bnd (fr_M_last N u7 r) (fun u8 _ => some (u8, y2)))) := by
  obtain ⟨hs, x, hx, hx2⟩ := hv
  have n0 := hs.2.2.2.2.1
  have p0 := hs.2.2.1
  refine k_node (k := 29) (t := F v 69) rfl (by decide) I_F (by omega) (by omega) (fun v1 hv1 => ?_)
  have s1 : FSM u0 TN σ (D + 1) v1 := FSM_nd hs hv1.1
  rcases hx2 with hx2 | ⟨x1, x2, x3⟩
  · rw [hx, hx2, show I (-1) = (-1 : Int32) from rfl, last_none, bnd_so]
    exact ok_some.mpr ⟨rfl, s1⟩
  · have e : x = ((x.toNat : Nat) : Int) := by omega
    rw [hx, e]
    refine ok_bnd.mpr (ok_mono (last_ok (a := 0) hN 60 0 v1 x.toNat (by omega) (by omega) ⟨Nat.zero_le _, ?_⟩) (fun w _ hw => ok_some.mpr ⟨rfl, FSM_30 s1 hw.1⟩))
    rw [hv1.1.2.2.2.2 28 x.toNat (by omega)]
    exact x3
theorem tail_ok (tk : TKW u0 TN SN bw) (hN : 20000 ≤ N) (hD : 0 ≤ D ∧ D ≤ 2900) (ho : 0 ≤ o ∧ o ≤ 25) (hb : XSB u0 TN SN bw D o S.2.2.2.2.1) (hs : ST u0 σ p o n q c f h s wt 0 w) (hf : F w 67 = 0) (hm : NM TN bw 3 0 0 σ p o n q c f h s wt) (hl : LGS σ w) : OK (fun x t => t = y2 ∧ (CBQ u0 TN SN bw σ p o n q c f h s wt w x ∨ FSM u0 TN σ (D + 1) x)) (bnd (S.2.2.2.2.1 w) (fun u6 r6 => bnd (fm_M_node N u6 29 (u6.1 69)) (fun u7 r7 => bnd (fr_M_last N u7 r6) (fun u8 _ => some (u8, y2))))) := by
  have hT := tk.1.1
  have e32 : F w 32 = n := hs.2.1.2.2.1
  have fs := NM_fs hm (by omega)
  refine ok_bnd.mpr (ok_mono (hb w σ _ _ _ _ _ _ _ _ hs hf hm hl) (fun v r hv => ?_))
  rcases hv with ⟨b0, p2, n2, q2, c2, f2, h2, e, b1, b2, b3, b4, b5, b6, b7, b8⟩ | hv
  · have nm2 := NM_dlt tk hm b5 (by omega) (by omega) b4
    have fs2 := NM_fs nm2 (by omega)
    have e32v : F v 32 = n2 := b2.2.1.2.2.1
    have e69v : F v 69 = p2 := b2.2.1.1
    refine k_node (k := 29) (t := F v 69) rfl (by decide) I_F (by omega) (by omega) (fun v1 hv1 => ?_)
    have nd := hv1.1
    have s1 := ST_nd b2 nd (by omega) (by omega) (fun z => by omega)
    have k1 : KPR σ v v1 := KPR_nd KPR_rf nd (by omega)
    have rt : RTD v1 (26 - (o + 1)).toNat n.toNat e := RTD_fr _ _ b6.2.2.1 (nd.2.2.2.2 28 e (by omega)) (fun r i _ _ hi => nd.2.2.2.2 r i (by omega))
    have a29 : A v1 29 e = -1 := by rw [nd.2.2.2.2 29 e (by omega)]; exact b6.2.2.2
    rw [b1]
    refine ok_bnd.mpr (ok_mono (last_ok hN 60 _ v1 e (by omega) (by omega) rt) (fun x _ hx => ok_some.mpr ⟨rfl, Or.inl ?_⟩))
    have ge := LSQ_ge rt a29 hx
    have fx : ∀ k, F x k = F v1 k := fun k => hx.1.F (by intro z; cases z)
    have ax : ∀ r i, r ≠ 30 → A x r i = A v1 r i := fun r i hr => hx.1.A (by simpa using hr)
    have kx : KPR σ w x := KPR_30 (KPR_tr b3 k1) hx.1 (fun i hi => by have := ge i hi; omega)
    refine ⟨by rw [fx, nd.1.F (by decide)]; exact b0, p2, n2 + 1, q2, c2, f2, h2, ST_30 s1 hx.1, kx, b4, ?_, fun z => ?_, fun z1 z2 z3 => ?_⟩
    · unfold DLT at b5 ⊢; omega
    · rw [ax 60 σ (by decide), nd.1.A (by decide)]
      refine b7 ?_
      rw [← nd.1.F (k := 66) (by decide), ← fx]; exact z
    · rw [fx] at z1 z2
      obtain ⟨mm, X, Y, g1, g2, g3, g4, g5⟩ := b8 (k1.2.2.2.2.2.1 z1) (k1.2.2.2.2.2.2 z2) z3
      have t1 : SEQ v SN 0 (mks w) (mks v) 0 1 (nmo σ w) (nmo σ v) (nmo σ w) mm X Y (hlo σ v) (fun i => i = e) := g1
      have t2 := SEQ_kp t1 (fun i => Nat.le_refl _) k1
      have t3 := SEQR_last t2 hx a29
      have on := ONE_nd nd (show 0 ≤ F v 32 by omega)
      have mx : mks x = mks v1 := by funext i; unfold mks; rw [fx]
      have hl : hlo σ v = hlo σ x := by unfold hlo; rw [ax 63 σ (by decide), nd.1.A (by decide)]
      refine ⟨nmo σ v, mm, X, Y, e, mks v, ?_, ?_, ?_, ?_, g2, ?_, g4, by omega⟩
      · rw [← hl]; exact t3
      · rw [ax 29 e (by decide)]; exact a29
      · rw [mx]; exact on
      · have m1 : ∀ r, r ∈ [23, 24, 28, 29] → r ≠ 30 := by decide
        exact KND_eq (KND_of hv1 (by omega)) (fun r hr => ax r _ (m1 r hr))
      · rw [ax 64 σ (by decide), nd.1.A (by decide)]; exact g3
  · exact ok_mono (tail_F hN hT (by omega) hv) (fun x t hx => ⟨hx.1, Or.inr hx.2⟩)
end
end
