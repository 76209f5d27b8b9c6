def TYM (SN σ : Nat) (g lv xb : Int) (v : MS) (M : Nat → Nat) (m q q2 : Nat) (R : Nat → Prop) : Prop := ∃ mm X Y : Nat, SEQ v SN (gq g) M (mks v) q q2 m (nmo σ v) m mm X Y (hlo σ v) R ∧ mm ≤ 40 ∧ (mm : Int) ≤ A v 64 σ ∧ 2 * (X : Int) ≤ xb ∧ (Y : Int) + lv ≤ 25
def PCE (SN σ : Nat) (g lv xb : Int) (v : MS) (M0 M : Nat → Nat) (m0 m : Nat) : Prop := ∃ mm X Y : Nat, SEQ v SN (gq g) M0 M 0 1 m0 m m0 mm X Y (hlo σ v) (fun _ => False) ∧ mm ≤ 40 ∧ (mm : Int) ≤ A v 64 σ ∧ 2 * (X : Int) ≤ xb ∧ (Y : Int) + lv ≤ 25
def TRN (σ : Nat) (wt : Int) (J : Nat) (v w : MS) (M : Nat → Nat) : Prop := F w 14 = F v 14 ∧ ((∀ r i, r ∈ [23, 24, 25, 26, 27, 28, 29, 30, 31] → i < M 0 → A w r i = A v r i) ∧ (∀ r i, r ∈ [40, 41, 42, 43, 45] → i < M 1 → A w r i = A v r i) ∧ (∀ r i, r ∈ [33, 35, 36, 37, 38] → i < M 2 → A w r i = A v r i) ∧ (∀ r i, r ∈ [53, 54, 55] → i < M 3 → A w r i = A v r i) ∧ ∀ i, i < M 4 → A w 57 i = A v 57 i) ∧ (hlo σ v ≤ hlo σ w ∧ A v 64 σ ≤ A w 64 σ) ∧ ∀ r i, r ∈ [79, 80, 81, 82] → (i : Nat) < wt + J → A w r i = A v r i
def STK (SN σ : Nat) (g lv wt p : Int) (u v : MS) : Nat → (Nat → Nat) → Nat → Int → Prop
  | 0, M, m, ps => M = mks u ∧ m = nmo σ u ∧ ps = p
  | J + 1, M, m, ps => ∃ (M0 : Nat → Nat) (m0 : Nat) (ps0 : Int), STK SN σ g lv wt p u v J M0 m0 ps0 ∧ (∀ i, M0 i ≤ M i) ∧ ((A v 79 (wt + J).toNat = 7 ∧ M = M0 ∧ m = m0 ∧ ps0 + 1 ≤ ps) ∨ (3 ≤ A v 79 (wt + J).toNat ∧ A v 79 (wt + J).toNat ≤ 6 ∧ ps0 + 2 ≤ ps ∧ PCE SN σ g lv (ps - ps0) v M0 M m0 m) ∨ ((A v 79 (wt + J).toNat = 1 ∨ A v 79 (wt + J).toNat = 2) ∧ ps0 + 2 ≤ ps ∧ A v 82 (wt + J).toNat = ((m : Nat) : Int) ∧ ∃ M1 : Nat → Nat, PCE SN σ g lv (ps - ps0) v M0 M1 m0 m ∧ ONE M1 M (M1 0) ∧ A v 81 (wt + J).toNat = ((M1 0 : Nat) : Int) ∧ (KND v (M1 0) 9 ∨ KND v (M1 0) 10)))
section
variable {α : Type} {Q : MS → α → Prop} {u0 u v v1 w x : MS} {N σ TN SN e q0 q1 q2 q3 : Nat} {bw : Nat → Nat} {p o n q c f h s wt g lv xb xb1 xb2 k t D d y z l : Int} {r y1 y2 y3 : Int32} {R R1 R2 : Nat → Prop} {M M0 M1 : Nat → Nat} {m m0 J : Nat}
theorem TYM_of (a : TYG TN SN σ g lv xb u v q0 q1 R) (h1 : F v 72 = 0) (h2 : F v 66 = 0) (h3 : TN ≤ 1500) : TYM SN σ g lv xb v (mks u) (nmo σ u) q0 q1 R := a h1 h2 h3
theorem TYM_mo {lv2 : Int} (a : TYM SN σ g lv xb1 v M m q0 q1 R) (h1 : xb1 ≤ xb) (h2 : lv2 ≤ lv) : TYM SN σ g lv2 xb v M m q0 q1 R := by
  obtain ⟨m1, X1, Y1, s1, a1, a2, a3, a4⟩ := a
  exact ⟨m1, X1, Y1, s1, a1, a2, by omega, by omega⟩
theorem TYM_ro (a : TYM SN σ g lv xb v M m q0 q1 R1) (h6 : ∀ n, R2 n → R1 n) (h7 : ∀ n, R1 n → R2 n ∨ A v 29 n = -1) : TYM SN σ g lv xb v M m q0 q1 R2 := by
  obtain ⟨m1, X1, Y1, s1, a1⟩ := a
  exact ⟨m1, X1, Y1, SEQ_ro s1 h6 h7, a1⟩
theorem TYM_app (a : TYM SN σ g lv xb1 v M m q0 q1 R1) (k : KPR σ v w) (b : TYM SN σ g lv xb2 w (mks v) (nmo σ v) q2 q3 R2) (hq : q1 = q2 + e) (h1 : xb1 ≤ xb) (h2 : xb2 + 2 * e ≤ xb) : TYM SN σ g lv xb w M m q0 (q3 + e) (fun n => R1 n ∨ R2 n) := by
  obtain ⟨m1, X1, Y1, s1, a1, a2, a3, a4⟩ := a
  obtain ⟨m2, X2, Y2, s2, b1, b2, b3, b4⟩ := b
  have kn := KPR_n k
  have t1 := SEQ_kp s1 (fun i => Nat.le_refl _) k
  have lo := s1.1.2.2.2.1
  refine ⟨max m1 m2, max X1 (X2 + e), max Y1 Y2, SEQ_app (SEQ_mo t1 (Nat.le_refl _) (Nat.le_max_left _ _) (Nat.le_max_left _ _) (Nat.le_max_left _ _) kn.2.1) (by rw [hq]; exact SEQ_mo (SEQ_up s2 e) lo (Nat.le_max_right _ _) (Nat.le_max_right _ _) (Nat.le_max_right _ _) (Nat.le_refl _)), ?_, ?_, ?_, ?_⟩
  all_goals omega
theorem TYM_v (a : TYM SN σ g lv xb v M m q0 q1 R) (k : KPR σ v w) (h1 : mks w = mks v) (h2 : nmo σ w = nmo σ v) : TYM SN σ g lv xb w M m q0 q1 R := by
  obtain ⟨m1, X1, Y1, s1, a1, a2, a3⟩ := a
  have kn := KPR_n k
  refine ⟨m1, X1, Y1, ?_, a1, by omega, a3⟩
  rw [h1, h2]
  exact SEQ_mo (SEQ_kp s1 (fun i => Nat.le_refl _) k) (Nat.le_refl _) (Nat.le_refl _) (Nat.le_refl _) (Nat.le_refl _) kn.2.1
theorem PCE_of (a : TYM SN σ g lv xb v M m 0 1 R) (h : ∀ n, R n → A v 29 n = -1) : PCE SN σ g lv xb v M (mks v) m (nmo σ v) := by
  obtain ⟨m1, X1, Y1, s1, a1⟩ := TYM_ro (R2 := fun _ => False) a (fun n hn => hn.elim) (fun n hn => Or.inr (h n hn))
  exact ⟨m1, X1, Y1, s1, a1⟩
theorem PCE_app (a : PCE SN σ g lv xb1 v M0 M m0 m) (b : TYM SN σ g lv xb2 v M m q2 q3 R2) (hq : 1 = q2 + e) (h1 : xb1 ≤ xb) (h2 : xb2 + 2 * e ≤ xb) : TYM SN σ g lv xb v M0 m0 0 (q3 + e) R2 := by
  obtain ⟨m1, X1, Y1, s1, a1, a2, a3, a4⟩ := a
  obtain ⟨m2, X2, Y2, s2, b1, b2, b3, b4⟩ := b
  have lo := s1.1.2.2.2.1
  refine ⟨max m1 m2, max X1 (X2 + e), max Y1 Y2, SEQ_ro (SEQ_app (SEQ_mo s1 (Nat.le_refl _) (Nat.le_max_left _ _) (Nat.le_max_left _ _) (Nat.le_max_left _ _) (Nat.le_refl _)) (by rw [hq]; exact SEQ_mo (SEQ_up s2 e) lo (Nat.le_max_right _ _) (Nat.le_max_right _ _) (Nat.le_max_right _ _) (Nat.le_refl _))) (fun n hn => Or.inr hn) (fun n hn => Or.inl (hn.resolve_left id)), ?_, ?_, ?_, ?_⟩
  all_goals omega
theorem TRN_le (a : TRN σ wt J v w M) (h : ∀ i, M0 i ≤ M i) {J2 : Nat} (hj : J2 ≤ J) : TRN σ wt J2 v w M0 := by
  obtain ⟨a0, ⟨a1, a2, a3, a4, a5⟩, a6, a7⟩ := a
  have h0 := h 0
  have h1 := h 1
  have h2 := h 2
  have h3 := h 3
  have h4 := h 4
  exact ⟨a0, ⟨fun r i hr hi => a1 r i hr (by omega), fun r i hr hi => a2 r i hr (by omega), fun r i hr hi => a3 r i hr (by omega), fun r i hr hi => a4 r i hr (by omega), fun i hi => a5 i (by omega)⟩, a6, fun r i hr hi => a7 r i hr (by omega)⟩
theorem TRN_kp (k : KPR σ v w) (h : ∀ i, M i ≤ mks v i) (hw : F v 83 = wt + J) : TRN σ wt J v w M := by
  obtain ⟨k0, ⟨k1, k2, k3, k4, k5⟩, -, ⟨-, -, k6⟩, -⟩ := id k
  have b0 : M 0 ≤ (F v 32).toNat := h 0
  have b1 : M 1 ≤ (F v 46).toNat := h 1
  have b2 : M 2 ≤ (F v 39).toNat := h 2
  have b3 : M 3 ≤ (F v 56).toNat := h 3
  have b4 : M 4 ≤ (F v 58).toNat := h 4
  have kn := KPR_n k
  exact ⟨k0.F (by decide), ⟨fun r i hr hi => k1 r i hr (by omega), fun r i hr hi => k3 r i hr (by omega), fun r i hr hi => k2 r i hr (by omega), fun r i hr hi => k4 r i hr (by omega), fun i hi => k5 i (by omega)⟩, kn.2, fun r i hr hi => k6 r i hr (by omega)⟩
theorem TRN_tr {x : MS} (a : TRN σ wt J v w M) (b : TRN σ wt J w x M) : TRN σ wt J v x M := by
  obtain ⟨a0, ⟨a1, a2, a3, a4, a5⟩, a6, a7⟩ := a
  obtain ⟨b0, ⟨b1, b2, b3, b4, b5⟩, b6, b7⟩ := b
  exact ⟨b0.trans a0, ⟨fun r i hr hi => (b1 r i hr hi).trans (a1 r i hr hi), fun r i hr hi => (b2 r i hr hi).trans (a2 r i hr hi), fun r i hr hi => (b3 r i hr hi).trans (a3 r i hr hi), fun r i hr hi => (b4 r i hr hi).trans (a4 r i hr hi), fun i hi => (b5 i hi).trans (a5 i hi)⟩, ⟨by omega, by omega⟩, fun r i hr hi => (b7 r i hr hi).trans (a7 r i hr hi)⟩
theorem TRN_60 : TRN σ wt J v (wa v 60 σ y) M := by
  have m1 : ∀ r, r ∈ [23, 24, 25, 26, 27, 28, 29, 30, 31] → r ≠ 60 := by decide
  have m2 : ∀ r, r ∈ [40, 41, 42, 43, 45] → r ≠ 60 := by decide
  have m3 : ∀ r, r ∈ [33, 35, 36, 37, 38] → r ≠ 60 := by decide
  have m4 : ∀ r, r ∈ [53, 54, 55] → r ≠ 60 := by decide
  have m5 : ∀ r, r ∈ [79, 80, 81, 82] → r ≠ 60 := by decide
  refine ⟨rfl, ⟨fun r i hr _ => wa_rne (m1 r hr), fun r i hr _ => wa_rne (m2 r hr), fun r i hr _ => wa_rne (m3 r hr), fun r i hr _ => wa_rne (m4 r hr), fun i _ => wa_rne (by decide)⟩, ⟨?_, ?_⟩, fun r i hr _ => wa_rne (m5 r hr)⟩
  · unfold hlo; rw [wa_rne (by decide)]; exact Nat.le_refl _
  · rw [wa_rne (by decide)]; exact Int.le_refl _
theorem TRN_wn {r i : Nat} (hr : r ∈ [23, 24, 25, 26, 27, 28, 29, 30, 31]) (hi : M 0 ≤ i) : TRN σ wt J v (wa v r i y) M := by
  have m1 : ∀ r, r ∈ [23, 24, 25, 26, 27, 28, 29, 30, 31] → r ∉ [40, 41, 42, 43, 45] ∧ r ∉ [33, 35, 36, 37, 38] ∧ r ∉ [53, 54, 55] ∧ 57 ≠ r ∧ r ∉ [79, 80, 81, 82] ∧ 63 ≠ r ∧ 64 ≠ r := by decide
  obtain ⟨b1, b2, b3, b4, b5, b6, b7⟩ := m1 r hr
  refine ⟨rfl, ⟨fun r2 j h1 h2 => wa_ne (by omega), fun r2 j h1 h2 => wa_rne (fun z => b1 (by rw [← z]; exact h1)), fun r2 j h1 h2 => wa_rne (fun z => b2 (by rw [← z]; exact h1)), fun r2 j h1 h2 => wa_rne (fun z => b3 (by rw [← z]; exact h1)), fun j _ => wa_rne b4⟩, ⟨?_, ?_⟩, fun r2 j h1 h2 => wa_rne (fun z => b5 (by rw [← z]; exact h1))⟩
  · unfold hlo; rw [wa_rne b6]; exact Nat.le_refl _
  · rw [wa_rne b7]; exact Int.le_refl _
theorem TRN_wi {b : Nat} (hb : b ≠ 14) : TRN σ wt J v (wi v b y) M := ⟨wi_ne (fun z => hb z.symm), ⟨fun _ _ _ _ => rfl, fun _ _ _ _ => rfl, fun _ _ _ _ => rfl, fun _ _ _ _ => rfl, fun _ _ => rfl⟩, ⟨Nat.le_refl _, Int.le_refl _⟩, fun _ _ _ _ => rfl⟩
theorem SEQ_tr {gg qq qq2 mq mq2 lo mm X Y sh : Nat} (s : SEQ v SN gg M0 M qq qq2 mq mq2 lo mm X Y sh R) (a : TRN σ wt J v w M) : SEQ w SN gg M0 M qq qq2 mq mq2 lo mm X Y sh R := by
  obtain ⟨a0, ⟨a1, a2, a3, a4, a5⟩, a6, a7⟩ := a
  have m1 : ∀ r, r ∈ [23, 24, 25, 26, 27, 31] → r ∈ [23, 24, 25, 26, 27, 28, 29, 30, 31] := by decide
  have m2 : ∀ r, r ∈ [28, 29, 30] → r ∈ [23, 24, 25, 26, 27, 28, 29, 30, 31] := by decide
  exact SEQ_st s ⟨a0, fun r i hr _ hi => a1 r i (m1 r hr) hi, fun r i hr _ hi => a2 r i hr hi, fun r i hr hi => a3 r i hr hi, fun r i hr _ hi => a4 r i hr hi, fun i hi => a5 i hi⟩ (fun r i hr _ hi _ => a1 r i (m2 r hr) hi)
theorem PCE_tr (a : PCE SN σ g lv xb v M0 M m0 m) (b : TRN σ wt J v w M) : PCE SN σ g lv xb w M0 M m0 m := by
  obtain ⟨mm, X, Y, s1, a1, a2, a3⟩ := a
  have b6 := b.2.2.1
  exact ⟨mm, X, Y, SEQ_mo (SEQ_tr s1 b) (Nat.le_refl _) (Nat.le_refl _) (Nat.le_refl _) (Nat.le_refl _) b6.1, a1, by omega, a3⟩
theorem STK_tr : ∀ (J : Nat) (M : Nat → Nat) (m : Nat) (ps : Int), STK SN σ g lv wt p u v J M m ps → 0 ≤ wt → TRN σ wt J v w M → STK SN σ g lv wt p u w J M m ps := by
  intro J
  induction J with
  | zero => intro M m ps h _ _; exact h
  | succ J ih =>
    intro M m ps hh hw tr
    obtain ⟨M0, m0, ps0, h1, h2, h3⟩ := hh
    have row : ∀ r, r ∈ [79, 80, 81, 82] → A w r (wt + J).toNat = A v r (wt + J).toNat := fun r hr => tr.2.2.2 r _ hr (by omega)
    refine ⟨M0, m0, ps0, ih M0 m0 ps0 h1 hw (TRN_le tr h2 (by omega)), h2, ?_⟩
    rw [row 79 (by decide), row 81 (by decide), row 82 (by decide)]
    rcases h3 with h3 | h3 | h3
    · exact Or.inl h3
    · exact Or.inr (Or.inl ⟨h3.1, h3.2.1, h3.2.2.1, PCE_tr h3.2.2.2 tr⟩)
    · obtain ⟨a1, a2, a3, M1, a4, a5, a6, a7⟩ := h3
      have tr1 : TRN σ wt J v w M1 := TRN_le tr a5.2.2.2.2 (by omega)
      have kn : ∀ k, KND v (M1 0) k → KND w (M1 0) k := fun k hk => KND_eq hk (fun r hr => by
        have : ∀ r, r ∈ [23, 24, 28, 29] → r ∈ [23, 24, 25, 26, 27, 28, 29, 30, 31] := by decide
        exact tr.2.1.1 r _ (this r hr) (by have := a5.2.1; omega))
      exact Or.inr (Or.inr ⟨a1, a2, a3, M1, PCE_tr a4 tr1, a5, a6, a7.imp (kn 9) (kn 10)⟩)
theorem unbind_M {y : Int32} {fn : MS → Unit → Option (MS × α)} {B : Int} (hs : ST u0 σ p o n q c f h s wt g v) (hf : F v 67 = 0) (kp : KPR σ u v) (hp : 0 ≤ p ∧ p < 4002) (hn : 0 ≤ n ∧ n < 16000) (hσ : σ ≤ 26) (hy : y = I B) (hu : 0 ≤ B ∧ RG B ∧ A u 60 σ ≤ B ∧ (F v 66 = 0 → B ≤ 40)) (lv0 : LGS σ v) (hu32 : 0 ≤ F u 32) (a : ∀ (w : MS) (n2 : Int), (n ≤ n2 ∧ n2 ≤ n + 1) → ST u0 σ p o n2 q c f h s wt g w → F w 67 = 0 → KPR σ u w → (FR [32] [] [23, 24, 25, 26, 27, 28, 29, 30, 31, 60] [] v w ∧ ∀ r i, r ∈ [23, 24, 25, 26, 27, 28, 29, 30, 31] → (i : Nat) < F v 32 → A w r i = A v r i) → LGS σ w → (∀ J M wt, (∀ i, M i ≤ mks v i) → F v 83 = wt + (J : Nat) → TRN σ wt J v w M) → (∀ (M : Nat → Nat) (m : Nat) (lv xb : Int) (R : Nat → Prop), B = m → 2 ≤ xb → TYM SN σ g lv xb v M m 0 1 R → TYM SN σ g lv xb w M m 0 1 R ∧ nmo σ w = m) → OK Q (fn w ())) : OK Q (bnd (fm_M_unbind N v y) fn) := by
  have e32 : F v 32 = n := hs.2.1.2.2.1
  have e69 : F v 69 = p := hs.2.1.1
  have sc := (hs.2.2.2.1 σ (Nat.le_refl σ)).1
  refine k_unbind hy hu.2.1 hs.2.1.2.2.2.2.2.2.2.2.2.2.2 hσ (by omega) (by omega) (fun e => ?_) (fun e w hw => ?_)
  · refine a v n (by omega) hs hf kp ⟨FR.rf, fun _ _ _ _ => rfl⟩ lv0 (fun J M wt h1 h2 => TRN_kp KPR_rf h1 h2) (fun M m lv xb R hB hx ty => ⟨ty, ?_⟩)
    obtain ⟨mm, X, Y, s1, -⟩ := ty
    have := s1.1.2.2.2.1
    unfold nmo at this ⊢
    omega
  · have sw := ST_unb hs hw hp (by omega) (by omega)
    have kw := KPR_unb kp hw (by omega) hu.2.2.1 hu.2.1
    obtain ⟨v1, hv, rfl⟩ := hw
    rw [e69] at hv
    have k2 : KPR σ v (wa v1 25 (F v 32).toNat B) := KPR_wn (KPR_nd KPR_rf hv.1 (by omega)) (by decide) (by omega)
    have a60 : A (wa (wa v1 25 (F v 32).toNat B) 60 σ B) 60 σ = B := wa_eq hu.2.1
    have fr : FR [32] [] [23, 24, 25, 26, 27, 28, 29, 30, 31, 60] [] v (wa (wa v1 25 (F v 32).toNat B) 60 σ B) := FR.wa (FR.wa (FR.mo hv.1.1 (by decide) (by decide) (by decide) (by decide)) (by decide)) (by decide)
    refine a _ (n + 1) (by omega) sw ((fr.F (by decide)).trans hf) kw ⟨fr, fun r i hr hi => ?_⟩ (fun z => ?_) (fun J M wt h1 h2 => TRN_tr (TRN_kp k2 h1 h2) TRN_60) (fun M m lv xb R hB hx ty => ?_)
    · have : ∀ r, r ∈ [23, 24, 25, 26, 27, 28, 29, 30, 31] → r ≠ 60 := by decide
      rw [wa_rne (this r hr), wa_ne (by omega)]
      exact hv.1.2.2.2.2 r i (by omega)
    · rw [a60]; exact hu.2.2.2 (by rw [← z]; exact (fr.F (by decide)).symm)
    · obtain ⟨mm, X, Y, s1, s2, s3, s4, s5⟩ := ty
      have g0 : gq g = 0 := by
        by_cases z : gq g = 0
        · exact z
        · have := s1.1.2.1 z
          unfold nmo at this
          omega
      have t2 := SEQ_tr (wt := F v 83) (J := 0) s1 (TRN_tr (TRN_kp (wt := F v 83) (J := 0) k2 (fun i => Nat.le_refl _) (by omega)) (TRN_60 (y := B)))
      have on : ONE (mks v) (mks (wa (wa v1 25 (F v 32).toNat B) 60 σ B)) (F v 32).toNat := ONE_nd (w := v1) hv.1 (by omega)
      have hw60 : nmo σ (wa (wa v1 25 (F v 32).toNat B) 60 σ B) = m := by unfold nmo; rw [a60]; omega
      have hw63 : hlo σ (wa (wa v1 25 (F v 32).toNat B) 60 σ B) = hlo σ v := by unfold hlo; rw [fr.A (by decide)]
      have nw : NEWN (wa (wa v1 25 (F v 32).toNat B) 60 σ B) (F v 32).toNat 18 := by
        have := NEWN_wa (r := 25) (y := B) (NEWN_of hv hp) (by decide)
        unfold NEWN at this ⊢
        rw [wa_rne (by decide), wa_rne (by decide), wa_rne (by decide), wa_rne (by decide), wa_rne (by decide)]
        exact this
      have lo := s1.1
      have x1 : 1 ≤ X := lo.2.2.2.2.2.2.2.1
      have un := s18 (SN := SN) (mm := mm) (X := X - 1) (Y := Y) (sh := hlo σ v) (m := nmo σ v) (lo := m) (x := m) on nw ⟨lo.2.2.2.1, lo.2.2.2.2.2.1, Nat.le_refl _, lo.2.2.2.1⟩ (by rw [wa_rne (by decide), wa_eq hu.2.1]; exact hB)
      refine ⟨⟨mm, X, Y, ?_, s2, ?_, s4, s5⟩, hw60⟩
      · rw [hw60, hw63]
        rw [g0] at t2 ⊢
        have un1 := SEQ_up un 1
        rw [show X - 1 + 1 = X by omega] at un1
        refine SEQ_ro (SEQ_app t2 un1) (fun i hi => Or.inl hi) (fun i hi => ?_)
        rcases hi with hi | hi
        · exact Or.inl hi
        · exact Or.inr (by rw [hi]; exact nw.2.2.2.2.1)
      · rw [fr.A (by decide)]; exact s3
end
