def UBF (v w : MS) : Prop := FR [32] [] [23, 24, 25, 26, 27, 28, 29, 30, 31, 60] [] v w ∧ ∀ r i, r ∈ [23, 24, 25, 26, 27, 28, 29, 30, 31] → (i : Nat) < F v 32 → A w r i = A v r i
section
variable {α : Type} {Q : MS → α → Prop} {u0 u v v1 w x : MS} {N σ TN SN e R0 : Nat} {bw : Nat → Nat} {p o n q c f h s wt g D d B n0 : Int} {r y1 y2 y3 : Int32} {S : SG_M_behind}
theorem unbind_P {y : Int32} {fn : MS → Unit → Option (MS × α)} (hs : ST u0 σ p o n q c f h s wt 0 v) (hf : F v 67 = 0) (kp : KPR σ u v) (hp : 0 ≤ p ∧ p < 4002) (hn : 0 ≤ n ∧ n < 16000) (hσ : σ ≤ 26) (hy : y = I B) (hu : 0 ≤ B ∧ A u 60 σ = B) (hB : F v 66 = 0 → B ≤ 40) (a : ∀ (w : MS) (n2 : Int), (n ≤ n2 ∧ n2 ≤ n + 1) → ST u0 σ p o n2 q c f h s wt 0 w → F w 67 = 0 → KPR σ u w → UBF v w → A w 60 σ = B → (∀ J M wt, (∀ i, M i ≤ mks v i) → F v 83 = wt + (J : Nat) → TRN σ wt J v w M) → (∀ (M : Nat → Nat) (m1 lo mm X Y : Nat) (R : Nat → Prop), (lo : Int) ≤ B → SEQ v SN 0 M (mks v) 0 1 m1 (nmo σ v) lo mm X Y (hlo σ v) R → SEQ w SN 0 M (mks w) 0 1 m1 B.toNat lo mm X Y (hlo σ w) R) → OK Q (fn w ())) : OK Q (bnd (fm_M_unbind N v y) fn) := by
  have e32 : F v 32 = n := hs.2.1.2.2.1
  have e69 : F v 69 = p := hs.2.1.1
  have sc := (hs.2.2.2.1 σ (Nat.le_refl σ)).1
  have kn := kp.2.2.1.2.2.2 σ (Nat.le_refl σ)
  have rb : RG B := by have := ARG1 u 60 σ; rw [hu.2] at this; exact this
  refine k_unbind hy rb hs.2.1.2.2.2.2.2.2.2.2.2.2.2 hσ (by omega) (by omega) (fun e => ?_) (fun e w hw => ?_)
  · refine a v n (by omega) hs hf kp ⟨FR.rf, fun _ _ _ _ => rfl⟩ (by omega) (fun J M wt h1 h2 => TRN_kp KPR_rf h1 h2) (fun M m1 lo mm X Y R hl sq => ?_)
    have : nmo σ v = B.toNat := by unfold nmo; omega
    rw [this] at sq
    exact sq
  · have sw := ST_unb hs hw hp (by omega) (by omega)
    have kw := KPR_unb kp hw (by omega) (by omega) rb
    obtain ⟨v1, hv, rfl⟩ := hw
    rw [e69] at hv
    have k2 : KPR σ v (wa v1 25 (F v 32).toNat B) := KPR_wn (KPR_nd KPR_rf hv.1 (by omega)) (by decide) (by omega)
    have a60 : A (wa (wa v1 25 (F v 32).toNat B) 60 σ B) 60 σ = B := wa_eq rb
    have fr : FR [32] [] [23, 24, 25, 26, 27, 28, 29, 30, 31, 60] [] v (wa (wa v1 25 (F v 32).toNat B) 60 σ B) := FR.wa (FR.wa (FR.mo hv.1.1 (by decide) (by decide) (by decide) (by decide)) (by decide)) (by decide)
    refine a _ (n + 1) (by omega) sw ((fr.F (by decide)).trans hf) kw ⟨fr, fun r i hr hi => ?_⟩ a60 (fun J M wt h1 h2 => TRN_tr (TRN_kp k2 h1 h2) TRN_60) (fun M m1 lo mm X Y R hl sq => ?_)
    · have : ∀ r, r ∈ [23, 24, 25, 26, 27, 28, 29, 30, 31] → r ≠ 60 := by decide
      rw [wa_rne (this r hr), wa_ne (by omega)]
      exact hv.1.2.2.2.2 r i (by omega)
    · have t2 := SEQ_tr (wt := F v 83) (J := 0) sq (TRN_tr (TRN_kp (wt := F v 83) (J := 0) k2 (fun i => Nat.le_refl _) (by omega)) (TRN_60 (y := B)))
      have on : ONE (mks v) (mks (wa (wa v1 25 (F v 32).toNat B) 60 σ B)) (F v 32).toNat := ONE_nd (w := v1) hv.1 (by omega)
      have hw63 : hlo σ (wa (wa v1 25 (F v 32).toNat B) 60 σ B) = hlo σ v := by unfold hlo; rw [fr.A (by decide)]
      have nw : NEWN (wa (wa v1 25 (F v 32).toNat B) 60 σ B) (F v 32).toNat 18 := by
        have := NEWN_wa (r := 25) (y := B) (NEWN_of hv hp) (by decide)
        unfold NEWN at this ⊢
        rw [wa_rne (by decide), wa_rne (by decide), wa_rne (by decide), wa_rne (by decide), wa_rne (by decide)]
        exact this
      have l9 := sq.1
      have x1 : 1 ≤ X := l9.2.2.2.2.2.2.2.1
      have nb : B.toNat ≤ nmo σ v := by unfold nmo; omega
      have un := s18 (SN := SN) (mm := mm) (X := X - 1) (Y := Y) (sh := hlo σ v) (m := nmo σ v) (lo := lo) (x := B.toNat) on nw ⟨l9.2.2.2.1, l9.2.2.2.2.2.1, by omega, nb⟩ (by rw [wa_rne (by decide), wa_eq rb]; omega)
      rw [hw63]
      have un1 := SEQ_up un 1
      rw [show X - 1 + 1 = X by omega] at un1
      refine SEQ_ro (SEQ_app t2 un1) (fun i hi => Or.inl hi) (fun i hi => ?_)
      rcases hi with hi | hi
      · exact Or.inl hi
      · exact Or.inr (by rw [hi]; exact nw.2.2.2.2.1)
theorem KPR_28 {i : Nat} {y : Int} (k : KPR σ u v) (ry : RG y) : KPR σ (wa u 28 i y) (wa v 28 i y) := by
  obtain ⟨a0, ⟨a1, a2, a3, a4, a5⟩, ⟨a6, a7, a8, a9⟩, ⟨a10, a11, a12⟩, a13, a14, a15⟩ := k
  have m2 : ∀ r, r ∈ [33, 35, 36, 37, 38] → r ≠ 28 := by decide
  have m3 : ∀ r, r ∈ [40, 41, 42, 43, 45] → r ≠ 28 := by decide
  have m4 : ∀ r, r ∈ [53, 54, 55] → r ≠ 28 := by decide
  have m5 : ∀ r, r ∈ [61, 62] → r ≠ 28 := by decide
  have m6 : ∀ r, r ∈ [79, 80, 81, 82] → r ≠ 28 := by decide
  have g : ∀ r j, r ≠ 28 → ∀ z, A v r j = A u r j → A (wa v 28 i z) r j = A (wa u 28 i z) r j := fun r j hr z e => by rw [wa_rne hr, wa_rne hr]; exact e
  refine ⟨?_, ⟨fun r j h1 h2 => ?_, fun r j h1 h2 => g r j (m2 r h1) y (a2 r j h1 h2), fun r j h1 h2 => g r j (m3 r h1) y (a3 r j h1 h2), fun r j h1 h2 => g r j (m4 r h1) y (a4 r j h1 h2), fun j h2 => g 57 j (by decide) y (a5 j h2)⟩, ⟨fun s j h1 h2 => g 59 _ (by decide) y (a6 s j h1 ?_), fun r s j h0 h1 h2 => g r _ (m5 r h0) y (a7 r s j h0 h1 ?_), fun s h1 => g 60 s (by decide) y (a8 s h1), fun s h1 => ?_⟩, ⟨fun j h2 => g 74 j (by decide) y (a10 j h2), fun j h2 => g 76 j (by decide) y (a11 j h2), fun r j h1 h2 => g r j (m6 r h1) y (a12 r j h1 h2)⟩, a13, a14, a15⟩
  · refine ⟨fun k hk => a0.1 k hk, fun k hk => a0.2.1 k hk, fun k hk => ?_, fun k hk => a0.2.2.2 k hk⟩
    have : k ≠ 28 := fun z => hk (by rw [z]; decide)
    have e := a0.2.2.1 k hk
    show (if k = 28 then _ else v.2.2.1 k) = (if k = 28 then _ else u.2.2.1 k)
    rw [if_neg this, if_neg this]; exact e
  · by_cases z : r = 28
    · subst z
      by_cases zi : j = i
      · subst zi; rw [wa_eq ry, wa_eq ry]
      · rw [wa_ne zi, wa_ne zi]; exact a1 28 j h1 h2
    · exact g r j z y (a1 r j h1 h2)
  · rw [wa_rne (by decide)] at h2; exact h2
  · rw [wa_rne (by decide)] at h2; exact h2
  · rw [wa_rne (by decide), wa_rne (by decide), wa_rne (by decide), wa_rne (by decide), wa_rne (by decide), wa_rne (by decide)]; exact a9 s h1
def BAT (TN SN σ : Nat) (o xb B : Int) (w x : MS) (e : Nat) : Prop := F x 72 = 0 → F x 66 = 0 → TN ≤ 1500 → ∃ mm X Y : Nat, SEQ x SN 0 (mks w) (mks x) 0 1 (nmo σ w) B.toNat B.toNat mm X Y (hlo σ x) (fun i => i = e) ∧ mm ≤ 40 ∧ (mm : Int) ≤ A x 64 σ ∧ 2 * (X : Int) ≤ xb ∧ (Y : Int) + o + 1 ≤ 25
def BAQ (u0 : MS) (TN SN : Nat) (bw : Nat → Nat) (σ R0 : Nat) (B p o n q c f h s wt : Int) (u w x : MS) : Prop := F x 67 = 0 ∧ ∃ (p2 n2 q2 c2 f2 h2 : Int) (e : Nat), ST u0 σ p2 o n2 q2 c2 f2 h2 s wt 0 x ∧ KPR σ (wa u 28 R0 e) x ∧ TRN σ wt 0 (wa w 28 R0 e) x (mks w) ∧ p2 ≤ TN ∧ DLT bw 1 1 1 p n q c f h p2 n2 q2 c2 f2 h2 ∧ (n ≤ e ∧ (e : Int) < n2 ∧ RTD x (25 - o).toNat n.toNat e ∧ A x 29 e = A w 28 R0) ∧ (A x 60 σ = B ∧ (F x 72 = 0 → F w 72 = 0) ∧ (F x 66 = 0 → F w 66 = 0)) ∧ BAT TN SN σ o (p2 - p + 1) B w x e
theorem addRoot_F (hs : FEQ u0 TN σ D v r) (hD : D ≤ 3000) (hR : R0 < 16000) {fn : MS → Unit → Option (MS × α)} (a : ∀ x, FSM u0 TN σ D x → OK Q (fn x ())) : OK Q (bnd (fm_M_addRoot N v (I R0) r) fn) := by
  obtain ⟨s1, x, hx, hx2⟩ := hs
  have n0 := s1.2.2.2.2.1
  rcases hx2 with hx2 | ⟨x1, x2, -⟩
  · rw [hx, hx2, show I (-1) = (-1 : Int32) from rfl, addRoot_0, bnd_so]
    exact a v s1
  · rw [hx, show x = ((x.toNat : Nat) : Int) by omega, addRoot_1 hR (by omega), bnd_so]
    exact a _ (FSM_wa (FSM_wa s1 (by decide)) (by decide))
theorem unbind_F {y : Int32} (hs : FSM u0 TN σ D v) (hT : TN ≤ 4000) (hD : D ≤ 3000) (hσ : σ ≤ 26) {fn : MS → Unit → Option (MS × α)} (a : ∀ x, FSM u0 TN σ (D + 1) x → OK Q (fn x ())) : OK Q (bnd (fm_M_unbind N v y) fn) := by
  have n0 := hs.2.2.2.2.1
  have p0 := hs.2.2.1
  refine k_unbind (I_of y) (ti_rng y) hs.2.2.2.1 hσ (by omega) (by omega) (fun _ => a v (FSM_mo hs (by omega))) (fun _ w hw => ?_)
  obtain ⟨v1, hv, rfl⟩ := hw
  exact a _ (FSM_wa (FSM_wa (FSM_nd hs hv.1) (by decide)) (by decide))
theorem bau_ok (tk : TKW u0 TN SN bw) (hD : 0 ≤ D ∧ D ≤ 2900) (ho : 0 ≤ o ∧ o ≤ 25) (hb : XSB u0 TN SN bw D o S.2.2.2.2.1) (hs : ST u0 σ p o n q c f h s wt 0 w) (hf : F w 67 = 0) (hm : NM TN bw 3 0 0 σ p o n q c f h s wt) (hl : LGS σ w) (ku : KPR σ u w) (hu : A u 60 σ = B ∧ 0 ≤ B) (hR : (R0 : Int) < n) {y : Int32} (hy : y = I B) {fn : MS → Unit → Option (MS × α)} (a1 : ∀ x, BAQ u0 TN SN bw σ R0 B p o n q c f h s wt u w x → OK Q (fn x ())) (a2 : ∀ x, FSM u0 TN σ (D + 1) x → OK Q (fn x ())) : OK Q (bnd (S.2.2.2.2.1 w) (fun u5 r5 => bnd (fm_M_addRoot N u5 (I R0) r5) (fun u6 _ => bnd (fm_M_unbind N u6 y) fn))) := by
  have hT := tk.1.1
  have e32 : F w 32 = n := hs.2.1.2.2.1
  have e83 : F w 83 = wt := hs.2.1.2.2.2.2.2.2.2.2.2.1
  have fs := NM_fs hm (by omega)
  refine ok_bnd.mpr (ok_mono (hb w σ _ _ _ _ _ _ _ _ hs hf hm hl) (fun v r hv => ?_))
  rcases hv with ⟨b0, p2, n2, q2, c2, f2, h2, e, b1, b2, b3, b4, b5, b6, b7, b8⟩ | hv
  · have nm2 := NM_dlt tk hm b5 (by omega) (by omega) b4
    have fs2 := NM_fs nm2 (by omega)
    have e32v : F v 32 = n2 := b2.2.1.2.2.1
    have re : RG ((e : Nat) : Int) := ⟨by omega, by omega⟩
    rw [b1, addRoot_1 (by omega) (by omega), bnd_so]
    have hR28 : A v 28 R0 = A w 28 R0 := b3.2.1.1 28 R0 (by decide) (by omega)
    have kuv := KPR_tr ku b3
    have ku32 := ku.2.2.2.2.1.1
    have k1 : KPR σ (wa u 28 R0 e) (adr v R0 e) := KPR_28 (KPR_wn kuv (by decide) (by omega)) re
    have kw1 : KPR σ (wa w 28 R0 e) (adr v R0 e) := KPR_28 (KPR_wn b3 (by decide) (by omega)) re
    have s1 : ST u0 σ p2 o n2 q2 c2 f2 h2 s wt 0 (adr v R0 e) := ST_wa (ST_wa b2 (by decide)) (by decide)
    have rt : RTD (adr v R0 e) (26 - (o + 1)).toNat n.toNat e := by
      refine RTD_fr _ _ b6.2.2.1 ?_ (fun r i hr h1 h2 => ?_)
      · unfold adr; rw [wa_ne (by omega), wa_rne (by decide)]
      · unfold adr
        rw [wa_ne (by omega), wa_ne (by omega)]
    have a29 : A (adr v R0 e) 29 e = A w 28 R0 := by unfold adr; rw [wa_rne (by decide), wa_eq (ARG1 v 28 R0)]; exact hR28
    have adA : ∀ r i, r ≠ 28 → r ≠ 29 → A (adr v R0 e) r i = A v r i := fun r i h1 h2 => by unfold adr; rw [wa_rne h1, wa_rne h2]
    have mv : mks (adr v R0 e) = mks v := rfl
    have sq : ∀ (M : Nat → Nat) (m1 m2 lo mm X Y sh : Nat), R0 < M 0 → SEQ v SN 0 M (mks v) 0 1 m1 m2 lo mm X Y sh (fun i => i = e) → SEQ (adr v R0 e) SN 0 M (mks v) 0 1 m1 m2 lo mm X Y sh (fun i => i = e) := fun M m1 m2 lo mm X Y sh hM sq => by
      have m1 : ∀ r, r ∈ [23, 24, 25, 26, 27, 31] → r ≠ 28 ∧ r ≠ 29 := by decide
      have m3 : ∀ r, r ∈ [40, 41, 42, 43, 45] → r ≠ 28 ∧ r ≠ 29 := by decide
      have m4 : ∀ r, r ∈ [33, 35, 36, 37, 38] → r ≠ 28 ∧ r ≠ 29 := by decide
      have m5 : ∀ r, r ∈ [53, 54, 55] → r ≠ 28 ∧ r ≠ 29 := by decide
      refine SEQ_st sq ⟨rfl, fun r i hr _ _ => adA r i (m1 r hr).1 (m1 r hr).2, fun r i hr _ _ => adA r i (m3 r hr).1 (m3 r hr).2, fun r i hr _ => adA r i (m4 r hr).1 (m4 r hr).2, fun r i hr _ _ => adA r i (m5 r hr).1 (m5 r hr).2, fun i _ => adA 57 i (by decide) (by decide)⟩ (fun r i hr h1 h2 h3 => ?_)
      unfold adr
      rw [wa_ne (by omega)]
      by_cases z : r = 29
      · rw [wa_ne (fun y => h3 z y)]
      · rw [wa_rne z]
    have a60 : A (adr v R0 e) 60 σ = A v 60 σ := adA 60 σ (by decide) (by decide)
    have f67 : F (adr v R0 e) 67 = 0 := b0
    have f66 : F (adr v R0 e) 66 = F v 66 := rfl
    have f72 : F (adr v R0 e) 72 = F v 72 := rfl
    have n60 : nmo σ (adr v R0 e) = nmo σ v := by unfold nmo; rw [a60]
    have h63 : hlo σ (adr v R0 e) = hlo σ v := by unfold hlo; rw [adA 63 σ (by decide) (by decide)]
    have h64 : A (adr v R0 e) 64 σ = A v 64 σ := adA 64 σ (by decide) (by decide)
    generalize adr v R0 e = v1 at *
    have e32x : F v1 32 = n2 := s1.2.1.2.2.1
    have kv := kuv.2.2.1.2.2.2 σ (Nat.le_refl σ)
    have uw : A (wa u 28 R0 e) 60 σ = B := by rw [wa_rne (by decide)]; exact hu.1
    have k66 : F v1 66 = 0 → B ≤ 40 := fun z => by
      have := b7 (by rw [← f66]; exact z)
      omega
    refine unbind_P (SN := SN) (u := wa u 28 R0 e) s1 f67 k1 (by omega) (by omega) (by omega) hy ⟨hu.2, uw⟩ k66 (fun x nx hn hx f6 kx ub x60 tr sx => a1 x ?_)
    have tkw := kw1
    have mw : mks (wa w 28 R0 e) = mks w := rfl
    refine ⟨f6, p2, nx, q2, c2, f2, h2, e, hx, kx, ?_, b4, ?_, ⟨b6.1, by omega, ?_, ?_⟩, ⟨x60, fun z => b3.2.2.2.2.2.1 (by rw [← f72, ← (show F x 72 = F v1 72 from ub.1.F (by decide))]; exact z), fun z => b3.2.2.2.2.2.2 (by rw [← f66, ← (show F x 66 = F v1 66 from ub.1.F (by decide))]; exact z)⟩, fun z1 z2 z3 => ?_⟩
    · have t1 : TRN σ wt 0 (wa w 28 R0 e) v1 (mks w) := TRN_kp kw1 (fun i => by rw [mw]; exact Nat.le_refl _) (by show F w 83 = _; omega)
      have e83x : F v1 83 = wt := s1.2.1.2.2.2.2.2.2.2.2.2.1
      refine TRN_tr t1 (tr 0 (mks w) wt (fun i => ?_) (by omega))
      have kk := kw1.2.2.2.2.1
      have w32 : F (wa w 28 R0 e) 32 = F w 32 := rfl
      have w39 : F (wa w 28 R0 e) 39 = F w 39 := rfl
      have w46 : F (wa w 28 R0 e) 46 = F w 46 := rfl
      have w56 : F (wa w 28 R0 e) 56 = F w 56 := rfl
      have w58 : F (wa w 28 R0 e) 58 = F w 58 := rfl
      unfold mks
      split
      · omega
      · split
        · omega
        · split
          · omega
          · split
            · omega
            · omega
    · unfold DLT at b5 ⊢
      omega
    · have : (25 - o).toNat = (26 - (o + 1)).toNat := by omega
      rw [this]
      exact RTD_fr _ _ rt (ub.2 28 e (by decide) (by omega)) (fun r i hr _ hi => ub.2 r i (by
        have : ∀ r, r ∈ [28, 29] → r ∈ [23, 24, 25, 26, 27, 28, 29, 30, 31] := by decide
        exact this r hr) (by omega))
    · rw [ub.2 29 e (by decide) (by omega)]; exact a29
    · have x72 : F x 72 = F v1 72 := ub.1.F (by decide)
      have x66 : F x 66 = F v1 66 := ub.1.F (by decide)
      obtain ⟨mm, X, Y, g1, g2, g3, g4, g5⟩ := b8 (by rw [← f72, ← x72]; exact z1) (by rw [← f66, ← x66]; exact z2) z3
      have t1 : SEQ v SN 0 (mks w) (mks v) 0 1 (nmo σ w) (nmo σ v) (nmo σ w) mm X Y (hlo σ v) (fun i => i = e) := g1
      have kb := (ku.2.2.1.2.2.2 σ (Nat.le_refl σ)).1
      have bn : B.toNat ≤ nmo σ w := by unfold nmo; omega
      have r0 : R0 < mks w 0 := by show R0 < (F w 32).toNat; omega
      have t2 := sq _ _ _ _ _ _ _ _ r0 (SEQ_mo t1 bn (Nat.le_refl _) (Nat.le_refl _) (Nat.le_refl _) (Nat.le_refl _))
      rw [← mv, ← n60, ← h63] at t2
      refine ⟨mm, X, Y, sx _ _ _ _ _ _ _ (by omega) t2, g2, ?_, g4, by omega⟩
      rw [ub.1.A (by decide), h64]; exact g3
  · refine addRoot_F hv (by omega) (by omega) (fun x hx => unbind_F hx hT (by omega) (by omega) a2)
end
