def EXQ (u0 : MS) (TN SN : Nat) (bw : Nat → Nat) (σ : Nat) (lv p o n q c f h s wt g : Int) (u v : MS) (r : Int32) : Prop := F v 67 = 0 ∧ ∃ (p2 n2 q2 c2 f2 h2 : Int) (e : Nat), r = I e ∧ ST u0 σ p2 o n2 q2 c2 f2 h2 s wt g v ∧ KPR σ u v ∧ p2 ≤ TN ∧ DLT bw 2 1 (1 + nu u0 p2.toNat) p n q c f h p2 n2 q2 c2 f2 h2 ∧ (n ≤ e ∧ (e : Int) < n2 ∧ RTD v (26 - lv).toNat n.toNat e ∧ A v 29 e = -1) ∧ LGS σ v ∧ TYG TN SN σ g lv (p2 - p + 1) u v 0 1 (fun i => i = e)
def FEQ (u0 : MS) (TN σ : Nat) (D : Int) (v : MS) (r : Int32) : Prop := FSM u0 TN σ D v ∧ ∃ x : Int, r = I x ∧ (x = -1 ∨ (0 ≤ x ∧ x < F v 32 ∧ A v 28 x.toNat = -1))
def XSP (u0 : MS) (TN SN : Nat) (bw : Nat → Nat) (D k j l dl o : Int) (fn : MS → Option (MS × Int32)) : Prop := ∀ (u : MS) (σ : Nat) (p n q c f h s wt g : Int), ST u0 σ p o n q c f h s wt g u → F u 67 = 0 → NM TN bw k j l σ p o n q c f h s wt → LGS σ u → OK (fun v r => EXQ u0 TN SN bw σ (o - dl) p o n q c f h s wt g u v r ∨ FEQ u0 TN σ D v r) (fn u)
def XNO (fn : MS → Option (MS × Int32)) : Prop := ∀ u : MS, F u 67 ≠ 0 → fn u = some (u, -1)
def XSF (u0 : MS) (TN : Nat) (D : Int) (fn : MS → Option (MS × Int32)) : Prop := ∀ (u : MS) (σ : Nat) (p o n q c f h s wt g : Int), ST u0 σ p o n q c f h s wt g u → F u 67 ≠ 0 → (0 ≤ p ∧ p ≤ TN ∧ TN ≤ 4000) → (0 ≤ n ∧ n ≤ 12000) → (0 ≤ h ∧ h + 60 * σ ≤ 23400) → (0 ≤ s ∧ s ≤ 26 ∧ σ ≤ 26) → OK (FEQ u0 TN σ D) (fn u)
section
variable {α : Type} {Q : MS → α → Prop} {u0 u v v1 w x : MS} {N σ TN SN q0 q1 q2 q3 e : Nat} {bw : Nat → Nat} {p o n q c f h s wt g lv xb xb1 xb2 k t m D d : Int} {R R1 R2 : Nat → Prop} {r : Int32}
theorem NM_fs {j l : Int} (hm : NM TN bw k j l σ p o n q c f h s wt) (hj : 0 ≤ j) : (0 ≤ h ∧ h + 60 * σ ≤ 23400) ∧ (0 ≤ n ∧ n ≤ 12000) ∧ (0 ≤ p ∧ p ≤ TN ∧ TN ≤ 4000) ∧ σ ≤ 25 := by
  unfold NM at hm
  omega
theorem op1_mks : mks (op1 u) = mks u := by
  funext i
  unfold mks
  have : ∀ j : Nat, j ≠ 70 → F (op1 u) j = F u j := fun j hj => wi_ne hj
  rw [this]
  by_cases z : i = 0
  · rw [if_pos z]; decide
  · rw [if_neg z]
    by_cases z1 : i = 1
    · rw [if_pos z1]; decide
    · rw [if_neg z1]
      by_cases z2 : i = 2
      · rw [if_pos z2]; decide
      · rw [if_neg z2]
        by_cases z3 : i = 3
        · rw [if_pos z3]; decide
        · rw [if_neg z3]; decide
theorem wi_mks {b : Nat} {y : Int} (hb : b ∉ [32, 39, 46, 56, 58]) : mks (wi u b y) = mks u := by
  funext i
  have t : ∀ j : Nat, j ∈ [32, 39, 46, 56, 58] → F (wi u b y) j = F u j := fun j hj => wi_ne (fun z => hb (by rw [← z]; exact hj))
  unfold mks
  by_cases z : i = 0
  · rw [if_pos z, t 32 (by decide)]
  · rw [if_neg z]
    by_cases z1 : i = 1
    · rw [if_pos z1, t 46 (by decide)]
    · rw [if_neg z1]
      by_cases z2 : i = 2
      · rw [if_pos z2, t 39 (by decide)]
      · rw [if_neg z2]
        by_cases z3 : i = 3
        · rw [if_pos z3, t 56 (by decide)]
        · rw [if_neg z3, t 58 (by decide)]
theorem fr_mks {is as js : List Nat} (a : FR is [] as js u v) (h : ∀ k, k ∈ [32, 39, 46, 56, 58] → k ∉ is) : mks v = mks u := by
  funext i
  have t : ∀ j : Nat, j ∈ [32, 39, 46, 56, 58] → F v j = F u j := fun j hj => a.F (h j hj)
  unfold mks
  by_cases z : i = 0
  · rw [if_pos z, t 32 (by decide)]
  · rw [if_neg z]
    by_cases z1 : i = 1
    · rw [if_pos z1, t 46 (by decide)]
    · rw [if_neg z1]
      by_cases z2 : i = 2
      · rw [if_pos z2, t 39 (by decide)]
      · rw [if_neg z2]
        by_cases z3 : i = 3
        · rw [if_pos z3, t 56 (by decide)]
        · rw [if_neg z3, t 58 (by decide)]
theorem RTD_A {w2 : MS} {hh a i : Nat} (h : RTD w hh a i) (e : ∀ r j, r ∈ [28, 29] → A w2 r j = A w r j) : RTD w2 hh a i := RTD_fr hh i h (e 28 i (by decide)) (fun r j hr _ _ => e r j hr)
theorem EXQ_wrap (ho : 0 ≤ o ∧ o ≤ 25) (b : EXQ u0 TN SN bw σ lv p (o + 1) n q c f h s wt g (op1 u) v r) : EXQ u0 TN SN bw σ lv p o n q c f h s wt g u (clo1 v) r := by
  obtain ⟨b0, p2, n2, q2, c2, f2, h2, e, b1, b2, b3, b4, b5, b6, b7, b8⟩ := b
  have kp : KPR σ u (clo1 v) := KPR_w0 (KPR_tr (KPR_w0 KPR_rf (by decide)) b3) (by decide)
  refine ⟨(wi_ne (by decide)).trans b0, p2, n2, q2, c2, f2, h2, e, b1, ?_, kp, b4, b5, ⟨b6.1, b6.2.1, RTD_A b6.2.2.1 (fun _ _ _ => rfl), b6.2.2.2⟩, ?_, ?_⟩
  · have := ST_cl b2 (by omega)
    rwa [show o + 1 - 1 = o from by omega] at this
  · intro z; exact b7 (by rw [← z]; exact (wi_ne (by decide)).symm)
  · exact TYG_v (TYG_u b8 op1_mks rfl) (KPR_w0 KPR_rf (by decide)) (wi_mks (by decide)) rfl
theorem FEQ_wi {b : Nat} {y : Int} (a : FEQ u0 TN σ D v r) (h : b ∈ [39, 46, 56, 66, 70, 72, 73, 75, 77, 83, 84]) : FEQ u0 TN σ D (wi v b y) r := by
  obtain ⟨a1, z, a2, a3⟩ := a
  have : ∀ b, b ∈ [39, 46, 56, 66, 70, 72, 73, 75, 77, 83, 84] → 32 ≠ b := by decide
  refine ⟨FSM_wi a1 h, z, a2, a3.imp id (fun y => ⟨y.1, ?_, y.2.2⟩)⟩
  rw [wi_ne (this b h)]
  exact y.2.1
theorem FEQ_none (a : FSM u0 TN σ D v) : FEQ u0 TN σ D v (-1) := ⟨a, -1, rfl, Or.inl rfl⟩
theorem FEQ_mo {D2 : Int} (a : FEQ u0 TN σ D v r) (h : D ≤ D2) : FEQ u0 TN σ D2 v r := ⟨FSM_mo a.1 h, a.2⟩
def UBQ (σ : Nat) (u v w : MS) : Prop := (FR [32] [] [23, 24, 25, 26, 27, 28, 29, 30, 31, 60] [] v w ∧ (∀ r i, r ∈ [23, 24, 25, 26, 27, 28, 29, 30, 31] → (i : Nat) < F v 32 → A w r i = A v r i) ∧ A w 60 σ = A u 60 σ) ∧ (F v 32 ≤ F w 32 ∧ F w 32 ≤ F v 32 + 1)
theorem unbind_N {y : Int32} {fn : MS → Unit → Option (MS × α)} (hs : ST u0 σ p o n q c f h s wt g v) (hf : F v 67 = 0) (kp : KPR σ u v) (hp : 0 ≤ p ∧ p < 4002) (hn : 0 ≤ n ∧ n < 16000) (hσ : σ ≤ 26) (hy : y = I (A u 60 σ)) (hu : 0 ≤ A u 60 σ) (lu : LGS σ u) (ty : TYG TN SN σ g lv xb u v 0 1 R) (hx : 2 ≤ xb) (a : ∀ (w : MS) (n2 : Int), (n ≤ n2 ∧ n2 ≤ n + 1) → ST u0 σ p o n2 q c f h s wt g w → F w 67 = 0 → KPR σ u w → UBQ σ u v w → LGS σ w → TYG TN SN σ g lv xb u w 0 1 R → OK Q (fn w ())) : OK Q (bnd (fm_M_unbind N v y) fn) := by
  have e32 : F v 32 = n := hs.2.1.2.2.1
  have e69 : F v 69 = p := hs.2.1.1
  have kn := kp.2.2.1.2.2.2 σ (Nat.le_refl σ)
  refine k_unbind hy (ARG1 u 60 σ) hs.2.1.2.2.2.2.2.2.2.2.2.2.2 hσ (by omega) (by omega) (fun e => ?_) (fun e w hw => ?_)
  · have e60 : A v 60 σ = A u 60 σ := by omega
    exact a v n (by omega) hs hf kp ⟨⟨FR.rf, fun _ _ _ _ => rfl, e60⟩, by omega, by omega⟩ (fun z => by rw [e60]; exact lu (kp.2.2.2.2.2.2 z)) ty
  · have sw := ST_unb hs hw hp (by omega) (by omega)
    have kw := KPR_unb kp hw (by omega) (Int.le_refl _) (ARG1 u 60 σ)
    obtain ⟨v1, hv, rfl⟩ := hw
    rw [e69] at hv
    have ub : UBQ σ u v (wa (wa v1 25 (F v 32).toNat (A u 60 σ)) 60 σ (A u 60 σ)) := by
      refine ⟨⟨FR.wa (FR.wa (FR.mo hv.1.1 (by decide) (by decide) (by decide) (by decide)) (by decide)) (by decide), fun r i hr hi => ?_, wa_eq (ARG1 u 60 σ)⟩, ?_, ?_⟩
      · have : ∀ r, r ∈ [23, 24, 25, 26, 27, 28, 29, 30, 31] → r ≠ 60 := by decide
        rw [wa_rne (this r hr), wa_ne (by omega)]
        exact hv.1.2.2.2.2 r i (by omega)
      · show F v 32 ≤ F v1 32; rw [hv.1.2.1]; omega
      · show F v1 32 ≤ _; rw [hv.1.2.1]; omega
    have f67 : F (wa (wa v1 25 (F v 32).toNat (A u 60 σ)) 60 σ (A u 60 σ)) 67 = 0 := by
      show F v1 67 = 0; rw [hv.1.1.F (by decide)]; exact hf
    refine a _ (n + 1) (by omega) sw f67 kw ub (fun z => ?_) (fun z1 z2 z3 => ?_)
    · rw [ub.1.2.2]; exact lu (kw.2.2.2.2.2.2 z)
    · have z1' : F v 72 = 0 := by rw [← z1]; exact (ub.1.1.F (by decide)).symm
      have z2' : F v 66 = 0 := by rw [← z2]; exact (ub.1.1.F (by decide)).symm
      obtain ⟨mm, X, Y, s1, s2, s3, s4, s5⟩ := ty z1' z2' z3
      have g0 : gq g = 0 := by
        by_cases z : gq g = 0
        · exact z
        · have := s1.1.2.1 z
          unfold nmo at this
          have h1 := (hs.2.2.2.1 σ (Nat.le_refl σ)).1
          omega
      have k2 : KPR σ v (wa v1 25 (F v 32).toNat (A u 60 σ)) := KPR_wn (KPR_nd KPR_rf hv.1 (by omega)) (by decide) (by omega)
      have t1 := SEQ_kp s1 (fun i => Nat.le_refl _) k2
      have t2 : SEQ (wa (wa v1 25 (F v 32).toNat (A u 60 σ)) 60 σ (A u 60 σ)) SN (gq g) (mks u) (mks v) 0 1 (nmo σ u) (nmo σ v) (nmo σ u) mm X Y (hlo σ v) R := by
        have q : ∀ r i, r ≠ 60 → A (wa (wa v1 25 (F v 32).toNat (A u 60 σ)) 60 σ (A u 60 σ)) r i = A (wa v1 25 (F v 32).toNat (A u 60 σ)) r i := fun r i hr => wa_rne hr
        have m1 : ∀ r, r ∈ [23, 24, 25, 26, 27, 31] → r ≠ 60 := by decide
        have m2 : ∀ r, r ∈ [40, 41, 42, 43, 45] → r ≠ 60 := by decide
        have m3 : ∀ r, r ∈ [33, 35, 36, 37, 38] → r ≠ 60 := by decide
        have m4 : ∀ r, r ∈ [53, 54, 55] → r ≠ 60 := by decide
        have m5 : ∀ r, r ∈ [28, 29, 30] → r ≠ 60 := by decide
        exact SEQ_st t1 ⟨rfl, fun r i hr _ _ => q r i (m1 r hr), fun r i hr _ _ => q r i (m2 r hr), fun r i hr _ => q r i (m3 r hr), fun r i hr _ _ => q r i (m4 r hr), fun i _ => q 57 i (by decide)⟩ (fun r i hr _ _ _ => q r i (m5 r hr))
      have on : ONE (mks v) (mks (wa (wa v1 25 (F v 32).toNat (A u 60 σ)) 60 σ (A u 60 σ))) (F v 32).toNat := ONE_nd (w := v1) hv.1 (by omega)
      have hw60 : nmo σ (wa (wa v1 25 (F v 32).toNat (A u 60 σ)) 60 σ (A u 60 σ)) = nmo σ u := by unfold nmo; rw [ub.1.2.2]
      have hw63 : hlo σ (wa (wa v1 25 (F v 32).toNat (A u 60 σ)) 60 σ (A u 60 σ)) = hlo σ v := by unfold hlo; rw [ub.1.1.A (by decide)]
      have nw : NEWN (wa (wa v1 25 (F v 32).toNat (A u 60 σ)) 60 σ (A u 60 σ)) (F v 32).toNat 18 := by
        have := NEWN_wa (r := 25) (y := A u 60 σ) (NEWN_of hv hp) (by decide)
        unfold NEWN at this ⊢
        rw [wa_rne (by decide), wa_rne (by decide), wa_rne (by decide), wa_rne (by decide), wa_rne (by decide)]
        exact this
      have lo := s1.1
      have x1 : 1 ≤ X := lo.2.2.2.2.2.2.2.1
      have un := s18 (SN := SN) (mm := mm) (X := X - 1) (Y := Y) (sh := hlo σ v) (m := nmo σ v) (lo := nmo σ u) (x := nmo σ u) on nw ⟨lo.2.2.2.1, lo.2.2.2.2.2.1, Nat.le_refl _, lo.2.2.2.1⟩ (by rw [wa_rne (by decide), wa_eq (ARG1 u 60 σ)]; unfold nmo; omega)
      rw [g0] at t2 ⊢
      refine ⟨mm, X, Y, ?_, s2, ?_, s4, s5⟩
      · rw [hw60, hw63]
        have un1 := SEQ_up un 1
        rw [show X - 1 + 1 = X by omega] at un1
        refine SEQ_ro (SEQ_app t2 un1) (fun i hi => Or.inl hi) (fun i hi => ?_)
        rcases hi with hi | hi
        · exact Or.inl hi
        · exact Or.inr (by rw [hi]; exact nw.2.2.2.2.1)
      · rw [ub.1.1.A (by decide)]; exact s3
end
