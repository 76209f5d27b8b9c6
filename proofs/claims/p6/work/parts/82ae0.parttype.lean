def PRY (TN SN σ R0 many : Nat) (B o xb : Int) (v x : MS) (e : Nat) : Prop := F x 72 = 0 → F x 66 = 0 → TN ≤ 1500 → ∃ mm X Y : Nat, PTD x SN false ((R0 : Nat) : Int) (mks v) (mks x) many B.toNat mm X Y (hlo σ x) e ∧ mm ≤ 40 ∧ (mm : Int) ≤ A x 64 σ ∧ 2 * (X : Int) ≤ xb ∧ (Y : Int) + o ≤ 25
section
variable {u0 u v w x : MS} {N σ TN SN e j R0 many : Nat} {bw : Nat → Nat} {p o n q c f h s wt g D d l p1 q1 B : Int} {r y1 y2 y3 : Int32} {S : SG_M_behind}
theorem SEQ_28 {a b : Nat → Nat} {gg qq qq2 m m2 lo mm X Y sh : Nat} {R : Nat → Prop} {y : Int} (sq : SEQ v SN gg a b qq qq2 m m2 lo mm X Y sh R) (hM : R0 < a 0) : SEQ (wa v 28 R0 y) SN gg a b qq qq2 m m2 lo mm X Y sh R := by
  have m1 : ∀ r, r ∈ [23, 24, 25, 26, 27, 31] → r ≠ 28 := by decide
  have m3 : ∀ r, r ∈ [40, 41, 42, 43, 45] → r ≠ 28 := by decide
  have m4 : ∀ r, r ∈ [33, 35, 36, 37, 38] → r ≠ 28 := by decide
  have m5 : ∀ r, r ∈ [53, 54, 55] → r ≠ 28 := by decide
  refine SEQ_st sq ⟨rfl, fun r i hr _ _ => wa_rne (m1 r hr), fun r i hr _ _ => wa_rne (m3 r hr), fun r i hr _ => wa_rne (m4 r hr), fun r i hr _ _ => wa_rne (m5 r hr), fun i _ => wa_rne (by decide)⟩ (fun r i hr h1 h2 h3 => wa_ne (by omega))
theorem PTY_of {vp vg xb : MS} {pg p2 y : Int} (ev : F v 32 = n ∧ F v 39 = q ∧ F v 46 = c ∧ F v 56 = f ∧ F v 58 = h) (hv0 : 0 ≤ n ∧ 0 ≤ q ∧ 0 ≤ c ∧ 0 ≤ f ∧ 0 ≤ h) (hR : (R0 : Int) < n) (hvp : ST u0 σ p1 o n q1 (c + 1) f h s wt 0 vp) (kvp : KPR σ v vp) (hq1 : q ≤ q1) (pa : PATS vp id id q1.toNat SN (hlo σ vp) B.toNat (nmo σ vp) many (A vp 40 c.toNat)) (a41 : A vp 41 c.toNat = many) (hmany : many ≤ 6) (hB : A v 60 σ = B ∧ 0 ≤ B) (kg : KPR σ vp vg) (g60 : A vg 60 σ = A vp 60 σ) (hg : (y = -1 ∧ vg = vp) ∨ (y = n ∧ GTY TN SN σ o (pg - p1 + 1) vp vg)) (ry : RG y) (tr : TRN σ wt 0 (wa (wa (nx1 (wa vg 42 c.toNat y)) 43 c.toNat (F vg 32)) 28 R0 e) xb (mks vg)) (hb : BAT TN SN σ o (p2 - (pg + 1) + 1) B (wa (nx1 (wa vg 42 c.toNat y)) 43 c.toNat (F vg 32)) xb e) (kx : KPR σ xb x) (on : ONE (mks xb) (mks x) j) (kj : KND x j 26 ∧ A x 25 j = -2 ∧ A x 26 j = R0) (tz : F xb 72 = 0 → F vg 72 = 0) (tz2 : F xb 66 = 0 → F vg 66 = 0) (hpp : pg + 1 ≤ p2 ∧ p1 ≤ pg ∧ p ≤ p1) : PRY TN SN σ R0 many B o (p2 - p + 1) v x e := by
  intro z1 z2 z3
  obtain ⟨e32, e39, e46, e56, e58⟩ := ev
  have zb1 := kx.2.2.2.2.2.1 z1
  have zb2 := kx.2.2.2.2.2.2 z2
  obtain ⟨mm, X, Y, g1, g2, g3, g4, g5⟩ := hb zb1 zb2 z3
  have v46 : F vp 46 = c + 1 := hvp.2.1.2.2.2.2.1
  have v39 : F vp 39 = q1 := hvp.2.1.2.2.2.1
  have v32 : F vp 32 = n := hvp.2.1.2.2.1
  have v56 : F vp 56 = f := hvp.2.1.2.2.2.2.2.1
  have kgc := kg.2.2.2.2.1
  have wA : ∀ r i, r ≠ 42 ∧ r ≠ 43 → A (wa (nx1 (wa vg 42 c.toNat y)) 43 c.toNat (F vg 32)) r i = A vg r i := fun r i hr => by
    rw [wa_rne hr.2]; show A (wa vg 42 c.toNat y) r i = _; rw [wa_rne hr.1]
  have w42 : A (wa (nx1 (wa vg 42 c.toNat y)) 43 c.toNat (F vg 32)) 42 c.toNat = y := by
    rw [wa_rne (by decide)]; show A (wa vg 42 c.toNat y) 42 c.toNat = _; exact wa_eq ry
  have w43 : A (wa (nx1 (wa vg 42 c.toNat y)) 43 c.toNat (F vg 32)) 43 c.toNat = F vg 32 := wa_eq (FRG1 _ _)
  have mw : mks (wa (nx1 (wa vg 42 c.toNat y)) 43 c.toNat (F vg 32)) = mks vg := by
    refine mks_c (fun k hk => ?_)
    have : ∀ k, k ∈ [32, 39, 46, 56, 58] → k ≠ 69 := by decide
    rw [F_wa]; unfold nx1; rw [wi_ne (this k hk), F_wa]
  have nw : nmo σ (wa (nx1 (wa vg 42 c.toNat y)) 43 c.toNat (F vg 32)) = nmo σ vp := by unfold nmo; rw [wA 60 σ (by decide), g60]
  have cw : ∀ {gg qq qq2 m m2 lo mm X Y sh : Nat} {a b : Nat → Nat} {R : Nat → Prop}, SEQ vg SN gg a b qq qq2 m m2 lo mm X Y sh R → c.toNat < a 1 → SEQ (wa (nx1 (wa vg 42 c.toNat y)) 43 c.toNat (F vg 32)) SN gg a b qq qq2 m m2 lo mm X Y sh R := fun s hc => SEQ_cw s hc
  have hW : hlo σ (wa (nx1 (wa vg 42 c.toNat y)) 43 c.toNat (F vg 32)) = hlo σ vg := by unfold hlo; rw [wA 63 σ (by decide)]
  have h6W : A (wa (nx1 (wa vg 42 c.toNat y)) 43 c.toNat (F vg 32)) 64 σ = A vg 64 σ := wA 64 σ (by decide)
  generalize wa (nx1 (wa vg 42 c.toNat y)) 43 c.toNat (F vg 32) = W at *
  have mg1 : c.toNat < mks vg 1 := by show c.toNat < (F vg 46).toNat; omega
  have mg2 : q1.toNat ≤ mks vg 2 := by show q1.toNat ≤ (F vg 39).toNat; omega
  have bc : ∀ r, r ∈ [40, 41, 42, 43, 45] → A xb r c.toNat = A W r c.toNat := fun r hr => by
    have m3 : ∀ r, r ∈ [40, 41, 42, 43, 45] → r ≠ 28 := by decide
    rw [tr.2.1.2.1 r _ hr mg1, wa_rne (m3 r hr)]
  have hW28 : hlo σ (wa W 28 R0 e) = hlo σ W := by unfold hlo; rw [wa_rne (by decide)]
  have h6W28 : A (wa W 28 R0 e) 64 σ = A W 64 σ := wa_rne (by decide)
  have trh := tr.2.2.1
  have kxn := KPR_n kx
  have kgn := KPR_n kg
  have b46 : c < F xb 46 := by
    have h := hb
    have q1 := g1.1.1 1
    rw [mw] at q1
    have : (mks xb) 1 = (F xb 46).toNat := rfl
    omega
  have b39 : q1.toNat ≤ (F xb 39).toNat := by
    have q1' := g1.1.1 2
    rw [mw] at q1'
    have : (mks xb) 2 = (F xb 39).toNat := rfl
    omega
  have xc : ∀ r, r ∈ [40, 41, 42, 43, 45] → A x r c.toNat = A W r c.toNat := fun r hr => by rw [kx.2.1.2.2.1 r _ hr (by omega), bc r hr]
  have vc : ∀ r, r ∈ [40, 41, 42, 43, 45] → A vg r c.toNat = A vp r c.toNat := fun r hr => kg.2.1.2.2.1 r _ hr (by omega)
  have x41 : A x 41 c.toNat = A vp 41 c.toNat := by rw [xc 41 (by decide), wA 41 _ (by decide), vc 41 (by decide)]
  have x40 : A x 40 c.toNat = A vp 40 c.toNat := by rw [xc 40 (by decide), wA 40 _ (by decide), vc 40 (by decide)]
  have s8 := g1.1.2.2.2.2.1
  rw [nw] at s8
  have nB : B.toNat ≤ nmo σ vp := by have := (kvp.2.2.1.2.2.2 σ (Nat.le_refl σ)).1; unfold nmo; omega
  have pt : PATS x id id q1.toNat SN (hlo σ x) B.toNat (nmo σ vp) many (A x 40 c.toNat) := by
    rw [x40]
    refine PATS_L (PATS_ag pa (fun r i hr hi => ?_)) (by omega)
    have m1 : ∀ r, r ∈ [33, 35, 36, 37, 38] → r ≠ 42 ∧ r ≠ 43 := by decide
    have m4 : ∀ r, r ∈ [33, 35, 36, 37, 38] → r ≠ 28 := by decide
    rw [kx.2.1.2.1 r i hr (by omega), tr.2.1.2.2.1 r i hr (by omega), wa_rne (m4 r hr), wA r i (m1 r hr), kg.2.1.2.1 r i hr (by omega)]
  have a1 : (mks v) 1 = c.toNat := by show (F v 46).toNat = _; rw [e46]
  have v1 : (mks vp) 1 = (c + 1).toNat := by show (F vp 46).toNat = _; rw [v46]
  have a0 : (mks v) 0 = n.toNat := by show (F v 32).toNat = _; rw [e32]
  have p0 : (mks vp) 0 = n.toNat := by show (F vp 32).toNat = _; rw [v32]
  have fst : (mks vp) 0 = (mks v) 0 ∧ (mks vp) 1 = (mks v) 1 + 1 ∧ (mks vp) 3 = (mks v) 3 ∧ ∀ i, (mks v) i ≤ (mks vp) i := by
    refine ⟨by omega, by omega, ?_, fun i => ?_⟩
    · show (F vp 56).toNat = (F v 56).toNat; rw [v56, e56]
    · have kc := kvp.2.2.2.2.1
      have : ∀ j, j ∈ [32, 39, 46, 56, 58] → (F v j).toNat ≤ (F vp j).toNat := fun j hj => by
        simp at hj
        rcases hj with z | z | z | z | z <;> (rw [z]; omega)
      unfold mks
      split
      · exact this _ (by decide)
      · split
        · exact this _ (by decide)
        · split
          · exact this _ (by decide)
          · split
            · exact this _ (by decide)
            · exact this _ (by decide)
  have bd := SEQ_kp g1 (fun i => Nat.le_refl _) kx
  rw [mw, nw] at bd
  have o0 : j = (mks xb) 0 := on.1.symm
  have g32 : (mks vg) 0 = (F vg 32).toNat := rfl
  rcases hg with ⟨gy, gv⟩ | ⟨gy, gt⟩
  · rw [gv] at bd g32
    refine ⟨mm, X, Y, ⟨nmo σ vp, B.toNat, mks vp, mks vp, mks vp, mks xb, fst, ⟨?_, hmany, nB, s8, ?_⟩, Or.inl ⟨?_, rfl⟩, ⟨?_, ?_⟩, ?_, Or.inr ⟨rfl, rfl, ?_, ?_, ?_⟩⟩, g2, by omega, by omega, by omega⟩
    · rw [a1, x41]; exact a41
    · rw [a1]
      show PATS x id id (F vp 39).toNat SN _ _ _ _ _
      rw [v39]; exact pt
    · rw [a1, xc 42 (by decide), w42]; exact gy
    · rw [a1, xc 43 (by decide), w43, gv]
      show F vp 32 = (((F vp 32).toNat : Nat) : Int)
      omega
    · exact SEQR_of (SEQ_mo bd (Nat.le_refl _) (Nat.le_refl _) (Nat.le_refl _) (Nat.le_refl _) kxn.2.1)
    · rw [← o0]; exact on
    · rw [← o0]; exact kj.1
    · rw [← o0]; exact kj.2.1
    · rw [← o0]; exact kj.2.2
  · obtain ⟨E, mm2, X2, Y2, t1, t2, t3, t4, t5, t6, t7⟩ := gt (tz zb1) (tz2 zb2) z3
    have eE : ∀ i, E i ≤ mks vg i := fun i => t3.2.2.2.2 i
    have r0 : R0 < mks vp 0 := by omega
    have t1b := SEQ_tr (SEQ_28 (R0 := R0) (y := e) (cw t1 (by omega)) r0) (TRN_le tr eE (Nat.le_refl _))
    have bx : ∀ i, (mks vg) i ≤ (mks xb) i := fun i => by have := g1.1.1 i; rw [mw] at this; exact this
    have t1x := SEQ_kp t1b (fun i => Nat.le_trans (eE i) (bx i)) kx
    have tk0 : (E 0 : Nat) < (mks vg) 0 := by have := t3.2.1; omega
    have tkl : (mks vp) 0 ≤ E 0 := t1.1.1 0
    have bx0 := bx 0
    have xb0 : (mks xb) 0 = (F xb 32).toNat := rfl
    have m4 : ∀ r, r ∈ [23, 24, 28, 29] → r ∈ [23, 24, 25, 26, 27, 28, 29, 30, 31] ∧ r ≠ 42 ∧ r ≠ 43 := by decide
    have t2x : KND x (E 0) 23 := KND_eq t2 (fun r hr => by rw [kx.2.1.1 r (E 0) (m4 r hr).1 (by omega), tr.2.1.1 r (E 0) (m4 r hr).1 tk0, wa_ne (by omega), wA r _ (m4 r hr).2])
    refine ⟨max mm mm2, max X X2, max Y Y2, ⟨nmo σ vp, B.toNat, mks vp, E, mks vg, mks xb, fst, ⟨?_, hmany, nB, by omega, ?_⟩, Or.inr ⟨?_, ?_, t2x, t3⟩, ⟨?_, ?_⟩, ?_, Or.inr ⟨rfl, rfl, ?_, ?_, ?_⟩⟩, by omega, by omega, by omega, by omega⟩
    · rw [a1, x41]; exact a41
    · rw [a1]
      show PATS x id id (F vp 39).toNat SN _ _ _ _ _
      rw [v39]; exact pt
    · rw [a1, xc 42 (by decide), w42, gy]; omega
    · exact SEQ_mo t1x (Nat.le_refl _) (Nat.le_max_right _ _) (Nat.le_max_right _ _) (Nat.le_max_right _ _) (by omega)
    · rw [a1, xc 43 (by decide), w43]; omega
    · exact SEQR_of (SEQ_mo bd (Nat.le_refl _) (Nat.le_max_left _ _) (Nat.le_max_left _ _) (Nat.le_max_left _ _) kxn.2.1)
    · rw [← o0]; exact on
    · rw [← o0]; exact kj.1
    · rw [← o0]; exact kj.2.1
    · rw [← o0]; exact kj.2.2
end
