def XGN (fn : MS → Option (MS × Int32)) : Prop := ∀ u : MS, F u 67 ≠ 0 → 0 ≤ F u 69 ∧ F u 69 ≤ 4001 → fn u = some (u, -1)
def CTY (TN SN σ : Nat) (o xb c : Int) (u x : MS) : Prop := F x 72 = 0 → F x 66 = 0 → TN ≤ 1500 → ∃ many mm X Y r0 : Nat, PTD x SN true (-1) (mks u) (mks x) many 0 mm X Y (hlo σ x) r0 ∧ A x 45 c.toNat = -1 ∧ A x 29 r0 = -1 ∧ mm ≤ 40 ∧ (mm : Int) ≤ A x 64 σ ∧ 2 * (X : Int) ≤ xb ∧ (Y : Int) + o ≤ 25
def CLQ (u0 : MS) (TN SN : Nat) (bw : Nat → Nat) (σ : Nat) (p o n q c f h s wt : Int) (u x : MS) : Prop := F x 67 = 0 ∧ ∃ p2 n2 q2 c2 f2 h2 : Int, ST u0 σ p2 o n2 q2 c2 f2 h2 s wt 0 x ∧ KPR σ u x ∧ p2 ≤ TN ∧ (DLT bw 10 1 (5 + nu u0 p2.toNat) p n q c f h p2 n2 q2 c2 f2 h2 ∧ f2 - f + 1 ≤ c2 - c ∧ p + 4 ≤ p2) ∧ LGS σ x ∧ CTY TN SN σ o (p2 - p + 1) c u x
def CLH (u0 : MS) (TN SN : Nat) (σ : Nat) (p o n q c f h s wt : Int) (u v : MS) (j : Nat) (p1 q1 l : Int) : Prop := F v 67 = 0 ∧ ST u0 σ p1 o n q1 (c + 1) f h s wt 0 v ∧ KPR σ u v ∧ (p + 1 ≤ p1 ∧ p1 ≤ TN ∧ q ≤ q1 ∧ 2 * (q1 - q) ≤ p1 - p ∧ j ≤ 6 ∧ (j = 0 → q1 = q)) ∧ PCL SN σ u v c q j q1 l ∧ LGS σ v ∧ A v 45 c.toNat = -1
section
variable {u0 u v w x : MS} {N σ TN SN e j : Nat} {bw : Nat → Nat} {p o n q c f h s wt g D d l p1 q1 : Int} {r y1 y2 y3 : Int32} {S : SG_M_behind} {G : MS → Int32 → Int32 → Int32 → Option (MS × Int32)}
theorem c42_F (hN : 20000 ≤ N) (hT : TN ≤ 4000) (hD : D ≤ 3000) (hc : 0 ≤ c ∧ c < 1400) (hbn : XNO S.2.2.2.2.1) (hs : FSM u0 TN σ D v) : OK (fun x t => t = I c ∧ FSM u0 TN σ (D + 1) x) (ck (inb (I c) (ln 42)) (lt (upA v 42 (upd (v.2.2.1 42) (I c).toNatClampNeg y2)) (fun w3 => bnd (fm_M_needSign N w3 10) (fun u4 _ => ck (inb (I c) (ln 43)) (lt (upA u4 43 (upd (u4.2.2.1 43) (I c).toNatClampNeg (u4.1 32))) (fun w5 => bnd (S.2.2.2.2.1 w5) (fun u6 r6 => bnd (fm_M_node N u6 29 (u6.1 69)) (fun u7 r7 => bnd (fr_M_last N u7 r6) (fun u8 _ => some (u8, (I c))))))))))) := by
  refine k_in (k := 42) (n := 1400) rfl (by decide) hc (ok_lt.mpr ?_)
  rw [I_of y2, wa_e]
  have s1 : FSM u0 TN σ D (wa v 42 (I c).toNatClampNeg y2.toInt) := FSM_wa hs (by decide)
  refine k_needSign (s := 10) rfl ⟨by decide, by decide⟩ (FSM_p s1 hT) (fun z => absurd z s1.2.1) (fun v3 h3 h4 => ?_)
  have s3 := FSM_67 s1 h3 h4
  refine k_in (k := 43) (n := 1400) rfl (by decide) hc (ok_lt.mpr ?_)
  rw [I_F (k := 32), wa_e]
  have s4 : FSM u0 TN σ D (wa v3 43 (I c).toNatClampNeg (F v3 32)) := FSM_wa s3 (by decide)
  rw [hbn _ s4.2.1, bnd_so]
  exact tail_F hN hT hD (FEQ_none s4)
theorem c183_F (hN : 20000 ≤ N) (hT : TN ≤ 4000) (hD : D ≤ 3000) (hc : 0 ≤ c ∧ c < 1400) (hgn : XGN S.2.2.2.2.2.2.2.2.2.2.2.2.2.2.2.1) (hbn : XNO S.2.2.2.2.1) (hs : FSM u0 TN σ D v) : OK (fun x t => t = I c ∧ FSM u0 TN σ (D + 1) x) (fb_M_clause_183 N S G v (I c)) := by
  unfold fb_M_clause_183
  refine k_needSign (s := 1) rfl ⟨by decide, by decide⟩ (FSM_p hs hT) (fun z => absurd z hs.2.1) (fun v3 h3 h4 => ?_)
  have s3 := FSM_67 hs h3 h4
  rw [hgn v3 s3.2.1 (FSM_p s3 hT), bnd_so]
  exact c42_F hN hT hD hc hbn s3
theorem SEQ_cw {a b : Nat → Nat} {g q q2 m m2 lo mm X Y sh k : Nat} {R : Nat → Prop} {y z : Int} (s : SEQ v SN g a b q q2 m m2 lo mm X Y sh R) (hc : k < a 1) : SEQ (wa (nx1 (wa v 42 k y)) 43 k z) SN g a b q q2 m m2 lo mm X Y sh R := by
  have m1 : ∀ r, r ∈ [23, 24, 25, 26, 27, 31] → r ≠ 42 ∧ r ≠ 43 := by decide
  have m2 : ∀ r, r ∈ [28, 29, 30] → r ≠ 42 ∧ r ≠ 43 := by decide
  have m3 : ∀ r, r ∈ [33, 35, 36, 37, 38] → r ≠ 42 ∧ r ≠ 43 := by decide
  have m4 : ∀ r, r ∈ [53, 54, 55] → r ≠ 42 ∧ r ≠ 43 := by decide
  have ee : ∀ r i, r ≠ 42 ∧ r ≠ 43 → A (wa (nx1 (wa v 42 k y)) 43 k z) r i = A v r i := fun r i hr => by
    rw [wa_rne hr.2]; show A (wa v 42 k y) r i = _; rw [wa_rne hr.1]
  refine SEQ_st s ⟨?_, fun r i hr _ _ => ee r i (m1 r hr), fun r i _ hi _ => ?_, fun r i hr _ => ee r i (m3 r hr), fun r i hr _ _ => ee r i (m4 r hr), fun i _ => ee 57 i (by decide)⟩ (fun r i hr _ _ _ => ee r i (m2 r hr))
  · rw [F_wa]; unfold nx1; rw [wi_ne (by decide), F_wa]
  · rw [wa_ne (by omega)]; show A (wa v 42 k y) r i = _; rw [wa_ne (by omega)]
theorem mks_c (h : ∀ k, k ∈ [32, 39, 46, 56, 58] → F w k = F v k) : mks w = mks v := by
  funext i
  unfold mks
  split
  · rw [h 32 (by decide)]
  · split
    · rw [h 46 (by decide)]
    · split
      · rw [h 39 (by decide)]
      · split
        · rw [h 56 (by decide)]
        · rw [h 58 (by decide)]
theorem DLT_arr (tk : TKW u0 TN SN bw) (hp : 0 ≤ p ∧ p < TN) (ha : A u0 6 p.toNat = 6) (hb : A u0 7 p.toNat = 10) : DLT bw 3 1 2 p n q c f h (p + 1) n q c f h := by
  have := (tk.2.2.2.1 p.toNat (by omega)).2.2.1 ha hb
  have e : (p + 1).toNat = p.toNat + 1 := by omega
  unfold DLT
  rw [e]
  omega
theorem CTY_of {vg : MS} {pg p2 y : Int} (e46 : F u 46 = c) (e39 : F u 39 = q) (hc : 0 ≤ c) (hq : 0 ≤ q) (hu : A u 60 σ = 0) (hcl : CLH u0 TN SN σ p o n q c f h s wt u v j p1 q1 l) (hn : 0 ≤ n) (hf : 0 ≤ f ∧ 0 ≤ h) (e32 : F u 32 = n) (e56 : F u 56 = f) (e58 : F u 58 = h) (kg : KPR σ (nx1 v) vg) (g60 : A vg 60 σ = A v 60 σ) (hg : (y = -1 ∧ vg = nx1 v) ∨ (y = n ∧ GTY TN SN σ o (pg - (p1 + 1) + 1) (nx1 v) vg)) (kx : KPR σ (wa (nx1 (wa vg 42 c.toNat y)) 43 c.toNat (F vg 32)) x) (hx : CBT TN SN σ o (p2 - (pg + 1) + 1) (wa (nx1 (wa vg 42 c.toNat y)) 43 c.toNat (F vg 32)) x) (hpp : pg + 1 ≤ p2 ∧ p1 + 1 ≤ pg) (ry : RG y) : CTY TN SN σ o (p2 - p + 1) c u x := by
  intro z1 z2 z3
  obtain ⟨c0, c1, c2, ⟨b1, b2, b3, b4, b5, b6⟩, c4, c5, c6⟩ := hcl
  obtain ⟨mE, mm, X, Y, e, p3, g1, g2, g3, g4, g5, g6, g7, g8⟩ := hx z1 z2 z3
  have pa := PCL_PATS c4 hq
  have eA : A v 41 c.toNat = j := by obtain ⟨_, _, -, -, -, -, k1, -⟩ := c4; exact k1
  clear c4
  have v46 : F v 46 = c + 1 := c1.2.1.2.2.2.2.1
  have v39 : F v 39 = q1 := c1.2.1.2.2.2.1
  have v32 : F v 32 = n := c1.2.1.2.2.1
  have v56 : F v 56 = f := c1.2.1.2.2.2.2.2.1
  have v58 : F v 58 = h := c1.2.1.2.2.2.2.2.2.1
  have mv : mks (nx1 v) = mks v := wi_mks (by decide)
  have g46 : c + 1 ≤ F vg 46 := by have := kg.2.2.2.2.1.2.2.1; rw [show F (nx1 v) 46 = F v 46 from wi_ne (by decide)] at this; omega
  have g39 : q1 ≤ F vg 39 := by have := kg.2.2.2.2.1.2.1; rw [show F (nx1 v) 39 = F v 39 from wi_ne (by decide)] at this; omega
  have wf : ∀ k, k ≠ 69 → F (wa (nx1 (wa vg 42 c.toNat y)) 43 c.toNat (F vg 32)) k = F vg k := fun k hk => by rw [F_wa]; unfold nx1; rw [wi_ne hk, F_wa]
  have wA : ∀ r i, r ≠ 42 ∧ r ≠ 43 → A (wa (nx1 (wa vg 42 c.toNat y)) 43 c.toNat (F vg 32)) r i = A vg r i := fun r i hr => by
    rw [wa_rne hr.2]; show A (wa vg 42 c.toNat y) r i = _; rw [wa_rne hr.1]
  have w42 : A (wa (nx1 (wa vg 42 c.toNat y)) 43 c.toNat (F vg 32)) 42 c.toNat = y := by
    rw [wa_rne (by decide)]; show A (wa vg 42 c.toNat y) 42 c.toNat = _; exact wa_eq ry
  have w43 : A (wa (nx1 (wa vg 42 c.toNat y)) 43 c.toNat (F vg 32)) 43 c.toNat = F vg 32 := wa_eq (FRG1 _ _)
  have mw : mks (wa (nx1 (wa vg 42 c.toNat y)) 43 c.toNat (F vg 32)) = mks vg := by
    refine mks_c (fun k hk => wf k ?_)
    have : ∀ k, k ∈ [32, 39, 46, 56, 58] → k ≠ 69 := by decide
    exact this k hk
  have nw : nmo σ (wa (nx1 (wa vg 42 c.toNat y)) 43 c.toNat (F vg 32)) = nmo σ v := by unfold nmo; rw [wA 60 σ (by decide), g60]
  have cw : ∀ {gg qq qq2 m m2 lo mm X Y sh : Nat} {a b : Nat → Nat} {R : Nat → Prop}, SEQ vg SN gg a b qq qq2 m m2 lo mm X Y sh R → c.toNat < a 1 → SEQ (wa (nx1 (wa vg 42 c.toNat y)) 43 c.toNat (F vg 32)) SN gg a b qq qq2 m m2 lo mm X Y sh R := fun s hc => SEQ_cw s hc
  generalize wa (nx1 (wa vg 42 c.toNat y)) 43 c.toNat (F vg 32) = W at *
  have xc : ∀ r, r ∈ [40, 41, 42, 43, 45] → A x r c.toNat = A W r c.toNat := fun r hr => kx.2.1.2.2.1 r _ hr (by rw [wf 46 (by decide)]; omega)
  have vc : ∀ r, r ∈ [40, 41, 42, 43, 45] → A vg r c.toNat = A v r c.toNat := fun r hr => kg.2.1.2.2.1 r _ hr (by rw [show F (nx1 v) 46 = F v 46 from wi_ne (by decide)]; omega)
  have x41 : A x 41 c.toNat = A v 41 c.toNat := by rw [xc 41 (by decide), wA 41 _ (by decide), vc 41 (by decide)]
  have x40 : A x 40 c.toNat = A v 40 c.toNat := by rw [xc 40 (by decide), wA 40 _ (by decide), vc 40 (by decide)]
  have x45 : A x 45 c.toNat = A v 45 c.toNat := by rw [xc 45 (by decide), wA 45 _ (by decide), vc 45 (by decide)]
  have kxn := KPR_n kx
  have kgn := KPR_n kg
  have h1 : hlo σ (nx1 v) = hlo σ v := rfl
  have h2 : hlo σ W = hlo σ vg := by unfold hlo; rw [wA 63 σ (by decide)]
  have h3 : A W 64 σ = A vg 64 σ := wA 64 σ (by decide)
  have n0 : nmo σ u = 0 := by unfold nmo; rw [hu]; rfl
  have s8 := g1.1.2.2.2.2.1
  rw [nw] at s8
  have pt : PATS x id id q1.toNat SN (hlo σ x) 0 (nmo σ v) j (A x 40 c.toNat) := by
    rw [x40]
    rw [n0] at pa
    refine PATS_L (PATS_ag pa (fun r i hr hi => ?_)) (by omega)
    have m1 : ∀ r, r ∈ [33, 35, 36, 37, 38] → r ≠ 42 ∧ r ≠ 43 := by decide
    rw [kx.2.1.2.1 r i hr (by rw [wf 39 (by decide)]; omega), wA r i (m1 r hr), kg.2.1.2.1 r i hr (by rw [show F (nx1 v) 39 = F v 39 from wi_ne (by decide)]; omega)]
    rfl
  have a1 : (mks u) 1 = c.toNat := by show (F u 46).toNat = _; rw [e46]
  have v1 : (mks v) 1 = (c + 1).toNat := by show (F v 46).toNat = _; rw [v46]
  have fst : (mks v) 0 = (mks u) 0 ∧ (mks v) 1 = (mks u) 1 + 1 ∧ (mks v) 3 = (mks u) 3 ∧ ∀ i, (mks u) i ≤ (mks v) i := by
    refine ⟨?_, by omega, ?_, fun i => ?_⟩
    · show (F v 32).toNat = (F u 32).toNat; rw [v32, e32]
    · show (F v 56).toNat = (F u 56).toNat; rw [v56, e56]
    · have kc := c2.2.2.2.2.1
      have : ∀ j, j ∈ [32, 39, 46, 56, 58] → (F u j).toNat ≤ (F v j).toNat := fun j hj => by
        simp at hj
        rcases hj with z | z | z | z | z <;> (rw [z]; omega)
      unfold mks
      split
      · exact this _ (by decide)
      · split
        · exact this _ (by decide)
        · split
          · exact this _ (by decide)
          · split
            · exact this _ (by decide)
            · exact this _ (by decide)
  rcases hg with ⟨gy, gv⟩ | ⟨gy, gt⟩
  · have mvg : mks vg = mks v := by rw [gv]; exact mv
    refine ⟨j, mm, X, Y, e, ⟨nmo σ v, mE, mks v, mks v, mks v, p3, fst, ⟨?_, b5, Nat.zero_le _, s8, ?_⟩, Or.inl ⟨?_, rfl⟩, ⟨?_, ?_⟩, g3, Or.inl ⟨rfl, g4⟩⟩, by rw [x45]; exact c6, g2, g5, g6, by omega, by omega⟩
    · rw [a1, x41]; exact eA
    · rw [a1]
      show PATS x id id (F v 39).toNat SN _ _ _ _ _
      rw [v39]; exact pt
    · rw [a1, xc 42 (by decide), w42]; exact gy
    · rw [a1, xc 43 (by decide), w43, ← mvg]
      show F vg 32 = (((F vg 32).toNat : Nat) : Int)
      have := kg.2.2.2.2.1.1
      rw [show F (nx1 v) 32 = F v 32 from wi_ne (by decide)] at this
      omega
    · rw [mw, mvg, nw] at g1
      exact SEQR_mo g1 (Nat.zero_le _) (Nat.le_refl _) (Nat.le_refl _) (Nat.le_refl _) (Nat.le_refl _)
  · have zg1 : F vg 72 = 0 := by rw [← wf 72 (by decide)]; exact kx.2.2.2.2.2.1 z1
    have zg2 : F vg 66 = 0 := by rw [← wf 66 (by decide)]; exact kx.2.2.2.2.2.2 z2
    obtain ⟨E, mm2, X2, Y2, t1, t2, t3, t4, t5, t6, t7⟩ := gt zg1 zg2 z3
    rw [mv, show nmo σ (nx1 v) = nmo σ v from rfl] at t1
    have eE : ∀ i, E i ≤ mks W i := fun i => by rw [mw]; exact t3.2.2.2.2 i
    have t1x := SEQ_kp (cw t1 (by omega)) eE kx
    have tk0 : (E 0 : Nat) < (mks vg) 0 := by have := t3.2.1; omega
    have g32 : (mks vg) 0 = (F vg 32).toNat := rfl
    have m4 : ∀ r, r ∈ [23, 24, 28, 29] → r ∈ [23, 24, 25, 26, 27, 28, 29, 30, 31] ∧ r ≠ 42 ∧ r ≠ 43 := by decide
    have t2x : KND x (E 0) 23 := KND_eq t2 (fun r hr => by rw [kx.2.1.1 r (E 0) (m4 r hr).1 (by rw [wf 32 (by decide)]; omega), wA r _ (m4 r hr).2])
    refine ⟨j, max mm mm2, max X X2, max Y Y2, e, ⟨nmo σ v, mE, mks v, E, mks vg, p3, fst, ⟨?_, b5, Nat.zero_le _, by omega, ?_⟩, Or.inr ⟨?_, ?_, t2x, t3⟩, ⟨?_, ?_⟩, g3, Or.inl ⟨rfl, g4⟩⟩, by rw [x45]; exact c6, g2, by omega, by omega, by omega, by omega⟩
    · rw [a1, x41]; exact eA
    · rw [a1]
      show PATS x id id (F v 39).toNat SN _ _ _ _ _
      rw [v39]; exact pt
    · rw [a1, xc 42 (by decide), w42, gy]
      show n = (((F v 32).toNat : Nat) : Int)
      omega
    · exact SEQ_mo t1x (Nat.le_refl _) (Nat.le_max_right _ _) (Nat.le_max_right _ _) (Nat.le_max_right _ _) (by omega)
    · rw [a1, xc 43 (by decide), w43]
      show F vg 32 = (((F vg 32).toNat : Nat) : Int)
      omega
    · rw [mw, nw] at g1
      exact SEQR_mo g1 (Nat.zero_le _) (Nat.le_max_left _ _) (Nat.le_max_left _ _) (Nat.le_max_left _ _) (Nat.le_refl _)
end
