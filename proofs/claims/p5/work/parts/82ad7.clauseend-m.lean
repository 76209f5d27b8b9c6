section
def XGN (fn : MS → Option (MS × Int32)) : Prop := ∀ u : MS, F u 67 ≠ 0 → 0 ≤ F u 69 ∧ F u 69 ≤ 4001 → fn u = some (u, -1)
def CTY (TN SN σ : Nat) (o xb c : Int) (u x : MS) : Prop := F x 72 = 0 → F x 66 = 0 → TN ≤ 1500 → ∃ many mm X Y r0 : Nat, PTD x SN true (-1) (mks u) (mks x) many 0 mm X Y (hlo σ x) r0 ∧ A x 45 c.toNat = -1 ∧ A x 29 r0 = -1 ∧ mm ≤ 40 ∧ (mm : Int) ≤ A x 64 σ ∧ 2 * (X : Int) ≤ xb ∧ (Y : Int) + o ≤ 25
def CLQ (u0 : MS) (TN SN : Nat) (bw : Nat → Nat) (σ : Nat) (p o n q c f h s wt : Int) (u x : MS) : Prop := F x 67 = 0 ∧ ∃ p2 n2 q2 c2 f2 h2 : Int, ST u0 σ p2 o n2 q2 c2 f2 h2 s wt 0 x ∧ KPR σ u x ∧ p2 ≤ TN ∧ (DLT bw 10 1 (5 + nu u0 p2.toNat) p n q c f h p2 n2 q2 c2 f2 h2 ∧ f2 - f + 1 ≤ c2 - c ∧ p + 4 ≤ p2) ∧ LGS σ x ∧ CTY TN SN σ o (p2 - p + 1) c u x
def CLH (u0 : MS) (TN SN : Nat) (σ : Nat) (p o n q c f h s wt : Int) (u v : MS) (j : Nat) (p1 q1 l : Int) : Prop := F v 67 = 0 ∧ ST u0 σ p1 o n q1 (c + 1) f h s wt 0 v ∧ KPR σ u v ∧ (p + 1 ≤ p1 ∧ p1 ≤ TN ∧ q ≤ q1 ∧ 2 * (q1 - q) ≤ p1 - p ∧ j ≤ 6 ∧ (j = 0 → q1 = q)) ∧ PCL SN σ u v c q j q1 l ∧ LGS σ v ∧ A v 45 c.toNat = -1
section
variable {u0 u v w x : MS} {N σ TN SN e j : Nat} {bw : Nat → Nat} {p o n q c f h s wt g D d l p1 q1 : Int} {r y1 y2 y3 : Int32} {S : SG_M_behind} {G : MS → Int32 → Int32 → Int32 → Option (MS × Int32)}
theorem c42_F (hN : 20000 ≤ N) (hT : TN ≤ 4000) (hD : D ≤ 3000) (hc : 0 ≤ c ∧ c < 1400) (hbn : XNO S.2.2.2.2.1) (hs : FSM u0 TN σ D v) : OK (fun x t => t = I c ∧ FSM u0 TN σ (D + 1) x) (ck (inb (I c) (ln 42)) (lt (upA v 42 (upd (v.2.2.1 42) (I c).toNatClampNeg y2)) (fun w3 => bnd (fm_M_needSign N w3 10) (fun u4 _ => ck (inb (I c) (ln 43)) (lt (upA u4 43 (upd (u4.2.2.1 43) (I c).toNatClampNeg (u4.1 32))) (fun w5 => bnd (S.2.2.2.2.1 w5) (fun u6 r6 => bnd (fm_M_node N u6 29 (u6.1 69)) (fun u7 r7 => bnd (fr_M_last N u7 r6) (fun u8 _ => some (u8, (I c))))))))))) := by
  refine k_in (k := 42) (n := 1400) rfl (by decide) hc (ok_lt.mpr ?_)
  rw [I_of y2, wa_e]
  have s1 : FSM u0 TN σ D (wa v 42 (I c).toNatClampNeg y2.toInt) := FSM_wa hs (by decide)
  refine k_needSign (s := 10) rfl ⟨by decide, by decide⟩ (FSM_p s1 hT) (fun z => absurd z s1.2.1) (fun v3 h3 h4 => ?_)
  have s3 := FSM_67 s1 h3 h4
  refine k_in (k := 43) (n := 1400) rfl (by decide) hc (ok_lt.mpr ?_)
  rw [I_F (k := 32), wa_e]
  have s4 : FSM u0 TN σ D (wa v3 43 (I c).toNatClampNeg (F v3 32)) := FSM_wa s3 (by decide)
  rw [hbn _ s4.2.1, bnd_so]
  exact tail_F hN hT hD (FEQ_none s4)
theorem c183_F (hN : 20000 ≤ N) (hT : TN ≤ 4000) (hD : D ≤ 3000) (hc : 0 ≤ c ∧ c < 1400) (hgn : XGN S.2.2.2.2.2.2.2.2.2.2.2.2.2.2.2.1) (hbn : XNO S.2.2.2.2.1) (hs : FSM u0 TN σ D v) : OK (fun x t => t = I c ∧ FSM u0 TN σ (D + 1) x) (fb_M_clause_183 N S G v (I c)) := by
  unfold fb_M_clause_183
  refine k_needSign (s := 1) rfl ⟨by decide, by decide⟩ (FSM_p hs hT) (fun z => absurd z hs.2.1) (fun v3 h3 h4 => ?_)
  have s3 := FSM_67 hs h3 h4
  rw [hgn v3 s3.2.1 (FSM_p s3 hT), bnd_so]
  exact c42_F hN hT hD hc hbn s3
theorem SEQ_cw {a b : Nat → Nat} {g q q2 m m2 lo mm X Y sh k : Nat} {R : Nat → Prop} {y z : Int} (s : SEQ v SN g a b q q2 m m2 lo mm X Y sh R) (hc : k < a 1) : SEQ (wa (nx1 (wa v 42 k y)) 43 k z) SN g a b q q2 m m2 lo mm X Y sh R := by
  have m1 : ∀ r, r ∈ [23, 24, 25, 26, 27, 31] → r ≠ 42 ∧ r ≠ 43 := by decide
  have m2 : ∀ r, r ∈ [28, 29, 30] → r ≠ 42 ∧ r ≠ 43 := by decide
  have m3 : ∀ r, r ∈ [33, 35, 36, 37, 38] → r ≠ 42 ∧ r ≠ 43 := by decide
  have m4 : ∀ r, r ∈ [53, 54, 55] → r ≠ 42 ∧ r ≠ 43 := by decide
  have ee : ∀ r i, r ≠ 42 ∧ r ≠ 43 → A (wa (nx1 (wa v 42 k y)) 43 k z) r i = A v r i := fun r i hr => by
    rw [wa_rne hr.2]; show A (wa v 42 k y) r i = _; rw [wa_rne hr.1]
  refine SEQ_st s ⟨?_, fun r i hr _ _ => ee r i (m1 r hr), fun r i _ hi _ => ?_, fun r i hr _ => ee r i (m3 r hr), fun r i hr _ _ => ee r i (m4 r hr), fun i _ => ee 57 i (by decide)⟩ (fun r i hr _ _ _ => ee r i (m2 r hr))
  · rw [F_wa]; unfold nx1; rw [wi_ne (by decide), F_wa]
  · rw [wa_ne (by omega)]; show A (wa v 42 k y) r i = _; rw [wa_ne (by omega)]
theorem mks_c (h : ∀ k, k ∈ [32, 39, 46, 56, 58] → F w k = F v k) : mks w = mks v := by
  funext i
  unfold mks
  split
  · rw [h 32 (by decide)]
  · split
    · rw [h 46 (by decide)]
    · split
      · rw [h 39 (by decide)]
      · split
        · rw [h 56 (by decide)]
        · rw [h 58 (by decide)]
theorem DLT_arr (tk : TKW u0 TN SN bw) (hp : 0 ≤ p ∧ p < TN) (ha : A u0 6 p.toNat = 6) (hb : A u0 7 p.toNat = 10) : DLT bw 3 1 2 p n q c f h (p + 1) n q c f h := by
  have := (tk.2.2.2.1 p.toNat (by omega)).2.2.1 ha hb
  have e : (p + 1).toNat = p.toNat + 1 := by omega
  unfold DLT
  rw [e]
  omega
theorem CTY_of {vg : MS} {pg p2 y : Int} (e46 : F u 46 = c) (e39 : F u 39 = q) (hc : 0 ≤ c) (hq : 0 ≤ q) (hu : A u 60 σ = 0) (hcl : CLH u0 TN SN σ p o n q c f h s wt u v j p1 q1 l) (hn : 0 ≤ n) (hf : 0 ≤ f ∧ 0 ≤ h) (e32 : F u 32 = n) (e56 : F u 56 = f) (e58 : F u 58 = h) (kg : KPR σ (nx1 v) vg) (g60 : A vg 60 σ = A v 60 σ) (hg : (y = -1 ∧ vg = nx1 v) ∨ (y = n ∧ GTY TN SN σ o (pg - (p1 + 1) + 1) (nx1 v) vg)) (kx : KPR σ (wa (nx1 (wa vg 42 c.toNat y)) 43 c.toNat (F vg 32)) x) (hx : CBT TN SN σ o (p2 - (pg + 1) + 1) (wa (nx1 (wa vg 42 c.toNat y)) 43 c.toNat (F vg 32)) x) (hpp : pg + 1 ≤ p2 ∧ p1 + 1 ≤ pg) (ry : RG y) : CTY TN SN σ o (p2 - p + 1) c u x := by
  intro z1 z2 z3
  obtain ⟨c0, c1, c2, ⟨b1, b2, b3, b4, b5, b6⟩, c4, c5, c6⟩ := hcl
  obtain ⟨mE, mm, X, Y, e, p3, g1, g2, g3, g4, g5, g6, g7, g8⟩ := hx z1 z2 z3
  have pa := PCL_PATS c4 hq
  have eA : A v 41 c.toNat = j := by obtain ⟨_, _, -, -, -, -, k1, -⟩ := c4; exact k1
  clear c4
  have v46 : F v 46 = c + 1 := c1.2.1.2.2.2.2.1
  have v39 : F v 39 = q1 := c1.2.1.2.2.2.1
  have v32 : F v 32 = n := c1.2.1.2.2.1
  have v56 : F v 56 = f := c1.2.1.2.2.2.2.2.1
  have v58 : F v 58 = h := c1.2.1.2.2.2.2.2.2.1
  have mv : mks (nx1 v) = mks v := wi_mks (by decide)
  have g46 : c + 1 ≤ F vg 46 := by have := kg.2.2.2.2.1.2.2.1; rw [show F (nx1 v) 46 = F v 46 from wi_ne (by decide)] at this; omega
  have g39 : q1 ≤ F vg 39 := by have := kg.2.2.2.2.1.2.1; rw [show F (nx1 v) 39 = F v 39 from wi_ne (by decide)] at this; omega
  have wf : ∀ k, k ≠ 69 → F (wa (nx1 (wa vg 42 c.toNat y)) 43 c.toNat (F vg 32)) k = F vg k := fun k hk => by rw [F_wa]; unfold nx1; rw [wi_ne hk, F_wa]
  have wA : ∀ r i, r ≠ 42 ∧ r ≠ 43 → A (wa (nx1 (wa vg 42 c.toNat y)) 43 c.toNat (F vg 32)) r i = A vg r i := fun r i hr => by
    rw [wa_rne hr.2]; show A (wa vg 42 c.toNat y) r i = _; rw [wa_rne hr.1]
  have w42 : A (wa (nx1 (wa vg 42 c.toNat y)) 43 c.toNat (F vg 32)) 42 c.toNat = y := by
    rw [wa_rne (by decide)]; show A (wa vg 42 c.toNat y) 42 c.toNat = _; exact wa_eq ry
  have w43 : A (wa (nx1 (wa vg 42 c.toNat y)) 43 c.toNat (F vg 32)) 43 c.toNat = F vg 32 := wa_eq (FRG1 _ _)
  have mw : mks (wa (nx1 (wa vg 42 c.toNat y)) 43 c.toNat (F vg 32)) = mks vg := by
    refine mks_c (fun k hk => wf k ?_)
    have : ∀ k, k ∈ [32, 39, 46, 56, 58] → k ≠ 69 := by decide
    exact this k hk
  have nw : nmo σ (wa (nx1 (wa vg 42 c.toNat y)) 43 c.toNat (F vg 32)) = nmo σ v := by unfold nmo; rw [wA 60 σ (by decide), g60]
  have cw : ∀ {gg qq qq2 m m2 lo mm X Y sh : Nat} {a b : Nat → Nat} {R : Nat → Prop}, SEQ vg SN gg a b qq qq2 m m2 lo mm X Y sh R → c.toNat < a 1 → SEQ (wa (nx1 (wa vg 42 c.toNat y)) 43 c.toNat (F vg 32)) SN gg a b qq qq2 m m2 lo mm X Y sh R := fun s hc => SEQ_cw s hc
  generalize wa (nx1 (wa vg 42 c.toNat y)) 43 c.toNat (F vg 32) = W at *
  have xc : ∀ r, r ∈ [40, 41, 42, 43, 45] → A x r c.toNat = A W r c.toNat := fun r hr => kx.2.1.2.2.1 r _ hr (by rw [wf 46 (by decide)]; omega)
  have vc : ∀ r, r ∈ [40, 41, 42, 43, 45] → A vg r c.toNat = A v r c.toNat := fun r hr => kg.2.1.2.2.1 r _ hr (by rw [show F (nx1 v) 46 = F v 46 from wi_ne (by decide)]; omega)
  have x41 : A x 41 c.toNat = A v 41 c.toNat := by rw [xc 41 (by decide), wA 41 _ (by decide), vc 41 (by decide)]
  have x40 : A x 40 c.toNat = A v 40 c.toNat := by rw [xc 40 (by decide), wA 40 _ (by decide), vc 40 (by decide)]
  have x45 : A x 45 c.toNat = A v 45 c.toNat := by rw [xc 45 (by decide), wA 45 _ (by decide), vc 45 (by decide)]
  have kxn := KPR_n kx
  have kgn := KPR_n kg
  have h1 : hlo σ (nx1 v) = hlo σ v := rfl
  have h2 : hlo σ W = hlo σ vg := by unfold hlo; rw [wA 63 σ (by decide)]
  have h3 : A W 64 σ = A vg 64 σ := wA 64 σ (by decide)
  have n0 : nmo σ u = 0 := by unfold nmo; rw [hu]; rfl
  have s8 := g1.1.2.2.2.2.1
  rw [nw] at s8
  have pt : PATS x id id q1.toNat SN (hlo σ x) 0 (nmo σ v) j (A x 40 c.toNat) := by
    rw [x40]
    rw [n0] at pa
    refine PATS_L (PATS_ag pa (fun r i hr hi => ?_)) (by omega)
    have m1 : ∀ r, r ∈ [33, 35, 36, 37, 38] → r ≠ 42 ∧ r ≠ 43 := by decide
    rw [kx.2.1.2.1 r i hr (by rw [wf 39 (by decide)]; omega), wA r i (m1 r hr), kg.2.1.2.1 r i hr (by rw [show F (nx1 v) 39 = F v 39 from wi_ne (by decide)]; omega)]
    rfl
  have a1 : (mks u) 1 = c.toNat := by show (F u 46).toNat = _; rw [e46]
  have v1 : (mks v) 1 = (c + 1).toNat := by show (F v 46).toNat = _; rw [v46]
  have fst : (mks v) 0 = (mks u) 0 ∧ (mks v) 1 = (mks u) 1 + 1 ∧ (mks v) 3 = (mks u) 3 ∧ ∀ i, (mks u) i ≤ (mks v) i := by
    refine ⟨?_, by omega, ?_, fun i => ?_⟩
    · show (F v 32).toNat = (F u 32).toNat; rw [v32, e32]
    · show (F v 56).toNat = (F u 56).toNat; rw [v56, e56]
    · have kc := c2.2.2.2.2.1
      have : ∀ j, j ∈ [32, 39, 46, 56, 58] → (F u j).toNat ≤ (F v j).toNat := fun j hj => by
        simp at hj
        rcases hj with z | z | z | z | z <;> (rw [z]; omega)
      unfold mks
      split
      · exact this _ (by decide)
      · split
        · exact this _ (by decide)
        · split
          · exact this _ (by decide)
          · split
            · exact this _ (by decide)
            · exact this _ (by decide)
  rcases hg with ⟨gy, gv⟩ | ⟨gy, gt⟩
  · have mvg : mks vg = mks v := by rw [gv]; exact mv
    refine ⟨j, mm, X, Y, e, ⟨nmo σ v, mE, mks v, mks v, mks v, p3, fst, ⟨?_, b5, Nat.zero_le _, s8, ?_⟩, Or.inl ⟨?_, rfl⟩, ⟨?_, ?_⟩, g3, Or.inl ⟨rfl, g4⟩⟩, by rw [x45]; exact c6, g2, g5, g6, by omega, by omega⟩
    · rw [a1, x41]; exact eA
    · rw [a1]
      show PATS x id id (F v 39).toNat SN _ _ _ _ _
      rw [v39]; exact pt
    · rw [a1, xc 42 (by decide), w42]; exact gy
    · rw [a1, xc 43 (by decide), w43, ← mvg]
      show F vg 32 = (((F vg 32).toNat : Nat) : Int)
      have := kg.2.2.2.2.1.1
      rw [show F (nx1 v) 32 = F v 32 from wi_ne (by decide)] at this
      omega
    · rw [mw, mvg, nw] at g1
      exact SEQR_mo g1 (Nat.zero_le _) (Nat.le_refl _) (Nat.le_refl _) (Nat.le_refl _) (Nat.le_refl _)
  · have zg1 : F vg 72 = 0 := by rw [← wf 72 (by decide)]; exact kx.2.2.2.2.2.1 z1
    have zg2 : F vg 66 = 0 := by rw [← wf 66 (by decide)]; exact kx.2.2.2.2.2.2 z2
    obtain ⟨E, mm2, X2, Y2, t1, t2, t3, t4, t5, t6, t7⟩ := gt zg1 zg2 z3
    rw [mv, show nmo σ (nx1 v) = nmo σ v from rfl] at t1
    have eE : ∀ i, E i ≤ mks W i := fun i => by rw [mw]; exact t3.2.2.2.2 i
    have t1x := SEQ_kp (cw t1 (by omega)) eE kx
    have tk0 : (E 0 : Nat) < (mks vg) 0 := by have := t3.2.1; omega
    have g32 : (mks vg) 0 = (F vg 32).toNat := rfl
    have m4 : ∀ r, r ∈ [23, 24, 28, 29] → r ∈ [23, 24, 25, 26, 27, 28, 29, 30, 31] ∧ r ≠ 42 ∧ r ≠ 43 := by decide
    have t2x : KND x (E 0) 23 := KND_eq t2 (fun r hr => by rw [kx.2.1.1 r (E 0) (m4 r hr).1 (by rw [wf 32 (by decide)]; omega), wA r _ (m4 r hr).2])
    refine ⟨j, max mm mm2, max X X2, max Y Y2, e, ⟨nmo σ v, mE, mks v, E, mks vg, p3, fst, ⟨?_, b5, Nat.zero_le _, by omega, ?_⟩, Or.inr ⟨?_, ?_, t2x, t3⟩, ⟨?_, ?_⟩, g3, Or.inl ⟨rfl, g4⟩⟩, by rw [x45]; exact c6, g2, by omega, by omega, by omega, by omega⟩
    · rw [a1, x41]; exact eA
    · rw [a1]
      show PATS x id id (F v 39).toNat SN _ _ _ _ _
      rw [v39]; exact pt
    · rw [a1, xc 42 (by decide), w42, gy]
      show n = (((F v 32).toNat : Nat) : Int)
      omega
    · exact SEQ_mo t1x (Nat.le_refl _) (Nat.le_max_right _ _) (Nat.le_max_right _ _) (Nat.le_max_right _ _) (by omega)
    · rw [a1, xc 43 (by decide), w43]
      show F vg 32 = (((F vg 32).toNat : Nat) : Int)
      omega
    · rw [mw, nw] at g1
      exact SEQR_mo g1 (Nat.zero_le _) (Nat.le_max_left _ _) (Nat.le_max_left _ _) (Nat.le_max_left _ _) (Nat.le_refl _)
end
end
section
section
variable {u0 u v v2 w x : MS} {N σ TN SN e j i : Nat} {bw : Nat → Nat} {p o n q c f h s wt g D d l t p1 q1 : Int} {r y1 y2 y3 : Int32} {S : SG_M_behind} {G : MS → Int32 → Int32 → Int32 → Option (MS × Int32)}
theorem c183_ok (tk : TKW u0 TN SN bw) (hN : 20000 ≤ N) (hD : 0 ≤ D ∧ D ≤ 2900) (ho : 0 ≤ o ∧ o ≤ 25) (hg : XGD u0 TN SN bw D o S.2.2.2.2.2.2.2.2.2.2.2.2.2.2.2.1) (hgn : XGN S.2.2.2.2.2.2.2.2.2.2.2.2.2.2.2.1) (hb : XSB u0 TN SN bw D o S.2.2.2.2.1) (hbn : XNO S.2.2.2.2.1) (hu : A u 60 σ = 0) (eu : F u 32 = n ∧ F u 39 = q ∧ F u 46 = c ∧ F u 56 = f ∧ F u 58 = h) (hc : 0 ≤ c) (hm : NM TN bw 3 0 0 σ p o n q (c + 1) f h s wt) (hcl : CLH u0 TN SN σ p o n q c f h s wt u v j p1 q1 l) : OK (fun x t => t = I c ∧ (CLQ u0 TN SN bw σ p o n q c f h s wt u x ∨ FSM u0 TN σ (D + 10) x)) (fb_M_clause_183 N S G v (I c)) := by
  have hT := tk.1.1
  obtain ⟨e32, e39, e46, e56, e58⟩ := eu
  have fs := NM_fs hm (by omega)
  obtain ⟨c0, c1, c2, cb, c4, c5, c6⟩ := id hcl
  have hq : 0 ≤ q := hm.2.2.2.1.1
  have hcc : c + 1 ≤ 1359 := by unfold NM at hm; omega
  have hfh : 0 ≤ f ∧ 0 ≤ h := by unfold NM at hm; omega
  have e69 : F v 69 = p1 := c1.2.1.1
  have d1 : DLT bw 3 1 1 p n q (c + 1) f h p1 n q1 (c + 1) f h := by
    have := bw_mono tk (i := p.toNat) (m := p1.toNat) (by omega) (by omega)
    unfold DLT
    omega
  have nm1 := NM_dlt tk hm d1 (by omega) (by omega) cb.2.1
  have bad : ∀ w, FSM u0 TN σ (D + 1) w → FSM u0 TN σ (D + 10) w := fun w hw => FSM_mo hw (by omega)
  unfold fb_M_clause_183
  refine k_needSign (s := 1) rfl ⟨by decide, by decide⟩ (by omega) (fun _ z => ?_) (fun v3 h3 h4 => ?_)
  · have z2 := ST_IS c1 z
    have ltp := tok_lt tk (by omega) (show ¬ (A u0 6 (p1).toNat = 0 ∨ A u0 6 (p1).toNat = 7) by omega)
    have dn := DLT_1 (n := n) (q := q1) (c := c + 1) (f := f) (h := h) (m := 0) tk ⟨by omega, ltp⟩ (by omega)
    rw [show n + 0 = n by omega] at dn
    have s1 := ST_nx c1 (by omega)
    have nm2 := NM_dlt tk nm1 dn (by omega) (by omega) (by omega)
    have k1 : KPR σ v (nx1 v) := KPR_w0 KPR_rf (by decide)
    refine ok_bnd.mpr (ok_mono (hg (nx1 v) σ _ _ _ _ _ _ _ _ _ s1 ((wi_ne (by decide)).trans c0) nm2 (fun z => c5 (k1.2.2.2.2.2.2 z))) (fun vg r hv => ?_))
    rcases hv with ⟨a0, pg, ng, qg, cg, fg, hh, a1, a2, a3, a4, a5, a6, a7⟩ | hv
    · obtain ⟨y, hy, ry, a8⟩ : ∃ y : Int, r = I y ∧ RG y ∧ ((y = -1 ∧ vg = nx1 v) ∨ (y = n ∧ GTY TN SN σ o (pg - (p1 + 1) + 1) (nx1 v) vg)) := by
        rcases a7 with ⟨b1, b2⟩ | ⟨b1, b2⟩
        · exact ⟨-1, b1.trans rfl, ⟨by decide, by decide⟩, Or.inl ⟨rfl, b2⟩⟩
        · exact ⟨n, b1, ⟨by omega, by omega⟩, Or.inr ⟨rfl, b2⟩⟩
      have nm3 := NM_dlt tk nm2 a4 (by omega) (by omega) a3
      have fs3 := NM_fs nm3 (by omega)
      refine k_in (k := 42) (n := 1400) rfl (by decide) (by omega) (ok_lt.mpr ?_)
      rw [I_tn (x := c) (by omega) (by omega), hy, wa_e]
      have s2 : ST u0 σ pg o ng qg cg fg hh s wt 0 (wa vg 42 c.toNat y) := ST_wa a1 (by decide)
      have e69g : F (wa vg 42 c.toNat y) 69 = pg := s2.2.1.1
      have kug : KPR σ u (wa vg 42 c.toNat y) := KPR_wa (KPR_tr c2 (KPR_tr k1 a2)) (by decide) ⟨fun z => by simp at z, fun z => by simp at z, fun _ => by omega, fun z => by simp at z, fun z => by omega, fun z => by omega, fun z => by omega, fun z => by simp at z⟩
      refine k_needSign (s := 10) rfl ⟨by decide, by decide⟩ (by omega) (fun _ z => ?_) (fun v3 h3 h4 => ?_)
      · have z3 := ST_IS s2 z
        have ltp2 := tok_lt tk (by omega) (show ¬ (A u0 6 (pg).toNat = 0 ∨ A u0 6 (pg).toNat = 7) by omega)
        have da := DLT_arr (n := ng) (q := qg) (c := cg) (f := fg) (h := hh) tk ⟨by omega, ltp2⟩ z3.1 z3.2
        have s3 := ST_nx s2 (by omega)
        refine k_in (k := 43) (n := 1400) rfl (by decide) (by omega) (ok_lt.mpr ?_)
        have e32g : F (nx1 (wa vg 42 c.toNat y)) 32 = F vg 32 := by unfold nx1; rw [wi_ne (by decide), F_wa]
        rw [I_F' e32g, wa_e]
        have s4 : ST u0 σ (pg + 1) o ng qg cg fg hh s wt 0 (wa (nx1 (wa vg 42 c.toNat y)) 43 c.toNat (F vg 32)) := ST_wa s3 (by decide)
        have ku4 : KPR σ u (wa (nx1 (wa vg 42 c.toNat y)) 43 c.toNat (F vg 32)) := KPR_wa (KPR_tr kug (KPR_w0 KPR_rf (by decide))) (by decide) ⟨fun z => by simp at z, fun z => by simp at z, fun _ => by omega, fun z => by simp at z, fun z => by omega, fun z => by omega, fun z => by omega, fun z => by simp at z⟩
        have l4 : LGS σ (wa (nx1 (wa vg 42 c.toNat y)) 43 c.toNat (F vg 32)) := fun z => a6 z
        have nm4 := NM_dlt tk nm3 da (by omega) (by omega) (by omega)
        refine ok_mono (tail_ok (y2 := I c) tk hN hD ho hb s4 a0 nm4 l4) (fun x t hx => ⟨hx.1, ?_⟩)
        rcases hx.2 with ⟨b0, p2, n2, q2, c2', f2, h2, b1, b2, b3, b4, b5, b6⟩ | hx
        · refine Or.inl ⟨b0, p2, n2, q2, c2', f2, h2, b1, KPR_tr ku4 b2, b3, ⟨?_, ?_, ?_⟩, b5, ?_⟩
          · unfold DLT at d1 dn a4 da b4 ⊢; omega
          · unfold DLT at d1 dn a4 da b4; omega
          · unfold DLT at d1 dn a4 da b4; omega
          · have p21 : pg + 1 ≤ p2 ∧ p1 + 1 ≤ pg := by unfold DLT at b4 a4; omega
            exact CTY_of e46 e39 hc hq hu hcl (by omega) hfh e32 e56 e58 a2 (by rw [a5]; rfl) a8 b2 b6 p21 ry
        · exact Or.inr (bad _ hx)
      · have s3 := ST_67 s2 h3
        have f3 : FSM u0 TN σ D v3 := FSM_of s3 (by omega) (by omega) fs3.1 h4
        refine k_in (k := 43) (n := 1400) rfl (by decide) (by omega) (ok_lt.mpr ?_)
        rw [I_F (k := 32), wa_e]
        have f4 : FSM u0 TN σ D (wa v3 43 c.toNat (F v3 32)) := FSM_wa f3 (by decide)
        rw [hbn _ f4.2.1, bnd_so]
        exact ok_mono (tail_F hN hT (by omega) (FEQ_none f4)) (fun x t hx => ⟨hx.1, Or.inr (bad _ hx.2)⟩)
    · exact ok_mono (c42_F hN hT (by omega) (by omega) hbn hv) (fun x t hx => ⟨hx.1, Or.inr (bad _ hx.2)⟩)
  · have s3 := ST_67 c1 h3
    have f3 : FSM u0 TN σ D v3 := FSM_of s3 (by omega) (by omega) fs.1 h4
    rw [hgn v3 h4 (FSM_p f3 hT), bnd_so]
    exact ok_mono (c42_F hN hT (by omega) (by omega) hbn f3) (fun x t hx => ⟨hx.1, Or.inr (bad _ hx.2)⟩)
theorem c172_F (hN : 20000 ≤ N) (hT : TN ≤ 4000) (hD : D ≤ 3000) (hc : 0 ≤ c ∧ c < 1400) (hgn : XGN S.2.2.2.2.2.2.2.2.2.2.2.2.2.2.2.1) (hbn : XNO S.2.2.2.2.1) (hs : FSM u0 TN σ D v) : OK (fun x t => t = I c ∧ FSM u0 TN σ (D + 1) x) (fb_M_clause_172 N S (gg_M_clause N S (i + 1)) v (I c) y3) := by
  unfold fb_M_clause_172
  refine k_takeSign (s := 6) rfl ⟨by decide, by decide⟩ (FSM_p hs hT) (fun z => absurd z hs.2.1) (fun _ => ?_)
  show OK _ (fb_M_clause_75 N S (gg_M_clause N S i) v (I c) y3 0)
  unfold fb_M_clause_75
  rw [br00]
  exact c183_F hN hT hD hc hgn hbn hs
theorem c134_F (hN : 20000 ≤ N) (hT : TN ≤ 4000) (hD : D ≤ 3000) (hc : 0 ≤ c ∧ c < 1400) (hgn : XGN S.2.2.2.2.2.2.2.2.2.2.2.2.2.2.2.1) (hbn : XNO S.2.2.2.2.1) (hs : FSM u0 TN σ D v) : OK (fun x t => t = I c ∧ FSM u0 TN σ (D + 1) x) (fb_M_clause_134 N S (gg_M_clause N S (i + 1)) v (I c) y3) := by
  unfold fb_M_clause_134
  refine k_in (k := 41) (n := 1400) rfl (by decide) hc (k_in (k := 41) (n := 1400) rfl (by decide) hc (ok_lt.mpr (k_in (k := 41) (n := 1400) rfl (by decide) hc ?_)))
  rw [I_of (v.2.2.1 41 (I c).toNatClampNeg + 1), wa_e]
  have s1 : ∀ y, FSM u0 TN σ D (wa v 41 (I c).toNatClampNeg y) := fun y => FSM_wa hs (by decide)
  generalize (v.2.2.1 41 (I c).toNatClampNeg + 1).toInt = y
  have s2 := s1 y
  refine ok_br.mpr ⟨fun _ => k_isSign (s := 6) rfl ⟨by decide, by decide⟩ (FSM_p s2 hT) (fun _ => ?_) (fun _ => c172_F hN hT hD hc hgn hbn s2), fun _ => c172_F hN hT hD hc hgn hbn s2⟩
  exact k_wrong (s := 2) rfl ⟨by decide, by decide⟩ (by decide) (FSM_p s2 hT) (fun v3 h1 h2 => c172_F hN hT hD hc hgn hbn (FSM_67 s2 h1 h2))
theorem clause_loop (tk : TKW u0 TN SN bw) (hN : 20000 ≤ N) (hD : 0 ≤ D ∧ D ≤ 2900) (ho : 0 ≤ o ∧ o ≤ 25) (hg : XGD u0 TN SN bw D o S.2.2.2.2.2.2.2.2.2.2.2.2.2.2.2.1) (hgn : XGN S.2.2.2.2.2.2.2.2.2.2.2.2.2.2.2.1) (hb : XSB u0 TN SN bw D o S.2.2.2.2.1) (hbn : XNO S.2.2.2.2.1) (hu : A u 60 σ = 0) (eu : F u 32 = n ∧ F u 39 = q ∧ F u 46 = c ∧ F u 56 = f ∧ F u 58 = h) (hc : 0 ≤ c) (hm : NM TN bw 3 0 0 σ p o n q (c + 1) f h s wt) : ∀ (i : Nat) (v : MS) (j : Nat) (p1 q1 l : Int), CLH u0 TN SN σ p o n q c f h s wt u v j p1 q1 l → j ≤ 5 → 2 * (q1 - q) + 1 ≤ p1 - p → 4003 - p1 < i → OK (fun x t => t = I c ∧ (CLQ u0 TN SN bw σ p o n q c f h s wt u x ∨ FSM u0 TN σ (D + 10) x)) (gg_M_clause N S i v (I c) (I l) 1) := by
  have hT := tk.1.1
  have fs := NM_fs hm (by omega)
  have hq : 0 ≤ q ∧ 2 * q ≤ p := hm.2.2.2.1
  have hcc : c + 1 ≤ 1359 := by unfold NM at hm; omega
  intro i
  induction i with
  | zero => intro v j p1 q1 l hcl _ _ hi; obtain ⟨-, -, -, hb, -⟩ := hcl; omega
  | succ i ih =>
    intro v j p1 q1 l hcl hj hst hi
    obtain ⟨c0, c1, c2, cb, c4, c5, c6⟩ := id hcl
    obtain ⟨i', rfl⟩ : ∃ i', i = i' + 1 := ⟨i - 1, by omega⟩
    have bad : ∀ w, FSM u0 TN σ (D + 1) w → FSM u0 TN σ (D + 10) w := fun w hw => FSM_mo hw (by omega)
    have lb := PCL_l c4 ⟨hq.1, cb.2.2.1⟩
    have a41 : A v 41 c.toNat = j := by obtain ⟨_, _, -, -, -, -, k1, -⟩ := c4; exact k1
    have e39 : F v 39 = q1 := c1.2.1.2.2.2.1
    have e46 : F v 46 = c + 1 := c1.2.1.2.2.2.2.1
    show OK _ (fb_M_clause_75 N S (gg_M_clause N S (i' + 1)) v (I c) (I l) 1)
    unfold fb_M_clause_75
    rw [br10]
    refine k_F (y := 0) rfl ⟨by decide, by decide⟩ (fun _ => ?_) (fun z => absurd c0 z)
    refine k_in (k := 41) (n := 1400) rfl (by decide) (by omega) ?_
    refine k_A (y := 6) rfl ⟨by decide, by decide⟩ (fun z => ?_) (fun _ => ?_)
    · rw [I_tn (x := c) (by omega) (by omega)] at z; omega
    unfold fb_M_clause_103
    refine ok_bnd.mpr (ok_mono (patternAt_ok (d := D) tk (by omega) (by omega) ho v 1 _ _ _ _ _ _ _ _ _ c1 c0 (by omega) (by omega) (by omega) fs.1) (fun v2 r hv => ?_))
    rcases hv with hv | ⟨hv, y, hy, hy2⟩
    · have hr : r = I q1 := hv.2.1
      have kv := hv
      obtain ⟨k0, -, pk, qk, k1, k2, -⟩ := kv
      have b41 : A v2 41 c.toNat = j := by rw [k2.2.1.2.2.1 41 _ (by decide) (by rw [e46]; omega)]; exact a41
      have b45 : A v2 45 c.toNat = -1 := by rw [k2.2.1.2.2.1 45 _ (by decide) (by rw [e46]; omega)]; exact c6
      have go : ∀ W, ((j = 0 ∧ W = wa v2 40 c.toNat q1) ∨ (0 < j ∧ W = wa v2 37 l.toNat q1)) → A W 41 c.toNat = j → A W 45 c.toNat = -1 → KPR σ u W → OK (fun x t => t = I c ∧ (CLQ u0 TN SN bw σ p o n q c f h s wt u x ∨ FSM u0 TN σ (D + 10) x)) (fb_M_clause_134 N S (gg_M_clause N S (i' + 1)) W (I c) (I q1)) := fun W hW w41 w45 kW => by
        unfold fb_M_clause_134
        refine k_in (k := 41) (n := 1400) rfl (by decide) (by omega) (k_in (k := 41) (n := 1400) rfl (by decide) (by omega) (ok_lt.mpr (k_in (k := 41) (n := 1400) rfl (by decide) (by omega) ?_)))
        rw [I_tn (x := c) (by omega) (by omega), I_A' w41, lit1q, I_add, wa_e]
        obtain ⟨p2, q2, ad⟩ := PCL_add (w := wa W 41 c.toNat ((j : Int) + 1)) c4 hv ⟨hq.1, cb.2.2.1⟩ cb.2.2.2.2.2 e39 ⟨hc, by omega⟩ e46 ⟨by omega, by omega⟩ (by omega) (by
          rcases hW with ⟨z1, z2⟩ | ⟨z1, z2⟩
          · exact Or.inl ⟨z1, by rw [z2]⟩
          · exact Or.inr ⟨z1, by rw [z2]⟩)
        rcases ad with ⟨d1, ⟨d2, d3, d4, d5⟩, d6, d7, d8, d9, d10, d11⟩ | ad
        · have kw : KPR σ u (wa W 41 c.toNat ((j : Int) + 1)) := KPR_wa kW (by decide) ⟨fun z => by simp at z, fun z => by simp at z, fun _ => by omega, fun z => by simp at z, fun z => by omega, fun z => by omega, fun z => by omega, fun z => by simp at z⟩
          have x41 : A (wa W 41 c.toNat ((j : Int) + 1)) 41 c.toNat = j + 1 := wa_eq ⟨by omega, by omega⟩
          have x45 : A (wa W 41 c.toNat ((j : Int) + 1)) 45 c.toNat = -1 := by rw [wa_rne (by decide)]; exact w45
          generalize wa W 41 c.toNat ((j : Int) + 1) = X at *
          have lx : LGS σ X := fun z => by
            rw [d10]
            rw [d11] at z
            rcases d9 z with y | y
            · exact y
            · rw [y]; exact c5 (d8.2.2.2.2.2.2 z)
          have hX : CLH u0 TN SN σ p o n q c f h s wt u X (j + 1) p2 q2 q1 := ⟨d7, d1, kw, ⟨by omega, d2, by omega, by omega, by omega, fun z => by omega⟩, d6, lx, x45⟩
          have e69 : F X 69 = p2 := d1.2.1.1
          have stop : OK (fun x t => t = I c ∧ (CLQ u0 TN SN bw σ p o n q c f h s wt u x ∨ FSM u0 TN σ (D + 10) x)) (gg_M_clause N S (i' + 1) X (I c) (I q1) 0) := by
            show OK _ (fb_M_clause_75 N S (gg_M_clause N S i') X (I c) (I q1) 0)
            unfold fb_M_clause_75
            rw [br00]
            exact c183_ok tk hN hD ho hg hgn hb hbn hu eu hc hm hX
          refine k_A (y := 6) rfl ⟨by decide, by decide⟩ (fun z => ?_) (fun z => ?_)
          · refine k_isSign (s := 6) rfl ⟨by decide, by decide⟩ (by omega) (fun _ => ?_) (fun hn => ?_)
            · refine k_wrong (s := 2) rfl ⟨by decide, by decide⟩ (by decide) (by omega) (fun v3 h1 h2 => ?_)
              exact ok_mono (c172_F hN hT (by omega) (by omega) hgn hbn (FSM_of (d := D) (ST_67 d1 h1) (by omega) (by omega) fs.1 h2)) (fun x t hx => ⟨hx.1, Or.inr (bad _ hx.2)⟩)
            · unfold fb_M_clause_172
              refine k_takeSign (s := 6) rfl ⟨by decide, by decide⟩ (by omega) (fun _ y => absurd y hn) (fun _ => stop)
          · rw [x41] at z
            unfold fb_M_clause_172
            refine k_takeSign (s := 6) rfl ⟨by decide, by decide⟩ (by omega) (fun _ y => ?_) (fun _ => stop)
            have z2 := ST_IS d1 y
            have ltp := tok_lt tk (by omega) (show ¬ (A u0 6 (p2).toNat = 0 ∨ A u0 6 (p2).toNat = 7) by omega)
            have kc : KPR σ X (nx1 X) := KPR_w0 KPR_rf (by decide)
            have hl2 : PCL SN σ u (nx1 X) c q (j + 1) q2 q1 := d6
            refine ih (nx1 X) (j + 1) (p2 + 1) q2 q1 ⟨(wi_ne (by decide)).trans d7, ST_nx d1 (by omega), KPR_tr kw kc, ⟨by omega, by omega, by omega, by omega, by omega, fun z => by omega⟩, hl2, fun z => lx (kc.2.2.2.2.2.2 z), x45⟩ (by omega) (by omega) (by omega)
        · omega
      rw [hr]
      refine k_eq (x := l) (y := -1) ⟨by omega, by omega⟩ ⟨by decide, by decide⟩ (fun z => ?_) (fun z => ?_)
      · refine k_in (k := 40) (n := 1400) rfl (by decide) (by omega) (ok_lt.mpr ?_)
        rw [I_tn (x := c) (by omega) (by omega), wa_e]
        refine go _ (Or.inl ⟨by omega, rfl⟩) (by rw [wa_rne (by decide)]; exact b41) (by rw [wa_rne (by decide)]; exact b45) (KPR_wa (KPR_tr c2 k2) (by decide) ⟨fun z => by simp at z, fun z => by simp at z, fun _ => by omega, fun z => by simp at z, fun z => by omega, fun z => by omega, fun z => by omega, fun z => by simp at z⟩)
      · refine k_in (k := 37) (n := 5000) rfl (by decide) (by omega) (ok_lt.mpr ?_)
        rw [I_tn (x := l) (by omega) (by omega), wa_e]
        refine go _ (Or.inr ⟨by omega, rfl⟩) (by rw [wa_rne (by decide)]; exact b41) (by rw [wa_rne (by decide)]; exact b45) (KPR_wa (KPR_tr c2 k2) (by decide) ⟨fun z => by simp at z, fun z => by omega, fun z => by simp at z, fun z => by simp at z, fun z => by omega, fun z => by omega, fun z => by omega, fun z => by simp at z⟩)
    · rw [hy]
      refine k_eq (x := l) (y := -1) ⟨by omega, by omega⟩ ⟨by decide, by decide⟩ (fun z => ?_) (fun z => ?_)
      · refine k_in (k := 40) (n := 1400) rfl (by decide) (by omega) (ok_lt.mpr ?_)
        rw [wa_e]
        exact ok_mono (c134_F hN hT (by omega) (by omega) hgn hbn (FSM_wa hv (by decide))) (fun x t hx => ⟨hx.1, Or.inr (bad _ hx.2)⟩)
      · refine k_in (k := 37) (n := 5000) rfl (by decide) (by omega) (ok_lt.mpr ?_)
        rw [wa_e]
        exact ok_mono (c134_F hN hT (by omega) (by omega) hgn hbn (FSM_wa hv (by decide))) (fun x t hx => ⟨hx.1, Or.inr (bad _ hx.2)⟩)
def XCL (u0 : MS) (TN SN : Nat) (bw : Nat → Nat) (D o : Int) (fn : MS → Int32 → Option (MS × Int32)) : Prop := ∀ (u : MS) (σ : Nat) (p n q c f fz h s wt t : Int), ST u0 σ p o n q c f h s wt 0 u → F u 67 = 0 → (A u 60 σ = 0 ∧ fz ≤ f ∧ f ≤ fz + 1 ∧ 0 ≤ t ∧ t < 4002) → NM TN bw 0 0 0 σ p o n q c fz h s wt → OK (fun x r => r = I c ∧ (CLQ u0 TN SN bw σ p o n q c f h s wt u x ∨ FSM u0 TN σ D x)) (fn u (I t))
theorem clause_ok (tk : TKW u0 TN SN bw) (hN : 20000 ≤ N) (hD : 0 ≤ D ∧ D ≤ 2900) (ho : 0 ≤ o ∧ o ≤ 25) (hg : XGD u0 TN SN bw D o S.2.2.2.2.2.2.2.2.2.2.2.2.2.2.2.1) (hgn : XGN S.2.2.2.2.2.2.2.2.2.2.2.2.2.2.2.1) (hb : XSB u0 TN SN bw D o S.2.2.2.2.1) (hbn : XNO S.2.2.2.2.1) : XCL u0 TN SN bw (D + 10) o (fm_M_clause N S) := by
  intro u σ p n q c f fz h s wt t hs hf ⟨hu, hf1, hf2, ht⟩ hm0
  have hT := tk.1.1
  have hc : 0 ≤ c ∧ c < 1399 := by unfold NM at hm0; omega
  have hm : NM TN bw 3 0 0 σ p o n q (c + 1) f h s wt := by unfold NM at hm0 ⊢; omega
  have fs := NM_fs hm (by omega)
  have e46 : F u 46 = c := hs.2.1.2.2.2.2.1
  have eu : F u 32 = n ∧ F u 39 = q ∧ F u 46 = c ∧ F u 56 = f ∧ F u 58 = h := ⟨hs.2.1.2.2.1, hs.2.1.2.2.2.1, e46, hs.2.1.2.2.2.2.2.1, hs.2.1.2.2.2.2.2.2.1⟩
  have bad : ∀ w, FSM u0 TN σ (D + 1) w → FSM u0 TN σ (D + 10) w := fun w hw => FSM_mo hw (by omega)
  unfold fm_M_clause fb_M_clause_0
  have e46' : u.1 46 + 1 = I (c + 1) := by rw [I_F' e46, lit1q, I_add]
  rw [e46', I_F' e46, wi_e]
  refine ok_lt.mpr (k_in (k := 44) (n := 1400) rfl (by decide) (by omega) (ok_lt.mpr (k_in (k := 45) (n := 1400) rfl (by decide) (by omega) (ok_lt.mpr (k_in (k := 42) (n := 1400) rfl (by decide) (by omega) (ok_lt.mpr (k_in (k := 41) (n := 1400) rfl (by decide) (by omega) (ok_lt.mpr (k_in (k := 40) (n := 1400) rfl (by decide) (by omega) (ok_lt.mpr ?_))))))))))
  have z0 : ∀ (w : MS) (i : Nat), upA w 41 (upd (w.2.2.1 41) i 0) = wa w 41 i 0 := fun _ _ => rfl
  have z1 : ∀ (w : MS) (k i : Nat), upA w k (upd (w.2.2.1 k) i (-1)) = wa w k i (-1) := fun _ _ _ => rfl
  rw [I_tn (x := c) (by omega) (by omega), wa_e, z1, z1, z0, z1]
  have s1 : ST u0 σ p o n q (c + 1) f h s wt 0 (wa (wa (wa (wa (wa (wi u 46 (c + 1)) 44 c.toNat t) 45 c.toNat (-1)) 42 c.toNat (-1)) 41 c.toNat 0) 40 c.toNat (-1)) := ST_wa (ST_wa (ST_wa (ST_wa (ST_wa44 (ST_46 hs ⟨by omega, by omega⟩) ht) (by decide)) (by decide)) (by decide)) (by decide)
  have ci : ∀ r, r ∈ [40, 41, 42, 44, 45] → (r ∈ [23, 24, 25, 26, 27, 28, 29, 30, 31] → F u 32 ≤ c.toNat) ∧ (r ∈ [33, 35, 36, 37, 38] → F u 39 ≤ c.toNat) ∧ (r ∈ [40, 41, 42, 43, 45] → F u 46 ≤ c.toNat) ∧ (r ∈ [53, 54, 55] → F u 56 ≤ c.toNat) ∧ (r = 57 → F u 58 ≤ c.toNat) ∧ (r = 74 → F u 75 ≤ c.toNat) ∧ (r = 76 → F u 77 ≤ c.toNat) ∧ (r ∈ [79, 80, 81, 82] → F u 83 ≤ c.toNat) := fun r hr => by
    have : ∀ r, r ∈ [40, 41, 42, 44, 45] → r ∉ [23, 24, 25, 26, 27, 28, 29, 30, 31] ∧ r ∉ [33, 35, 36, 37, 38] ∧ r ∉ [53, 54, 55] ∧ r ≠ 57 ∧ r ≠ 74 ∧ r ≠ 76 ∧ r ∉ [79, 80, 81, 82] := by decide
    obtain ⟨t1, t2, t3, t4, t5, t6, t7⟩ := this r hr
    exact ⟨fun z => absurd z t1, fun z => absurd z t2, fun _ => by omega, fun z => absurd z t3, fun z => absurd z t4, fun z => absurd z t5, fun z => absurd z t6, fun z => absurd z t7⟩
  have k1 : KPR σ u (wa (wa (wa (wa (wa (wi u 46 (c + 1)) 44 c.toNat t) 45 c.toNat (-1)) 42 c.toNat (-1)) 41 c.toNat 0) 40 c.toNat (-1)) := KPR_wa (KPR_wa (KPR_wa (KPR_wa (KPR_wa (KPR_wi KPR_rf (by decide) (by omega) ⟨by omega, by omega⟩) (by decide) (ci 44 (by decide))) (by decide) (ci 45 (by decide))) (by decide) (ci 42 (by decide))) (by decide) (ci 41 (by decide))) (by decide) (ci 40 (by decide))
  have a40 : A (wa (wa (wa (wa (wa (wi u 46 (c + 1)) 44 c.toNat t) 45 c.toNat (-1)) 42 c.toNat (-1)) 41 c.toNat 0) 40 c.toNat (-1)) 40 c.toNat = -1 := wa_eq ⟨by decide, by decide⟩
  have a41 : A (wa (wa (wa (wa (wa (wi u 46 (c + 1)) 44 c.toNat t) 45 c.toNat (-1)) 42 c.toNat (-1)) 41 c.toNat 0) 40 c.toNat (-1)) 41 c.toNat = 0 := by rw [wa_rne (by decide)]; exact wa_eq ⟨by decide, by decide⟩
  have a45 : A (wa (wa (wa (wa (wa (wi u 46 (c + 1)) 44 c.toNat t) 45 c.toNat (-1)) 42 c.toNat (-1)) 41 c.toNat 0) 40 c.toNat (-1)) 45 c.toNat = -1 := by rw [wa_rne (by decide), wa_rne (by decide), wa_rne (by decide)]; exact wa_eq ⟨by decide, by decide⟩
  have a60 : A (wa (wa (wa (wa (wa (wi u 46 (c + 1)) 44 c.toNat t) 45 c.toNat (-1)) 42 c.toNat (-1)) 41 c.toNat 0) 40 c.toNat (-1)) 60 σ = A u 60 σ := by rw [wa_rne (by decide), wa_rne (by decide), wa_rne (by decide), wa_rne (by decide), wa_rne (by decide)]; rfl
  have f1 : F (wa (wa (wa (wa (wa (wi u 46 (c + 1)) 44 c.toNat t) 45 c.toNat (-1)) 42 c.toNat (-1)) 41 c.toNat 0) 40 c.toNat (-1)) 67 = 0 := by rw [F_wa, F_wa, F_wa, F_wa, F_wa, wi_ne (by decide)]; exact hf
  generalize wa (wa (wa (wa (wa (wi u 46 (c + 1)) 44 c.toNat t) 45 c.toNat (-1)) 42 c.toNat (-1)) 41 c.toNat 0) 40 c.toNat (-1) = v at *
  have e69 : F v 69 = p := s1.2.1.1
  have pc : PCL SN σ u (nx1 v) c q 0 q (-1) := ⟨fun _ => q.toNat, fun _ => nmo σ u, ⟨rfl, rfl, rfl, by unfold nmo; show (A u 60 σ).toNat = (A v 60 σ).toNat; rw [a60]⟩, fun i hi => by omega, ⟨fun i hi => by omega, fun z => by omega⟩, Or.inl ⟨rfl, rfl⟩, a41, fun z => by omega, fun _ => a40⟩
  refine k_needSign (s := 0) rfl ⟨by decide, by decide⟩ (by omega) (fun _ z => ?_) (fun v3 h3 h4 => ?_)
  · have z2 := ST_IS s1 z
    have ltp := tok_lt tk (by omega) (show ¬ (A u0 6 (p).toNat = 0 ∨ A u0 6 (p).toNat = 7) by omega)
    have s2 := ST_nx s1 (by omega)
    have kc : KPR σ v (nx1 v) := KPR_w0 KPR_rf (by decide)
    have e69n : F (nx1 v) 69 = p + 1 := s2.2.1.1
    have hcl : CLH u0 TN SN σ p o n q c f h s wt u (nx1 v) 0 (p + 1) q (-1) := ⟨(wi_ne (by decide)).trans f1, s2, KPR_tr k1 kc, ⟨by omega, by omega, by omega, by omega, by omega, fun _ => rfl⟩, pc, fun _ => by show A v 60 σ ≤ 40; rw [a60, hu]; decide, a45⟩
    refine k_F (y := 0) rfl ⟨by decide, by decide⟩ (fun _ => ?_) (fun z => absurd hcl.1 z)
    refine k_isSign (s := 1) rfl ⟨by decide, by decide⟩ (by omega) (fun _ => ?_) (fun _ => ?_)
    · exact c183_ok tk hN hD ho hg hgn hb hbn hu eu hc.1 hm hcl
    · exact clause_loop tk hN hD ho hg hgn hb hbn hu eu hc.1 hm N (nx1 v) 0 (p + 1) q (-1) hcl (by omega) (by omega) (by omega)
  · have f3 : FSM u0 TN σ D v3 := FSM_of (ST_67 s1 h3) (by omega) (by omega) fs.1 h4
    refine k_F (y := 0) rfl ⟨by decide, by decide⟩ (fun z => absurd z h4) (fun _ => ?_)
    exact ok_mono (c183_F hN hT (by omega) (by omega) hgn hbn f3) (fun x t hx => ⟨hx.1, Or.inr (bad _ hx.2)⟩)
end
end
section
def UBF (v w : MS) : Prop := FR [32] [] [23, 24, 25, 26, 27, 28, 29, 30, 31, 60] [] v w ∧ ∀ r i, r ∈ [23, 24, 25, 26, 27, 28, 29, 30, 31] → (i : Nat) < F v 32 → A w r i = A v r i
section
variable {α : Type} {Q : MS → α → Prop} {u0 u v v1 w x : MS} {N σ TN SN e R0 : Nat} {bw : Nat → Nat} {p o n q c f h s wt g D d B n0 : Int} {r y1 y2 y3 : Int32} {S : SG_M_behind}
theorem unbind_P {y : Int32} {fn : MS → Unit → Option (MS × α)} (hs : ST u0 σ p o n q c f h s wt 0 v) (hf : F v 67 = 0) (kp : KPR σ u v) (hp : 0 ≤ p ∧ p < 4002) (hn : 0 ≤ n ∧ n < 16000) (hσ : σ ≤ 26) (hy : y = I B) (hu : 0 ≤ B ∧ A u 60 σ = B) (hB : F v 66 = 0 → B ≤ 40) (a : ∀ (w : MS) (n2 : Int), (n ≤ n2 ∧ n2 ≤ n + 1) → ST u0 σ p o n2 q c f h s wt 0 w → F w 67 = 0 → KPR σ u w → UBF v w → A w 60 σ = B → (∀ J M wt, (∀ i, M i ≤ mks v i) → F v 83 = wt + (J : Nat) → TRN σ wt J v w M) → (∀ (M : Nat → Nat) (m1 lo mm X Y : Nat) (R : Nat → Prop), (lo : Int) ≤ B → SEQ v SN 0 M (mks v) 0 1 m1 (nmo σ v) lo mm X Y (hlo σ v) R → SEQ w SN 0 M (mks w) 0 1 m1 B.toNat lo mm X Y (hlo σ w) R) → OK Q (fn w ())) : OK Q (bnd (fm_M_unbind N v y) fn) := by
  have e32 : F v 32 = n := hs.2.1.2.2.1
  have e69 : F v 69 = p := hs.2.1.1
  have sc := (hs.2.2.2.1 σ (Nat.le_refl σ)).1
  have kn := kp.2.2.1.2.2.2 σ (Nat.le_refl σ)
  have rb : RG B := by have := ARG1 u 60 σ; rw [hu.2] at this; exact this
  refine k_unbind hy rb hs.2.1.2.2.2.2.2.2.2.2.2.2.2 hσ (by omega) (by omega) (fun e => ?_) (fun e w hw => ?_)
  · refine a v n (by omega) hs hf kp ⟨FR.rf, fun _ _ _ _ => rfl⟩ (by omega) (fun J M wt h1 h2 => TRN_kp KPR_rf h1 h2) (fun M m1 lo mm X Y R hl sq => ?_)
    have : nmo σ v = B.toNat := by unfold nmo; omega
    rw [this] at sq
    exact sq
  · have sw := ST_unb hs hw hp (by omega) (by omega)
    have kw := KPR_unb kp hw (by omega) (by omega) rb
    obtain ⟨v1, hv, rfl⟩ := hw
    rw [e69] at hv
    have k2 : KPR σ v (wa v1 25 (F v 32).toNat B) := KPR_wn (KPR_nd KPR_rf hv.1 (by omega)) (by decide) (by omega)
    have a60 : A (wa (wa v1 25 (F v 32).toNat B) 60 σ B) 60 σ = B := wa_eq rb
    have fr : FR [32] [] [23, 24, 25, 26, 27, 28, 29, 30, 31, 60] [] v (wa (wa v1 25 (F v 32).toNat B) 60 σ B) := FR.wa (FR.wa (FR.mo hv.1.1 (by decide) (by decide) (by decide) (by decide)) (by decide)) (by decide)
    refine a _ (n + 1) (by omega) sw ((fr.F (by decide)).trans hf) kw ⟨fr, fun r i hr hi => ?_⟩ a60 (fun J M wt h1 h2 => TRN_tr (TRN_kp k2 h1 h2) TRN_60) (fun M m1 lo mm X Y R hl sq => ?_)
    · have : ∀ r, r ∈ [23, 24, 25, 26, 27, 28, 29, 30, 31] → r ≠ 60 := by decide
      rw [wa_rne (this r hr), wa_ne (by omega)]
      exact hv.1.2.2.2.2 r i (by omega)
    · have t2 := SEQ_tr (wt := F v 83) (J := 0) sq (TRN_tr (TRN_kp (wt := F v 83) (J := 0) k2 (fun i => Nat.le_refl _) (by omega)) (TRN_60 (y := B)))
      have on : ONE (mks v) (mks (wa (wa v1 25 (F v 32).toNat B) 60 σ B)) (F v 32).toNat := ONE_nd (w := v1) hv.1 (by omega)
      have hw63 : hlo σ (wa (wa v1 25 (F v 32).toNat B) 60 σ B) = hlo σ v := by unfold hlo; rw [fr.A (by decide)]
      have nw : NEWN (wa (wa v1 25 (F v 32).toNat B) 60 σ B) (F v 32).toNat 18 := by
        have := NEWN_wa (r := 25) (y := B) (NEWN_of hv hp) (by decide)
        unfold NEWN at this ⊢
        rw [wa_rne (by decide), wa_rne (by decide), wa_rne (by decide), wa_rne (by decide), wa_rne (by decide)]
        exact this
      have l9 := sq.1
      have x1 : 1 ≤ X := l9.2.2.2.2.2.2.2.1
      have nb : B.toNat ≤ nmo σ v := by unfold nmo; omega
      have un := s18 (SN := SN) (mm := mm) (X := X - 1) (Y := Y) (sh := hlo σ v) (m := nmo σ v) (lo := lo) (x := B.toNat) on nw ⟨l9.2.2.2.1, l9.2.2.2.2.2.1, by omega, nb⟩ (by rw [wa_rne (by decide), wa_eq rb]; omega)
      rw [hw63]
      have un1 := SEQ_up un 1
      rw [show X - 1 + 1 = X by omega] at un1
      refine SEQ_ro (SEQ_app t2 un1) (fun i hi => Or.inl hi) (fun i hi => ?_)
      rcases hi with hi | hi
      · exact Or.inl hi
      · exact Or.inr (by rw [hi]; exact nw.2.2.2.2.1)
theorem KPR_28 {i : Nat} {y : Int} (k : KPR σ u v) (ry : RG y) : KPR σ (wa u 28 i y) (wa v 28 i y) := by
  obtain ⟨a0, ⟨a1, a2, a3, a4, a5⟩, ⟨a6, a7, a8, a9⟩, ⟨a10, a11, a12⟩, a13, a14, a15⟩ := k
  have m2 : ∀ r, r ∈ [33, 35, 36, 37, 38] → r ≠ 28 := by decide
  have m3 : ∀ r, r ∈ [40, 41, 42, 43, 45] → r ≠ 28 := by decide
  have m4 : ∀ r, r ∈ [53, 54, 55] → r ≠ 28 := by decide
  have m5 : ∀ r, r ∈ [61, 62] → r ≠ 28 := by decide
  have m6 : ∀ r, r ∈ [79, 80, 81, 82] → r ≠ 28 := by decide
  have g : ∀ r j, r ≠ 28 → ∀ z, A v r j = A u r j → A (wa v 28 i z) r j = A (wa u 28 i z) r j := fun r j hr z e => by rw [wa_rne hr, wa_rne hr]; exact e
  refine ⟨?_, ⟨fun r j h1 h2 => ?_, fun r j h1 h2 => g r j (m2 r h1) y (a2 r j h1 h2), fun r j h1 h2 => g r j (m3 r h1) y (a3 r j h1 h2), fun r j h1 h2 => g r j (m4 r h1) y (a4 r j h1 h2), fun j h2 => g 57 j (by decide) y (a5 j h2)⟩, ⟨fun s j h1 h2 => g 59 _ (by decide) y (a6 s j h1 ?_), fun r s j h0 h1 h2 => g r _ (m5 r h0) y (a7 r s j h0 h1 ?_), fun s h1 => g 60 s (by decide) y (a8 s h1), fun s h1 => ?_⟩, ⟨fun j h2 => g 74 j (by decide) y (a10 j h2), fun j h2 => g 76 j (by decide) y (a11 j h2), fun r j h1 h2 => g r j (m6 r h1) y (a12 r j h1 h2)⟩, a13, a14, a15⟩
  · refine ⟨fun k hk => a0.1 k hk, fun k hk => a0.2.1 k hk, fun k hk => ?_, fun k hk => a0.2.2.2 k hk⟩
    have : k ≠ 28 := fun z => hk (by rw [z]; decide)
    have e := a0.2.2.1 k hk
    show (if k = 28 then _ else v.2.2.1 k) = (if k = 28 then _ else u.2.2.1 k)
    rw [if_neg this, if_neg this]; exact e
  · by_cases z : r = 28
    · subst z
      by_cases zi : j = i
      · subst zi; rw [wa_eq ry, wa_eq ry]
      · rw [wa_ne zi, wa_ne zi]; exact a1 28 j h1 h2
    · exact g r j z y (a1 r j h1 h2)
  · rw [wa_rne (by decide)] at h2; exact h2
  · rw [wa_rne (by decide)] at h2; exact h2
  · rw [wa_rne (by decide), wa_rne (by decide), wa_rne (by decide), wa_rne (by decide), wa_rne (by decide), wa_rne (by decide)]; exact a9 s h1
def BAT (TN SN σ : Nat) (o xb B : Int) (w x : MS) (e : Nat) : Prop := F x 72 = 0 → F x 66 = 0 → TN ≤ 1500 → ∃ mm X Y : Nat, SEQ x SN 0 (mks w) (mks x) 0 1 (nmo σ w) B.toNat B.toNat mm X Y (hlo σ x) (fun i => i = e) ∧ mm ≤ 40 ∧ (mm : Int) ≤ A x 64 σ ∧ 2 * (X : Int) ≤ xb ∧ (Y : Int) + o + 1 ≤ 25
def BAQ (u0 : MS) (TN SN : Nat) (bw : Nat → Nat) (σ R0 : Nat) (B p o n q c f h s wt : Int) (u w x : MS) : Prop := F x 67 = 0 ∧ ∃ (p2 n2 q2 c2 f2 h2 : Int) (e : Nat), ST u0 σ p2 o n2 q2 c2 f2 h2 s wt 0 x ∧ KPR σ (wa u 28 R0 e) x ∧ TRN σ wt 0 (wa w 28 R0 e) x (mks w) ∧ p2 ≤ TN ∧ DLT bw 1 1 1 p n q c f h p2 n2 q2 c2 f2 h2 ∧ (n ≤ e ∧ (e : Int) < n2 ∧ RTD x (25 - o).toNat n.toNat e ∧ A x 29 e = A w 28 R0) ∧ (A x 60 σ = B ∧ (F x 72 = 0 → F w 72 = 0) ∧ (F x 66 = 0 → F w 66 = 0)) ∧ BAT TN SN σ o (p2 - p + 1) B w x e
theorem addRoot_F (hs : FEQ u0 TN σ D v r) (hD : D ≤ 3000) (hR : R0 < 16000) {fn : MS → Unit → Option (MS × α)} (a : ∀ x, FSM u0 TN σ D x → OK Q (fn x ())) : OK Q (bnd (fm_M_addRoot N v (I R0) r) fn) := by
  obtain ⟨s1, x, hx, hx2⟩ := hs
  have n0 := s1.2.2.2.2.1
  rcases hx2 with hx2 | ⟨x1, x2, -⟩
  · rw [hx, hx2, show I (-1) = (-1 : Int32) from rfl, addRoot_0, bnd_so]
    exact a v s1
  · rw [hx, show x = ((x.toNat : Nat) : Int) by omega, addRoot_1 hR (by omega), bnd_so]
    exact a _ (FSM_wa (FSM_wa s1 (by decide)) (by decide))
theorem unbind_F {y : Int32} (hs : FSM u0 TN σ D v) (hT : TN ≤ 4000) (hD : D ≤ 3000) (hσ : σ ≤ 26) {fn : MS → Unit → Option (MS × α)} (a : ∀ x, FSM u0 TN σ (D + 1) x → OK Q (fn x ())) : OK Q (bnd (fm_M_unbind N v y) fn) := by
  have n0 := hs.2.2.2.2.1
  have p0 := hs.2.2.1
  refine k_unbind (I_of y) (ti_rng y) hs.2.2.2.1 hσ (by omega) (by omega) (fun _ => a v (FSM_mo hs (by omega))) (fun _ w hw => ?_)
  obtain ⟨v1, hv, rfl⟩ := hw
  exact a _ (FSM_wa (FSM_wa (FSM_nd hs hv.1) (by decide)) (by decide))
theorem bau_ok (tk : TKW u0 TN SN bw) (hD : 0 ≤ D ∧ D ≤ 2900) (ho : 0 ≤ o ∧ o ≤ 25) (hb : XSB u0 TN SN bw D o S.2.2.2.2.1) (hs : ST u0 σ p o n q c f h s wt 0 w) (hf : F w 67 = 0) (hm : NM TN bw 3 0 0 σ p o n q c f h s wt) (hl : LGS σ w) (ku : KPR σ u w) (hu : A u 60 σ = B ∧ 0 ≤ B) (hR : (R0 : Int) < n) {y : Int32} (hy : y = I B) {fn : MS → Unit → Option (MS × α)} (a1 : ∀ x, BAQ u0 TN SN bw σ R0 B p o n q c f h s wt u w x → OK Q (fn x ())) (a2 : ∀ x, FSM u0 TN σ (D + 1) x → OK Q (fn x ())) : OK Q (bnd (S.2.2.2.2.1 w) (fun u5 r5 => bnd (fm_M_addRoot N u5 (I R0) r5) (fun u6 _ => bnd (fm_M_unbind N u6 y) fn))) := by
  have hT := tk.1.1
  have e32 : F w 32 = n := hs.2.1.2.2.1
  have e83 : F w 83 = wt := hs.2.1.2.2.2.2.2.2.2.2.2.1
  have fs := NM_fs hm (by omega)
  refine ok_bnd.mpr (ok_mono (hb w σ _ _ _ _ _ _ _ _ hs hf hm hl) (fun v r hv => ?_))
  rcases hv with ⟨b0, p2, n2, q2, c2, f2, h2, e, b1, b2, b3, b4, b5, b6, b7, b8⟩ | hv
  · have nm2 := NM_dlt tk hm b5 (by omega) (by omega) b4
    have fs2 := NM_fs nm2 (by omega)
    have e32v : F v 32 = n2 := b2.2.1.2.2.1
    have re : RG ((e : Nat) : Int) := ⟨by omega, by omega⟩
    rw [b1, addRoot_1 (by omega) (by omega), bnd_so]
    have hR28 : A v 28 R0 = A w 28 R0 := b3.2.1.1 28 R0 (by decide) (by omega)
    have kuv := KPR_tr ku b3
    have ku32 := ku.2.2.2.2.1.1
    have k1 : KPR σ (wa u 28 R0 e) (adr v R0 e) := KPR_28 (KPR_wn kuv (by decide) (by omega)) re
    have kw1 : KPR σ (wa w 28 R0 e) (adr v R0 e) := KPR_28 (KPR_wn b3 (by decide) (by omega)) re
    have s1 : ST u0 σ p2 o n2 q2 c2 f2 h2 s wt 0 (adr v R0 e) := ST_wa (ST_wa b2 (by decide)) (by decide)
    have rt : RTD (adr v R0 e) (26 - (o + 1)).toNat n.toNat e := by
      refine RTD_fr _ _ b6.2.2.1 ?_ (fun r i hr h1 h2 => ?_)
      · unfold adr; rw [wa_ne (by omega), wa_rne (by decide)]
      · unfold adr
        rw [wa_ne (by omega), wa_ne (by omega)]
    have a29 : A (adr v R0 e) 29 e = A w 28 R0 := by unfold adr; rw [wa_rne (by decide), wa_eq (ARG1 v 28 R0)]; exact hR28
    have adA : ∀ r i, r ≠ 28 → r ≠ 29 → A (adr v R0 e) r i = A v r i := fun r i h1 h2 => by unfold adr; rw [wa_rne h1, wa_rne h2]
    have mv : mks (adr v R0 e) = mks v := rfl
    have sq : ∀ (M : Nat → Nat) (m1 m2 lo mm X Y sh : Nat), R0 < M 0 → SEQ v SN 0 M (mks v) 0 1 m1 m2 lo mm X Y sh (fun i => i = e) → SEQ (adr v R0 e) SN 0 M (mks v) 0 1 m1 m2 lo mm X Y sh (fun i => i = e) := fun M m1 m2 lo mm X Y sh hM sq => by
      have m1 : ∀ r, r ∈ [23, 24, 25, 26, 27, 31] → r ≠ 28 ∧ r ≠ 29 := by decide
      have m3 : ∀ r, r ∈ [40, 41, 42, 43, 45] → r ≠ 28 ∧ r ≠ 29 := by decide
      have m4 : ∀ r, r ∈ [33, 35, 36, 37, 38] → r ≠ 28 ∧ r ≠ 29 := by decide
      have m5 : ∀ r, r ∈ [53, 54, 55] → r ≠ 28 ∧ r ≠ 29 := by decide
      refine SEQ_st sq ⟨rfl, fun r i hr _ _ => adA r i (m1 r hr).1 (m1 r hr).2, fun r i hr _ _ => adA r i (m3 r hr).1 (m3 r hr).2, fun r i hr _ => adA r i (m4 r hr).1 (m4 r hr).2, fun r i hr _ _ => adA r i (m5 r hr).1 (m5 r hr).2, fun i _ => adA 57 i (by decide) (by decide)⟩ (fun r i hr h1 h2 h3 => ?_)
      unfold adr
      rw [wa_ne (by omega)]
      by_cases z : r = 29
      · rw [wa_ne (fun y => h3 z y)]
      · rw [wa_rne z]
    have a60 : A (adr v R0 e) 60 σ = A v 60 σ := adA 60 σ (by decide) (by decide)
    have f67 : F (adr v R0 e) 67 = 0 := b0
    have f66 : F (adr v R0 e) 66 = F v 66 := rfl
    have f72 : F (adr v R0 e) 72 = F v 72 := rfl
    have n60 : nmo σ (adr v R0 e) = nmo σ v := by unfold nmo; rw [a60]
    have h63 : hlo σ (adr v R0 e) = hlo σ v := by unfold hlo; rw [adA 63 σ (by decide) (by decide)]
    have h64 : A (adr v R0 e) 64 σ = A v 64 σ := adA 64 σ (by decide) (by decide)
    generalize adr v R0 e = v1 at *
    have e32x : F v1 32 = n2 := s1.2.1.2.2.1
    have kv := kuv.2.2.1.2.2.2 σ (Nat.le_refl σ)
    have uw : A (wa u 28 R0 e) 60 σ = B := by rw [wa_rne (by decide)]; exact hu.1
    have k66 : F v1 66 = 0 → B ≤ 40 := fun z => by
      have := b7 (by rw [← f66]; exact z)
      omega
    refine unbind_P (SN := SN) (u := wa u 28 R0 e) s1 f67 k1 (by omega) (by omega) (by omega) hy ⟨hu.2, uw⟩ k66 (fun x nx hn hx f6 kx ub x60 tr sx => a1 x ?_)
    have tkw := kw1
    have mw : mks (wa w 28 R0 e) = mks w := rfl
    refine ⟨f6, p2, nx, q2, c2, f2, h2, e, hx, kx, ?_, b4, ?_, ⟨b6.1, by omega, ?_, ?_⟩, ⟨x60, fun z => b3.2.2.2.2.2.1 (by rw [← f72, ← (show F x 72 = F v1 72 from ub.1.F (by decide))]; exact z), fun z => b3.2.2.2.2.2.2 (by rw [← f66, ← (show F x 66 = F v1 66 from ub.1.F (by decide))]; exact z)⟩, fun z1 z2 z3 => ?_⟩
    · have t1 : TRN σ wt 0 (wa w 28 R0 e) v1 (mks w) := TRN_kp kw1 (fun i => by rw [mw]; exact Nat.le_refl _) (by show F w 83 = _; omega)
      have e83x : F v1 83 = wt := s1.2.1.2.2.2.2.2.2.2.2.2.1
      refine TRN_tr t1 (tr 0 (mks w) wt (fun i => ?_) (by omega))
      have kk := kw1.2.2.2.2.1
      have w32 : F (wa w 28 R0 e) 32 = F w 32 := rfl
      have w39 : F (wa w 28 R0 e) 39 = F w 39 := rfl
      have w46 : F (wa w 28 R0 e) 46 = F w 46 := rfl
      have w56 : F (wa w 28 R0 e) 56 = F w 56 := rfl
      have w58 : F (wa w 28 R0 e) 58 = F w 58 := rfl
      unfold mks
      split
      · omega
      · split
        · omega
        · split
          · omega
          · split
            · omega
            · omega
    · unfold DLT at b5 ⊢
      omega
    · have : (25 - o).toNat = (26 - (o + 1)).toNat := by omega
      rw [this]
      exact RTD_fr _ _ rt (ub.2 28 e (by decide) (by omega)) (fun r i hr _ hi => ub.2 r i (by
        have : ∀ r, r ∈ [28, 29] → r ∈ [23, 24, 25, 26, 27, 28, 29, 30, 31] := by decide
        exact this r hr) (by omega))
    · rw [ub.2 29 e (by decide) (by omega)]; exact a29
    · have x72 : F x 72 = F v1 72 := ub.1.F (by decide)
      have x66 : F x 66 = F v1 66 := ub.1.F (by decide)
      obtain ⟨mm, X, Y, g1, g2, g3, g4, g5⟩ := b8 (by rw [← f72, ← x72]; exact z1) (by rw [← f66, ← x66]; exact z2) z3
      have t1 : SEQ v SN 0 (mks w) (mks v) 0 1 (nmo σ w) (nmo σ v) (nmo σ w) mm X Y (hlo σ v) (fun i => i = e) := g1
      have kb := (ku.2.2.1.2.2.2 σ (Nat.le_refl σ)).1
      have bn : B.toNat ≤ nmo σ w := by unfold nmo; omega
      have r0 : R0 < mks w 0 := by show R0 < (F w 32).toNat; omega
      have t2 := sq _ _ _ _ _ _ _ _ r0 (SEQ_mo t1 bn (Nat.le_refl _) (Nat.le_refl _) (Nat.le_refl _) (Nat.le_refl _))
      rw [← mv, ← n60, ← h63] at t2
      refine ⟨mm, X, Y, sx _ _ _ _ _ _ _ (by omega) t2, g2, ?_, g4, by omega⟩
      rw [ub.1.A (by decide), h64]; exact g3
  · refine addRoot_F hv (by omega) (by omega) (fun x hx => unbind_F hx hT (by omega) (by omega) a2)
end
end
section
def PRY (TN SN σ R0 many : Nat) (B o xb : Int) (v x : MS) (e : Nat) : Prop := F x 72 = 0 → F x 66 = 0 → TN ≤ 1500 → ∃ mm X Y : Nat, PTD x SN false ((R0 : Nat) : Int) (mks v) (mks x) many B.toNat mm X Y (hlo σ x) e ∧ mm ≤ 40 ∧ (mm : Int) ≤ A x 64 σ ∧ 2 * (X : Int) ≤ xb ∧ (Y : Int) + o ≤ 25
section
variable {u0 u v w x : MS} {N σ TN SN e j R0 many : Nat} {bw : Nat → Nat} {p o n q c f h s wt g D d l p1 q1 B : Int} {r y1 y2 y3 : Int32} {S : SG_M_behind}
theorem SEQ_28 {a b : Nat → Nat} {gg qq qq2 m m2 lo mm X Y sh : Nat} {R : Nat → Prop} {y : Int} (sq : SEQ v SN gg a b qq qq2 m m2 lo mm X Y sh R) (hM : R0 < a 0) : SEQ (wa v 28 R0 y) SN gg a b qq qq2 m m2 lo mm X Y sh R := by
  have m1 : ∀ r, r ∈ [23, 24, 25, 26, 27, 31] → r ≠ 28 := by decide
  have m3 : ∀ r, r ∈ [40, 41, 42, 43, 45] → r ≠ 28 := by decide
  have m4 : ∀ r, r ∈ [33, 35, 36, 37, 38] → r ≠ 28 := by decide
  have m5 : ∀ r, r ∈ [53, 54, 55] → r ≠ 28 := by decide
  refine SEQ_st sq ⟨rfl, fun r i hr _ _ => wa_rne (m1 r hr), fun r i hr _ _ => wa_rne (m3 r hr), fun r i hr _ => wa_rne (m4 r hr), fun r i hr _ _ => wa_rne (m5 r hr), fun i _ => wa_rne (by decide)⟩ (fun r i hr h1 h2 h3 => wa_ne (by omega))
theorem PTY_of {vp vg xb : MS} {pg p2 y : Int} (ev : F v 32 = n ∧ F v 39 = q ∧ F v 46 = c ∧ F v 56 = f ∧ F v 58 = h) (hv0 : 0 ≤ n ∧ 0 ≤ q ∧ 0 ≤ c ∧ 0 ≤ f ∧ 0 ≤ h) (hR : (R0 : Int) < n) (hvp : ST u0 σ p1 o n q1 (c + 1) f h s wt 0 vp) (kvp : KPR σ v vp) (hq1 : q ≤ q1) (pa : PATS vp id id q1.toNat SN (hlo σ vp) B.toNat (nmo σ vp) many (A vp 40 c.toNat)) (a41 : A vp 41 c.toNat = many) (hmany : many ≤ 6) (hB : A v 60 σ = B ∧ 0 ≤ B) (kg : KPR σ vp vg) (g60 : A vg 60 σ = A vp 60 σ) (hg : (y = -1 ∧ vg = vp) ∨ (y = n ∧ GTY TN SN σ o (pg - p1 + 1) vp vg)) (ry : RG y) (tr : TRN σ wt 0 (wa (wa (nx1 (wa vg 42 c.toNat y)) 43 c.toNat (F vg 32)) 28 R0 e) xb (mks vg)) (hb : BAT TN SN σ o (p2 - (pg + 1) + 1) B (wa (nx1 (wa vg 42 c.toNat y)) 43 c.toNat (F vg 32)) xb e) (kx : KPR σ xb x) (on : ONE (mks xb) (mks x) j) (kj : KND x j 26 ∧ A x 25 j = -2 ∧ A x 26 j = R0) (tz : F xb 72 = 0 → F vg 72 = 0) (tz2 : F xb 66 = 0 → F vg 66 = 0) (hpp : pg + 1 ≤ p2 ∧ p1 ≤ pg ∧ p ≤ p1) : PRY TN SN σ R0 many B o (p2 - p + 1) v x e := by
  intro z1 z2 z3
  obtain ⟨e32, e39, e46, e56, e58⟩ := ev
  have zb1 := kx.2.2.2.2.2.1 z1
  have zb2 := kx.2.2.2.2.2.2 z2
  obtain ⟨mm, X, Y, g1, g2, g3, g4, g5⟩ := hb zb1 zb2 z3
  have v46 : F vp 46 = c + 1 := hvp.2.1.2.2.2.2.1
  have v39 : F vp 39 = q1 := hvp.2.1.2.2.2.1
  have v32 : F vp 32 = n := hvp.2.1.2.2.1
  have v56 : F vp 56 = f := hvp.2.1.2.2.2.2.2.1
  have kgc := kg.2.2.2.2.1
  have wA : ∀ r i, r ≠ 42 ∧ r ≠ 43 → A (wa (nx1 (wa vg 42 c.toNat y)) 43 c.toNat (F vg 32)) r i = A vg r i := fun r i hr => by
    rw [wa_rne hr.2]; show A (wa vg 42 c.toNat y) r i = _; rw [wa_rne hr.1]
  have w42 : A (wa (nx1 (wa vg 42 c.toNat y)) 43 c.toNat (F vg 32)) 42 c.toNat = y := by
    rw [wa_rne (by decide)]; show A (wa vg 42 c.toNat y) 42 c.toNat = _; exact wa_eq ry
  have w43 : A (wa (nx1 (wa vg 42 c.toNat y)) 43 c.toNat (F vg 32)) 43 c.toNat = F vg 32 := wa_eq (FRG1 _ _)
  have mw : mks (wa (nx1 (wa vg 42 c.toNat y)) 43 c.toNat (F vg 32)) = mks vg := by
    refine mks_c (fun k hk => ?_)
    have : ∀ k, k ∈ [32, 39, 46, 56, 58] → k ≠ 69 := by decide
    rw [F_wa]; unfold nx1; rw [wi_ne (this k hk), F_wa]
  have nw : nmo σ (wa (nx1 (wa vg 42 c.toNat y)) 43 c.toNat (F vg 32)) = nmo σ vp := by unfold nmo; rw [wA 60 σ (by decide), g60]
  have cw : ∀ {gg qq qq2 m m2 lo mm X Y sh : Nat} {a b : Nat → Nat} {R : Nat → Prop}, SEQ vg SN gg a b qq qq2 m m2 lo mm X Y sh R → c.toNat < a 1 → SEQ (wa (nx1 (wa vg 42 c.toNat y)) 43 c.toNat (F vg 32)) SN gg a b qq qq2 m m2 lo mm X Y sh R := fun s hc => SEQ_cw s hc
  have hW : hlo σ (wa (nx1 (wa vg 42 c.toNat y)) 43 c.toNat (F vg 32)) = hlo σ vg := by unfold hlo; rw [wA 63 σ (by decide)]
  have h6W : A (wa (nx1 (wa vg 42 c.toNat y)) 43 c.toNat (F vg 32)) 64 σ = A vg 64 σ := wA 64 σ (by decide)
  generalize wa (nx1 (wa vg 42 c.toNat y)) 43 c.toNat (F vg 32) = W at *
  have mg1 : c.toNat < mks vg 1 := by show c.toNat < (F vg 46).toNat; omega
  have mg2 : q1.toNat ≤ mks vg 2 := by show q1.toNat ≤ (F vg 39).toNat; omega
  have bc : ∀ r, r ∈ [40, 41, 42, 43, 45] → A xb r c.toNat = A W r c.toNat := fun r hr => by
    have m3 : ∀ r, r ∈ [40, 41, 42, 43, 45] → r ≠ 28 := by decide
    rw [tr.2.1.2.1 r _ hr mg1, wa_rne (m3 r hr)]
  have hW28 : hlo σ (wa W 28 R0 e) = hlo σ W := by unfold hlo; rw [wa_rne (by decide)]
  have h6W28 : A (wa W 28 R0 e) 64 σ = A W 64 σ := wa_rne (by decide)
  have trh := tr.2.2.1
  have kxn := KPR_n kx
  have kgn := KPR_n kg
  have b46 : c < F xb 46 := by
    have h := hb
    have q1 := g1.1.1 1
    rw [mw] at q1
    have : (mks xb) 1 = (F xb 46).toNat := rfl
    omega
  have b39 : q1.toNat ≤ (F xb 39).toNat := by
    have q1' := g1.1.1 2
    rw [mw] at q1'
    have : (mks xb) 2 = (F xb 39).toNat := rfl
    omega
  have xc : ∀ r, r ∈ [40, 41, 42, 43, 45] → A x r c.toNat = A W r c.toNat := fun r hr => by rw [kx.2.1.2.2.1 r _ hr (by omega), bc r hr]
  have vc : ∀ r, r ∈ [40, 41, 42, 43, 45] → A vg r c.toNat = A vp r c.toNat := fun r hr => kg.2.1.2.2.1 r _ hr (by omega)
  have x41 : A x 41 c.toNat = A vp 41 c.toNat := by rw [xc 41 (by decide), wA 41 _ (by decide), vc 41 (by decide)]
  have x40 : A x 40 c.toNat = A vp 40 c.toNat := by rw [xc 40 (by decide), wA 40 _ (by decide), vc 40 (by decide)]
  have s8 := g1.1.2.2.2.2.1
  rw [nw] at s8
  have nB : B.toNat ≤ nmo σ vp := by have := (kvp.2.2.1.2.2.2 σ (Nat.le_refl σ)).1; unfold nmo; omega
  have pt : PATS x id id q1.toNat SN (hlo σ x) B.toNat (nmo σ vp) many (A x 40 c.toNat) := by
    rw [x40]
    refine PATS_L (PATS_ag pa (fun r i hr hi => ?_)) (by omega)
    have m1 : ∀ r, r ∈ [33, 35, 36, 37, 38] → r ≠ 42 ∧ r ≠ 43 := by decide
    have m4 : ∀ r, r ∈ [33, 35, 36, 37, 38] → r ≠ 28 := by decide
    rw [kx.2.1.2.1 r i hr (by omega), tr.2.1.2.2.1 r i hr (by omega), wa_rne (m4 r hr), wA r i (m1 r hr), kg.2.1.2.1 r i hr (by omega)]
  have a1 : (mks v) 1 = c.toNat := by show (F v 46).toNat = _; rw [e46]
  have v1 : (mks vp) 1 = (c + 1).toNat := by show (F vp 46).toNat = _; rw [v46]
  have a0 : (mks v) 0 = n.toNat := by show (F v 32).toNat = _; rw [e32]
  have p0 : (mks vp) 0 = n.toNat := by show (F vp 32).toNat = _; rw [v32]
  have fst : (mks vp) 0 = (mks v) 0 ∧ (mks vp) 1 = (mks v) 1 + 1 ∧ (mks vp) 3 = (mks v) 3 ∧ ∀ i, (mks v) i ≤ (mks vp) i := by
    refine ⟨by omega, by omega, ?_, fun i => ?_⟩
    · show (F vp 56).toNat = (F v 56).toNat; rw [v56, e56]
    · have kc := kvp.2.2.2.2.1
      have : ∀ j, j ∈ [32, 39, 46, 56, 58] → (F v j).toNat ≤ (F vp j).toNat := fun j hj => by
        simp at hj
        rcases hj with z | z | z | z | z <;> (rw [z]; omega)
      unfold mks
      split
      · exact this _ (by decide)
      · split
        · exact this _ (by decide)
        · split
          · exact this _ (by decide)
          · split
            · exact this _ (by decide)
            · exact this _ (by decide)
  have bd := SEQ_kp g1 (fun i => Nat.le_refl _) kx
  rw [mw, nw] at bd
  have o0 : j = (mks xb) 0 := on.1.symm
  have g32 : (mks vg) 0 = (F vg 32).toNat := rfl
  rcases hg with ⟨gy, gv⟩ | ⟨gy, gt⟩
  · rw [gv] at bd g32
    refine ⟨mm, X, Y, ⟨nmo σ vp, B.toNat, mks vp, mks vp, mks vp, mks xb, fst, ⟨?_, hmany, nB, s8, ?_⟩, Or.inl ⟨?_, rfl⟩, ⟨?_, ?_⟩, ?_, Or.inr ⟨rfl, rfl, ?_, ?_, ?_⟩⟩, g2, by omega, by omega, by omega⟩
    · rw [a1, x41]; exact a41
    · rw [a1]
      show PATS x id id (F vp 39).toNat SN _ _ _ _ _
      rw [v39]; exact pt
    · rw [a1, xc 42 (by decide), w42]; exact gy
    · rw [a1, xc 43 (by decide), w43, gv]
      show F vp 32 = (((F vp 32).toNat : Nat) : Int)
      omega
    · exact SEQR_of (SEQ_mo bd (Nat.le_refl _) (Nat.le_refl _) (Nat.le_refl _) (Nat.le_refl _) kxn.2.1)
    · rw [← o0]; exact on
    · rw [← o0]; exact kj.1
    · rw [← o0]; exact kj.2.1
    · rw [← o0]; exact kj.2.2
  · obtain ⟨E, mm2, X2, Y2, t1, t2, t3, t4, t5, t6, t7⟩ := gt (tz zb1) (tz2 zb2) z3
    have eE : ∀ i, E i ≤ mks vg i := fun i => t3.2.2.2.2 i
    have r0 : R0 < mks vp 0 := by omega
    have t1b := SEQ_tr (SEQ_28 (R0 := R0) (y := e) (cw t1 (by omega)) r0) (TRN_le tr eE (Nat.le_refl _))
    have bx : ∀ i, (mks vg) i ≤ (mks xb) i := fun i => by have := g1.1.1 i; rw [mw] at this; exact this
    have t1x := SEQ_kp t1b (fun i => Nat.le_trans (eE i) (bx i)) kx
    have tk0 : (E 0 : Nat) < (mks vg) 0 := by have := t3.2.1; omega
    have tkl : (mks vp) 0 ≤ E 0 := t1.1.1 0
    have bx0 := bx 0
    have xb0 : (mks xb) 0 = (F xb 32).toNat := rfl
    have m4 : ∀ r, r ∈ [23, 24, 28, 29] → r ∈ [23, 24, 25, 26, 27, 28, 29, 30, 31] ∧ r ≠ 42 ∧ r ≠ 43 := by decide
    have t2x : KND x (E 0) 23 := KND_eq t2 (fun r hr => by rw [kx.2.1.1 r (E 0) (m4 r hr).1 (by omega), tr.2.1.1 r (E 0) (m4 r hr).1 tk0, wa_ne (by omega), wA r _ (m4 r hr).2])
    refine ⟨max mm mm2, max X X2, max Y Y2, ⟨nmo σ vp, B.toNat, mks vp, E, mks vg, mks xb, fst, ⟨?_, hmany, nB, by omega, ?_⟩, Or.inr ⟨?_, ?_, t2x, t3⟩, ⟨?_, ?_⟩, ?_, Or.inr ⟨rfl, rfl, ?_, ?_, ?_⟩⟩, by omega, by omega, by omega, by omega⟩
    · rw [a1, x41]; exact a41
    · rw [a1]
      show PATS x id id (F vp 39).toNat SN _ _ _ _ _
      rw [v39]; exact pt
    · rw [a1, xc 42 (by decide), w42, gy]; omega
    · exact SEQ_mo t1x (Nat.le_refl _) (Nat.le_max_right _ _) (Nat.le_max_right _ _) (Nat.le_max_right _ _) (by omega)
    · rw [a1, xc 43 (by decide), w43]; omega
    · exact SEQR_of (SEQ_mo bd (Nat.le_refl _) (Nat.le_max_left _ _) (Nat.le_max_left _ _) (Nat.le_max_left _ _) kxn.2.1)
    · rw [← o0]; exact on
    · rw [← o0]; exact kj.1
    · rw [← o0]; exact kj.2.1
    · rw [← o0]; exact kj.2.2
end
end
section
def PRT (u0 : MS) (TN SN : Nat) (bw : Nat → Nat) (σ R0 many : Nat) (B p o n q c f h s wt : Int) (v x : MS) : Prop := F x 67 = 0 ∧ ∃ (p2 n2 q2 c2 f2 h2 : Int) (e : Nat), ST u0 σ p2 o n2 q2 c2 f2 h2 s wt 0 x ∧ KPR σ (wa v 28 R0 e) x ∧ p2 ≤ TN ∧ (DLT bw 3 0 0 p n q c f h p2 n2 q2 c2 f2 h2 ∧ p + 3 ≤ p2 ∧ c + 1 ≤ c2) ∧ (n ≤ e ∧ (e : Int) < n2 ∧ RTD x (25 - o).toNat n.toNat e ∧ A x 29 e = A v 28 R0) ∧ (A x 60 σ = B ∧ A x 45 c.toNat = -1) ∧ PRY TN SN σ R0 many B o (p2 - p + 1) v x e
def pK (N : Nat) (S : SG_M_behind) (G : MS → Int32 → Int32 → Int32 → Int32 → Int32 → Option (MS × Int32)) (v1 v2 v3 v4 v6 : Int32) (w10 : MS) : Option (MS × Int32) := br (decide (v4 = (-1))) (fb_M_parts0_214 N S G w10 (v1) (v2) (v6) (v6)) (ck (inb v4 (ln 45)) (lt (upA w10 45 (upd (w10.2.2.1 45) v4.toNatClampNeg v6)) (fun w11 => fb_M_parts0_214 N S G w11 (v1) (v2) (v3) (v6))))
section
variable {Q : MS → Int32 → Prop} {u0 u v vp vg w x : MS} {N σ TN SN e R0 many : Nat} {bw : Nat → Nat} {p o n q c f h s wt g D d B p1 q1 pg ng qg cg fg hg y yg : Int} {r v1 v3 v4 : Int32} {S : SG_M_behind} {G : MS → Int32 → Int32 → Int32 → Int32 → Int32 → Option (MS × Int32)}
theorem jump_ok {K : MS → Option (MS × Int32)} (h69 : 0 ≤ F v 69 ∧ F v 69 < 4002) (h32 : 0 ≤ F v 32 ∧ F v 32 < 16000) (a : ∀ v1, NDV v v1 26 (F v 69) → OK Q (K (wa (wa v1 25 (F v 32).toNat (-2)) 26 (F v 32).toNat R0))) : OK Q (bnd (fm_M_node N v 26 (v.1 69)) (fun u8 r8 => ck (inb r8 (ln 25)) (lt (upA u8 25 (upd (u8.2.2.1 25) r8.toNatClampNeg (-2))) (fun w9 => ck (inb r8 (ln 26)) (lt (upA w9 26 (upd (w9.2.2.1 26) r8.toNatClampNeg (I R0))) (fun w10 => K w10)))))) := by
  refine k_node (k := 26) (t := F v 69) rfl (by decide) I_F (by omega) (by omega) (fun v1 hv1 => ?_)
  refine k_in (k := 25) (n := 16000) rfl (by decide) h32 (ok_lt.mpr (k_in (k := 26) (n := 16000) rfl (by decide) h32 (ok_lt.mpr ?_)))
  rw [I_tn (by omega) (by omega), wa_e]
  exact a v1 hv1
theorem p127_F (hT : TN ≤ 4000) (hD : D ≤ 2990) (hσ : σ ≤ 26) (hc : 0 ≤ c ∧ c < 1400) (hR : R0 < 16000) (hbn : XNO S.2.2.2.2.1) (hs : FSM u0 TN σ D vg) {t2 v7 : Int32} (a : ∀ x, FSM u0 TN σ (D + 2) x → OK Q (pK N S G v1 (I R0) v3 v4 (I c) x)) : OK Q (fb_M_parts0_127 N S G vg v1 (I R0) v3 v4 (I c) v7 42 (I c) t2) := by
  unfold fb_M_parts0_127
  refine ok_ck.mpr ⟨rfl, k_in (k := 42) (n := 1400) rfl (by decide) hc (ok_lt.mpr ?_)⟩
  rw [I_of t2, wa_e]
  have s1 : FSM u0 TN σ D (wa vg 42 (I c).toNatClampNeg t2.toInt) := FSM_wa hs (by decide)
  refine k_needSign (s := 10) rfl ⟨by decide, by decide⟩ (FSM_p s1 hT) (fun z => absurd z s1.2.1) (fun v3' h3 h4 => ?_)
  have s3 := FSM_67 s1 h3 h4
  refine k_in (k := 43) (n := 1400) rfl (by decide) hc (ok_lt.mpr ?_)
  rw [I_F (k := 32), wa_e]
  have s4 : FSM u0 TN σ D (wa v3' 43 (I c).toNatClampNeg (F v3' 32)) := FSM_wa s3 (by decide)
  rw [hbn _ s4.2.1, bnd_so]
  refine addRoot_F (FEQ_none s4) (by omega) hR (fun x1 hx1 => unbind_F hx1 hT (by omega) hσ (fun x hx => ?_))
  have n0 := hx.2.2.2.2.1
  have p0 := hx.2.2.1
  refine jump_ok (R0 := R0) (K := pK N S G v1 (I R0) v3 v4 (I c)) (by omega) (by omega) (fun x2 hx2 => a _ ?_)
  have := FSM_nd hx hx2.1
  rw [show D + 1 + 1 = D + 2 by omega] at this
  exact FSM_wa (FSM_wa this (by decide)) (by decide)
set_option maxRecDepth 100000 in
theorem p127_ok (tk : TKW u0 TN SN bw) (hD : 0 ≤ D ∧ D ≤ 2900) (ho : 0 ≤ o ∧ o ≤ 25) (hb : XSB u0 TN SN bw D o S.2.2.2.2.1) (hbn : XNO S.2.2.2.2.1) (ev : F v 32 = n ∧ F v 39 = q ∧ F v 46 = c ∧ F v 56 = f ∧ F v 58 = h) (hR : (R0 : Int) < n) (hm : NM TN bw 3 0 0 σ p o n q (c + 1) f h s wt) (hc : 0 ≤ c) (hvp : ST u0 σ p1 o n q1 (c + 1) f h s wt 0 vp) (kvp : KPR σ v vp) (hq1 : q ≤ q1 ∧ 2 * (q1 - q) ≤ p1 - p + 1 ∧ p ≤ p1 ∧ p1 ≤ TN ∧ 2 * q + 1 ≤ p) (pa : PATS vp id id q1.toNat SN (hlo σ vp) B.toNat (nmo σ vp) many (A vp 40 c.toNat)) (a41 : A vp 41 c.toNat = many) (hmany : many ≤ 6) (hB : A v 60 σ = B ∧ 0 ≤ B) (a45 : A vp 45 c.toNat = -1)
    (f67 : F vg 67 = 0) (sg : ST u0 σ pg o ng qg cg fg hg s wt 0 vg) (kg : KPR σ vp vg) (g60 : A vg 60 σ = A vp 60 σ) (lg : LGS σ vg) (hyg : 0 ≤ yg ∧ p + 1 ≤ p1 + yg) (dg : DLT bw 0 yg 0 p1 n q1 (c + 1) f h pg ng qg cg fg hg) (hpg : pg ≤ TN) (hgt : (y = -1 ∧ vg = vp) ∨ (y = n ∧ GTY TN SN σ o (pg - p1 + 1) vp vg)) (ry : RG y)
    (a1 : ∀ x, PRT u0 TN SN bw σ R0 many B p o n q c f h s wt v x → OK Q (pK N S G v1 (I R0) v3 v4 (I c) x)) (a2 : ∀ x, FSM u0 TN σ (D + 2) x → OK Q (pK N S G v1 (I R0) v3 v4 (I c) x)) : OK Q (fb_M_parts0_127 N S G vg v1 (I R0) v3 v4 (I c) (I B) 42 (I c) (I y)) := by
  have hT := tk.1.1
  have bwl := bw_mono tk (i := p.toNat) (m := p1.toNat) (by unfold NM at hm; omega) (by omega)
  have bwm := bw_mono tk (i := p1.toNat) (m := TN) (by omega) (by omega)
  have bwt := tk.2.2.2.2
  have nm1 : NM TN bw 3 0 0 σ p1 o n q1 (c + 1) f h s wt := by unfold NM at hm ⊢; omega
  have nm2 := NM_dlt tk nm1 dg hyg.1 (by omega) hpg
  have fs := NM_fs hm (by omega)
  have fs2 := NM_fs nm2 (by omega)
  have hc2 : c + 1 ≤ 1359 := by unfold NM at hm; omega
  have hn0 : 0 ≤ n ∧ 0 ≤ q ∧ 0 ≤ f ∧ 0 ≤ h := by unfold NM at hm; omega
  obtain ⟨e32, e39, e46, e56, e58⟩ := id ev
  have e69 : F vg 69 = pg := sg.2.1.1
  have e32g : F vg 32 = ng := sg.2.1.2.2.1
  have e46p : F vp 46 = c + 1 := hvp.2.1.2.2.2.2.1
  have kvg := KPR_tr kvp kg
  have cgc : c + 1 ≤ cg := by unfold DLT at dg; omega
  have e46g : F vg 46 = cg := sg.2.1.2.2.2.2.1
  unfold fb_M_parts0_127
  refine ok_ck.mpr ⟨rfl, k_in (k := 42) (n := 1400) rfl (by decide) (by omega) (ok_lt.mpr ?_)⟩
  rw [I_tn (x := c) (by omega) (by omega), wa_e]
  have s1 : ST u0 σ pg o ng qg cg fg hg s wt 0 (wa vg 42 c.toNat y) := ST_wa sg (by decide)
  refine k_needSign (s := 10) rfl ⟨by decide, by decide⟩ (by rw [F_wa]; omega) (fun _ z => ?_) (fun v3' h3 h4 => ?_)
  · have z2 := ST_IS s1 z
    have ltp := tok_lt tk (by omega) (show ¬ (A u0 6 (pg).toNat = 0 ∨ A u0 6 (pg).toNat = 7) by omega)
    have da := DLT_arr (n := ng) (q := qg) (c := cg) (f := fg) (h := hg) tk ⟨by omega, ltp⟩ z2.1 z2.2
    have s2 := ST_nx s1 (by omega)
    have nm3 := NM_dlt tk nm2 da (by omega) (by omega) (by omega)
    refine k_in (k := 43) (n := 1400) rfl (by decide) (by omega) (ok_lt.mpr ?_)
    have e32n : F (nx1 (wa vg 42 c.toNat y)) 32 = F vg 32 := by unfold nx1; rw [wi_ne (by decide), F_wa]
    rw [I_F (k := 32), wa_e, e32n]
    have s3 : ST u0 σ (pg + 1) o ng qg cg fg hg s wt 0 (wa (nx1 (wa vg 42 c.toNat y)) 43 c.toNat (F vg 32)) := ST_wa s2 (by decide)
    have k3 : KPR σ v (wa (nx1 (wa vg 42 c.toNat y)) 43 c.toNat (F vg 32)) := KPR_wc (KPR_w0 (KPR_wc kvg (by decide) (by omega)) (by decide)) (by decide) (by omega)
    have l3 : LGS σ (wa (nx1 (wa vg 42 c.toNat y)) 43 c.toNat (F vg 32)) := fun z => lg z
    refine bau_ok (R0 := R0) (B := B) tk hD ho hb s3 f67 nm3 l3 k3 hB (by unfold DLT at dg; omega) rfl (fun xb hx => ?_) (fun x hx => ?_)
    · obtain ⟨b0, p2, n2, q2, c2, f2, h2, e, b1, b2, b3, b4, b5, b6, b7, b8⟩ := hx
      have nm4 := NM_dlt tk nm3 b5 (by omega) (by omega) b4
      have fs4 := NM_fs nm4 (by omega)
      have x69 : F xb 69 = p2 := b1.2.1.1
      have x32 : F xb 32 = n2 := b1.2.1.2.2.1
      have x46 : F xb 46 = c2 := b1.2.1.2.2.2.2.1
      have cc2 : c + 1 ≤ c2 := by unfold DLT at b5; omega
      have w28 : A (wa (nx1 (wa vg 42 c.toNat y)) 43 c.toNat (F vg 32)) 28 R0 = A v 28 R0 := by
        rw [wa_rne (by decide)]
        show A (wa vg 42 c.toNat y) 28 R0 = _
        rw [wa_rne (by decide)]
        exact kvg.2.1.1 28 R0 (by decide) (by omega)
      have mw : mks (wa (nx1 (wa vg 42 c.toNat y)) 43 c.toNat (F vg 32)) = mks vg := by
        refine mks_c (fun k hk => ?_)
        have : ∀ k, k ∈ [32, 39, 46, 56, 58] → k ≠ 69 := by decide
        rw [F_wa]; unfold nx1; rw [wi_ne (this k hk), F_wa]
      refine jump_ok (R0 := R0) (K := pK N S G v1 (I R0) v3 v4 (I c)) (by omega) (by omega) (fun x2 hx2 => a1 _ ?_)
      have nd := hx2.1
      have s5 := ST_nd b1 nd (by omega) (by omega) (fun z => by omega)
      have s6 : ST u0 σ p2 o (n2 + 1) q2 c2 f2 h2 s wt 0 (wa (wa x2 25 (F xb 32).toNat (-2)) 26 (F xb 32).toNat R0) := ST_wa (ST_wa25 s5 (by rw [nd.2.2.1]; decide)) (by decide)
      have k6 : KPR σ xb (wa (wa x2 25 (F xb 32).toNat (-2)) 26 (F xb 32).toNat R0) := KPR_wn (KPR_wn (KPR_nd KPR_rf nd (by omega)) (by decide) (by omega)) (by decide) (by omega)
      have r0 : RG ((R0 : Nat) : Int) := ⟨by omega, by omega⟩
      have f6 : ∀ k, k ≠ 32 → F (wa (wa x2 25 (F xb 32).toNat (-2)) 26 (F xb 32).toNat R0) k = F xb k := fun k hk => by
        rw [F_wa, F_wa]; exact nd.1.F (by simpa using hk)
      have a6 : ∀ r i, r ∉ [23, 24, 25, 26, 27, 28, 29, 30, 31] → A (wa (wa x2 25 (F xb 32).toNat (-2)) 26 (F xb 32).toNat R0) r i = A xb r i := fun r i hr => by
        have h1 : r ≠ 26 := fun z => hr (by rw [z]; decide)
        have h2 : r ≠ 25 := fun z => hr (by rw [z]; decide)
        rw [wa_rne h1, wa_rne h2]; exact nd.1.A hr
      have j25 : A (wa (wa x2 25 (F xb 32).toNat (-2)) 26 (F xb 32).toNat R0) 25 (F xb 32).toNat = -2 := by rw [wa_rne (by decide)]; exact wa_eq ⟨by decide, by decide⟩
      have j26 : A (wa (wa x2 25 (F xb 32).toNat (-2)) 26 (F xb 32).toNat R0) 26 (F xb 32).toNat = R0 := wa_eq r0
      have kn : KND (wa (wa x2 25 (F xb 32).toNat (-2)) 26 (F xb 32).toNat R0) (F xb 32).toNat 26 := by
        have nw := NEWN_of hx2 (by omega)
        unfold KND
        rw [wa_rne (by decide), wa_rne (by decide), wa_rne (by decide), wa_rne (by decide), wa_rne (by decide), wa_rne (by decide), wa_rne (by decide), wa_rne (by decide)]
        exact ⟨nw.1, nw.2.1, nw.2.2.1, nw.2.2.2.1, nw.2.2.2.2.1⟩
      have on : ONE (mks xb) (mks (wa (wa x2 25 (F xb 32).toNat (-2)) 26 (F xb 32).toNat R0)) (F xb 32).toNat := by
        have := ONE_nd (w := x2) nd (by omega)
        have e : mks (wa (wa x2 25 (F xb 32).toNat (-2)) 26 (F xb 32).toNat R0) = mks x2 := mks_c (fun k _ => by rw [F_wa, F_wa])
        rw [e]; exact this
      have x45 : A xb 45 c.toNat = -1 := by
        have h1 := b3.2.1.2.1 45 c.toNat (by decide) (show c.toNat < (mks (wa (nx1 (wa vg 42 c.toNat y)) 43 c.toNat (F vg 32))) 1 by rw [mw]; show c.toNat < (F vg 46).toNat; omega)
        rw [h1, wa_rne (by decide), wa_rne (by decide)]
        show A (wa vg 42 c.toNat y) 45 c.toNat = _
        rw [wa_rne (by decide), kg.2.1.2.2.1 45 _ (by decide) (by omega)]
        exact a45
      generalize wa (wa x2 25 (F xb 32).toNat (-2)) 26 (F xb 32).toNat R0 = X at *
      refine ⟨(f6 67 (by decide)).trans b0, p2, n2 + 1, q2, c2, f2, h2, e, s6, KPR_tr b2 k6, b4, ⟨?_, ?_, cc2⟩, ⟨?_, by omega, ?_, ?_⟩, ⟨?_, ?_⟩, ?_⟩
      · unfold DLT at dg da b5 ⊢; omega
      · unfold DLT at dg da b5; omega
      · unfold DLT at dg; omega
      · refine RTD_dn (a := ng.toNat) (by unfold DLT at dg; omega) _ _ ?_
        exact RTD_fr _ _ b6.2.2.1 (k6.2.1.1 28 e (by decide) (by omega)) (fun r i hr _ hi => k6.2.1.1 r i (by
          have : ∀ r, r ∈ [28, 29] → r ∈ [23, 24, 25, 26, 27, 28, 29, 30, 31] := by decide
          exact this r hr) (by omega))
      · rw [k6.2.1.1 29 e (by decide) (by omega), b6.2.2.2]; exact w28
      · rw [a6 60 σ (by decide)]; exact b7.1
      · rw [k6.2.1.2.2.1 45 c.toNat (by decide) (by omega)]; exact x45
      · rw [mw] at b3
        refine PTY_of (y := y) (many := many) ev ⟨hn0.1, hn0.2.1, hc, hn0.2.2⟩ hR hvp kvp hq1.1 pa a41 hmany hB kg g60 hgt ry b3 b8 k6 on ⟨kn, j25, j26⟩ (fun z => b7.2.1 z) (fun z => b7.2.2 z) ?_
        unfold DLT at b5 dg
        omega
    · have n0 := hx.2.2.2.2.1
      have p0 := hx.2.2.1
      refine jump_ok (R0 := R0) (K := pK N S G v1 (I R0) v3 v4 (I c)) (by omega) (by omega) (fun x2 hx2 => a2 _ ?_)
      have := FSM_nd hx hx2.1
      rw [show D + 1 + 1 = D + 2 by omega] at this
      exact FSM_wa (FSM_wa this (by decide)) (by decide)
  · have s3 : FSM u0 TN σ D v3' := FSM_of (ST_67 s1 h3) (by omega) (by omega) fs2.1 h4
    refine k_in (k := 43) (n := 1400) rfl (by decide) (by omega) (ok_lt.mpr ?_)
    rw [I_F (k := 32), wa_e]
    have s4 : FSM u0 TN σ D (wa v3' 43 c.toNat (F v3' 32)) := FSM_wa s3 (by decide)
    rw [hbn _ s4.2.1, bnd_so]
    refine addRoot_F (FEQ_none s4) (by omega) (by omega) (fun x1 hx1 => unbind_F hx1 hT (by omega) (by omega) (fun x hx => ?_))
    have n0 := hx.2.2.2.2.1
    have p0 := hx.2.2.1
    refine jump_ok (R0 := R0) (K := pK N S G v1 (I R0) v3 v4 (I c)) (by omega) (by omega) (fun x2 hx2 => a2 _ ?_)
    have := FSM_nd hx hx2.1
    rw [show D + 1 + 1 = D + 2 by omega] at this
    exact FSM_wa (FSM_wa this (by decide)) (by decide)
end
end
section
section
variable {Q : MS → Int32 → Prop} {u0 u v vp vg w x : MS} {N σ TN SN e R0 many : Nat} {bw : Nat → Nat} {p o n q c f h s wt g D d B : Int} {r v1 v3 v4 : Int32} {S : SG_M_behind} {G : MS → Int32 → Int32 → Int32 → Int32 → Int32 → Option (MS × Int32)}
theorem wa_self {k i : Nat} {y : Int} (h : A u k i = y) : wa u k i y = u := by
  obtain ⟨u1, u2, u3, u4⟩ := u
  show (u1, u2, (fun k' => if k' = k then upd (u3 k) i (I y) else u3 k'), u4) = (u1, u2, u3, u4)
  have : (fun k' => if k' = k then upd (u3 k) i (I y) else u3 k') = u3 := by
    funext k'
    by_cases z : k' = k
    · rw [if_pos z, z]
      funext j
      show (if j = i then I y else u3 k j) = u3 k j
      by_cases zj : j = i
      · rw [if_pos zj, zj, ← h]; exact (I_of _).symm
      · rw [if_neg zj]
    · rw [if_neg z]
  rw [this]
set_option maxRecDepth 100000 in
theorem part_ok (tk : TKW u0 TN SN bw) (hN : 20000 ≤ N) (hD : 0 ≤ D ∧ D ≤ 2900) (ho : 0 ≤ o ∧ o ≤ 25) (hg : XGD u0 TN SN bw D o S.2.2.2.2.2.2.2.2.2.2.2.2.2.2.2.1) (hgn : XGN S.2.2.2.2.2.2.2.2.2.2.2.2.2.2.2.1) (hgc : XGC u0 TN SN bw D o S.2.2.2.2.2.2.2.2.2.2.2.2.2.2.1) (hb : XSB u0 TN SN bw D o S.2.2.2.2.1) (hbn : XNO S.2.2.2.2.1) (hs : ST u0 σ p o n q c f h s wt 0 v) (hf : F v 67 = 0) (hm : NM TN bw 0 0 0 σ p o n q c f h s wt) (hq : 2 * q + 1 ≤ p) (hB : A v 60 σ = B) (lv : LGS σ v) (hR : (R0 : Int) < n) (hv1 : (v1 = 0 ∧ many = 1) ∨ (v1 = 1 ∧ many = 0))
    (a1 : ∀ x, PRT u0 TN SN bw σ R0 many B p o n q c f h s wt v x → OK Q (pK N S G v1 (I R0) v3 v4 (I c) x)) (a2 : ∀ x, FSM u0 TN σ (D + 2) x → OK Q (pK N S G v1 (I R0) v3 v4 (I c) x)) : OK Q (fb_M_parts0_19 N S G v v1 (I R0) v3 v4 1) := by
  have hT := tk.1.1
  have hm3 : NM TN bw 3 0 0 σ p o n q (c + 1) f h s wt := by unfold NM at hm ⊢; omega
  have fs := NM_fs hm (by omega)
  have hc : 0 ≤ c ∧ c < 1399 := by unfold NM at hm; omega
  have hq0 : 0 ≤ q ∧ 2 * q ≤ p := hm.2.2.2.1
  have e46 : F v 46 = c := hs.2.1.2.2.2.2.1
  have e69 : F v 69 = p := hs.2.1.1
  have e65 : F v 65 = σ := hs.2.1.2.2.2.2.2.2.2.2.2.2.2
  have ev : F v 32 = n ∧ F v 39 = q ∧ F v 46 = c ∧ F v 56 = f ∧ F v 58 = h := ⟨hs.2.1.2.2.1, hs.2.1.2.2.2.1, e46, hs.2.1.2.2.2.2.2.1, hs.2.1.2.2.2.2.2.2.1⟩
  have hB0 : 0 ≤ B := by have := (hs.2.2.2.1 σ (Nat.le_refl σ)).1; omega
  unfold fb_M_parts0_19
  rw [br10]
  have e46' : v.1 46 + 1 = I (c + 1) := by rw [I_F' e46, lit1q, I_add]
  rw [e46', I_F' e46, wi_e]
  have z1 : ∀ (w : MS) (k i : Nat), upA w k (upd (w.2.2.1 k) i (-1)) = wa w k i (-1) := fun _ _ _ => rfl
  have z6 : (wi v 46 (c + 1)).1 69 = I p := by rw [I_F, wi_ne (by decide), e69]
  refine ok_lt.mpr (k_in (k := 44) (n := 1400) rfl (by decide) (by omega) (ok_lt.mpr (k_in (k := 45) (n := 1400) rfl (by decide) (by omega) (ok_lt.mpr ?_))))
  rw [z6, I_tn (x := c) (by omega) (by omega), wa_e, z1]
  have c74 : ∀ t2 : Int32, t2 = I many → OK Q (fb_M_parts0_74 N S G (wa (wa (wi v 46 (c + 1)) 44 c.toNat p) 45 c.toNat (-1)) v1 (I R0) v3 v4 (I c) 41 (I c) t2) := fun t2 ht2 => by
    rw [ht2]
    unfold fb_M_parts0_74
    refine ok_ck.mpr ⟨rfl, k_in (k := 41) (n := 1400) rfl (by decide) (by omega) (ok_lt.mpr ?_)⟩
    rw [I_tn (x := c) (by omega) (by omega), wa_e]
    have hmany : many ≤ 1 := by rcases hv1 with z | z <;> omega
    have s1 : ST u0 σ p o n q (c + 1) f h s wt 0 (wa (wa (wa (wi v 46 (c + 1)) 44 c.toNat p) 45 c.toNat (-1)) 41 c.toNat many) := ST_wa (ST_wa (ST_wa44 (ST_46 hs ⟨by omega, by omega⟩) (by omega)) (by decide)) (by decide)
    have k1 : KPR σ v (wa (wa (wa (wi v 46 (c + 1)) 44 c.toNat p) 45 c.toNat (-1)) 41 c.toNat many) := by
      refine KPR_wc (KPR_wc (KPR_wa (KPR_wi KPR_rf (by decide) (by omega) ⟨by omega, by omega⟩) (by decide) ?_) (by decide) (by omega)) (by decide) (by omega)
      exact ⟨fun z => by simp at z, fun z => by simp at z, fun _ => by omega, fun z => by simp at z, fun z => by omega, fun z => by omega, fun z => by omega, fun z => by simp at z⟩
    have a41 : A (wa (wa (wa (wi v 46 (c + 1)) 44 c.toNat p) 45 c.toNat (-1)) 41 c.toNat many) 41 c.toNat = many := wa_eq ⟨by omega, by omega⟩
    have a45 : A (wa (wa (wa (wi v 46 (c + 1)) 44 c.toNat p) 45 c.toNat (-1)) 41 c.toNat many) 45 c.toNat = -1 := by rw [wa_rne (by decide)]; exact wa_eq ⟨by decide, by decide⟩
    have a60 : A (wa (wa (wa (wi v 46 (c + 1)) 44 c.toNat p) 45 c.toNat (-1)) 41 c.toNat many) 60 σ = B := by rw [wa_rne (by decide), wa_rne (by decide), wa_rne (by decide)]; exact hB
    have f67 : F (wa (wa (wa (wi v 46 (c + 1)) 44 c.toNat p) 45 c.toNat (-1)) 41 c.toNat many) 67 = 0 := by rw [F_wa, F_wa, F_wa, wi_ne (by decide)]; exact hf
    have f66 : F (wa (wa (wa (wi v 46 (c + 1)) 44 c.toNat p) 45 c.toNat (-1)) 41 c.toNat many) 66 = F v 66 := by rw [F_wa, F_wa, F_wa, wi_ne (by decide)]
    generalize wa (wa (wa (wi v 46 (c + 1)) 44 c.toNat p) 45 c.toNat (-1)) 41 c.toNat many = W at *
    have w65 : F W 65 = σ := s1.2.1.2.2.2.2.2.2.2.2.2.2.2
    have w46 : F W 46 = c + 1 := s1.2.1.2.2.2.2.1
    have w39 : F W 39 = q := s1.2.1.2.2.2.1
    refine k_at (k := 60) (n := 27) rfl (by decide) (by omega) (ok_lt.mpr ?_)
    have y16 : W.2.2.1 60 (W.1 65).toNatClampNeg = I B := by
      rw [I_F' w65, I_tn (by omega) (by omega)]
      exact I_A' a60
    rw [y16]
    rcases hv1 with ⟨v10, m1⟩ | ⟨v10, m1⟩
    · subst v10
      rw [br00]
      refine ok_bnd.mpr (ok_mono (patternAt_ok (d := D) tk (by omega) (by omega) ho W 0 _ _ _ _ _ _ _ _ _ s1 f67 (by omega) (by omega) (by omega) fs.1) (fun v2 r hv => ?_))
      rcases hv with hv | ⟨hv, y, hy, hy2⟩
      · have hr : r = I q := hv.2.1
        have k2 := hv.2.2
        obtain ⟨pk, qk, k3, k2, -⟩ := k2
        have b41 : A v2 41 c.toNat = 1 := by rw [k2.2.1.2.2.1 41 _ (by decide) (by omega), a41, m1]; rfl
        have b45 : A v2 45 c.toNat = -1 := by rw [k2.2.1.2.2.1 45 _ (by decide) (by omega)]; exact a45
        have pat := hv.2.2
        obtain ⟨p2, q2, b3, -, b5, b6, b7, b8, b9⟩ := pat
        have bl := PTT_lt b7
        have pe : p + 1 ≤ p2 := by omega
        have w40 : A (wa v2 40 c.toNat q) 40 c.toNat = q := wa_eq ⟨by omega, by omega⟩
        have pt : PATS (wa v2 40 c.toNat q) id id q2.toNat SN (hlo σ (wa v2 40 c.toNat q)) B.toNat (nmo σ (wa v2 40 c.toNat q)) many (A (wa v2 40 c.toNat q) 40 c.toNat) := by
          have c40 : ∀ r i, r ∈ [33, 35, 36, 37, 38] → A (wa v2 40 c.toNat q) r i = A v2 r i := fun r i hr => by
            have : ∀ r, r ∈ [33, 35, 36, 37, 38] → r ≠ 40 := by decide
            exact wa_rne (this r hr)
          have : PCL SN σ v (wa v2 40 c.toNat q) c q 1 q2 q := by
            refine ⟨fun i => if i = 0 then q.toNat else q2.toNat, fun i => if i = 0 then nmo σ v else nmo σ v2, ⟨rfl, rfl, rfl, by unfold nmo; rw [wa_rne (by decide)]; rfl⟩, fun i hi => ?_, ⟨fun i hi => by omega, fun _ => ?_⟩, Or.inr ⟨by omega, ?_⟩, ?_, fun _ => w40, fun z => by omega⟩
            · obtain rfl : i = 0 := by omega
              show PTT _ SN q.toNat q2.toNat (nmo σ v) (nmo σ v2) _
              have e1 : nmo σ v = (A W 60 σ).toNat := by unfold nmo; rw [a60, hB]
              have e2 : hlo σ (wa v2 40 c.toNat q) = (A v2 63 σ).toNat := by unfold hlo; rw [wa_rne (by decide)]
              rw [e1, e2]
              exact PTT_ag b7 (fun r i hr _ _ => c40 r i (by
                have : ∀ r, r ∈ [33, 35, 36, 38] → r ∈ [33, 35, 36, 37, 38] := by decide
                exact this r hr)) (fun i _ _ => c40 37 i (by decide)) (Nat.le_refl _)
            · show A (wa v2 40 c.toNat q) 37 q.toNat = -1
              rw [c40 37 _ (by decide)]; exact b8
            · show q = ((q.toNat : Nat) : Int)
              omega
            · rw [wa_rne (by decide)]; exact b41
          have := PCL_PATS this hq0.1
          rw [show nmo σ v = B.toNat from by unfold nmo; rw [hB]] at this
          rw [m1]
          exact this
        have s2 : ST u0 σ p2 o n q2 (c + 1) f h s wt 0 (wa v2 40 c.toNat q) := ST_wa b3 (by decide)
        have kv2 : KPR σ v (wa v2 40 c.toNat q) := KPR_wc (KPR_tr k1 k2) (by decide) (by omega)
        have nmv : NM TN bw 3 0 0 σ p2 o n q2 (c + 1) f h s wt := by
          have bwl := bw_mono tk (i := p.toNat) (m := p2.toNat) (by omega) (by omega)
          have bwm := bw_mono tk (i := p2.toNat) (m := TN) (by omega) (by omega)
          have bwt := tk.2.2.2.2
          unfold NM at hm3 ⊢
          omega
        have l2 : LGS σ (wa v2 40 c.toNat q) := fun z => by
          have z' : F v2 66 = 0 := z
          rw [wa_rne (by decide)]
          rcases b9 z' with y | y
          · exact y
          · rw [y, a60]
            have := lv (by rw [← f66]; exact k2.2.2.2.2.2.2 z')
            omega
        have f2 : F (wa v2 40 c.toNat q) 67 = 0 := hv.1
        have a41' : A (wa v2 40 c.toNat q) 41 c.toNat = many := by rw [wa_rne (by decide), b41, m1]; rfl
        have a45' : A (wa v2 40 c.toNat q) 45 c.toNat = -1 := by rw [wa_rne (by decide)]; exact b45
        unfold fb_M_parts0_105
        rw [hr]
        refine ok_ck.mpr ⟨rfl, k_in (k := 40) (n := 1400) rfl (by decide) (by omega) (ok_lt.mpr ?_)⟩
        rw [I_tn (x := c) (by omega) (by omega), wa_e, br00]
        generalize wa v2 40 c.toNat q = VP at *
        refine ok_bnd.mpr (ok_mono (hg VP σ _ _ _ _ _ _ _ _ _ s2 f2 nmv l2) (fun vg r hv => ?_))
        rcases hv with ⟨g0, pg, ng, qg, cg, fg, hh, g1, g2, g3, g4, g5, g6, g7⟩ | hv
        · obtain ⟨y, hy, ry, g8⟩ : ∃ y : Int, r = I y ∧ RG y ∧ ((y = -1 ∧ vg = VP) ∨ (y = n ∧ GTY TN SN σ o (pg - p2 + 1) VP vg)) := by
            rcases g7 with ⟨b1, b2⟩ | ⟨b1, b2⟩
            · exact ⟨-1, b1.trans rfl, ⟨by decide, by decide⟩, Or.inl ⟨rfl, b2⟩⟩
            · exact ⟨n, b1, ⟨by omega, by omega⟩, Or.inr ⟨rfl, b2⟩⟩
          rw [hy]
          exact p127_ok (yg := 0) (many := many) tk hD ho hb hbn ev hR hm3 hc.1 s2 kv2 (by omega) pt a41' (by omega) ⟨hB, hB0⟩ a45' g0 g1 g2 g5 g6 (by omega) g4 g3 g8 ry a1 a2
        · exact p127_F hT (by omega) (by omega) (by omega) (by omega) hbn hv a2
      · rw [hy]
        unfold fb_M_parts0_105
        refine ok_ck.mpr ⟨rfl, k_in (k := 40) (n := 1400) rfl (by decide) (by omega) (ok_lt.mpr ?_)⟩
        rw [wa_e, br00]
        have s2 : FSM u0 TN σ D (wa v2 40 (I c).toNatClampNeg y) := FSM_wa hv (by decide)
        rw [hgn _ s2.2.1 (FSM_p s2 hT), bnd_so]
        exact p127_F hT (by omega) (by omega) (by omega) (by omega) hbn s2 a2
    · subst v10
      rw [br10]
      unfold fb_M_parts0_105
      refine ok_ck.mpr ⟨rfl, k_in (k := 40) (n := 1400) rfl (by decide) (by omega) (ok_lt.mpr ?_)⟩
      rw [I_tn (x := c) (by omega) (by omega), z1, br10]
      have s2 : ST u0 σ p o n q (c + 1) f h s wt 0 (wa W 40 c.toNat (-1)) := ST_wa s1 (by decide)
      have kv2 : KPR σ v (wa W 40 c.toNat (-1)) := KPR_wc k1 (by decide) (by omega)
      have a60' : A (wa W 40 c.toNat (-1)) 60 σ = B := by rw [wa_rne (by decide)]; exact a60
      have l2 : LGS σ (wa W 40 c.toNat (-1)) := fun z => by
        rw [a60']
        have := lv (by rw [← f66]; exact z)
        omega
      have f2 : F (wa W 40 c.toNat (-1)) 67 = 0 := f67
      have a41' : A (wa W 40 c.toNat (-1)) 41 c.toNat = many := by rw [wa_rne (by decide)]; exact a41
      have a45' : A (wa W 40 c.toNat (-1)) 45 c.toNat = -1 := by rw [wa_rne (by decide)]; exact a45
      generalize wa W 40 c.toNat (-1) = VP at *
      have pt : PATS VP id id q.toNat SN (hlo σ VP) B.toNat (nmo σ VP) many (A VP 40 c.toNat) := Or.inl ⟨m1, by unfold nmo; rw [a60']⟩
      refine ok_bnd.mpr (ok_mono (hgc VP σ _ _ _ _ _ _ _ _ _ s2 f2 hm3 l2) (fun vg r hv => ?_))
      rcases hv with ⟨g0, hy, pg, ng, qg, cg, fg, hh, g1, g2, g3, g4, g5, g6, g7⟩ | hv
      · rw [hy]
        exact p127_ok (yg := 1) (many := many) tk hD ho hb hbn ev hR hm3 hc.1 s2 kv2 (by omega) pt a41' (by omega) ⟨hB, hB0⟩ a45' g0 g1 g2 g5 g6 (by omega) g4 g3 (Or.inr ⟨rfl, g7⟩) ⟨by omega, by omega⟩ a1 a2
      · exact p127_F hT (by omega) (by omega) (by omega) (by omega) hbn hv a2
  rcases hv1 with ⟨v10, m1⟩ | ⟨v10, m1⟩
  · rw [v10] at c74 ⊢
    rw [br00]
    exact c74 1 (by rw [m1]; rfl)
  · rw [v10] at c74 ⊢
    rw [br10]
    exact c74 0 (by rw [m1]; rfl)
end
end
section
def CHY (TN SN σ R0 many : Nat) (B o xb l : Int) (k : Nat) (u v : MS) : Prop := F v 72 = 0 → F v 66 = 0 → TN ≤ 1500 → ∃ (μ : Nat → Nat → Nat) (r : Nat → Nat) (mm X Y : Nat), CHD v SN false ((R0 : Nat) : Int) k μ r many B.toNat mm X Y (hlo σ v) ∧ (μ 0 = mks u ∧ μ k = mks v) ∧ RLS v k r ∧ (0 < k → A v 28 R0 = ((r (k - 1) : Nat) : Int) ∧ l = ((μ (k - 1) 1 : Nat) : Int)) ∧ mm ≤ 40 ∧ (mm : Int) ≤ A v 64 σ ∧ 2 * (X : Int) ≤ xb ∧ (Y : Int) + o ≤ 25
def RTL (v : MS) (o n : Int) (R0 : Nat) : Prop := ∃ l, CHL v (F v 32).toNat (A v 28 R0) l ∧ ∀ r, r ∈ l → RTD v (25 - o).toNat n.toNat r
def PRS (u0 : MS) (TN SN : Nat) (bw : Nat → Nat) (σ R0 many : Nat) (B z p o n q c f h s wt : Int) (u v : MS) (k : Nat) (l p1 : Int) : Prop := F v 67 = 0 ∧ ∃ n1 q1 c1 f1 h1 : Int, ST u0 σ p1 o n1 q1 c1 f1 h1 s wt 0 v ∧ KPR σ (wa u 28 R0 (A v 28 R0)) v ∧ p1 ≤ TN ∧ DLT bw z 0 0 p n q c f h p1 n1 q1 c1 f1 h1 ∧ RTL v o n R0 ∧ (A v 60 σ = B ∧ (k = 0 → l = -1 ∧ A v 28 R0 = -1 ∧ c1 = c) ∧ (0 < k → c ≤ l ∧ l < c1 ∧ A v 45 l.toNat = -1 ∧ p + 3 ≤ p1)) ∧ CHY TN SN σ R0 many B o (p1 - p + 1) l k u v
section
variable {Q : MS → Int32 → Prop} {u0 u v w x : MS} {N σ TN SN e R0 many k : Nat} {bw : Nat → Nat} {p o n q c f h s wt g D d B l p1 z : Int} {r v1 v3 v4 : Int32} {S : SG_M_behind}
theorem CHL_mo {b b2 : Nat} (h : b ≤ b2) : ∀ (l : List Nat) (x : Int), CHL w b x l → CHL w b2 x l := by
  intro l x hl
  cases l with
  | nil => exact hl
  | cons r l => exact ⟨hl.1, by have := hl.2.1; omega, hl.2.2⟩
theorem CHL_ag : ∀ (l : List Nat) (b : Nat) (x : Int), CHL v b x l → (∀ i, i < b → A w 29 i = A v 29 i) → CHL w b x l ∧ ∀ r, r ∈ l → r < b := by
  intro l
  induction l with
  | nil => intro b x hl _; exact ⟨hl, fun r hr => by cases hr⟩
  | cons t l ih =>
    intro b x hl ha
    obtain ⟨h1, h2, h3⟩ := hl
    obtain ⟨i1, i2⟩ := ih t _ h3 (fun i hi => ha i (by omega))
    refine ⟨⟨h1, h2, by rw [ha t h2]; exact i1⟩, fun r hr => ?_⟩
    rcases List.mem_cons.mp hr with z | z
    · omega
    · have := i2 r z; omega
theorem CHY_add {n1 q1 c1 f1 h1 p2 n2 q2 c2 f2 h2 : Int} (ev : F v 32 = n1 ∧ F v 46 = c1 ∧ 0 ≤ n1 ∧ 0 ≤ c1) (hv : CHY TN SN σ R0 many B o (p1 - p + 1) l k u v) (hu : F u 32 = n ∧ (R0 : Int) < n) (hk0 : k = 0 → A v 28 R0 = -1) (hkx : KPR σ (wa v 28 R0 e) x) (re : RG ((e : Nat) : Int)) (h29 : A x 29 e = A v 28 R0) (x45 : A x 45 c1.toNat = -1) (hl : 0 < k → 0 ≤ l ∧ l < c1) (pry : PRY TN SN σ R0 many B o (p2 - p1 + 1) v x e) (hp : p ≤ p1 ∧ p1 ≤ p2) (hx : (k = 0 ∧ w = x) ∨ (0 < k ∧ w = wa x 45 l.toNat c1)) (hnn : n ≤ n1) (rc : RG c1) : CHY TN SN σ R0 many B o (p2 - p + 1) c1 (k + 1) u w := by
  intro z1 z2 z3
  obtain ⟨e32, e46, n0, c0⟩ := ev
  have wF : ∀ t, F w t = F x t := fun t => by
    rcases hx with ⟨-, y⟩ | ⟨-, y⟩
    · rw [y]
    · rw [y, F_wa]
  have wA : ∀ t i, (t = 45 → 0 < k → i ≠ l.toNat) → A w t i = A x t i := fun t i ht => by
    rcases hx with ⟨-, y⟩ | ⟨y0, y⟩
    · rw [y]
    · rw [y]
      by_cases z : t = 45
      · exact wa_ne (ht z y0)
      · exact wa_rne z
  have x1 := hkx.2.2.2.2.2.1 (by rw [← wF]; exact z1)
  have x2 := hkx.2.2.2.2.2.2 (by rw [← wF]; exact z2)
  obtain ⟨μ, rr, mm, X, Y, ch, ⟨m0, mk⟩, rl, lk, g1, g2, g3, g4⟩ := hv x1 x2 z3
  obtain ⟨mm2, X2, Y2, pt, t1, t2, t3, t4⟩ := pry (by rw [← wF]; exact z1) (by rw [← wF]; exact z2) z3
  have mw : mks w = mks x := mks_c (fun t _ => wF t)
  have kn := KPR_n hkx
  have h0 : hlo σ (wa v 28 R0 e) = hlo σ v := by unfold hlo; rw [wa_rne (by decide)]
  have h6 : A (wa v 28 R0 e) 64 σ = A v 64 σ := wa_rne (by decide)
  have hw : hlo σ w = hlo σ x := by unfold hlo; rw [wA 63 σ (fun z => by omega)]
  have w6 : A w 64 σ = A x 64 σ := wA 64 σ (fun z => by omega)
  rw [h0, h6] at kn
  have le : ∀ j t, j ≤ k → μ 0 t ≤ μ j t ∧ μ j t ≤ mks v t := fun j t hj => by
    have q1 := CHD_le ch j 0 (by omega) t
    have q2 := CHD_le ch (k - j) j (by omega) t
    rw [Nat.zero_add] at q1
    rw [show j + (k - j) = k by omega, mk] at q2
    exact ⟨q1, q2⟩
  have u0' : μ 0 0 = n.toNat := by rw [m0]; show (F u 32).toNat = _; rw [hu.1]
  have v0 : mks v 0 = n1.toNat := by show (F v 32).toNat = _; rw [e32]
  have v1' : mks v 1 = c1.toNat := by show (F v 46).toNat = _; rw [e46]
  have m28 : ∀ t, t ∈ [40, 41, 42, 43, 45] → t ≠ 28 := by decide
  have m33 : ∀ t, t ∈ [33, 35, 36, 37, 38] → t ≠ 28 ∧ t ≠ 45 := by decide
  have m53 : ∀ t, t ∈ [53, 54, 55] → t ≠ 28 ∧ t ≠ 45 := by decide
  have m23 : ∀ t, t ∈ [23, 24, 25, 26, 27, 28, 29, 30, 31] → t ≠ 45 := by decide
  have xr : ∀ (t i : Nat), t ∈ [23, 24, 25, 26, 27, 28, 29, 30, 31] → (i : Int) < n1 → (t = 28 → i ≠ R0) → A w t i = A v t i := fun t i ht hi hne => by
    rw [wA t i (fun z => absurd z (m23 t ht)), hkx.2.1.1 t i ht (by rw [F_wa, e32]; exact hi)]
    by_cases z : t = 28
    · exact wa_ne (hne z)
    · exact wa_rne z
  have xc : ∀ (t i : Nat), t ∈ [40, 41, 42, 43, 45] → (i : Int) < c1 → (t = 45 → 0 < k → i ≠ l.toNat) → A w t i = A v t i := fun t i ht hi hne => by
    rw [wA t i hne, hkx.2.1.2.2.1 t i ht (by rw [F_wa, e46]; exact hi), wa_rne (m28 t ht)]
  have lt1 : ∀ j, j < k → μ j 1 < μ (j + 1) 1 := fun j hj => (PTD_le (ch.1 j hj)).2.2.1
  have ptw : PTD w SN false ((R0 : Nat) : Int) (mks v) (mks x) many B.toNat mm2 X2 Y2 (hlo σ x) e := by
    refine PTD_ag pt ⟨wF 14, fun t i ht _ _ _ => wA t i (fun z => absurd z (m23 t ht)), fun t i ht h1 _ _ => wA t i (fun z y => ?_), fun t i ht _ => wA t i (fun z => absurd z (m33 t ht).2), fun t i ht _ _ => wA t i (fun z => absurd z (m53 t ht).2), fun i _ => wA 57 i (fun z => by omega)⟩
    have := hl y
    omega
  have ple := PTD_le pt
  refine ⟨fun j => if j ≤ k then μ j else mks w, fun j => if j < k then rr j else e, max mm mm2, max X X2, max Y Y2, ⟨fun j hj => ?_, fun j hj => ?_, fun _ => ?_⟩, ⟨?_, ?_⟩, fun j hj => ⟨fun y => ?_, fun y => ?_⟩, fun _ => ⟨?_, ?_⟩, by omega, by omega, by omega, by omega⟩
  · by_cases y : j < k
    · simp only [show j ≤ k by omega, show j + 1 ≤ k by omega, y, if_true]
      refine PTD_mo (PTD_ag (ch.1 j y) ⟨?_, fun t i ht h1 h2 _ => xr t i ht ?_ (fun _ => ?_), fun t i ht h1 h2 h3 => xc t i ht ?_ (fun z y0 => ?_), fun t i ht h2 => ?_, fun t i ht h1 h2 => ?_, fun i h2 => ?_⟩) (Nat.le_max_left _ _) (Nat.le_max_left _ _) (Nat.le_max_left _ _) (by omega)
      · rw [wF 14]; exact hkx.1.F (by decide)
      · have := (le (j + 1) 0 (by omega)).2; omega
      · have := (le j 0 (by omega)).1; omega
      · have := (le (j + 1) 1 (by omega)).2; omega
      · have h4 := (lk y0).2
        have h5 := h3 z
        by_cases q : j = k - 1
        · rw [← q] at h4; omega
        · have q1 := CHD_le ch (k - 1 - (j + 1)) (j + 1) (by omega) 1
          rw [show j + 1 + (k - 1 - (j + 1)) = k - 1 by omega] at q1
          omega
      · have := (le (j + 1) 2 (by omega)).2
        have e2 : mks v 2 = (F v 39).toNat := rfl
        rw [wA t i (fun z => absurd z (m33 t ht).2), hkx.2.1.2.1 t i ht (by rw [F_wa]; omega), wa_rne (m33 t ht).1]
      · have := (le (j + 1) 3 (by omega)).2
        have e2 : mks v 3 = (F v 56).toNat := rfl
        rw [wA t i (fun z => absurd z (m53 t ht).2), hkx.2.1.2.2.2.1 t i ht (by rw [F_wa]; omega), wa_rne (m53 t ht).1]
      · have := (le (j + 1) 4 (by omega)).2
        have e2 : mks v 4 = (F v 58).toNat := rfl
        rw [wA 57 i (fun z => by omega), hkx.2.1.2.2.2.2 i (by rw [F_wa]; omega), wa_rne (by decide)]
    · obtain rfl : j = k := by omega
      simp only [Nat.le_refl, if_true, show ¬ (j + 1 ≤ j) by omega, if_false, Nat.lt_irrefl]
      rw [mw, mk, hw]
      exact PTD_mo ptw (Nat.le_max_right _ _) (Nat.le_max_right _ _) (Nat.le_max_right _ _) (Nat.le_refl _)
  · simp only [show j ≤ k by omega, show j + 1 ≤ k by omega, if_true]
    have y0 : 0 < k := by omega
    have h4 := (lk y0).2
    by_cases y : j + 1 < k
    · rw [xc 45 _ (by decide) (by have := (le j 1 (by omega)).2; have := lt1 j (by omega); have := (le (j + 1) 1 (by omega)).2; omega) (fun _ _ => ?_)]
      · exact ch.2.1 j y
      · have q1 := CHD_le ch (k - 1 - (j + 1)) (j + 1) (by omega) 1
        rw [show j + 1 + (k - 1 - (j + 1)) = k - 1 by omega] at q1
        have := lt1 j (by omega)
        omega
    · obtain rfl : j = k - 1 := by omega
      rw [show k - 1 + 1 = k by omega, mk, v1']
      rcases hx with ⟨y, -⟩ | ⟨-, y⟩
      · omega
      · rw [y, show μ (k - 1) 1 = l.toNat by omega, wa_eq rc]; omega
  · simp only [Nat.add_sub_cancel, Nat.le_refl, if_true]
    rw [mk, v1', wA 45 _ (fun _ y => by have := hl y; omega)]
    exact x45
  · simp only [Nat.zero_le, if_true]; exact m0
  · simp only [show ¬ (k + 1 ≤ k) by omega, if_false]
  · by_cases q : j < k
    · simp only [q, if_true]
      have := CHD_r ch q
      rw [xr 29 _ (by decide) (by rw [mk] at this; omega) (fun z => by omega)]
      exact (rl j q).1 y
    · simp only [q, if_false]
      rw [wA 29 _ (fun z => by omega), h29]
      exact hk0 (by omega)
  · by_cases q : j < k
    · simp only [q, show j - 1 < k by omega, if_true]
      have := CHD_r ch q
      rw [xr 29 _ (by decide) (by rw [mk] at this; omega) (fun z => by omega)]
      exact (rl j q).2 y
    · simp only [q, show j - 1 < k by omega, if_false, if_true]
      rw [wA 29 _ (fun z => by omega), h29, show j - 1 = k - 1 by omega]
      exact (lk (by omega)).1
  · simp only [Nat.add_sub_cancel, Nat.lt_irrefl, if_false]
    rw [wA 28 _ (fun z => by omega), hkx.2.1.1 28 R0 (by decide) (by rw [F_wa, e32]; omega)]
    exact wa_eq re
  · simp only [Nat.add_sub_cancel, Nat.le_refl, if_true]
    rw [mk, v1']; omega
end
end
section
section
variable {Q : MS → Int32 → Prop} {u0 u v w x : MS} {N σ TN SN e R0 many k : Nat} {bw : Nat → Nat} {p o n q c f h s wt g D d B l p1 z : Int} {r v1 v3 v4 : Int32} {S : SG_M_behind}
theorem wa_wa {k i : Nat} {y z : Int} : wa (wa u k i y) k i z = wa u k i z := by
  obtain ⟨u1, u2, u3, u4⟩ := u
  show (u1, u2, (fun k' => if k' = k then upd ((fun k' => if k' = k then upd (u3 k) i (I y) else u3 k') k) i (I z) else (fun k' => if k' = k then upd (u3 k) i (I y) else u3 k') k'), u4) = (u1, u2, (fun k' => if k' = k then upd (u3 k) i (I z) else u3 k'), u4)
  have : (fun k' => if k' = k then upd ((fun k' => if k' = k then upd (u3 k) i (I y) else u3 k') k) i (I z) else (fun k' => if k' = k then upd (u3 k) i (I y) else u3 k') k') = (fun k' => if k' = k then upd (u3 k) i (I z) else u3 k') := by
    funext k'
    by_cases z : k' = k
    · simp only [z, if_true]
      funext j
      unfold upd
      by_cases zj : j = i
      · simp [zj]
      · simp [zj]
    · simp only [z, if_false]
  rw [this]
theorem CHY_nx {xb xb2 : Int} (h : CHY TN SN σ R0 many B o xb l k u w) (hx : xb ≤ xb2) : CHY TN SN σ R0 many B o xb2 l k u (nx1 w) := by
  intro z1 z2 z3
  have kc : KPR σ w (nx1 w) := KPR_w0 KPR_rf (by decide)
  obtain ⟨μ, rr, mm, X, Y, ch, ⟨m0, mk⟩, rl, lk, g1, g2, g3, g4⟩ := h (kc.2.2.2.2.2.1 z1) (kc.2.2.2.2.2.2 z2) z3
  have mv : mks (nx1 w) = mks w := wi_mks (by decide)
  have kn := KPR_n kc
  refine ⟨μ, rr, mm, X, Y, ⟨fun j hj => PTD_mo (PTD_ag (ch.1 j hj) (AGR_kp kc (fun i => ?_))) (Nat.le_refl _) (Nat.le_refl _) (Nat.le_refl _) kn.2.1, ch.2.1, ch.2.2⟩, ⟨m0, mk.trans mv.symm⟩, rl, lk, g1, g2, by omega, g4⟩
  have q2 := CHD_le ch (k - (j + 1)) (j + 1) (by omega) i
  rw [show j + 1 + (k - (j + 1)) = k by omega, mk] at q2
  exact q2
theorem RTL_nx (h : RTL w o n R0) : RTL (nx1 w) o n R0 := by
  obtain ⟨l, c1, c2⟩ := h
  have e : F (nx1 w) 32 = F w 32 := wi_ne (by decide)
  refine ⟨l, ?_, fun r hr => RTD_fr _ _ (c2 r hr) rfl (fun _ _ _ _ _ => rfl)⟩
  rw [e]
  exact (CHL_ag (w := nx1 w) l _ _ c1 (fun _ _ => rfl)).1
theorem RTL_add {n1 : Int} (hv : RTL v o n R0) (e32 : F v 32 = n1) (hkx : KPR σ (wa v 28 R0 e) x) (hR : (R0 : Int) < n) (hn : n ≤ n1 ∧ n1 ≤ e) (rt : RTD x (25 - o).toNat n1.toNat e) (h29 : A x 29 e = A v 28 R0) (he : (e : Int) < F x 32) (re : RG ((e : Nat) : Int)) (hx : w = x ∨ ∃ i y, w = wa x 45 i y) : RTL w o n R0 := by
  obtain ⟨l, c1, c2⟩ := hv
  have wF : F w 32 = F x 32 := by
    rcases hx with y | ⟨i, y, z⟩
    · rw [y]
    · rw [z, F_wa]
  have wA : ∀ t i, t ≠ 45 → A w t i = A x t i := fun t i ht => by
    rcases hx with y | ⟨j, y, z⟩
    · rw [y]
    · rw [z]; exact wa_rne ht
  have m2 : ∀ t, t ∈ [28, 29] → t ∈ [23, 24, 25, 26, 27, 28, 29, 30, 31] ∧ t ≠ 45 := by decide
  have xr : ∀ (t i : Nat), t ∈ [28, 29] → (i : Int) < n1 → (t = 28 → i ≠ R0) → A w t i = A v t i := fun t i ht hi hne => by
    rw [wA t i (m2 t ht).2, hkx.2.1.1 t i (m2 t ht).1 (by rw [F_wa, e32]; exact hi)]
    by_cases z : t = 28
    · exact wa_ne (hne z)
    · exact wa_rne z
  have w28 : A w 28 R0 = e := by
    rw [wA 28 R0 (by decide), hkx.2.1.1 28 R0 (by decide) (by rw [F_wa, e32]; omega)]
    exact wa_eq re
  obtain ⟨d1, d2⟩ := CHL_ag (w := w) l _ _ c1 (fun i hi => xr 29 i (by decide) (by omega) (fun z => by omega))
  refine ⟨e :: l, ⟨w28, by omega, ?_⟩, fun t ht => ?_⟩
  · rw [wA 29 e (by decide), h29]
    exact CHL_mo (by omega) _ _ d1
  · rcases List.mem_cons.mp ht with z | z
    · rw [z]
      refine RTD_dn (a := n1.toNat) (by omega) _ _ ?_
      exact RTD_fr _ _ rt (wA 28 e (by decide)) (fun t i hr _ _ => wA t i (m2 t hr).2)
    · have hb := d2 t z
      have ha := RTD_a _ _ (c2 t z)
      exact RTD_fr _ _ (c2 t z) (xr 28 t (by decide) (by omega) (fun _ => by omega)) (fun t' i hr h1 h2 => xr t' i hr (by omega) (fun _ => by omega))
set_option maxRecDepth 100000 in
theorem parts_loop (tk : TKW u0 TN SN bw) (hN : 20000 ≤ N) (hD : 0 ≤ D ∧ D ≤ 2900) (ho : 0 ≤ o ∧ o ≤ 25) (hg : XGD u0 TN SN bw D o S.2.2.2.2.2.2.2.2.2.2.2.2.2.2.2.1) (hgn : XGN S.2.2.2.2.2.2.2.2.2.2.2.2.2.2.2.1) (hgc : XGC u0 TN SN bw D o S.2.2.2.2.2.2.2.2.2.2.2.2.2.2.1) (hb : XSB u0 TN SN bw D o S.2.2.2.2.1) (hbn : XNO S.2.2.2.2.1) (hu : ST u0 σ p o n q c f h s wt 0 u) (hm : NM TN bw 0 0 0 σ p o n q c f h s wt) (hq : 2 * q + 1 ≤ p) (hB : A u 60 σ = B) (lu : LGS σ u) (hR : (R0 : Int) < n) (hv1 : (v1 = 0 ∧ many = 1) ∨ (v1 = 1 ∧ many = 0)) : ∀ (i : Nat) (v : MS) (k : Nat) (l p1 : Int), PRS u0 TN SN bw σ R0 many B 0 p o n q c f h s wt u v k l p1 → 4003 - p1 < i → OK (fun x r => (r = I c ∧ ∃ k l p2, 0 < k ∧ PRS u0 TN SN bw σ R0 many B 3 p o n q c f h s wt u x k l p2) ∨ FSM u0 TN σ (D + 10) x) (gg_M_parts0 N S i v v1 (I R0) (I (if k = 0 then -1 else c)) (I l) 1) := by
  have hT := tk.1.1
  have fs := NM_fs hm (by omega)
  have e32u : F u 32 = n := hu.2.1.2.2.1
  have e46u : F u 46 = c := hu.2.1.2.2.2.2.1
  have hc : 0 ≤ c ∧ c < 1399 := by unfold NM at hm; omega
  intro i
  induction i with
  | zero => intro v k l p1 hv hi; obtain ⟨-, n1, q1, c1, f1, h1, -, -, b4, -⟩ := hv; omega
  | succ i ih =>
    intro v k l p1 hv hi
    obtain ⟨i', rfl⟩ : ∃ i', i = i' + 1 := ⟨i - 1, by obtain ⟨-, n1, q1, c1, f1, h1, -, -, b4, -⟩ := hv; omega⟩
    obtain ⟨b0, n1, q1, c1, f1, h1, b1, b2, b3, b4, b5, ⟨b6, b7, b8⟩, b9⟩ := hv
    have nm1 := NM_dlt tk hm b4 (by omega) (by omega) b3
    have hc1 : 0 ≤ c1 ∧ c1 < 1399 := by unfold NM at nm1; omega
    have e32 : F v 32 = n1 := b1.2.1.2.2.1
    have e46 : F v 46 = c1 := b1.2.1.2.2.2.2.1
    have hn1 : n ≤ n1 ∧ c ≤ c1 ∧ p ≤ p1 ∧ 2 * q1 + 1 ≤ p1 := by unfold DLT at b4; omega
    have fs1 := NM_fs nm1 (by omega)
    have lv : LGS σ v := fun z => by
      have := lu (b2.2.2.2.2.2.2 z)
      omega
    show OK _ (fb_M_parts0_19 N S (gg_M_parts0 N S (i' + 1)) v v1 (I R0) (I (if k = 0 then -1 else c)) (I l) 1)
    have stop : ∀ (w : MS) (a b : Int32), gg_M_parts0 N S (i' + 1) w v1 (I R0) a b 0 = some (w, a) := fun w a b => rfl
    have lb : (k = 0 ∧ l = -1) ∨ (0 < k ∧ 0 ≤ l ∧ l < c1) := by
      rcases Nat.eq_zero_or_pos k with y | y
      · exact Or.inl ⟨y, (b7 y).1⟩
      · exact Or.inr ⟨y, by have := b8 y; omega, (b8 y).2.1⟩
    refine part_ok (many := many) tk hN hD ho hg hgn hgc hb hbn b1 b0 nm1 hn1.2.2.2 b6 lv (by omega) hv1 (fun x hx => ?_) (fun x hx => ?_)
    · obtain ⟨d0, p2, n2, q2, c2, f2, h2, e, d1, d2, d3, ⟨d4, d5, d6⟩, d7, d8, d9⟩ := hx
      have nm2 := NM_dlt tk nm1 d4 (by omega) (by omega) d3
      have fs2 := NM_fs nm2 (by omega)
      have re : RG ((e : Nat) : Int) := ⟨by omega, by omega⟩
      have e69 : F x 69 = p2 := d1.2.1.1
      have ex32 : F x 32 = n2 := d1.2.1.2.2.1
      have fin : ∀ w, ((k = 0 ∧ w = x) ∨ (0 < k ∧ w = wa x 45 l.toNat c1)) → OK (fun x r => (r = I c ∧ ∃ k l p2, 0 < k ∧ PRS u0 TN SN bw σ R0 many B 3 p o n q c f h s wt u x k l p2) ∨ FSM u0 TN σ (D + 10) x) (fb_M_parts0_214 N S (gg_M_parts0 N S (i' + 1)) w v1 (I R0) (I c) (I c1)) := fun w hw => by
        have wF : ∀ t, F w t = F x t := fun t => by
          rcases hw with ⟨-, y⟩ | ⟨-, y⟩
          · rw [y]
          · rw [y, F_wa]
        have wA : ∀ t i, t ≠ 45 → A w t i = A x t i := fun t i ht => by
          rcases hw with ⟨-, y⟩ | ⟨y0, y⟩
          · rw [y]
          · rw [y]; exact wa_rne ht
        have s1 : ST u0 σ p2 o n2 q2 c2 f2 h2 s wt 0 w := by
          rcases hw with ⟨-, y⟩ | ⟨-, y⟩
          · rw [y]; exact d1
          · rw [y]; exact ST_wa d1 (by decide)
        have w28 : A w 28 R0 = e := by
          rw [wA 28 R0 (by decide), d2.2.1.1 28 R0 (by decide) (by rw [F_wa, e32]; omega)]
          exact wa_eq re
        have k1 : KPR σ (wa u 28 R0 e) x := by
          have := KPR_28 (i := R0) b2 re
          rw [wa_wa] at this
          exact KPR_tr this d2
        have k2 : KPR σ (wa u 28 R0 (A w 28 R0)) w := by
          rw [w28]
          rcases hw with ⟨-, y⟩ | ⟨y0, y⟩
          · rw [y]; exact k1
          · rw [y]; exact KPR_wc k1 (by decide) (by rw [F_wa, e46u]; have := b8 y0; omega)
        have w45 : A w 45 c1.toNat = -1 := by
          rcases hw with ⟨-, y⟩ | ⟨y0, y⟩
          · rw [y]; exact d8.2
          · rw [y, wa_ne (by have := b8 y0; omega)]; exact d8.2
        have rl : RTL w o n R0 := RTL_add b5 e32 d2 hR ⟨hn1.1, d7.1⟩ d7.2.2.1 d7.2.2.2 (by omega) re (by
          rcases hw with ⟨-, y⟩ | ⟨-, y⟩
          · exact Or.inl y
          · exact Or.inr ⟨_, _, y⟩)
        have cy : CHY TN SN σ R0 many B o (p2 - p + 1) c1 (k + 1) u w := CHY_add ⟨e32, e46, by omega, hc1.1⟩ b9 ⟨e32u, hR⟩ (fun y => (b7 y).2.1) d2 re d7.2.2.2 d8.2 (fun y => by have := b8 y; omega) d9 ⟨hn1.2.2.1, by omega⟩ hw hn1.1 ⟨by omega, by omega⟩ (q1 := q1) (f1 := f1) (h1 := h1) (n2 := n2) (q2 := q2) (c2 := c2) (f2 := f2) (h2 := h2)
        have w67 : F w 67 = 0 := (wF 67).trans d0
        have dl : DLT bw 3 0 0 p n q c f h p2 n2 q2 c2 f2 h2 := by unfold DLT at b4 d4 ⊢; omega
        have w60 : A w 60 σ = B := (wA 60 σ (by decide)).trans d8.1
        have w69 : F w 69 = p2 := (wF 69).trans e69
        have pr : ∀ z, z ≤ 3 → PRS u0 TN SN bw σ R0 many B z p o n q c f h s wt u w (k + 1) c1 p2 := fun z hz => ⟨w67, n2, q2, c2, f2, h2, s1, k2, d3, by unfold DLT at dl ⊢; omega, rl, ⟨w60, fun y => by omega, fun _ => ⟨hn1.2.1, by omega, w45, by omega⟩⟩, cy⟩
        unfold fb_M_parts0_214
        refine k_takeSign (s := 7) rfl ⟨by decide, by decide⟩ (by omega) (fun _ y => ?_) (fun _ => ?_)
        · have z2 := ST_IS s1 y
          have ltp := tok_lt tk (by omega) (show ¬ (A u0 6 (p2).toNat = 0 ∨ A u0 6 (p2).toNat = 7) by omega)
          have dn := DLT_1 (n := n2) (q := q2) (c := c2) (f := f2) (h := h2) (m := 0) tk ⟨by omega, ltp⟩ (by omega)
          rw [show n2 + 0 = n2 by omega] at dn
          have kc : KPR σ w (nx1 w) := KPR_w0 KPR_rf (by decide)
          have := ih (nx1 w) (k + 1) c1 (p2 + 1) ⟨(wi_ne (by decide)).trans w67, n2, q2, c2, f2, h2, ST_nx s1 (by omega), KPR_tr k2 kc, by omega, by unfold DLT at dl dn ⊢; omega, RTL_nx rl, ⟨w60, fun y => by omega, fun _ => ⟨hn1.2.1, by omega, w45, by omega⟩⟩, CHY_nx cy (by omega)⟩ (by omega)
          rw [if_neg (by omega)] at this
          exact this
        · rw [stop]
          exact ok_some.mpr (Or.inl ⟨rfl, k + 1, c1, p2, by omega, pr 3 (by omega)⟩)
      unfold pK
      rcases lb with ⟨y, yl⟩ | ⟨y, yl⟩
      · rw [show (I c1 : Int32) = I c from by rw [(b7 y).2.2], if_pos y]
        refine k_eq (x := l) (y := -1) ⟨by omega, by omega⟩ ⟨by decide, by decide⟩ (fun _ => ?_) (fun z => by omega)
        have := fin x (Or.inl ⟨y, rfl⟩)
        rw [show (I c1 : Int32) = I c from by rw [(b7 y).2.2]] at this
        exact this
      · rw [if_neg (by omega)]
        refine k_eq (x := l) (y := -1) ⟨by omega, by omega⟩ ⟨by decide, by decide⟩ (fun z => by omega) (fun _ => ?_)
        refine k_in (k := 45) (n := 1400) rfl (by decide) (by omega) (ok_lt.mpr ?_)
        rw [I_tn (x := l) (by omega) (by omega), wa_e]
        exact fin _ (Or.inr ⟨y, rfl⟩)
    · have bad : ∀ w a b, FSM u0 TN σ (D + 2) w → OK (fun x r => (r = I c ∧ ∃ k l p2, 0 < k ∧ PRS u0 TN SN bw σ R0 many B 3 p o n q c f h s wt u x k l p2) ∨ FSM u0 TN σ (D + 10) x) (fb_M_parts0_214 N S (gg_M_parts0 N S (i' + 1)) w v1 (I R0) a b) := fun w a b hw => by
        unfold fb_M_parts0_214
        refine k_takeSign (s := 7) rfl ⟨by decide, by decide⟩ (FSM_p hw hT) (fun y _ => absurd y hw.2.1) (fun _ => ?_)
        rw [stop]
        exact ok_some.mpr (Or.inr (FSM_mo hw (by omega)))
      unfold pK
      refine k_eq (x := l) (y := -1) ⟨by omega, by omega⟩ ⟨by decide, by decide⟩ (fun _ => bad _ _ _ hx) (fun _ => ?_)
      refine k_in (k := 45) (n := 1400) rfl (by decide) (by omega) (ok_lt.mpr ?_)
      rw [wa_e]
      exact bad _ _ _ (FSM_wa hx (by decide))
def XPT (u0 : MS) (TN SN : Nat) (bw : Nat → Nat) (D o : Int) (fn : MS → Int32 → Int32 → Option (MS × Int32)) : Prop := ∀ (u : MS) (σ R0 many : Nat) (p n q c f h s wt : Int) (v1 : Int32), ST u0 σ p o n q c f h s wt 0 u → F u 67 = 0 → NM TN bw 0 0 0 σ p o n q c f h s wt → LGS σ u → (2 * q + 1 ≤ p ∧ (R0 : Int) < n ∧ A u 28 R0 = -1) → (v1 = 0 ∧ many = 1) ∨ (v1 = 1 ∧ many = 0) → OK (fun x r => (r = I c ∧ ∃ k l p2, 0 < k ∧ PRS u0 TN SN bw σ R0 many (A u 60 σ) 3 p o n q c f h s wt u x k l p2) ∨ FSM u0 TN σ D x) (fn u v1 (I R0))
theorem parts_ok (tk : TKW u0 TN SN bw) (hN : 20000 ≤ N) (hD : 0 ≤ D ∧ D ≤ 2900) (ho : 0 ≤ o ∧ o ≤ 25) (hg : XGD u0 TN SN bw D o S.2.2.2.2.2.2.2.2.2.2.2.2.2.2.2.1) (hgn : XGN S.2.2.2.2.2.2.2.2.2.2.2.2.2.2.2.1) (hgc : XGC u0 TN SN bw D o S.2.2.2.2.2.2.2.2.2.2.2.2.2.2.1) (hb : XSB u0 TN SN bw D o S.2.2.2.2.1) (hbn : XNO S.2.2.2.2.1) : XPT u0 TN SN bw (D + 10) o (fm_M_parts0 N S) := by
  intro u σ R0 many p n q c f h s wt v1 hs hf hm hl ⟨hq, hR, h28⟩ hv1
  have fs := NM_fs hm (by omega)
  unfold fm_M_parts0 fb_M_parts0_0 fb_M_parts0_17
  refine k_F (y := 0) rfl ⟨by decide, by decide⟩ (fun _ => ?_) (fun z => absurd hf z)
  have e28 : wa u 28 R0 (A u 28 R0) = u := wa_self rfl
  have hp : F u 46 = c := hs.2.1.2.2.2.2.1
  refine parts_loop tk hN hD ho hg hgn hgc hb hbn hs hm hq rfl hl hR hv1 N u 0 (-1) p ⟨hf, n, q, c, f, h, hs, by rw [e28]; exact KPR_rf, by omega, by unfold DLT; omega, ⟨[], h28, fun r hr => by cases hr⟩, ⟨rfl, fun _ => ⟨rfl, h28, rfl⟩, fun z => by omega⟩, fun z1 z2 z3 => ?_⟩ (by omega)
  have lg := hl z2
  have sc := (hs.2.2.2.1 σ (Nat.le_refl σ)).1
  exact ⟨fun _ => mks u, fun _ => 0, 0, 0, 0, ⟨fun j hj => by omega, fun j hj => by omega, fun z => by omega⟩, ⟨rfl, rfl⟩, fun j hj => by omega, fun z => by omega, by omega, by omega, by omega, by omega⟩
theorem parts_F {v2 : Int32} (hf : F u 67 ≠ 0) (hN : 1 ≤ N) : fm_M_parts0 N S u v1 v2 = some (u, -1) := by
  obtain ⟨N', rfl⟩ : ∃ N', N = N' + 1 := ⟨N - 1, by omega⟩
  unfold fm_M_parts0 fb_M_parts0_0 fb_M_parts0_17
  have : decide (u.1 67 = 0) = false := by
    refine decide_eq_false (fun z => hf ?_)
    show (u.1 67).toInt = 0
    rw [z]; rfl
  rw [this]
  rfl
end
end
