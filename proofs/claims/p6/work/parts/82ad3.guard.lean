def GTY (TN SN σ : Nat) (o xb : Int) (u v : MS) : Prop := F v 72 = 0 → F v 66 = 0 → TN ≤ 1500 → ∃ (E : Nat → Nat) (mm X Y : Nat), SEQ v SN 2 (mks u) E 0 0 (nmo σ u) (nmo σ u) (nmo σ u) mm X Y (hlo σ v) (fun _ => False) ∧ KND v (E 0) 23 ∧ ONE E (mks v) (E 0) ∧ mm ≤ 40 ∧ (mm : Int) ≤ A v 64 σ ∧ 2 * (X : Int) ≤ xb ∧ (Y : Int) + o ≤ 25
def GTL (TN SN σ : Nat) (o xb : Int) (u v : MS) : Prop := F v 72 = 0 → F v 66 = 0 → TN ≤ 1500 → nmo σ v = nmo σ u ∧ ∃ mm X Y : Nat, SEQ v SN 2 (mks u) (mks v) 0 0 (nmo σ u) (nmo σ u) (nmo σ u) mm X Y (hlo σ v) (fun _ => False) ∧ mm ≤ 40 ∧ (mm : Int) ≤ A v 64 σ ∧ 2 * (X : Int) ≤ xb ∧ (Y : Int) + o ≤ 25
def GUQ (u0 : MS) (TN SN : Nat) (bw : Nat → Nat) (σ : Nat) (p o n q c f h s wt g : Int) (u v : MS) (r : Int32) : Prop := F v 67 = 0 ∧ r = I n ∧ ∃ p2 n2 q2 c2 f2 h2 : Int, ST u0 σ p2 o n2 q2 c2 f2 h2 s wt g v ∧ KPR σ u v ∧ p2 ≤ TN ∧ DLT bw 0 1 0 p n q c f h p2 n2 q2 c2 f2 h2 ∧ A v 60 σ = A u 60 σ ∧ LGS σ v ∧ GTY TN SN σ o (p2 - p + 1) u v
def XGC (u0 : MS) (TN SN : Nat) (bw : Nat → Nat) (D o : Int) (fn : MS → Option (MS × Int32)) : Prop := ∀ (u : MS) (σ : Nat) (p n q c f h s wt g : Int), ST u0 σ p o n q c f h s wt g u → F u 67 = 0 → NM TN bw 3 0 0 σ p o n q c f h s wt → LGS σ u → OK (fun v r => GUQ u0 TN SN bw σ p o n q c f h s wt g u v r ∨ FSM u0 TN σ D v) (fn u)
section
variable {u0 u v v1 w x y : MS} {N σ TN SN e sN : Nat} {bw : Nat → Nat} {p o n q c f h s wt g lv k t D d z l p1 p2 o1 n1 n2 q1' q2 c1 c2 f1 f2 h1 h2 xb : Int} {r y1 y2 y3 : Int32} {S : SG_M_behind} {i : Nat}
def GLS (u0 : MS) (TN SN : Nat) (bw : Nat → Nat) (σ : Nat) (xx yy p o n q c f h s wt : Int) (u v : MS) (p1 : Int) : Prop := F v 67 = 0 ∧ ∃ n1 q1 c1 f1 h1 : Int, ST u0 σ p1 o n1 q1 c1 f1 h1 s wt 1 v ∧ KPR σ u v ∧ p1 ≤ TN ∧ DLT bw xx yy 0 p n q c f h p1 n1 q1 c1 f1 h1 ∧ LGS σ v ∧ GTL TN SN σ o (p1 - p + 1) u v
theorem guard_F {G : MS → Int32 → Int32 → Int32 → Int32 → Option (MS × Int32)} (hT : TN ≤ 4000) (hσ : σ ≤ 26) (hD : D ≤ 3000) (hg : g = 0 ∨ g = 1) (hs : FSM u0 TN σ D v) : OK (fun v _ => FSM u0 TN σ (D + 1) v) (fb_M_guardCode_39 N S G v y1 (I g) y2 0) := by
  unfold fb_M_guardCode_39
  rw [br00]
  have n0 := hs.2.2.2.2.1
  have p0 := hs.2.2.1
  refine k_node (k := 23) (t := F v 69) rfl (by decide) I_F (by omega) (by omega) (fun v1 hv1 => ok_ck.mpr ⟨?_, ok_lt.mpr ?_⟩)
  · rcases hg with hg | hg
    · rw [hg]; rfl
    · rw [hg]; rfl
  rw [wi_e]
  have s1 : FSM u0 TN σ (D + 1) (wi v1 73 g) := FSM_wi (FSM_nd hs hv1.1) (by decide)
  refine k_65 rfl s1.2.2.2.1 hσ (ok_lt.mpr (ok_some.mpr ?_))
  rw [I_of y2, wa_e]
  exact FSM_wa s1 (by decide)
theorem guard_loop (tk : TKW u0 TN SN bw) (hD : 0 ≤ D ∧ D ≤ 2900) (ho : 0 ≤ o ∧ o ≤ 25) (hx : XSP u0 TN SN bw D 3 0 0 0 o S.2.2.2.2.2.2.2.2.2.2.2.2.2.1) (hu : ST u0 σ p o n q c f h s wt g u) (hm : NM TN bw 3 0 0 σ p o n q c f h s wt) : ∀ (i : Nat) (v : MS) (p1 : Int), GLS u0 TN SN bw σ 0 0 p o n q c f h s wt u v p1 → 4001 - p1 < i → OK (fun v r => GUQ u0 TN SN bw σ p o n q c f h s wt g u v r ∨ FSM u0 TN σ (D + 5) v) (gg_M_guardCode N S i v (I n) (I g) (I (A u 60 σ)) 1) := by
  have hT := tk.1.1
  have fs := NM_fs hm (by omega)
  have g01 := hu.2.2.1.2.1
  have h60 := (hu.2.2.2.1 σ (Nat.le_refl σ)).1
  intro i
  induction i with
  | zero => intro v p1 hv hi; obtain ⟨-, _, _, _, _, _, _, _, h3, -⟩ := hv; omega
  | succ i ih =>
    intro v p1 hv hi
    obtain ⟨f0, n1, q1, c1, f1, h1, s1, k1, hp1, d1, l1, t1⟩ := hv
    obtain ⟨i', rfl⟩ : ∃ i', i = i' + 1 := ⟨i - 1, by omega⟩
    show OK _ (fb_M_guardCode_39 N S (gg_M_guardCode N S (i' + 1)) v (I n) (I g) (I (A u 60 σ)) 1)
    unfold fb_M_guardCode_39
    rw [br10]
    have nm1 := NM_dlt tk hm d1 (by omega) (by omega) hp1
    refine ok_bnd.mpr (ok_mono (hx v σ _ _ _ _ _ _ _ _ _ s1 f0 nm1 l1) (fun w r hw => ?_))
    rw [show o - 0 = o by omega] at hw
    have tailF : ∀ w3, FSM u0 TN σ (D + 1) w3 → OK (fun v r => GUQ u0 TN SN bw σ p o n q c f h s wt g u v r ∨ FSM u0 TN σ (D + 5) v) (bnd (fm_M_takeSign N w3 6) (fun u6 r6 => gg_M_guardCode N S (i' + 1) u6 (I n) (I g) (I (A u 60 σ)) r6)) := fun w3 hw3 => by
      refine k_takeSign (s := 6) rfl ⟨by decide, by decide⟩ (FSM_p hw3 hT) (fun z => absurd z hw3.2.1) (fun _ => ?_)
      exact ok_mono (guard_F (D := D + 1) hT (by omega) (by omega) g01 hw3) (fun _ _ z => Or.inr (FSM_mo z (by omega)))
    rcases hw with ⟨b0, p2, n2, q2, c2, f2, h2, e, b1, b2, b3, b4, b5, b6, b7, b8⟩ | hw
    · have nm2 := NM_dlt tk nm1 b5 (by omega) (by omega) b4
      have fs2 := NM_fs nm2 (by omega)
      have e32 : F w 32 = n2 := b2.2.1.2.2.1
      have e69 : F w 69 = p2 := b2.2.1.1
      refine k_node (k := 22) (t := F w 69) rfl (by decide) I_F (by omega) (by omega) (fun w3 hw3 => ?_)
      have nd := hw3.1
      have nw := NEWN_of hw3 (show 0 ≤ F w 69 ∧ F w 69 < 4002 by omega)
      have k3 : KPR σ w w3 := KPR_nd KPR_rf nd (by omega)
      have s3 := ST_nd b2 nd (by omega) (by omega) (fun z => by omega)
      have f3 : F w3 67 = 0 := (nd.1.F (by decide)).trans b0
      have l3 : LGS σ w3 := fun z => by rw [nd.1.A (by decide)]; exact b7 (k3.2.2.2.2.2.2 z)
      have dd := DLT_tr d1 b5
      have t3 : GTL TN SN σ o (p2 - p + 1) u w3 := by
        intro z1 z2 z3
        obtain ⟨m0, mm, X, Y, q1', q2', q3', q4', q5'⟩ := t1 (KPR_tr b3 k3 |>.2.2.2.2.2.1 z1) (KPR_tr b3 k3 |>.2.2.2.2.2.2 z2) z3
        obtain ⟨mm2, X2, Y2, a1, a2, a3, a4, a5⟩ := b8 (k3.2.2.2.2.2.1 z1) (k3.2.2.2.2.2.2 z2) z3
        have a1g : SEQ w SN 1 (mks v) (mks w) 0 1 (nmo σ v) (nmo σ w) (nmo σ v) mm2 X2 Y2 (hlo σ w) (fun i => i = e) := a1
        have nmw : nmo σ w = nmo σ v := a1g.1.2.1 (by decide)
        have nm3 : nmo σ w3 = nmo σ w := by unfold nmo; rw [nd.1.A (by decide)]
        have hl3 : hlo σ w3 = hlo σ w := by unfold hlo; rw [nd.1.A (by decide)]
        have h64 : A w3 64 σ = A w 64 σ := nd.1.A (by decide)
        have kvw := KPR_n b3
        have on := ONE_nd nd (show 0 ≤ F w 32 by omega)
        have g1 := SEQ_kp (SEQ_g2 a1g) (fun i => Nat.le_refl _) k3
        rw [nmw] at g1
        have x2 : 1 ≤ X2 := g1.1.2.2.2.2.2.2.2.1
        have m2 : nmo σ v ≤ mm2 := g1.1.2.2.2.2.1
        have g2 := s22 (SN := SN) (lo := nmo σ v) (m := nmo σ v) (mm := mm2) (X := X2) (Y := Y2) (sh := hlo σ w3) on nw ⟨Nat.le_refl _, m2, x2⟩
        rw [← hl3] at g1
        have g3 := SEQ_app g1 g2
        have e29 : A w3 29 e = -1 := by rw [nd.2.2.2.2 29 e (by rw [e32]; omega)]; exact b6.2.2.2
        have g4 := SEQ_ro (R2 := fun _ => False) g3 (fun i hi => hi.elim) (fun i hi => Or.inr (by
          rcases hi with hi | hi
          · rw [hi]; exact e29
          · rw [hi]; exact nw.2.2.2.2.1))
        have g5 := SEQ_kp q1' (fun i => Nat.le_refl _) (KPR_tr b3 k3)
        rw [m0] at g4
        refine ⟨by rw [nm3, nmw, m0], max mm mm2, max X X2, max Y Y2, ?_, by omega, by omega, ?_, by omega⟩
        · refine SEQ_ro (SEQ_app (SEQ_mo g5 (Nat.le_refl _) (Nat.le_max_left _ _) (Nat.le_max_left _ _) (Nat.le_max_left _ _) (by omega)) (SEQ_mo g4 (Nat.le_refl _) (Nat.le_max_right _ _) (Nat.le_max_right _ _) (Nat.le_max_right _ _) (Nat.le_refl _))) (fun i hi => hi.elim) (fun i hi => ?_)
          rcases hi with hi | hi
          · exact hi.elim
          · exact hi.elim
        · have : p ≤ p1 := by unfold DLT at d1; omega
          have : p1 < p2 := by unfold DLT at b5; omega
          omega
      have e69c : F w3 69 = p2 := s3.2.1.1
      refine k_takeSign (s := 6) rfl ⟨by decide, by decide⟩ (by omega) (fun _ z => ?_) (fun _ => ?_)
      · have z2 := ST_IS s3 z
        have ltp := tok_lt tk (by omega) (show ¬ (A u0 6 (p2).toNat = 0 ∨ A u0 6 (p2).toNat = 7) by omega)
        have dc := DLT_1 (n := n2 + 1) (q := q2) (c := c2) (f := f2) (h := h2) (m := 0) tk ⟨by omega, ltp⟩ (by omega)
        rw [show n2 + 1 + 0 = n2 + 1 by omega] at dc
        have kc : KPR σ w3 (nx1 w3) := KPR_w0 KPR_rf (by decide)
        refine ih (nx1 w3) (p2 + 1) ⟨(wi_ne (by decide)).trans f3, n2 + 1, q2, c2, f2, h2, ST_nx s3 (by omega), KPR_tr k1 (KPR_tr b3 (KPR_tr k3 kc)), by omega, ?_, fun z => l3 (kc.2.2.2.2.2.2 z), fun z1 z2 z3 => ?_⟩ (by unfold DLT at b5; omega)
        · unfold DLT at dd dc ⊢; omega
        · obtain ⟨m0, mm, X, Y, q1', q2', q3', q4', q5'⟩ := t3 (kc.2.2.2.2.2.1 z1) (kc.2.2.2.2.2.2 z2) z3
          exact ⟨m0, mm, X, Y, by rw [show mks (nx1 w3) = mks w3 from wi_mks (by decide)]; exact SEQ_kp q1' (fun i => Nat.le_refl _) kc, q2', q3', by omega, q5'⟩
      · show OK _ (fb_M_guardCode_39 N S (gg_M_guardCode N S i') w3 (I n) (I g) (I (A u 60 σ)) 0)
        unfold fb_M_guardCode_39
        rw [br00]
        have e32c : F w3 32 = n2 + 1 := s3.2.1.2.2.1
        refine k_node (k := 23) (t := F w3 69) rfl (by decide) I_F (by omega) (by omega) (fun w4 hw4 => ok_ck.mpr ⟨?_, ok_lt.mpr ?_⟩)
        · rcases g01 with z | z
          · rw [z]; rfl
          · rw [z]; rfl
        rw [wi_e]
        have nd4 := hw4.1
        have s4 := ST_73 (x := g) (ST_nd s3 nd4 (by omega) (by omega) (fun z => by omega)) g01
        have k4 : KPR σ w3 (wi w4 73 g) := KPR_w0 (KPR_nd KPR_rf nd4 (by omega)) (by decide)
        have a60 : A (wi w4 73 g) 60 σ = A w3 60 σ := nd4.1.A (by decide)
        have kn : KND (wi w4 73 g) (F w3 32).toNat 23 := KND_eq (KND_of hw4 (by omega)) (fun _ _ => rfl)
        have on4 : ONE (mks w3) (mks (wi w4 73 g)) (F w3 32).toNat := by
          rw [show mks (wi w4 73 g) = mks w4 from wi_mks (by decide)]
          exact ONE_nd nd4 (by omega)
        have kk := KPR_tr k1 (KPR_tr b3 (KPR_tr k3 k4))
        have f4 : F (wi w4 73 g) 67 = 0 := by rw [wi_ne (by decide), nd4.1.F (by decide)]; exact f3
        have e65 : F (wi w4 73 g) 65 = σ := s4.2.1.2.2.2.2.2.2.2.2.2.2.2
        generalize wi w4 73 g = w5 at *
        have k60 := (kk.2.2.1.2.2.2 σ (Nat.le_refl σ)).1
        refine k_65 rfl e65 (by omega) (ok_lt.mpr (ok_some.mpr (Or.inl ?_)))
        rw [tn_65 e65, wa_e]
        have s6 := ST_60 (x := A u 60 σ) s4 ⟨h60.1, k60⟩
        have k6 := KPR_60 (x := A u 60 σ) kk (Int.le_refl _) (ARG1 u 60 σ)
        have b60 : A (wa w5 60 σ (A u 60 σ)) 60 σ = A u 60 σ := wa_eq (ARG1 u 60 σ)
        refine ⟨f4, rfl, p2, n2 + 1 + 1, q2, c2, f2, h2, s6, k6, b4, ?_, b60, fun z => ?_, fun z1 z2 z3 => ?_⟩
        · unfold DLT at dd ⊢; omega
        · rw [b60]
          have hz := (KPR_tr b3 (KPR_tr k3 k4)).2.2.2.2.2.2 (show F w5 66 = 0 from z)
          have l0 := l1 hz
          have k60b := (k1.2.2.1.2.2.2 σ (Nat.le_refl σ)).1
          omega
        · obtain ⟨m0, mm, X, Y, q1', q2', q3', q4', q5'⟩ := t3 (k4.2.2.2.2.2.1 z1) (k4.2.2.2.2.2.2 z2) z3
          have k4n := KPR_n k4
          refine ⟨mks w3, mm, X, Y, ?_, ?_, ?_, q2', ?_, q4', q5'⟩
          · have g5 := SEQ_kp q1' (fun i => Nat.le_refl _) k4
            have g6 := SEQ_tr (σ := σ) (wt := 0) (J := 0) g5 (TRN_60 (y := A u 60 σ))
            refine SEQ_mo g6 (Nat.le_refl _) (Nat.le_refl _) (Nat.le_refl _) (Nat.le_refl _) ?_
            have : hlo σ (wa w5 60 σ (A u 60 σ)) = hlo σ w5 := by unfold hlo; rw [wa_rne (by decide)]
            rw [this]
            exact k4n.2.1
          · have m1 : ∀ r, r ∈ [23, 24, 28, 29] → r ≠ 60 := by decide
            exact KND_eq kn (fun r hr => wa_rne (m1 r hr))
          · exact on4
          · rw [wa_rne (by decide)]; omega
    · have n0 := hw.1.2.2.2.2.1
      have p0 := hw.1.2.2.1
      refine k_node (k := 22) (t := F w 69) rfl (by decide) I_F (by omega) (by omega) (fun w3 hw3 => tailF w3 (FSM_nd hw.1 hw3.1))
theorem guardCode_ok (tk : TKW u0 TN SN bw) (hN : 5000 ≤ N) (hD : 0 ≤ D ∧ D ≤ 2900) (ho : 0 ≤ o ∧ o ≤ 25) (hx : XSP u0 TN SN bw D 3 0 0 0 o S.2.2.2.2.2.2.2.2.2.2.2.2.2.1) : XGC u0 TN SN bw (D + 10) o (fm_M_guardCode N S) := by
  intro u σ p n q c f h s wt g hs hf hm hl
  have hT := tk.1.1
  have fs := NM_fs hm (by omega)
  have e65 : F u 65 = σ := hs.2.1.2.2.2.2.2.2.2.2.2.2.2
  have e32 : F u 32 = n := hs.2.1.2.2.1
  have eg : F u 73 = g := hs.2.1.2.2.2.2.2.2.2.2.2.2.1
  unfold fm_M_guardCode fb_M_guardCode_0 fb_M_guardCode_37
  refine k_65 rfl e65 (by omega) (ok_lt.mpr (ok_lt.mpr ?_))
  rw [tn_65 e65, I_A (w := u) (k := 60), show upI u 73 1 = wi u 73 1 from rfl]
  have s1 := ST_73 (x := 1) hs (Or.inr rfl)
  have k1 : KPR σ u (wi u 73 1) := KPR_w0 KPR_rf (by decide)
  have f1 : F (wi u 73 1) 67 = 0 := (wi_ne (by decide)).trans hf
  have l1 : LGS σ (wi u 73 1) := fun z => hl (by rw [← z]; exact (wi_ne (by decide)).symm)
  refine k_F (y := 0) rfl ⟨by decide, by decide⟩ (fun _ => ?_) (fun z => absurd f1 z)
  rw [I_F' e32, I_F' eg]
  refine ok_mono (guard_loop tk hD ho hx hs hm N (wi u 73 1) p ⟨f1, n, q, c, f, h, s1, k1, by omega, DLT_0, l1, fun z1 z2 z3 => ⟨rfl, ?_⟩⟩ (by omega)) (fun _ _ z => z.imp id (fun y => FSM_mo y (by omega)))
  have s2 := (hs.2.2.2.1 σ (Nat.le_refl σ)).1
  have lz := l1 z2
  have lz2 : A u 60 σ ≤ 40 := lz
  refine ⟨nmo σ u, 0, 0, ?_, by unfold nmo; omega, ?_, by omega, by omega⟩
  · rw [show mks (wi u 73 1) = mks u from wi_mks (by decide)]
    exact SEQ_nil ⟨Nat.le_refl _, Nat.le_refl _, Nat.le_refl _⟩
  · show ((nmo σ u : Nat) : Int) ≤ A u 64 σ
    unfold nmo; omega
def GDQ (u0 : MS) (TN SN : Nat) (bw : Nat → Nat) (σ : Nat) (p o n q c f h s wt g : Int) (u v : MS) (r : Int32) : Prop := F v 67 = 0 ∧ ∃ p2 n2 q2 c2 f2 h2 : Int, ST u0 σ p2 o n2 q2 c2 f2 h2 s wt g v ∧ KPR σ u v ∧ p2 ≤ TN ∧ DLT bw 0 0 0 p n q c f h p2 n2 q2 c2 f2 h2 ∧ A v 60 σ = A u 60 σ ∧ LGS σ v ∧ ((r = -1 ∧ v = u) ∨ (r = I n ∧ GTY TN SN σ o (p2 - p + 1) u v))
def XGD (u0 : MS) (TN SN : Nat) (bw : Nat → Nat) (D o : Int) (fn : MS → Option (MS × Int32)) : Prop := ∀ (u : MS) (σ : Nat) (p n q c f h s wt g : Int), ST u0 σ p o n q c f h s wt g u → F u 67 = 0 → NM TN bw 3 0 0 σ p o n q c f h s wt → LGS σ u → OK (fun v r => GDQ u0 TN SN bw σ p o n q c f h s wt g u v r ∨ FSM u0 TN σ D v) (fn u)
theorem guard_ok (tk : TKW u0 TN SN bw) (hD : 0 ≤ D) (hx : XGC u0 TN SN bw D o S.2.2.2.2.2.2.2.2.2.2.2.2.2.2.1) : XGD u0 TN SN bw (D + 10) o (fm_M_guard N S) := by
  intro u σ p n q c f h s wt g hs hf hm0 hl
  have hT := tk.1.1
  have fs := NM_fs hm0 (by omega)
  have e69 : F u 69 = p := hs.2.1.1
  unfold fm_M_guard fb_M_guard_0
  refine k_takeWord (s := 14) rfl ⟨by decide, by decide⟩ (by omega) (fun _ z => ?_) (fun _ => ?_)
  · rw [br10]
    have z2 := ST_IW hs z
    have ltp := tok_lt tk (by omega) (show ¬ (A u0 6 (p).toNat = 0 ∨ A u0 6 (p).toNat = 7) by omega)
    have d1 := DLT_1 (n := n) (q := q) (c := c) (f := f) (h := h) (m := 0) tk ⟨by omega, ltp⟩ (by omega)
    rw [show n + 0 = n by omega] at d1
    have k1 : KPR σ u (nx1 u) := KPR_w0 KPR_rf (by decide)
    refine ok_bnd.mpr (ok_mono (hx (nx1 u) σ _ _ _ _ _ _ _ _ _ (ST_nx hs (by omega)) ((wi_ne (by decide)).trans hf) (NM_dlt tk hm0 d1 (by omega) (by omega) (by omega)) (fun z => hl (k1.2.2.2.2.2.2 z))) (fun v r hv => ok_some.mpr ?_))
    rcases hv with ⟨a0, a1, p2, n2, q2, c2, f2, h2, a2, a3, a4, a5, a6, a7, a8⟩ | hv
    · refine Or.inl ⟨a0, p2, n2, q2, c2, f2, h2, a2, KPR_tr k1 a3, a4, DLT_mo (DLT_tr d1 a5) (by omega) (by omega) (by omega), a6, a7, Or.inr ⟨a1, fun z1 z2 z3 => ?_⟩⟩
      obtain ⟨E, mm, X, Y, g1, g2, g3, g4, g5, g6, g7⟩ := a8 z1 z2 z3
      rw [show mks (nx1 u) = mks u from wi_mks (by decide)] at g1
      exact ⟨E, mm, X, Y, g1, g2, g3, g4, g5, by omega, g7⟩
    · exact Or.inr (FSM_mo hv (by omega))
  · rw [br00]
    exact ok_some.mpr (Or.inl ⟨hf, p, n, q, c, f, h, hs, KPR_rf, by omega, DLT_0, rfl, hl, Or.inl ⟨rfl, rfl⟩⟩)
theorem guard_none (hp : 0 ≤ F u 69 ∧ F u 69 ≤ 4001) (hf : F u 67 ≠ 0) : fm_M_guard N S u = some (u, -1) := by
  unfold fm_M_guard fb_M_guard_0
  rw [show (14 : Int32) = I 14 from rfl, takeWord_0 hp ⟨by decide, by decide⟩ (Or.inl hf), bnd_so, br00]
end
