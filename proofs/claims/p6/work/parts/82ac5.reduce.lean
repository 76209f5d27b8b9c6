section
variable {α : Type} {Q : MS → Int32 → Prop} {u0 u v v1 w x : MS} {N σ TN SN e q0 q1 q2 q3 : Nat} {bw : Nat → Nat} {p o n q c f h s wt g lv xb xb1 xb2 k t D d y z l p1 o1 n1 q1' c1 f1 h1 κ : Int} {r y1 y2 y3 : Int32} {R R1 R2 : Nat → Prop} {M M0 M1 : Nat → Nat} {m m0 J : Nat} {G : MS → Int32 → Int32 → Int32 → Int32 → Option (MS × Int32)}
theorem red_op {L : Int} (tk : TKW u0 TN SN bw) (hn0 : 0 ≤ n) (hw0 : 0 ≤ wt ∧ 0 ≤ o ∧ 0 ≤ p) (hu : F u 32 = n ∧ F u 83 = wt) (hw : WKC u0 TN SN σ bw p o n q c f h s wt g u v p1 o1 n1 q1' c1 f1 h1 (J + 1) e) (hL : A v 79 (wt + J).toNat = L ∧ 3 ≤ L ∧ L ≤ 6) (hb : n1 ≤ 15000 ∧ p ≤ 4000) (hG : ∀ w e2, WKC u0 TN SN σ bw p o n q c f h s wt g u w p1 o1 (n1 + 1) q1' c1 f1 h1 J e2 → OK Q (G w y1 y2 (I (e2 : Int)) 1)) : OK Q (fb_M_reduce_61 N G v y1 y2 r (I L) 1) := by
  obtain ⟨⟨s0, f0, k0, hp, wn, en, ho, l0⟩, rt, ty⟩ := hw
  have hT := tk.1.1
  have e83 : F v 83 = wt + (J + 1 : Nat) := s0.2.1.2.2.2.2.2.2.2.2.2.1
  have e32 : F v 32 = n1 := s0.2.1.2.2.1
  have wnb : p ≤ p1 ∧ o ≤ o1 ∧ o1 ≤ 25 ∧ n ≤ n1 ∧ 2 * (wt + (J + 1 : Nat)) + 1 ≤ p1 + 2 * o1 := by unfold WKN at wn; omega
  have tok : (0 ≤ A v 80 (wt + J).toNat ∧ A v 80 (wt + J).toNat < TN) ∧ (A u0 6 (A v 80 (wt + J).toNat).toNat = 3 ∨ (A u0 6 (A v 80 (wt + J).toNat).toNat = 6 ∧ ((12 ≤ A u0 7 (A v 80 (wt + J).toNat).toNat ∧ A u0 7 (A v 80 (wt + J).toNat).toNat ≤ 20) ∨ A u0 7 (A v 80 (wt + J).toNat).toNat = 22 ∨ A u0 7 (A v 80 (wt + J).toNat).toNat = 23))) := by
    rcases en J (by omega) with a | ⟨a, -⟩ | ⟨-, a⟩
    · omega
    · omega
    · exact a
  have o1e : o1 = o + c7 v wt J := by
    have : c7 v wt (J + 1) = c7 v wt J + 0 := by show c7 v wt J + (if A v 79 (wt + J).toNat = 7 then 1 else 0) = _; rw [if_neg (by omega)]
    omega
  obtain ⟨tk1, tk2⟩ := tok
  generalize hT0 : A v 80 (wt + J).toNat = T0 at *
  have tv := (tk.2.1 T0.toNat (by omega)).2.2.2.2.1
  unfold fb_M_reduce_61
  rw [br10]
  refine ok_lt.mpr ?_
  rw [I_F' e83, lit1q, I_sub, show wt + (J + 1 : Nat) - 1 = wt + J from by omega, wi_e]
  have s2 := ST_83 (x := wt + J) s0 ⟨by omega, by omega⟩
  rw [show (7 : Int32) = I 7 from rfl, show (3 : Int32) = I 3 from rfl]
  refine k_eq ⟨by omega, by omega⟩ ⟨by decide, by decide⟩ (fun z => by omega) (fun _ => ?_)
  refine k_le ⟨by decide, by decide⟩ ⟨by omega, by omega⟩ (fun _ => ?_) (fun z => by omega)
  have a2 : ∀ r i, A (wi v 83 (wt + J)) r i = A v r i := fun _ _ => rfl
  have f2 : ∀ j, j ∉ [83] → F (wi v 83 (wt + J)) j = F v j := fun j hj => wi_ne (fun z => hj (by rw [z]; decide))
  have k2 : KPR σ u (wi v 83 (wt + J)) := KPR_wi k0 (by decide) (by omega) ⟨by omega, by omega⟩
  have m2 : mks (wi v 83 (wt + J)) = mks v := wi_mks (by decide)
  have tr2 : TRN σ wt J v (wi v 83 (wt + J)) (mks v) := TRN_wi (by decide)
  have e83b : F (wi v 83 (wt + J)) 83 = wt + J := s2.2.1.2.2.2.2.2.2.2.2.2.1
  have e32b : F (wi v 83 (wt + J)) 32 = n1 := s2.2.1.2.2.1
  generalize wi v 83 (wt + J) = x at *
  refine k_at (k := 80) (n := 3000) rfl (by decide) (by omega) ?_
  rw [tn_F, e83b, I_A' ((a2 80 (wt + J).toNat).trans hT0)]
  refine k_node (k := 6) rfl (by decide) rfl (by omega) (by omega) (fun v4 hv => ?_)
  have e83c : F v4 83 = wt + J := (hv.1.1.F (by decide)).trans e83b
  have a80 : A v4 80 (wt + J).toNat = T0 := (hv.1.1.A (by decide)).trans ((a2 80 _).trans hT0)
  refine k_at (k := 80) (n := 3000) rfl (by decide) (by omega) (ok_lt.mpr ?_)
  rw [tn_F, e83c, I_A' a80]
  have a6 : ∀ i, A v4 6 i = A u0 6 i := fun i => (hv.1.1.A (by decide)).trans (ST_A s2 (by decide))
  have a7 : ∀ i, A v4 7 i = A u0 7 i := fun i => (hv.1.1.A (by decide)).trans (ST_A s2 (by decide))
  have tnT : (I T0).toNatClampNeg = T0.toNat := I_tn (by omega) (by omega)
  have main : ∀ (t2 : Int32) (y : Int), t2 = I y → RG y → (100 ≤ y ∨ (12 ≤ y ∧ y ≤ 20) ∨ y = 22 ∨ y = 23) → OK Q (fb_M_reduce_254 N G v4 y1 y2 (I (F x 32)) 1 25 (I (F x 32)) t2) := fun t2 y ht2 hy hyy => by
    unfold fb_M_reduce_254 fb_M_reduce_255
    rw [show isK 25 4 = true by decide, ck_t, ht2]
    refine k_in (k := 25) (n := 16000) rfl (by decide) (by omega) (ok_lt.mpr ?_)
    rw [I_tn (x := F x 32) (by omega) (by omega), wa_e]
    have nd : NDW x (wa v4 25 (F x 32).toNat y) 6 T0 := NDW_wa hv.1 (by decide)
    have nw : NEWN (wa v4 25 (F x 32).toNat y) (F x 32).toNat 6 := NEWN_wa (NEWN_of hv (by omega)) (by decide)
    have b25 : A (wa v4 25 (F x 32).toNat y) 25 (F x 32).toNat = y := wa_eq hy
    generalize wa v4 25 (F x 32).toNat y = w at *
    rw [e32b, show I n1 = I ((n1.toNat : Nat) : Int) by congr 1; omega]
    refine hG w n1.toNat (red_fin hn0 hw0.1 hu s2 ((f2 67 (by decide)).trans f0) k2 hp (by unfold WKN at wn ⊢; omega) (fun i hi => WEN_tr (en i (by omega)) (fun r _ => a2 r _) (fun r j _ _ => a2 r j) (by rw [f2 32 (by decide)]; omega) (fun z => by rw [← f2 66 (by decide)]; exact z) hn0) ?_ (fun z => ?_) nd nw (by omega) (by omega) (fun z1 z2 z3 => ?_))
    · rw [o1e]; congr 1; exact (c7_tr J (fun i _ => a2 79 i) hw0.1).symm
    · rw [a2]; exact l0 (by rw [← f2 66 (by decide)]; exact z)
    · obtain ⟨M, m, ps, t1, t2, t3, t4⟩ := ty (by rw [← f2 72 (by decide)]; exact z1) (by rw [← f2 66 (by decide)]; exact z2) z3
      obtain ⟨M0, m0, ps0, g1, g2, g3⟩ := t1
      rcases g3 with ⟨g4, -⟩ | ⟨-, -, g5, g6⟩ | ⟨g4, -⟩
      · omega
      · have tx : TYM SN σ g (o - 1) (p1 - ps + 1) x M m 0 1 (fun i => i = e) := TYM_tr t4 tr2 m2 (by unfold nmo; rw [a2])
        have x2 : 2 ≤ p1 - ps + 1 := by
          obtain ⟨mm, X, Y, s1, -, -, s5, -⟩ := tx
          have := s1.1.2.2.2.2.2.2.2.1
          omega
        have px : PCE SN σ g (o - 1) (ps - ps0) x M0 M m0 m := PCE_tr g6 (TRN_le tr2 t2 (Nat.le_refl _))
        have t6 : TYM SN σ g (o - 1) (p1 - ps0 + 1) x M0 m0 0 (1 + 1) (fun i => i = e) := PCE_app (e := 1) px tx rfl (by omega) (by omega)
        have kw : KPR σ x w := KPR_nd KPR_rf nd (by omega)
        have tn : TYM SN σ g (o - 1) (p1 - ps0 + 1) w (mks x) (nmo σ x) 2 1 (fun i => i = (F x 32).toNat) := by
          have lx : LGS σ x := fun z => by rw [a2]; exact l0 (by rw [← f2 66 (by decide)]; exact z)
          refine TYM_of (TYG_nd (TN := TN) (xx := 2) nd (by omega) s2.2.2.2.1 lx (fun mm X Y y1 y2 => ?_) (by omega) (by omega)) ((nd.1.F (by decide)).trans z1) ((nd.1.F (by decide)).trans z2) z3
          exact s6 (ONE_nd nd (by omega)) nw ⟨Nat.le_refl _, y1, y2⟩ (by rw [b25]; exact hyy)
        refine ⟨M0, m0, ps0, STK_tr J M0 m0 ps0 g1 hw0.1 (TRN_le tr2 (fun i => Nat.le_trans (g2 i) (t2 i)) (Nat.le_refl _)), fun i => by rw [m2]; exact Nat.le_trans (g2 i) (t2 i), by omega, ?_⟩
        refine TYM_ro (TYM_app (e := 0) t6 kw tn rfl (Int.le_refl _) (by omega)) (fun i hi => Or.inr hi) (fun i hi => ?_)
        rcases hi with hi | hi
        · refine Or.inr ?_
          rw [hi, nd.2.2.2.2 29 e (by rw [e32b]; have := rt.2.1; omega), a2]
          exact rt.2.2.2
        · exact Or.inl hi
      · omega
  refine k_in (k := 6) (n := 4002) rfl (by decide) (by omega) ?_
  rw [tnT, I_A' (a6 T0.toNat), show (100 : Int32) = I 100 from rfl, I_A' (a7 T0.toNat), I_add]
  refine k_eq (ARG1 u0 6 _) ⟨by decide, by decide⟩ (fun z => ?_) (fun z => ?_)
  · have := tv z
    exact k_in (k := 7) (n := 4002) rfl (by decide) (by omega) (main _ _ rfl ⟨by omega, by omega⟩ (by omega))
  · refine k_in (k := 7) (n := 4002) rfl (by decide) (by omega) (main _ _ rfl (ARG1 u0 7 _) ?_)
    rcases tk2 with y | ⟨-, y⟩
    · exact absurd y z
    · exact Or.inr y
theorem red_and {L : Int} (hT : TN ≤ 4000) (hσ : σ ≤ 26) (hn0 : 0 ≤ n) (hw0 : 0 ≤ wt ∧ 0 ≤ o ∧ 0 ≤ p) (hu : F u 32 = n ∧ F u 83 = wt ∧ 0 ≤ A u 60 σ) (hw : WKC u0 TN SN σ bw p o n q c f h s wt g u v p1 o1 n1 q1' c1 f1 h1 (J + 1) e) (hL : A v 79 (wt + J).toNat = L ∧ (L = 1 ∨ L = 2)) (hb : n1 ≤ 15000 ∧ p ≤ 4000) (hG : ∀ w e2 n2, WKC u0 TN SN σ bw p o n q c f h s wt g u w p1 o1 n2 q1' c1 f1 h1 J e2 → OK Q (G w y1 y2 (I (e2 : Int)) 1)) : OK Q (fb_M_reduce_61 N G v y1 y2 r (I L) 1) := by
  obtain ⟨⟨s0, f0, k0, hp, wn, en, ho, l0⟩, rt, ty⟩ := hw
  have e83 : F v 83 = wt + (J + 1 : Nat) := s0.2.1.2.2.2.2.2.2.2.2.2.1
  have e32 : F v 32 = n1 := s0.2.1.2.2.1
  have wnb : p ≤ p1 ∧ o ≤ o1 ∧ o1 ≤ 25 ∧ n ≤ n1 ∧ 2 * (wt + (J + 1 : Nat)) + 1 ≤ p1 + 2 * o1 := by unfold WKN at wn; omega
  have ent : (n ≤ A v 81 (wt + J).toNat ∧ A v 81 (wt + J).toNat < F v 32 ∧ (A v 23 (A v 81 (wt + J).toNat).toNat = 9 ∨ A v 23 (A v 81 (wt + J).toNat).toNat = 10) ∧ A v 28 (A v 81 (wt + J).toNat).toNat = -1 ∧ A v 29 (A v 81 (wt + J).toNat).toNat = -1) ∧ A u 60 σ ≤ A v 82 (wt + J).toNat ∧ (F v 66 = 0 → A v 82 (wt + J).toNat ≤ 40) := by
    rcases en J (by omega) with a | ⟨-, a⟩ | ⟨a, -⟩
    · omega
    · exact a
    · omega
  have o1e : o1 = o + c7 v wt J := by
    have : c7 v wt (J + 1) = c7 v wt J + 0 := by show c7 v wt J + (if A v 79 (wt + J).toNat = 7 then 1 else 0) = _; rw [if_neg (by omega)]
    omega
  obtain ⟨en1, en2, en3⟩ := ent
  obtain ⟨Nn, hNn⟩ : ∃ Nn : Nat, A v 81 (wt + J).toNat = Nn := ⟨(A v 81 (wt + J).toNat).toNat, by omega⟩
  rw [hNn, Int.toNat_natCast] at en1
  unfold fb_M_reduce_61
  rw [br10]
  refine ok_lt.mpr ?_
  rw [I_F' e83, lit1q, I_sub, show wt + (J + 1 : Nat) - 1 = wt + J from by omega, wi_e]
  have s2 := ST_83 (x := wt + J) s0 ⟨by omega, by omega⟩
  rw [show (7 : Int32) = I 7 from rfl, show (3 : Int32) = I 3 from rfl]
  refine k_eq ⟨by omega, by omega⟩ ⟨by decide, by decide⟩ (fun z => by omega) (fun _ => ?_)
  refine k_le ⟨by decide, by decide⟩ ⟨by omega, by omega⟩ (fun z => by omega) (fun _ => ?_)
  have a2 : ∀ r i, A (wi v 83 (wt + J)) r i = A v r i := fun _ _ => rfl
  have f2 : ∀ j, j ∉ [83] → F (wi v 83 (wt + J)) j = F v j := fun j hj => wi_ne (fun z => hj (by rw [z]; decide))
  have k2 : KPR σ u (wi v 83 (wt + J)) := KPR_wi k0 (by decide) (by omega) ⟨by omega, by omega⟩
  have m2 : mks (wi v 83 (wt + J)) = mks v := wi_mks (by decide)
  have tr2 : TRN σ wt J v (wi v 83 (wt + J)) (mks v) := TRN_wi (by decide)
  have e83b : F (wi v 83 (wt + J)) 83 = wt + J := s2.2.1.2.2.2.2.2.2.2.2.2.1
  have e32b : F (wi v 83 (wt + J)) 32 = n1 := s2.2.1.2.2.1
  generalize wi v 83 (wt + J) = x at *
  refine k_at (k := 82) (n := 3000) rfl (by decide) (by omega) ?_
  rw [tn_F, e83b]
  refine unbind_M (SN := SN) (u := u) (B := A v 82 (wt + J).toNat) s2 ((f2 67 (by decide)).trans f0) k2 (by omega) (by omega) hσ (I_A' (a2 82 _)) ⟨by omega, ARG1 v 82 _, en2, fun z => en3 (by rw [← f2 66 (by decide)]; exact z)⟩ (fun z => by rw [a2]; exact l0 (by rw [← f2 66 (by decide)]; exact z)) (by omega) (fun w n2 hn2 s3 f3 k3 fr3 l3 tr3 ty3 => ?_)
  have e83c : F w 83 = wt + J := s3.2.1.2.2.2.2.2.2.2.2.2.1
  have e32c : F w 32 = n2 := s3.2.1.2.2.1
  have row : ∀ r i, r ∈ [79, 80, 81, 82] → A w r i = A v r i := fun r i hr => by
    have : ∀ r, r ∈ [79, 80, 81, 82] → r ∉ [23, 24, 25, 26, 27, 28, 29, 30, 31, 60] := by decide
    rw [fr3.1.A (this r hr), a2]
  refine k_at (k := 81) (n := 3000) rfl (by decide) (by omega) ?_
  rw [tn_F, e83c, I_A' ((row 81 _ (by decide)).trans hNn)]
  refine k_in (k := 25) (n := 16000) rfl (by decide) (by omega) (ok_lt.mpr ?_)
  rw [I_tn (x := ((Nn : Nat) : Int)) (by omega) (by omega), Int.toNat_natCast, I_F' e32c, wa_e]
  have nod : ∀ r i, r ∈ [23, 24, 26, 27, 28, 29, 30, 31] → (i : Nat) < n1 → A (wa w 25 Nn n2) r i = A v r i := fun r i hr hi => by
    have : ∀ r, r ∈ [23, 24, 26, 27, 28, 29, 30, 31] → r ≠ 25 ∧ r ∈ [23, 24, 25, 26, 27, 28, 29, 30, 31] := by decide
    rw [wa_rne (this r hr).1, fr3.2 r i (this r hr).2 (by omega), a2]
  have e83d : F (wa w 25 Nn n2) 83 = wt + J := e83c
  refine k_at (k := 81) (n := 3000) rfl (by decide) (by omega) (ok_lt.mpr ?_)
  rw [tn_F, e83d, I_A' (show A (wa w 25 Nn n2) 81 (wt + J).toNat = ((Nn : Nat) : Int) by rw [wa_rne (by decide)]; exact (row 81 _ (by decide)).trans hNn)]
  unfold fb_M_reduce_255
  have f66 : F w 66 = F v 66 := (fr3.1.F (by decide)).trans (f2 66 (by decide))
  have f72 : F w 72 = F v 72 := (fr3.1.F (by decide)).trans (f2 72 (by decide))
  have b23 : A (wa w 25 Nn n2) 23 Nn = 9 ∨ A (wa w 25 Nn n2) 23 Nn = 10 := by
    rw [nod 23 Nn (by decide) (by omega)]; exact en1.2.2.1
  have s4 : ST u0 σ p1 o1 n2 q1' c1 f1 h1 s (wt + J) g (wa w 25 Nn n2) := ST_wa25 s3 (by rw [wa_rne (by decide)] at b23; omega)
  refine hG (wa w 25 Nn n2) Nn n2 ⟨⟨s4, f3, KPR_wn k3 (by decide) (by omega), hp, by unfold WKN at wn ⊢; omega, fun i hi => WEN_tr (en i (by omega)) (fun r hr => ?_) (fun r j hr hj => ?_) (by show F v 32 ≤ F w 32; omega) (fun z => by rw [← f66]; exact z) hn0, ?_, fun z => ?_⟩, ⟨by omega, by omega, ?_, ?_⟩, fun z1 z2 z3 => ?_⟩
  · have : ∀ r, r ∈ [79, 80, 81, 82] → r ≠ 25 := by decide
    rw [wa_rne (this r hr)]; exact row r _ hr
  · have : ∀ r, r ∈ [23, 28, 29] → r ∈ [23, 24, 26, 27, 28, 29, 30, 31] := by decide
    exact nod r j (this r hr) (by omega)
  · rw [o1e]; congr 1
    exact (c7_tr J (fun i _ => by rw [wa_rne (by decide)]; exact row 79 i (by decide)) hw0.1).symm
  · rw [wa_rne (by decide)]; exact l3 z
  · exact RTD_mo 0 _ _ ⟨by omega, by rw [nod 28 Nn (by decide) (by omega)]; exact en1.2.2.2.1⟩ (Nat.zero_le _)
  · rw [nod 29 Nn (by decide) (by omega)]; exact en1.2.2.2.2
  · obtain ⟨M, m, ps, t1, t2, t3, t4⟩ := ty (by rw [← f72]; exact z1) (by rw [← f66]; exact z2) z3
    obtain ⟨M0, m0, ps0, g1, g2, g3⟩ := t1
    rcases g3 with ⟨g4, -⟩ | ⟨g4, -⟩ | ⟨-, g5, g6, M1, g7, g8, g9, g10⟩
    · omega
    · omega
    · have hN1 : M1 0 = Nn := by omega
      have tx : TYM SN σ g (o - 1) (p1 - ps + 1) x M m 0 1 (fun i => i = e) := TYM_tr t4 tr2 m2 (by unfold nmo; rw [a2])
      have x2 : 2 ≤ p1 - ps + 1 := by
        obtain ⟨mm, X, Y, s1, -, -, s5, -⟩ := tx
        have := s1.1.2.2.2.2.2.2.2.1
        omega
      obtain ⟨tw, nw⟩ := ty3 M m (o - 1) (p1 - ps + 1) (fun i => i = e) g6 x2 tx
      have tr4 : ∀ M', (∀ i, M' i ≤ M i) → TRN σ wt J v w M' := fun M' hM => TRN_tr (TRN_le tr2 (fun i => Nat.le_trans (hM i) (t2 i)) (Nat.le_refl _)) (tr3 J M' wt (fun i => by rw [m2]; exact Nat.le_trans (hM i) (t2 i)) e83b)
      have hM10 : ∀ i, M1 i ≤ M i := g8.2.2.2.2
      have hM01 : ∀ i, M0 i ≤ M1 i := by
        obtain ⟨mm, X, Y, s1, -⟩ := g7
        exact s1.1.1
      have m01 := hM01 0
      obtain ⟨mm, X, Y, q1, q2, q3, q4, q5⟩ := tw
      rw [nw] at q1
      have q1b := SEQ_wn (r := 25) (i := Nn) (y := n2) q1 (by decide) (Or.inl (by have := g8.2.1; omega))
      have r9 : A (wa w 25 Nn n2) 29 e = -1 := by rw [nod 29 e (by decide) (by have := rt.2.1; omega)]; exact rt.2.2.2
      have kn : KND (wa w 25 Nn n2) Nn 9 ∨ KND (wa w 25 Nn n2) Nn 10 := by
        have tr : ∀ k, KND v (M1 0) k → KND (wa w 25 Nn n2) Nn k := fun k hk => by
          rw [hN1] at hk
          exact KND_eq hk (fun r hr => nod r Nn (by have : ∀ r, r ∈ [23, 24, 28, 29] → r ∈ [23, 24, 26, 27, 28, 29, 30, 31] := by decide
                                                    exact this r hr) (by omega))
        exact g10.imp (tr 9) (tr 10)
      have mk9 : mks (wa w 25 Nn n2) = mks w := rfl
      have an : SEQ (wa w 25 Nn n2) SN (gq g) M1 (mks w) 1 1 m m m mm X Y (hlo σ w) (fun i => i = Nn) := by
        have inner := SEQ_ro (R2 := fun _ => False) q1b (fun i hi => hi.elim) (fun i hi => Or.inr (by rw [hi]; exact r9))
        have ha : M 0 = Nn + 1 ∧ M 1 = M1 1 ∧ M 3 = M1 3 ∧ ∀ i, M1 i ≤ M i := ⟨by have := g8.2.1; omega, g8.2.2.1, g8.2.2.2.1, hM10⟩
        have h25 : A (wa w 25 Nn n2) 25 Nn = ((mks w 0 : Nat) : Int) := by
          rw [wa_eq ⟨by omega, by omega⟩]; show n2 = (((F w 32).toNat : Nat) : Int); omega
        rcases kn with kn | kn
        · exact SEQ_andor (Or.inl rfl) hN1 ha kn h25 inner
        · exact SEQ_andor (Or.inr rfl) hN1 ha kn h25 inner
      have ta : TYM SN σ g (o - 1) (p1 - ps + 1) (wa w 25 Nn n2) M1 m 1 1 (fun i => i = Nn) := by
        refine ⟨mm, X, Y, ?_, q2, ?_, q4, q5⟩
        · rw [mk9, show nmo σ (wa w 25 Nn n2) = m by unfold nmo at nw ⊢; rw [wa_rne (by decide)]; exact nw, show hlo σ (wa w 25 Nn n2) = hlo σ w by unfold hlo; rw [wa_rne (by decide)]]
          exact an
        · rw [wa_rne (by decide)]; exact q3
      have pw : PCE SN σ g (o - 1) (ps - ps0) (wa w 25 Nn n2) M0 M1 m0 m := PCE_tr (PCE_tr g7 (tr4 M1 hM10)) (TRN_wn (wt := wt) (J := J) (r := 25) (y := n2) (by decide) (by omega))
      refine ⟨M0, m0, ps0, STK_tr J M0 m0 ps0 (STK_tr J M0 m0 ps0 g1 hw0.1 (tr4 M0 g2)) hw0.1 (TRN_wn (r := 25) (y := n2) (by decide) (by omega)), fun i => ?_, by omega, PCE_app (e := 0) pw ta rfl (by omega) (by omega)⟩
      have h1 := q1.1.1 i
      exact Nat.le_trans (g2 i) h1
end
