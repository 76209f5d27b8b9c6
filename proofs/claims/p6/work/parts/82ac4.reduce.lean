def WEN (u0 : MS) (TN σ : Nat) (n : Int) (u v : MS) (i : Nat) : Prop := (A v 79 i = 7 ∧ 0 ≤ A v 80 i ∧ A v 80 i < 4002) ∨ ((A v 79 i = 1 ∨ A v 79 i = 2) ∧ (n ≤ A v 81 i ∧ A v 81 i < F v 32 ∧ (A v 23 (A v 81 i).toNat = 9 ∨ A v 23 (A v 81 i).toNat = 10) ∧ A v 28 (A v 81 i).toNat = -1 ∧ A v 29 (A v 81 i).toNat = -1) ∧ A u 60 σ ≤ A v 82 i ∧ (F v 66 = 0 → A v 82 i ≤ 40)) ∨ ((3 ≤ A v 79 i ∧ A v 79 i ≤ 6) ∧ (0 ≤ A v 80 i ∧ A v 80 i < TN) ∧ (A u0 6 (A v 80 i).toNat = 3 ∨ (A u0 6 (A v 80 i).toNat = 6 ∧ ((12 ≤ A u0 7 (A v 80 i).toNat ∧ A u0 7 (A v 80 i).toNat ≤ 20) ∨ A u0 7 (A v 80 i).toNat = 22 ∨ A u0 7 (A v 80 i).toNat = 23))))
def c7 (v : MS) (wt : Int) : Nat → Int
  | 0 => 0
  | J + 1 => c7 v wt J + (if A v 79 (wt + J).toNat = 7 then 1 else 0)
def WKN (bw : Nat → Nat) (κ : Int) (b : Nat) (p o n q c f h wt p1 o1 n1 q1 c1 f1 h1 : Int) (J : Nat) : Prop := (p + κ ≤ p1 ∧ o ≤ o1 ∧ o1 ≤ 25) ∧ (n ≤ n1 ∧ n1 - n + J + 2 * κ ≤ 3 * (p1 - p)) ∧ (q ≤ q1 ∧ 2 * (q1 - q) ≤ p1 - p) ∧ (c ≤ c1 ∧ 3 * (c1 - c) + κ ≤ p1 - p) ∧ (f ≤ f1 ∧ f1 - f ≤ c1 - c) ∧ (h ≤ h1 ∧ 11 * (h1 - h) + 60 * (b : Int) ≤ 60 * ((bw p1.toNat : Int) - bw p.toNat)) ∧ 2 * (wt + J) + κ ≤ p1 + 2 * o1
def WKB (u0 : MS) (TN σ : Nat) (bw : Nat → Nat) (κ : Int) (b : Nat) (p o n q c f h s wt g : Int) (u v : MS) (p1 o1 n1 q1 c1 f1 h1 : Int) (J : Nat) : Prop := ST u0 σ p1 o1 n1 q1 c1 f1 h1 s (wt + J) g v ∧ F v 67 = 0 ∧ KPR σ u v ∧ p1 ≤ TN ∧ WKN bw κ b p o n q c f h wt p1 o1 n1 q1 c1 f1 h1 J ∧ (∀ i, i < J → WEN u0 TN σ n u v (wt + i).toNat) ∧ o1 = o + c7 v wt J ∧ LGS σ v
def RTC (v : MS) (o n n1 : Int) (e : Nat) : Prop := n ≤ e ∧ (e : Int) < n1 ∧ RTD v (27 - o).toNat n.toNat e ∧ A v 29 e = -1
def TYC (TN SN σ : Nat) (g o wt p p1 : Int) (u v : MS) (J e : Nat) : Prop := F v 72 = 0 → F v 66 = 0 → TN ≤ 1500 → ∃ (M : Nat → Nat) (m : Nat) (ps : Int), STK SN σ g (o - 1) wt p u v J M m ps ∧ (∀ i, M i ≤ mks v i) ∧ ps ≤ p1 ∧ TYM SN σ g (o - 1) (p1 - ps + 1) v M m 0 1 (fun i => i = e)
def WKC (u0 : MS) (TN SN σ : Nat) (bw : Nat → Nat) (p o n q c f h s wt g : Int) (u v : MS) (p1 o1 n1 q1 c1 f1 h1 : Int) (J e : Nat) : Prop := WKB u0 TN σ bw 1 (1 + nu u0 p1.toNat) p o n q c f h s wt g u v p1 o1 n1 q1 c1 f1 h1 J ∧ RTC v o n n1 e ∧ TYC TN SN σ g o wt p p1 u v J e
section
variable {α : Type} {Q : MS → Int32 → Prop} {u0 u v v1 w x : MS} {N σ TN SN e q0 q1 q2 q3 : Nat} {bw : Nat → Nat} {p o n q c f h s wt g lv xb xb1 xb2 k t D d y z l p1 o1 n1 q1' c1 f1 h1 κ : Int} {r y1 y2 y3 : Int32} {R R1 R2 : Nat → Prop} {M M0 M1 : Nat → Nat} {m m0 J : Nat} {G : MS → Int32 → Int32 → Int32 → Int32 → Option (MS × Int32)}
theorem WEN_tr {i : Nat} (hh : WEN u0 TN σ n u v i) (e79 : ∀ r, r ∈ [79, 80, 81, 82] → A w r i = A v r i) (e23 : ∀ (r j : Nat), r ∈ [23, 28, 29] → (j : Int) < F v 32 → A w r j = A v r j) (h32 : F v 32 ≤ F w 32) (h66 : F w 66 = 0 → F v 66 = 0) (hn : 0 ≤ n) : WEN u0 TN σ n u w i := by
  unfold WEN
  rw [e79 79 (by decide), e79 80 (by decide), e79 81 (by decide), e79 82 (by decide)]
  rcases hh with a | ⟨a1, ⟨a2, a3, a4, a5, a6⟩, a7, a8⟩ | a
  · exact Or.inl a
  · refine Or.inr (Or.inl ⟨a1, ⟨a2, by omega, ?_, ?_, ?_⟩, a7, fun z => a8 (h66 z)⟩)
    · rw [e23 23 _ (by decide) (by omega)]; exact a4
    · rw [e23 28 _ (by decide) (by omega)]; exact a5
    · rw [e23 29 _ (by decide) (by omega)]; exact a6
  · exact Or.inr (Or.inr a)
theorem c7_tr : ∀ J : Nat, (∀ i, (i : Nat) < wt + J → A w 79 i = A v 79 i) → 0 ≤ wt → c7 w wt J = c7 v wt J := by
  intro J
  induction J with
  | zero => intro _ _; rfl
  | succ J ih =>
    intro h1 h2
    show c7 w wt J + _ = c7 v wt J + _
    rw [ih (fun i hi => h1 i (by omega)) h2, h1 (wt + J).toNat (by omega)]
theorem c7_0 : ∀ J : Nat, 0 ≤ c7 v wt J := by
  intro J
  induction J with
  | zero => exact Int.le_refl _
  | succ J ih =>
    show 0 ≤ c7 v wt J + _
    split <;> omega
theorem TYM_tr (a : TYM SN σ g lv xb v M m q0 q1 R) (b : TRN σ wt J v w (mks v)) (h1 : mks w = mks v) (h2 : nmo σ w = nmo σ v) : TYM SN σ g lv xb w M m q0 q1 R := by
  obtain ⟨mm, X, Y, s1, a1, a2, a3⟩ := a
  have b6 := b.2.2.1
  refine ⟨mm, X, Y, ?_, a1, by omega, a3⟩
  rw [h1, h2]
  exact SEQ_mo (SEQ_tr s1 b) (Nat.le_refl _) (Nat.le_refl _) (Nat.le_refl _) (Nat.le_refl _) b6.1
theorem red_fin (hn0 : 0 ≤ n) (hw0 : 0 ≤ wt) (hu : F u 32 = n ∧ F u 83 = wt) (sx : ST u0 σ p1 o1 n1 q1' c1 f1 h1 s (wt + J) g x) (fx : F x 67 = 0) (kx : KPR σ u x) (hp : p1 ≤ TN) (wn : WKN bw 1 (1 + nu u0 p1.toNat) p o n q c f h wt p1 o1 (n1 + 1) q1' c1 f1 h1 J) (en : ∀ i, i < J → WEN u0 TN σ n u x (wt + i).toNat) (ho : o1 = o + c7 x wt J) (lx : LGS σ x) (nd : NDW x w k t) (nw : NEWN w (F x 32).toNat k) (ht : 0 ≤ t ∧ t < 4002) (hk : k ≠ 12) (ty : F x 72 = 0 → F x 66 = 0 → TN ≤ 1500 → ∃ (M : Nat → Nat) (m : Nat) (ps : Int), STK SN σ g (o - 1) wt p u x J M m ps ∧ (∀ i, M i ≤ mks x i) ∧ ps ≤ p1 ∧ TYM SN σ g (o - 1) (p1 - ps + 1) w M m 0 1 (fun i => i = (F x 32).toNat)) : WKC u0 TN SN σ bw p o n q c f h s wt g u w p1 o1 (n1 + 1) q1' c1 f1 h1 J n1.toNat := by
  have e32 : F x 32 = n1 := sx.2.1.2.2.1
  have e83 : F x 83 = wt + J := sx.2.1.2.2.2.2.2.2.2.2.2.1
  have n1b : 0 ≤ n1 ∧ n ≤ n1 := by
    have := kx.2.2.2.2.1.1
    omega
  have kw : KPR σ x w := KPR_nd KPR_rf nd (by omega)
  have mr : ∀ r, r ∈ [79, 80, 81, 82] → r ∉ [23, 24, 25, 26, 27, 28, 29, 30, 31] := by decide
  have row : ∀ r i, r ∈ [79, 80, 81, 82] → A w r i = A x r i := fun r i hr => nd.1.A (mr r hr)
  have f66 : F w 66 = F x 66 := nd.1.F (by decide)
  refine ⟨⟨ST_nd sx nd ht (by omega) (fun z => absurd z hk), (nd.1.F (by decide)).trans fx, KPR_tr kx kw, hp, wn, fun i hi => WEN_tr (en i hi) (fun r hr => row r _ hr) (fun r j hr hj => ?_) (by rw [nd.2.1]; omega) (fun z => by rw [← f66]; exact z) hn0, ?_, fun z => ?_⟩, ⟨by omega, by omega, ?_, ?_⟩, fun z1 z2 z3 => ?_⟩
  · exact nd.2.2.2.2 r j (by omega)
  · rw [ho, c7_tr J (fun i _ => row 79 i (by decide)) hw0]
  · rw [nd.1.A (by decide)]; exact lx (by rw [← f66]; exact z)
  · rw [e32] at nw
    exact RTD_mo 0 _ _ ⟨by omega, nw.2.2.2.1⟩ (Nat.zero_le _)
  · rw [e32] at nw; exact nw.2.2.2.2.1
  · obtain ⟨M, m, ps, t1, t2, t3, t4⟩ := ty (kw.2.2.2.2.2.1 z1) (by rw [← f66]; exact z2) z3
    refine ⟨M, m, ps, STK_tr J M m ps t1 hw0 (TRN_kp kw t2 e83), fun i => Nat.le_trans (t2 i) ?_, t3, by rw [e32] at t4; exact t4⟩
    exact (ONE_nd nd (by omega)).2.2.2.2 i
theorem red_7 (hT : TN ≤ 4000) (hn0 : 0 ≤ n) (hw0 : 0 ≤ wt ∧ 0 ≤ o ∧ 0 ≤ p) (hu : F u 32 = n ∧ F u 83 = wt) (hw : WKC u0 TN SN σ bw p o n q c f h s wt g u v p1 o1 n1 q1' c1 f1 h1 (J + 1) e) (h7 : A v 79 (wt + J).toNat = 7) (hb : n1 ≤ 15000 ∧ p ≤ 4000) (hG : ∀ w e2, WKC u0 TN SN σ bw p o n q c f h s wt g u w p1 (o1 - 1) (n1 + 1) q1' c1 f1 h1 J e2 → OK Q (G w y1 y2 (I (e2 : Int)) 1)) : OK Q (fb_M_reduce_61 N G v y1 y2 r (I 7) 1) := by
  obtain ⟨⟨s0, f0, k0, hp, wn, en, ho, l0⟩, rt, ty⟩ := hw
  have e83 : F v 83 = wt + (J + 1 : Nat) := s0.2.1.2.2.2.2.2.2.2.2.2.1
  have e32 : F v 32 = n1 := s0.2.1.2.2.1
  have wnb : p ≤ p1 ∧ o ≤ o1 ∧ o1 ≤ 25 ∧ n ≤ n1 ∧ 2 * (wt + (J + 1 : Nat)) + 1 ≤ p1 + 2 * o1 := by unfold WKN at wn; omega
  have tok : 0 ≤ A v 80 (wt + J).toNat ∧ A v 80 (wt + J).toNat < 4002 := by
    rcases en J (by omega) with a | ⟨a, -⟩ | ⟨a, -⟩
    · exact a.2
    · omega
    · omega
  have o1e : o1 - 1 = o + c7 v wt J := by
    have : c7 v wt (J + 1) = c7 v wt J + 1 := by show c7 v wt J + (if A v 79 (wt + J).toNat = 7 then 1 else 0) = _; rw [if_pos h7]
    omega
  have c0 := c7_0 (v := v) (wt := wt) J
  unfold fb_M_reduce_61
  rw [br10]
  refine ok_lt.mpr ?_
  rw [I_F' e83, lit1q, I_sub, show wt + (J + 1 : Nat) - 1 = wt + J from by omega, wi_e]
  have s1 := ST_83 (x := wt + J) s0 ⟨by omega, by omega⟩
  have e70 : F (wi v 83 (wt + J)) 70 = o1 := s1.2.1.2.1
  rw [show (7 : Int32) = I 7 from rfl]
  refine k_eq ⟨by decide, by decide⟩ ⟨by decide, by decide⟩ (fun _ => ok_lt.mpr ?_) (fun z => absurd rfl z)
  rw [← lit1q, clo1_e]
  have s2 := ST_cl s1 (by omega)
  have a2 : ∀ r i, A (clo1 (wi v 83 (wt + J))) r i = A v r i := fun _ _ => rfl
  have f2 : ∀ j, j ∉ [70, 83] → F (clo1 (wi v 83 (wt + J))) j = F v j := fun j hj => by
    rw [show F (clo1 (wi v 83 (wt + J))) j = F (wi v 83 (wt + J)) j from wi_ne (fun z => hj (by rw [z]; decide)), wi_ne (fun z => hj (by rw [z]; decide))]
  have k2 : KPR σ u (clo1 (wi v 83 (wt + J))) := KPR_w0 (KPR_wi k0 (by decide) (by omega) ⟨by omega, by omega⟩) (by decide)
  have m2 : mks (clo1 (wi v 83 (wt + J))) = mks v := (wi_mks (by decide)).trans (wi_mks (by decide))
  have tr2 : TRN σ wt J v (clo1 (wi v 83 (wt + J))) (mks v) := TRN_tr (TRN_wi (by decide)) (TRN_wi (by decide))
  have e83b : F (clo1 (wi v 83 (wt + J))) 83 = wt + J := s2.2.1.2.2.2.2.2.2.2.2.2.1
  have e32b : F (clo1 (wi v 83 (wt + J))) 32 = n1 := s2.2.1.2.2.1
  generalize clo1 (wi v 83 (wt + J)) = x at *
  have main : ∀ (t1 : Int32) (k : Int), vp_nar .byte (t1.toInt8.toInt32) = I k → (k = 7 ∨ k = 8) → OK Q (fb_M_reduce_121 N G x y1 y2 1 t1) := fun t1 k hk1 hk2 => by
    unfold fb_M_reduce_121 fb_M_reduce_255
    refine k_at (k := 80) (n := 3000) rfl (by decide) (by omega) ?_
    rw [tn_F, e83b, I_A' (a2 80 (wt + J).toNat)]
    refine k_node hk1 (by omega) rfl tok (by omega) (fun w hv => ?_)
    have nw := NEWN_of hv tok
    rw [e32b, show I n1 = I ((n1.toNat : Nat) : Int) by congr 1; omega]
    refine hG w n1.toNat (red_fin hn0 hw0.1 hu s2 ((f2 67 (by decide)).trans f0) k2 hp (by unfold WKN at wn ⊢; omega) (fun i hi => WEN_tr (en i (by omega)) (fun r _ => a2 r _) (fun r j _ _ => a2 r j) (by rw [f2 32 (by decide)]; omega) (fun z => by rw [← f2 66 (by decide)]; exact z) hn0) ?_ (fun z => ?_) hv.1 nw tok (by omega) (fun z1 z2 z3 => ?_))
    · rw [o1e]; congr 1; exact (c7_tr J (fun i _ => a2 79 i) hw0.1).symm
    · rw [a2]; exact l0 (by rw [← f2 66 (by decide)]; exact z)
    · obtain ⟨M, m, ps, t1, t2, t3, t4⟩ := ty (by rw [← f2 72 (by decide)]; exact z1) (by rw [← f2 66 (by decide)]; exact z2) z3
      obtain ⟨M0, m0, ps0, g1, g2, g3⟩ := t1
      rcases g3 with ⟨-, g4, g5, g6⟩ | ⟨g4, g5, -⟩ | ⟨g4, -⟩
      · subst g4
        subst g5
        have tx : TYM SN σ g (o - 1) (p1 - ps0 + 1) x M m 0 1 (fun i => i = e) := TYM_tr (TYM_mo t4 (by omega) (Int.le_refl _)) tr2 m2 (by unfold nmo; rw [a2])
        have kw : KPR σ x w := KPR_nd KPR_rf hv.1 (by omega)
        have tn : TYM SN σ g (o - 1) (p1 - ps0 + 1) w (mks x) (nmo σ x) 1 1 (fun i => i = (F x 32).toNat) := by
          have lx : LGS σ x := fun z => by rw [a2]; exact l0 (by rw [← f2 66 (by decide)]; exact z)
          refine TYM_of (TYG_nd (TN := TN) (xx := 1) hv.1 (by omega) s2.2.2.2.1 lx (fun mm X Y y1 y2 => ?_) (by omega) (by omega)) ((hv.1.1.F (by decide)).trans z1) ((hv.1.1.F (by decide)).trans z2) z3
          rcases hk2 with hk2 | hk2
          · rw [hk2] at nw; exact s7 (ONE_nd hv.1 (by omega)) nw ⟨Nat.le_refl _, y1, y2⟩
          · rw [hk2] at nw; exact s8 (ONE_nd hv.1 (by omega)) nw ⟨Nat.le_refl _, y1, y2⟩
        refine ⟨M, m, ps0, STK_tr J M m ps0 g1 hw0.1 (TRN_le tr2 t2 (Nat.le_refl _)), fun i => by rw [m2]; exact t2 i, by omega, ?_⟩
        refine TYM_ro (TYM_app (e := 0) tx kw tn rfl (Int.le_refl _) (by omega)) (fun i hi => Or.inr hi) (fun i hi => ?_)
        rcases hi with hi | hi
        · refine Or.inr ?_
          rw [hi, hv.1.2.2.2.2 29 e (by rw [e32b]; have := rt.2.1; omega), a2]
          exact rt.2.2.2
        · exact Or.inl hi
      · omega
      · omega
  refine k_at (k := 80) (n := 3000) rfl (by decide) (by omega) ?_
  rw [tn_F, e83b, I_A' (a2 80 (wt + J).toNat)]
  refine k_in (k := 6) (n := 4002) rfl (by decide) (by omega) (ok_br.mpr ⟨fun _ => main 7 7 rfl (Or.inl rfl), fun _ => main 8 8 rfl (Or.inr rfl)⟩)
end
