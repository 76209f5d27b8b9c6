def CBT (TN SN σ : Nat) (o xb : Int) (w x : MS) : Prop := F x 72 = 0 → F x 66 = 0 → TN ≤ 1500 → ∃ (mE mm X Y e : Nat) (p3 : Nat → Nat), SEQR true x SN 0 (mks w) p3 0 1 (nmo σ w) mE (nmo σ w) mm X Y (hlo σ x) (fun i => i = e) ∧ A x 29 e = -1 ∧ ONE p3 (mks x) (p3 0) ∧ KND x (p3 0) 29 ∧ mm ≤ 40 ∧ (mm : Int) ≤ A x 64 σ ∧ 2 * (X : Int) ≤ xb ∧ (Y : Int) + o + 1 ≤ 25
def CBQ (u0 : MS) (TN SN : Nat) (bw : Nat → Nat) (σ : Nat) (p o n q c f h s wt : Int) (w x : MS) : Prop := F x 67 = 0 ∧ ∃ p2 n2 q2 c2 f2 h2 : Int, ST u0 σ p2 o n2 q2 c2 f2 h2 s wt 0 x ∧ KPR σ w x ∧ p2 ≤ TN ∧ DLT bw 1 1 (1 + nu u0 p2.toNat) p n q c f h p2 n2 q2 c2 f2 h2 ∧ LGS σ x ∧ CBT TN SN σ o (p2 - p + 1) w x
section
variable {u0 u v w x : MS} {N σ TN SN e a hh : Nat} {bw : Nat → Nat} {p o n q c f h s wt g D d : Int} {r y1 y2 y3 : Int32} {S : SG_M_behind}
theorem LSQ_ge (z : RTD w hh a e) (h29 : A w 29 e = -1) (ls : LSQ w (fun i => i = e) x) : ∀ n, A x 30 n ≠ A w 30 n → a ≤ n := by
  intro n hn
  have key := ls.2.2 (fun n => (∃ h, RTD w h a n) ∧ ∃ (b : Nat) (l : List Nat), CHL w b (A w 29 n) l ∧ ∀ r, r ∈ l → ∃ h, RTD w h a r) (fun n hn => ?_) (fun n y hn hy => ?_) (fun n y hn hy => ?_) n hn
  · obtain ⟨⟨h, hz⟩, -⟩ := key
    exact RTD_a h n hz
  · rw [hn]; exact ⟨⟨hh, z⟩, 0, [], h29, fun r hr => by cases hr⟩
  · obtain ⟨⟨h, hz⟩, -⟩ := hn
    cases h with
    | zero => have := hz.2; omega
    | succ h =>
      obtain ⟨z1, l, z2, z3⟩ := hz
      cases l with
      | nil => have : A w 28 n = -1 := z2; omega
      | cons t l =>
        obtain ⟨c1, c2, c3⟩ := z2
        obtain rfl : y = t := by omega
        exact ⟨⟨h, z3 y (List.mem_cons_self ..)⟩, y, l, c3, fun r hr => ⟨h, z3 r (List.mem_cons_of_mem _ hr)⟩⟩
  · obtain ⟨-, b, l, c1, c2⟩ := hn
    cases l with
    | nil => have : A w 29 n = -1 := c1; omega
    | cons t l =>
      obtain ⟨d1, d2, d3⟩ := c1
      obtain rfl : y = t := by omega
      exact ⟨c2 y (List.mem_cons_self ..), y, l, d3, fun r hr => c2 r (List.mem_cons_of_mem _ hr)⟩
theorem ST_30 (hs : ST u0 σ p o n q c f h s wt g u) (a : FR [] [] [30] [] u v) : ST u0 σ p o n q c f h s wt g v := by
  obtain ⟨b1, e, b2, b6, b7, b8⟩ := hs
  have ef : ∀ k, F v k = F u k := fun k => a.F (by intro z; cases z)
  refine ⟨FR.tr b1 (FRP a (by decide) (by decide) (by decide)), ?_, ?_, SCP_fr b6 a (by decide), K44_fr b7 a (by decide), NGD_fr b8 a (by decide) (by decide)⟩
  · simp only [ef]; exact e
  · simp only [ef]; exact b2
theorem KPR_30 (k : KPR σ u w) (a : FR [] [] [30] [] w x) (hz : ∀ n : Nat, A x 30 n ≠ A w 30 n → F u 32 ≤ n) : KPR σ u x := by
  have ef : ∀ k, F x k = F w k := fun k => a.F (by intro z; cases z)
  have g : ∀ r i, r ≠ 30 → A x r i = A w r i := fun r i hr => a.A (by simpa using hr)
  obtain ⟨a0, ⟨a1, a2, a3, a4, a5⟩, ⟨a6, a7, a8, a9⟩, ⟨a10, a11, a12⟩, a13, a14, a15⟩ := k
  have m2 : ∀ r, r ∈ [33, 35, 36, 37, 38] → r ≠ 30 := by decide
  have m3 : ∀ r, r ∈ [40, 41, 42, 43, 45] → r ≠ 30 := by decide
  have m4 : ∀ r, r ∈ [53, 54, 55] → r ≠ 30 := by decide
  have m5 : ∀ r, r ∈ [61, 62] → r ≠ 30 := by decide
  have m6 : ∀ r, r ∈ [79, 80, 81, 82] → r ≠ 30 := by decide
  refine ⟨FR.tr a0 (FRP a (by decide) (by decide) (by decide)), ⟨fun r i h1 h2 => ?_, fun r i h1 h2 => (g r i (m2 r h1)).trans (a2 r i h1 h2), fun r i h1 h2 => (g r i (m3 r h1)).trans (a3 r i h1 h2), fun r i h1 h2 => (g r i (m4 r h1)).trans (a4 r i h1 h2), fun i h2 => (g 57 i (by decide)).trans (a5 i h2)⟩, ⟨fun s i h1 h2 => (g 59 _ (by decide)).trans (a6 s i h1 h2), fun r s i h0 h1 h2 => (g r _ (m5 r h0)).trans (a7 r s i h0 h1 h2), fun s h1 => (g 60 s (by decide)).trans (a8 s h1), fun s h1 => ?_⟩, ⟨fun i h2 => (g 74 i (by decide)).trans (a10 i h2), fun i h2 => (g 76 i (by decide)).trans (a11 i h2), fun r i h1 h2 => (g r i (m6 r h1)).trans (a12 r i h1 h2)⟩, ?_, ?_, ?_⟩
  · by_cases e : r = 30
    · by_cases z : A x 30 i = A w 30 i
      · rw [e]; rw [e] at h1; exact z.trans (a1 30 i h1 h2)
      · have := hz i z; omega
    · exact (g r i e).trans (a1 r i h1 h2)
  · rw [g 60 s (by decide), g 63 s (by decide), g 64 s (by decide)]; exact a9 s h1
  · simp only [ef]; exact a13
  · rw [ef]; exact a14
  · rw [ef]; exact a15
theorem FSM_30 (hs : FSM u0 TN σ d u) (a : FR [] [] [30] [] u v) : FSM u0 TN σ d v := FSM_fr hs a (fun k z => by cases z) (fun k z => by rw [List.mem_singleton.mp z]; decide) (fun k z => by cases z) (by rw [a.F (by intro z; cases z)]; exact hs.2.1)
theorem tail_F (hN : 20000 ≤ N) (hT : TN ≤ 4000) (hD : D ≤ 3000) (hv : FEQ u0 TN σ D v r) : OK (fun x t => t = y2 ∧ FSM u0 TN σ (D + 1) x) (bnd (fm_M_node N v 29 (v.1 69)) (fun u7 r7 => bnd (fr_M_last N u7 r) (fun u8 _ => some (u8, y2)))) := by
  obtain ⟨hs, x, hx, hx2⟩ := hv
  have n0 := hs.2.2.2.2.1
  have p0 := hs.2.2.1
  refine k_node (k := 29) (t := F v 69) rfl (by decide) I_F (by omega) (by omega) (fun v1 hv1 => ?_)
  have s1 : FSM u0 TN σ (D + 1) v1 := FSM_nd hs hv1.1
  rcases hx2 with hx2 | ⟨x1, x2, x3⟩
  · rw [hx, hx2, show I (-1) = (-1 : Int32) from rfl, last_none, bnd_so]
    exact ok_some.mpr ⟨rfl, s1⟩
  · have e : x = ((x.toNat : Nat) : Int) := by omega
    rw [hx, e]
    refine ok_bnd.mpr (ok_mono (last_ok (a := 0) hN 60 0 v1 x.toNat (by omega) (by omega) ⟨Nat.zero_le _, ?_⟩) (fun w _ hw => ok_some.mpr ⟨rfl, FSM_30 s1 hw.1⟩))
    rw [hv1.1.2.2.2.2 28 x.toNat (by omega)]
    exact x3
theorem tail_ok (tk : TKW u0 TN SN bw) (hN : 20000 ≤ N) (hD : 0 ≤ D ∧ D ≤ 2900) (ho : 0 ≤ o ∧ o ≤ 25) (hb : XSB u0 TN SN bw D o S.2.2.2.2.1) (hs : ST u0 σ p o n q c f h s wt 0 w) (hf : F w 67 = 0) (hm : NM TN bw 3 0 0 σ p o n q c f h s wt) (hl : LGS σ w) : OK (fun x t => t = y2 ∧ (CBQ u0 TN SN bw σ p o n q c f h s wt w x ∨ FSM u0 TN σ (D + 1) x)) (bnd (S.2.2.2.2.1 w) (fun u6 r6 => bnd (fm_M_node N u6 29 (u6.1 69)) (fun u7 r7 => bnd (fr_M_last N u7 r6) (fun u8 _ => some (u8, y2))))) := by
  have hT := tk.1.1
  have e32 : F w 32 = n := hs.2.1.2.2.1
  have fs := NM_fs hm (by omega)
  refine ok_bnd.mpr (ok_mono (hb w σ _ _ _ _ _ _ _ _ hs hf hm hl) (fun v r hv => ?_))
  rcases hv with ⟨b0, p2, n2, q2, c2, f2, h2, e, b1, b2, b3, b4, b5, b6, b7, b8⟩ | hv
  · have nm2 := NM_dlt tk hm b5 (by omega) (by omega) b4
    have fs2 := NM_fs nm2 (by omega)
    have e32v : F v 32 = n2 := b2.2.1.2.2.1
    have e69v : F v 69 = p2 := b2.2.1.1
    refine k_node (k := 29) (t := F v 69) rfl (by decide) I_F (by omega) (by omega) (fun v1 hv1 => ?_)
    have nd := hv1.1
    have s1 := ST_nd b2 nd (by omega) (by omega) (fun z => by omega)
    have k1 : KPR σ v v1 := KPR_nd KPR_rf nd (by omega)
    have rt : RTD v1 (26 - (o + 1)).toNat n.toNat e := RTD_fr _ _ b6.2.2.1 (nd.2.2.2.2 28 e (by omega)) (fun r i _ _ hi => nd.2.2.2.2 r i (by omega))
    have a29 : A v1 29 e = -1 := by rw [nd.2.2.2.2 29 e (by omega)]; exact b6.2.2.2
    rw [b1]
    refine ok_bnd.mpr (ok_mono (last_ok hN 60 _ v1 e (by omega) (by omega) rt) (fun x _ hx => ok_some.mpr ⟨rfl, Or.inl ?_⟩))
    have ge := LSQ_ge rt a29 hx
    have fx : ∀ k, F x k = F v1 k := fun k => hx.1.F (by intro z; cases z)
    have ax : ∀ r i, r ≠ 30 → A x r i = A v1 r i := fun r i hr => hx.1.A (by simpa using hr)
    have kx : KPR σ w x := KPR_30 (KPR_tr b3 k1) hx.1 (fun i hi => by have := ge i hi; omega)
    refine ⟨by rw [fx, nd.1.F (by decide)]; exact b0, p2, n2 + 1, q2, c2, f2, h2, ST_30 s1 hx.1, kx, b4, ?_, fun z => ?_, fun z1 z2 z3 => ?_⟩
    · unfold DLT at b5 ⊢; omega
    · rw [ax 60 σ (by decide), nd.1.A (by decide)]
      refine b7 ?_
      rw [← nd.1.F (k := 66) (by decide), ← fx]; exact z
    · rw [fx] at z1 z2
      obtain ⟨mm, X, Y, g1, g2, g3, g4, g5⟩ := b8 (k1.2.2.2.2.2.1 z1) (k1.2.2.2.2.2.2 z2) z3
      have t1 : SEQ v SN 0 (mks w) (mks v) 0 1 (nmo σ w) (nmo σ v) (nmo σ w) mm X Y (hlo σ v) (fun i => i = e) := g1
      have t2 := SEQ_kp t1 (fun i => Nat.le_refl _) k1
      have t3 := SEQR_last t2 hx a29
      have on := ONE_nd nd (show 0 ≤ F v 32 by omega)
      have mx : mks x = mks v1 := by funext i; unfold mks; rw [fx]
      have hl : hlo σ v = hlo σ x := by unfold hlo; rw [ax 63 σ (by decide), nd.1.A (by decide)]
      refine ⟨nmo σ v, mm, X, Y, e, mks v, ?_, ?_, ?_, ?_, g2, ?_, g4, by omega⟩
      · rw [← hl]; exact t3
      · rw [ax 29 e (by decide)]; exact a29
      · rw [mx]; exact on
      · have m1 : ∀ r, r ∈ [23, 24, 28, 29] → r ≠ 30 := by decide
        exact KND_eq (KND_of hv1 (by omega)) (fun r hr => ax r _ (m1 r hr))
      · rw [ax 64 σ (by decide), nd.1.A (by decide)]; exact g3
  · exact ok_mono (tail_F hN hT (by omega) hv) (fun x t hx => ⟨hx.1, Or.inr hx.2⟩)
end
