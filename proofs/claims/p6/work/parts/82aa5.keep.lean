section
variable {u0 u v w : MS} {TN SN σ : Nat} {bw : Nat → Nat} {p o n q c f h s wt g k t d x : Int} {is as js : List Nat} {r i : Nat}
theorem FRP (a : FR is [] as js u v) (h1 : ∀ k, k ∈ is → k ∈ PfI) (h2 : ∀ k, k ∈ as → k ∈ PfA) (h3 : ∀ k, k ∈ js → k ∈ [34]) : FR PfI [] PfA [34] u v := FR.mo a h1 (fun _ z => z) h2 h3
theorem K44_fr (hk : K44 u) (a : FR is [] as js u v) (h : 44 ∉ as) : K44 v := fun i => by rw [a.A h]; exact hk i
theorem NGD_fr (hk : NGD u0 u) (a : FR is [] as js u v) (h1 : 32 ∉ is) (h2 : 23 ∉ as ∧ 24 ∉ as ∧ 25 ∉ as) : NGD u0 v := fun i hi => by
  rw [a.A h2.1, a.A h2.2.1, a.A h2.2.2]
  rw [a.F h1] at hi
  exact hk i hi
theorem ST_67 (hs : ST u0 σ p o n q c f h s wt g u) (a : FR [67, 68] [] [] [] u v) : ST u0 σ p o n q c f h s wt g v := by
  obtain ⟨h1, ⟨e1, e2, e3, e4, e5, e6, e7, e8, e9, e10, e11, e12⟩, ⟨h3, h4, h5⟩, h6, h7, h8⟩ := hs
  refine ⟨FR.tr h1 (FRP a (by decide) (by decide) (by decide)), ⟨?_, ?_, ?_, ?_, ?_, ?_, ?_, ?_, ?_, ?_, ?_, ?_⟩, ⟨?_, h4, ?_⟩, SCP_fr h6 a (by decide), K44_fr h7 a (by decide), NGD_fr h8 a (by decide) (by decide)⟩
  all_goals rw [a.F (by decide)]; assumption
theorem ST_rule (hs : ST u0 σ p o n q c f h s wt g u) (a : FR [71, 72] [] [] [] u v) (h71 : 0 ≤ F v 71 ∧ F v 71 < 4002) : ST u0 σ p o n q c f h s wt g v := by
  obtain ⟨h1, ⟨e1, e2, e3, e4, e5, e6, e7, e8, e9, e10, e11, e12⟩, ⟨h3, h4, h5⟩, h6, h7, h8⟩ := hs
  refine ⟨FR.tr h1 (FRP a (by decide) (by decide) (by decide)), ⟨?_, ?_, ?_, ?_, ?_, ?_, ?_, ?_, ?_, ?_, ?_, ?_⟩, ⟨h71, h4, ?_⟩, SCP_fr h6 a (by decide), K44_fr h7 a (by decide), NGD_fr h8 a (by decide) (by decide)⟩
  all_goals rw [a.F (by decide)]; assumption
theorem ST_69 (hs : ST u0 σ p o n q c f h s wt g u) (hx : RG x) : ST u0 σ x o n q c f h s wt g (wi u 69 x) := by
  obtain ⟨h1, ⟨e1, e2, e3, e4, e5, e6, e7, e8, e9, e10, e11, e12⟩, ⟨h3, h4, h5⟩, h6, h7, h8⟩ := hs
  have a : FR [69] [] [] [] u (wi u 69 x) := FR.wi FR.rf (by decide)
  refine ⟨FR.wi h1 (by decide), ⟨wi_eq hx, ?_, ?_, ?_, ?_, ?_, ?_, ?_, ?_, ?_, ?_, ?_⟩, ⟨?_, h4, ?_⟩, SCP_fr h6 a (by decide), K44_fr h7 a (by decide), NGD_fr h8 a (by decide) (by decide)⟩
  all_goals rw [wi_ne (by decide)]; assumption
theorem ST_70 (hs : ST u0 σ p o n q c f h s wt g u) (hx : RG x) : ST u0 σ p x n q c f h s wt g (wi u 70 x) := by
  obtain ⟨h1, ⟨e1, e2, e3, e4, e5, e6, e7, e8, e9, e10, e11, e12⟩, ⟨h3, h4, h5⟩, h6, h7, h8⟩ := hs
  have a : FR [70] [] [] [] u (wi u 70 x) := FR.wi FR.rf (by decide)
  refine ⟨FR.wi h1 (by decide), ⟨?_, wi_eq hx, ?_, ?_, ?_, ?_, ?_, ?_, ?_, ?_, ?_, ?_⟩, ⟨?_, h4, ?_⟩, SCP_fr h6 a (by decide), K44_fr h7 a (by decide), NGD_fr h8 a (by decide) (by decide)⟩
  all_goals rw [wi_ne (by decide)]; assumption
theorem ST_73 (hs : ST u0 σ p o n q c f h s wt g u) (hx : x = 0 ∨ x = 1) : ST u0 σ p o n q c f h s wt x (wi u 73 x) := by
  obtain ⟨h1, ⟨e1, e2, e3, e4, e5, e6, e7, e8, e9, e10, e11, e12⟩, ⟨h3, h4, h5⟩, h6, h7, h8⟩ := hs
  have a : FR [73] [] [] [] u (wi u 73 x) := FR.wi FR.rf (by decide)
  refine ⟨FR.wi h1 (by decide), ⟨?_, ?_, ?_, ?_, ?_, ?_, ?_, ?_, ?_, ?_, wi_eq ⟨by omega, by omega⟩, ?_⟩, ⟨?_, hx, ?_⟩, SCP_fr h6 a (by decide), K44_fr h7 a (by decide), NGD_fr h8 a (by decide) (by decide)⟩
  all_goals rw [wi_ne (by decide)]; assumption
theorem ST_84 (hs : ST u0 σ p o n q c f h s wt g u) : ST u0 σ p o n q c f h s wt g (wi u 84 x) := by
  obtain ⟨h1, ⟨e1, e2, e3, e4, e5, e6, e7, e8, e9, e10, e11, e12⟩, ⟨h3, h4, h5⟩, h6, h7, h8⟩ := hs
  have a : FR [84] [] [] [] u (wi u 84 x) := FR.wi FR.rf (by decide)
  refine ⟨FR.wi h1 (by decide), ⟨?_, ?_, ?_, ?_, ?_, ?_, ?_, ?_, ?_, ?_, ?_, ?_⟩, ⟨?_, h4, ?_⟩, SCP_fr h6 a (by decide), K44_fr h7 a (by decide), NGD_fr h8 a (by decide) (by decide)⟩
  all_goals rw [wi_ne (by decide)]; assumption
theorem ST_83 (hs : ST u0 σ p o n q c f h s wt g u) (hx : RG x) : ST u0 σ p o n q c f h s x g (wi u 83 x) := by
  obtain ⟨h1, ⟨e1, e2, e3, e4, e5, e6, e7, e8, e9, e10, e11, e12⟩, ⟨h3, h4, h5⟩, h6, h7, h8⟩ := hs
  have a : FR [83] [] [] [] u (wi u 83 x) := FR.wi FR.rf (by decide)
  refine ⟨FR.wi h1 (by decide), ⟨?_, ?_, ?_, ?_, ?_, ?_, ?_, ?_, ?_, wi_eq hx, ?_, ?_⟩, ⟨?_, h4, ?_⟩, SCP_fr h6 a (by decide), K44_fr h7 a (by decide), NGD_fr h8 a (by decide) (by decide)⟩
  all_goals rw [wi_ne (by decide)]; assumption
theorem ST_46 (hs : ST u0 σ p o n q c f h s wt g u) (hx : RG x) : ST u0 σ p o n q x f h s wt g (wi u 46 x) := by
  obtain ⟨h1, ⟨e1, e2, e3, e4, e5, e6, e7, e8, e9, e10, e11, e12⟩, ⟨h3, h4, h5⟩, h6, h7, h8⟩ := hs
  have a : FR [46] [] [] [] u (wi u 46 x) := FR.wi FR.rf (by decide)
  refine ⟨FR.wi h1 (by decide), ⟨?_, ?_, ?_, ?_, wi_eq hx, ?_, ?_, ?_, ?_, ?_, ?_, ?_⟩, ⟨?_, h4, ?_⟩, SCP_fr h6 a (by decide), K44_fr h7 a (by decide), NGD_fr h8 a (by decide) (by decide)⟩
  all_goals rw [wi_ne (by decide)]; assumption
theorem ST_56 (hs : ST u0 σ p o n q c f h s wt g u) (hx : RG x) : ST u0 σ p o n q c x h s wt g (wi u 56 x) := by
  obtain ⟨h1, ⟨e1, e2, e3, e4, e5, e6, e7, e8, e9, e10, e11, e12⟩, ⟨h3, h4, h5⟩, h6, h7, h8⟩ := hs
  have a : FR [56] [] [] [] u (wi u 56 x) := FR.wi FR.rf (by decide)
  refine ⟨FR.wi h1 (by decide), ⟨?_, ?_, ?_, ?_, ?_, wi_eq hx, ?_, ?_, ?_, ?_, ?_, ?_⟩, ⟨?_, h4, ?_⟩, SCP_fr h6 a (by decide), K44_fr h7 a (by decide), NGD_fr h8 a (by decide) (by decide)⟩
  all_goals rw [wi_ne (by decide)]; assumption
theorem ST_58 (hs : ST u0 σ p o n q c f h s wt g u) (hx : RG x) : ST u0 σ p o n q c f x s wt g (wi u 58 x) := by
  obtain ⟨h1, ⟨e1, e2, e3, e4, e5, e6, e7, e8, e9, e10, e11, e12⟩, ⟨h3, h4, h5⟩, h6, h7, h8⟩ := hs
  have a : FR [58] [] [] [] u (wi u 58 x) := FR.wi FR.rf (by decide)
  refine ⟨FR.wi h1 (by decide), ⟨?_, ?_, ?_, ?_, ?_, ?_, wi_eq hx, ?_, ?_, ?_, ?_, ?_⟩, ⟨?_, h4, ?_⟩, SCP_fr h6 a (by decide), K44_fr h7 a (by decide), NGD_fr h8 a (by decide) (by decide)⟩
  all_goals rw [wi_ne (by decide)]; assumption
theorem ST_nx (hs : ST u0 σ p o n q c f h s wt g u) (hp : 0 ≤ p ∧ p ≤ 4001) : ST u0 σ (p + 1) o n q c f h s wt g (nx1 u) := by
  unfold nx1
  rw [hs.2.1.1]
  exact ST_69 hs ⟨by omega, by omega⟩
theorem ST_op (hs : ST u0 σ p o n q c f h s wt g u) (ho : 0 ≤ o ∧ o ≤ 100) : ST u0 σ p (o + 1) n q c f h s wt g (op1 u) := by
  unfold op1
  rw [hs.2.1.2.1]
  exact ST_70 hs ⟨by omega, by omega⟩
theorem ST_cl (hs : ST u0 σ p o n q c f h s wt g u) (ho : 0 ≤ o ∧ o ≤ 100) : ST u0 σ p (o - 1) n q c f h s wt g (clo1 u) := by
  unfold clo1
  rw [hs.2.1.2.1]
  exact ST_70 hs ⟨by omega, by omega⟩
theorem ST_wa (hs : ST u0 σ p o n q c f h s wt g u) (hr : r ∈ [26, 27, 28, 29, 30, 31, 33, 35, 36, 37, 38, 40, 41, 42, 43, 45, 53, 54, 55, 57, 61, 74, 76, 78, 79, 80, 81, 82]) : ST u0 σ p o n q c f h s wt g (wa u r i x) := by
  obtain ⟨h1, e, h2, h6, h7, h8⟩ := hs
  have a : FR [] [] [r] [] u (wa u r i x) := FR.wa FR.rf (List.mem_singleton.mpr rfl)
  have b : ∀ r, r ∈ [26, 27, 28, 29, 30, 31, 33, 35, 36, 37, 38, 40, 41, 42, 43, 45, 53, 54, 55, 57, 61, 74, 76, 78, 79, 80, 81, 82] → r ∈ PfA ∧ r ∉ [59, 60, 62, 63, 64] ∧ r ≠ 44 ∧ r ≠ 23 ∧ r ≠ 24 ∧ r ≠ 25 := by decide
  obtain ⟨b1, b2, b3, b4, b5, b6⟩ := b r hr
  exact ⟨FR.wa h1 b1, e, h2, SCP_fr h6 a (fun k hk => by rw [List.mem_singleton.mp hk]; exact b2), K44_fr h7 a (fun z => b3 (List.mem_singleton.mp z).symm), NGD_fr h8 a (by decide) ⟨fun z => b4 (List.mem_singleton.mp z).symm, fun z => b5 (List.mem_singleton.mp z).symm, fun z => b6 (List.mem_singleton.mp z).symm⟩⟩
theorem ST_wa44 (hs : ST u0 σ p o n q c f h s wt g u) (hx : 0 ≤ x ∧ x < 4002) : ST u0 σ p o n q c f h s wt g (wa u 44 i x) := by
  obtain ⟨h1, e, h2, h6, h7, h8⟩ := hs
  have a : FR [] [] [44] [] u (wa u 44 i x) := FR.wa FR.rf (by decide)
  refine ⟨FR.wa h1 (by decide), e, h2, SCP_fr h6 a (by decide), fun j => ?_, NGD_fr h8 a (by decide) (by decide)⟩
  rw [A_wa (by omega) (by omega), if_pos rfl]
  by_cases z : j = i
  · rw [if_pos z]; exact hx
  · rw [if_neg z]; exact h7 j
theorem ST_wa25 (hs : ST u0 σ p o n q c f h s wt g u) (hx : A u 23 i ≠ 12) : ST u0 σ p o n q c f h s wt g (wa u 25 i x) := by
  obtain ⟨h1, e, h2, h6, h7, h8⟩ := hs
  have a : FR [] [] [25] [] u (wa u 25 i x) := FR.wa FR.rf (by decide)
  refine ⟨FR.wa h1 (by decide), e, h2, SCP_fr h6 a (by decide), K44_fr h7 a (by decide), fun j hj => ?_⟩
  rw [wa_rne (by decide), wa_rne (by decide)]
  obtain ⟨y1, y2, y3⟩ := h8 j hj
  refine ⟨y1, y2, fun z => ?_⟩
  rw [wa_ne (fun e => hx (by rw [← e]; exact z))]
  exact y3 z
theorem ST_nd (hs : ST u0 σ p o n q c f h s wt g u) (a : NDW u v k t) (ht : 0 ≤ t ∧ t < 4002) (hn : 0 ≤ n) (h12 : k = 12 → 0 ≤ A v 25 n.toNat ∧ A v 25 n.toNat < F u0 14) : ST u0 σ p o (n + 1) q c f h s wt g v := by
  obtain ⟨h1, ⟨e1, e2, e3, e4, e5, e6, e7, e8, e9, e10, e11, e12⟩, ⟨h3, h4, h5⟩, h6, h7, h8⟩ := hs
  obtain ⟨a1, a2, a3, a4, a5⟩ := a
  rw [e3] at a2 a3 a4 a5
  refine ⟨FR.tr h1 (FRP a1 (by decide) (by decide) (by decide)), ⟨?_, ?_, a2, ?_, ?_, ?_, ?_, ?_, ?_, ?_, ?_, ?_⟩, ⟨?_, h4, ?_⟩, SCP_fr h6 a1 (by decide), K44_fr h7 a1 (by decide), fun i hi => ?_⟩
  all_goals try (rw [a1.F (by decide)]; assumption)
  by_cases z : i = n.toNat
  · rw [z, a3, a4]; exact ⟨ht.1, ht.2, h12⟩
  · rw [a5 _ _ z, a5 _ _ z, a5 _ _ z]; exact h8 i (by omega)
theorem ST_pt (hs : ST u0 σ p o n q c f h s wt g u) (a : PTV u v k) : ST u0 σ p o n (q + 1) c f h s wt g v := by
  obtain ⟨h1, ⟨e1, e2, e3, e4, e5, e6, e7, e8, e9, e10, e11, e12⟩, ⟨h3, h4, h5⟩, h6, h7, h8⟩ := hs
  obtain ⟨a1, a2, a3, a5⟩ := a
  rw [e4] at a2 a3 a5
  refine ⟨FR.tr h1 (FRP a1 (by decide) (by decide) (by decide)), ⟨?_, ?_, ?_, a2, ?_, ?_, ?_, ?_, ?_, ?_, ?_, ?_⟩, ⟨?_, h4, ?_⟩, SCP_fr h6 a1 (by decide), K44_fr h7 a1 (by decide), NGD_fr h8 a1 (by decide) (by decide)⟩
  all_goals (rw [a1.F (by decide)]; assumption)
theorem FSM_fr (hs : FSM u0 TN σ d u) (a : FR is [] as js u v) (h1 : ∀ k, k ∈ is → k ∈ [39, 46, 56, 66, 67, 68, 70, 72, 73, 75, 77, 83, 84]) (h2 : ∀ k, k ∈ as → k ∈ PfA ∧ k ≠ 63 ∧ k ≠ 44) (h3 : ∀ k, k ∈ js → k ∈ [34]) (h4 : F v 67 ≠ 0) : FSM u0 TN σ d v := by
  obtain ⟨g1, g2, g3, g4, g5, g6, g7, g8⟩ := hs
  have ni : ∀ k, k ∉ [39, 46, 56, 66, 67, 68, 70, 72, 73, 75, 77, 83, 84] → F v k = F u k := fun k hk => a.F (fun z => hk (h1 k z))
  have pi : ∀ k, k ∈ [39, 46, 56, 66, 67, 68, 70, 72, 73, 75, 77, 83, 84] → k ∈ PfI := by decide
  refine ⟨FR.tr g1 (FRP a (fun k z => pi k (h1 k z)) (fun k z => (h2 k z).1) h3), h4, ?_, ?_, ?_, ?_, fun s hs => ?_, K44_fr g8 a (fun z => (h2 44 z).2.2 rfl)⟩
  · rw [ni 69 (by decide), ni 71 (by decide)]; exact g3
  · rw [ni 65 (by decide)]; exact g4
  · rw [ni 32 (by decide)]; exact g5
  · rw [ni 58 (by decide)]; exact g6
  · rw [a.A (fun z => (h2 63 z).2.1 rfl)]; exact g7 s hs
theorem FSM_nd (hs : FSM u0 TN σ d u) (a : NDW u v k t) : FSM u0 TN σ (d + 1) v := by
  obtain ⟨g1, g2, g3, g4, g5, g6, g7, g8⟩ := hs
  obtain ⟨a1, a2, -⟩ := a
  refine ⟨FR.tr g1 (FRP a1 (by decide) (by decide) (by decide)), ?_, ?_, ?_, by omega, ?_, fun s hs => ?_, K44_fr g8 a1 (by decide)⟩
  · rw [a1.F (by decide)]; exact g2
  · rw [a1.F (k := 69) (by decide), a1.F (k := 71) (by decide)]; exact g3
  · rw [a1.F (by decide)]; exact g4
  · rw [a1.F (by decide)]; exact g6
  · rw [a1.A (by decide)]; exact g7 s hs
theorem FSM_69 (hs : FSM u0 TN σ d u) (hx : 0 ≤ x ∧ x ≤ TN + 1) (hT : TN ≤ 4000) : FSM u0 TN σ d (wi u 69 x) := by
  obtain ⟨g1, g2, g3, g4, g5, g6, g7, g8⟩ := hs
  refine ⟨FR.wi g1 (by decide), ?_, ?_, ?_, ?_, ?_, g7, g8⟩
  · rw [wi_ne (by decide)]; exact g2
  · rw [wi_eq ⟨by omega, by omega⟩, wi_ne (by decide)]; exact ⟨hx.1, hx.2, g3.2.2⟩
  · rw [wi_ne (by decide)]; exact g4
  · rw [wi_ne (by decide)]; exact g5
  · rw [wi_ne (by decide)]; exact g6
theorem FSM_mo {d2 : Int} (hs : FSM u0 TN σ d u) (hd : d ≤ d2) : FSM u0 TN σ d2 u := by
  obtain ⟨g1, g2, g3, g4, g5, g6⟩ := hs
  exact ⟨g1, g2, g3, g4, ⟨g5.1, by omega⟩, g6⟩
theorem FSM_of (hs : ST u0 σ p o n q c f h s wt g u) (h1 : 0 ≤ p ∧ p ≤ TN + 1) (h2 : 0 ≤ n ∧ n ≤ 12000 + d) (h3 : 0 ≤ h ∧ h + 60 * σ ≤ 23400) (h4 : F u 67 ≠ 0) : FSM u0 TN σ d u := by
  obtain ⟨g1, ⟨e1, e2, e3, e4, e5, e6, e7, e8, e9, e10, e11, e12⟩, g3, g6, g7, g8⟩ := hs
  refine ⟨g1, h4, by rw [e1]; exact ⟨h1.1, h1.2, g3.1⟩, e12, by rw [e3]; exact h2, by rw [e7]; exact h3, fun s hs => ?_, g7⟩
  have := (g6 s hs).1
  omega
theorem KPR_w0 (a : KPR σ u v) {b : Nat} (h : b ∈ [67, 68, 69, 70, 71, 73, 84]) : KPR σ u (wi v b x) := KPR_tr a (KPR_fr (is := [b]) (js := []) (FR.wi FR.rf (List.mem_singleton.mpr rfl)) (fun z hz => by rw [List.mem_singleton.mp hz]; exact h) (fun z hz => by cases hz))
theorem KPR_67 (a : KPR σ u v) (b : FR [67, 68] [] [] [] v w) : KPR σ u w := KPR_tr a (KPR_fr (FR.mo b (fun _ z => z) (fun _ z => z) (fun _ z => z) (fun _ z => by cases z)) (by decide) (by decide))
theorem KPR_rule (a : KPR σ u v) (b : FR [71, 72] [] [] [] v w) (h : F w 72 ≠ 0) : KPR σ u w := by
  refine KPR_tr a ?_
  have g : ∀ r i, A w r i = A v r i := fun r i => b.A (by intro z; cases z)
  refine ⟨FRP b (by decide) (by decide) (by decide), ⟨fun r i _ _ => g r i, fun r i _ _ => g r i, fun r i _ _ => g r i, fun r i _ _ => g r i, fun i _ => g 57 i⟩, ⟨fun s i _ _ => g 59 _, fun r s i _ _ _ => g r _, fun s _ => g 60 s, fun s _ => ?_⟩, ⟨fun i _ => g 74 i, fun i _ => g 76 i, fun r i _ _ => g r i⟩, ?_, fun z => absurd z h, ?_⟩
  · rw [g, g, g]; exact ⟨Int.le_refl _, Int.le_refl _, Int.le_refl _⟩
  · rw [b.F (by decide), b.F (by decide), b.F (by decide), b.F (by decide), b.F (by decide), b.F (by decide), b.F (by decide), b.F (by decide)]
    exact ⟨Int.le_refl _, Int.le_refl _, Int.le_refl _, Int.le_refl _, Int.le_refl _, Int.le_refl _, Int.le_refl _, Int.le_refl _⟩
  · rw [b.F (by decide)]; exact id
theorem KPR_wi (a : KPR σ u v) {b : Nat} (h : b ∈ [32, 39, 46, 56, 58, 75, 77, 83]) (hx : F u b ≤ x) (hr : RG x) : KPR σ u (wi v b x) := by
  obtain ⟨a0, a1, a2, a3, ⟨a13, a14, a15, a16, a17, a18, a19, a20⟩, a21, a22⟩ := a
  have pb : ∀ b, b ∈ [32, 39, 46, 56, 58, 75, 77, 83] → b ∈ PfI ∧ b ≠ 72 ∧ b ≠ 66 := by decide
  obtain ⟨p1, p2, p3⟩ := pb b h
  have st : ∀ k, F u k ≤ F v k → F u k ≤ F (wi v b x) k := fun k hk => by
    by_cases z : k = b
    · rw [z, wi_eq hr]; exact hx
    · rw [wi_ne z]; exact hk
  refine ⟨FR.wi a0 p1, a1, a2, a3, ⟨st _ a13, st _ a14, st _ a15, st _ a16, st _ a17, st _ a18, st _ a19, st _ a20⟩, ?_, ?_⟩
  · rw [wi_ne (fun e => p2 e.symm)]; exact a21
  · rw [wi_ne (fun e => p3 e.symm)]; exact a22
theorem KPR_wa (a : KPR σ u v) (hr : r ∈ [23, 24, 25, 26, 27, 28, 29, 30, 31, 33, 35, 36, 37, 38, 40, 41, 42, 43, 44, 45, 53, 54, 55, 57, 74, 76, 78, 79, 80, 81, 82]) (hi : (r ∈ [23, 24, 25, 26, 27, 28, 29, 30, 31] → F u 32 ≤ i) ∧ (r ∈ [33, 35, 36, 37, 38] → F u 39 ≤ i) ∧ (r ∈ [40, 41, 42, 43, 45] → F u 46 ≤ i) ∧ (r ∈ [53, 54, 55] → F u 56 ≤ i) ∧ (r = 57 → F u 58 ≤ i) ∧ (r = 74 → F u 75 ≤ i) ∧ (r = 76 → F u 77 ≤ i) ∧ (r ∈ [79, 80, 81, 82] → F u 83 ≤ i)) : KPR σ u (wa v r i x) := by
  obtain ⟨a0, ⟨a1, a2, a3, a4, a5⟩, ⟨a6, a7, a8, a9⟩, ⟨a10, a11, a12⟩, a13⟩ := a
  obtain ⟨i1, i2, i3, i4, i5, i6, i7, i8⟩ := hi
  have pb : ∀ b, b ∈ [23, 24, 25, 26, 27, 28, 29, 30, 31, 33, 35, 36, 37, 38, 40, 41, 42, 43, 44, 45, 53, 54, 55, 57, 74, 76, 78, 79, 80, 81, 82] → b ∈ PfA ∧ 59 ≠ b ∧ 60 ≠ b ∧ 61 ≠ b ∧ 62 ≠ b ∧ 63 ≠ b ∧ 64 ≠ b := by decide
  obtain ⟨p1, p2, p3, p4, p5, p6, p7⟩ := pb r hr
  have g : ∀ r2 j, (r2 = r → j ≠ i) → A v r2 j = A u r2 j → A (wa v r i x) r2 j = A u r2 j := fun r2 j h1 h2 => by
    by_cases z : r2 = r
    · rw [wa_ne (h1 z)]; exact h2
    · rw [wa_rne z]; exact h2
  refine ⟨FR.wa a0 p1, ⟨fun r2 j h1 h2 => g r2 j (fun e => ?_) (a1 r2 j h1 h2), fun r2 j h1 h2 => g r2 j (fun e => ?_) (a2 r2 j h1 h2), fun r2 j h1 h2 => g r2 j (fun e => ?_) (a3 r2 j h1 h2), fun r2 j h1 h2 => g r2 j (fun e => ?_) (a4 r2 j h1 h2), fun j h2 => g 57 j (fun e => ?_) (a5 j h2)⟩, ⟨fun s j h1 h2 => by rw [wa_rne p2]; exact a6 s j h1 h2, fun r2 s j h0 h1 h2 => ?_, fun s h1 => by rw [wa_rne p3]; exact a8 s h1, fun s h1 => by rw [wa_rne p3, wa_rne p6, wa_rne p7]; exact a9 s h1⟩, ⟨fun j h2 => g 74 j (fun e => ?_) (a10 j h2), fun j h2 => g 76 j (fun e => ?_) (a11 j h2), fun r2 j h1 h2 => g r2 j (fun e => ?_) (a12 r2 j h1 h2)⟩, a13⟩
  · have := i1 (by rw [← e]; exact h1); omega
  · have := i2 (by rw [← e]; exact h1); omega
  · have := i3 (by rw [← e]; exact h1); omega
  · have := i4 (by rw [← e]; exact h1); omega
  · have := i5 e.symm; omega
  · have : r2 ≠ r := fun e => by
      rw [e] at h0
      rcases List.mem_cons.mp h0 with z | z
      · exact p4 z.symm
      · exact p5 (List.mem_singleton.mp z).symm
    rw [wa_rne this]; exact a7 r2 s j h0 h1 h2
  · have := i6 e.symm; omega
  · have := i7 e.symm; omega
  · have := i8 (by rw [← e]; exact h1); omega
theorem KPR_wn (a : KPR σ u v) (hr : r ∈ [23, 24, 25, 26, 27, 28, 29, 30, 31]) (hi : F u 32 ≤ i) : KPR σ u (wa v r i x) := by
  have : ∀ r, r ∈ [23, 24, 25, 26, 27, 28, 29, 30, 31] → r ∈ [23, 24, 25, 26, 27, 28, 29, 30, 31, 33, 35, 36, 37, 38, 40, 41, 42, 43, 44, 45, 53, 54, 55, 57, 74, 76, 78, 79, 80, 81, 82] ∧ r ∉ [33, 35, 36, 37, 38] ∧ r ∉ [40, 41, 42, 43, 45] ∧ r ∉ [53, 54, 55] ∧ r ≠ 57 ∧ r ≠ 74 ∧ r ≠ 76 ∧ r ∉ [79, 80, 81, 82] := by decide
  obtain ⟨b1, b2, b3, b4, b5, b6, b7, b8⟩ := this r hr
  exact KPR_wa a b1 ⟨fun _ => hi, fun z => absurd z b2, fun z => absurd z b3, fun z => absurd z b4, fun z => absurd z b5, fun z => absurd z b6, fun z => absurd z b7, fun z => absurd z b8⟩
theorem KPR_nd (a : KPR σ u v) (b : NDW v w k t) (h : 0 ≤ F v 32) : KPR σ u w := by
  obtain ⟨b1, b2, b3, b4, b5⟩ := b
  refine KPR_tr a ?_
  have g : ∀ (r i : Nat), (i : Int) < F v 32 → A w r i = A v r i := fun r i hi => b5 r i (by omega)
  have g2 : ∀ r i, r ∉ [23, 24, 25, 26, 27, 28, 29, 30, 31] → A w r i = A v r i := fun r i hr => b1.A hr
  have m2 : ∀ r, r ∈ [33, 35, 36, 37, 38] → r ∉ [23, 24, 25, 26, 27, 28, 29, 30, 31] := by decide
  have m3 : ∀ r, r ∈ [40, 41, 42, 43, 45] → r ∉ [23, 24, 25, 26, 27, 28, 29, 30, 31] := by decide
  have m4 : ∀ r, r ∈ [53, 54, 55] → r ∉ [23, 24, 25, 26, 27, 28, 29, 30, 31] := by decide
  have m5 : ∀ r, r ∈ [61, 62] → r ∉ [23, 24, 25, 26, 27, 28, 29, 30, 31] := by decide
  have m6 : ∀ r, r ∈ [79, 80, 81, 82] → r ∉ [23, 24, 25, 26, 27, 28, 29, 30, 31] := by decide
  refine ⟨FRP b1 (by decide) (by decide) (by decide), ⟨fun r i _ h2 => g r i h2, fun r i h1 _ => g2 r i (m2 r h1), fun r i h1 _ => g2 r i (m3 r h1), fun r i h1 _ => g2 r i (m4 r h1), fun i _ => g2 57 i (by decide)⟩, ⟨fun s i _ _ => g2 59 _ (by decide), fun r s i h0 _ _ => g2 r _ (m5 r h0), fun s _ => g2 60 s (by decide), fun s _ => ?_⟩, ⟨fun i _ => g2 74 i (by decide), fun i _ => g2 76 i (by decide), fun r i h1 _ => g2 r i (m6 r h1)⟩, ⟨by omega, ?_, ?_, ?_, ?_, ?_, ?_, ?_⟩, ?_, ?_⟩
  · rw [g2 60 s (by decide), g2 63 s (by decide), g2 64 s (by decide)]; exact ⟨Int.le_refl _, Int.le_refl _, Int.le_refl _⟩
  all_goals rw [b1.F (by decide)]
  all_goals first | exact Int.le_refl _ | exact id
theorem KPR_pt (a : KPR σ u v) (b : PTV v w k) (h : 0 ≤ F v 39) : KPR σ u w := by
  obtain ⟨b1, b2, b3, b5⟩ := b
  refine KPR_tr a ?_
  have g : ∀ (r i : Nat), (i : Int) < F v 39 → A w r i = A v r i := fun r i hi => b5 r i (by omega)
  have g2 : ∀ r i, r ∉ [33, 35, 36, 37, 38] → A w r i = A v r i := fun r i hr => b1.A hr
  have m2 : ∀ r, r ∈ [23, 24, 25, 26, 27, 28, 29, 30, 31] → r ∉ [33, 35, 36, 37, 38] := by decide
  have m3 : ∀ r, r ∈ [40, 41, 42, 43, 45] → r ∉ [33, 35, 36, 37, 38] := by decide
  have m4 : ∀ r, r ∈ [53, 54, 55] → r ∉ [33, 35, 36, 37, 38] := by decide
  have m5 : ∀ r, r ∈ [61, 62] → r ∉ [33, 35, 36, 37, 38] := by decide
  have m6 : ∀ r, r ∈ [79, 80, 81, 82] → r ∉ [33, 35, 36, 37, 38] := by decide
  refine ⟨FRP b1 (by decide) (by decide) (by decide), ⟨fun r i h1 _ => g2 r i (m2 r h1), fun r i _ h2 => g r i h2, fun r i h1 _ => g2 r i (m3 r h1), fun r i h1 _ => g2 r i (m4 r h1), fun i _ => g2 57 i (by decide)⟩, ⟨fun s i _ _ => g2 59 _ (by decide), fun r s i h0 _ _ => g2 r _ (m5 r h0), fun s _ => g2 60 s (by decide), fun s _ => ?_⟩, ⟨fun i _ => g2 74 i (by decide), fun i _ => g2 76 i (by decide), fun r i h1 _ => g2 r i (m6 r h1)⟩, ⟨?_, by omega, ?_, ?_, ?_, ?_, ?_, ?_⟩, ?_, ?_⟩
  · rw [g2 60 s (by decide), g2 63 s (by decide), g2 64 s (by decide)]; exact ⟨Int.le_refl _, Int.le_refl _, Int.le_refl _⟩
  all_goals rw [b1.F (by decide)]
  all_goals first | exact Int.le_refl _ | exact id
end
