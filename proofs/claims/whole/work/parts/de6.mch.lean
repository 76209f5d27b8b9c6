/-! what goes together between two calls -/
set_option maxRecDepth 100000
/-- as soon as a text has been read -/
def TXr (m w : MS) : Prop := (FTs m w ∧ FAr m w ∧ FUs m w) ∧ F m 442 = F w 52 ∧ (ATM w ∧ 22 ≤ F w 14 ∧ ∀ j, j ≤ 22 → A w 13 j = ((fa0 j : Nat) : Int)) ∧ m.1 85 = w.1 9 ∧ ∃ fa na, ATf m w fa na
/-- nothing has begun -/
def NBG (m : MS) : Prop := m.1 942 = 0 ∧ m.1 943 = 0 ∧ m.1 944 = 0 ∧ m.1 945 = 0 ∧ m.1 946 = 0 ∧ m.1 953 = 0
/-- a run -/
def BGN (m w : MS) : Prop := ∃ (T : TYc) (Fv : Int64 → Int64 → Prop) (P : Int64 → Prop) (PR : Nat) (Fv' : Int64 → Int64 → Prop) (AN : Nat) (TT : TY) (CC : CY) (ND CN PN SN UN FN : Nat), WRD T Fv P PR m ∧ PER Fv' AN TT CC id id ND CN PN SN UN FN w ∧ REST Fv' AN TT ND UN FN PR w ∧ FQs WTr PR Fv P Fv' (PWs AN) m w ∧ TBz m w
def MCH (m w : MS) : Prop := (F w 86 ≠ 0 → TXr m w) ∧ ((F w 87 = 0 ∧ NBG m) ∨ (F w 87 ≠ 0 ∧ F w 86 ≠ 0 ∧ F m 943 ≠ 0 ∧ (0 ≤ F m 944 ∧ F m 944 ≤ 1000000000) ∧ BGN m w))
/-- frames of the calls that only ask -/
def FQm (m m2 : MS) : Prop := FR [9, 81, 865, 866, 1964] [] [5, 56] [45] m m2
def FQw (w w2 : MS) : Prop := FR [3, 5, 130, 144] [] [4, 129, 143] [141] w w2
section
variable {Fv Fv' : Int64 → Int64 → Prop} {P P' : Int64 → Prop} {T : TYc} {AN N PR i j0 : Nat} {m w m2 w2 : MS} {RR : Nat → MS → MS → Prop} {cur : Option Nat}
theorem FQm_of (h : Kf1c m m2) : FQm m m2 := ⟨h.1, fun k _ => congrFun h.2.2.2 k, h.2.1, fun k hk => h.2.2.1 k (by simpa using hk)⟩
theorem FQw_of (h : Kw1c w w2) : FQw w w2 := ⟨h.1, fun k _ => congrFun h.2.2.2 k, h.2.1, fun k hk => h.2.2.1 k (by simpa using hk)⟩
theorem FQ_fc (f : FQm m m2) : FC 0 [9, 81, 865, 866, 1964] [] [5, 56] [] [] [] [] m m2 := FC.of f (by simp) (by simp) (by simp) (by simp)
theorem DWc_fq (d : DWc Fv P PR m) (f : FQm m m2) : DWc Fv P PR m2 := by
  have fc := FQ_fc f
  refine DWc_gl d fc (by simp) (by simp) (fun h0 => ?_) (by simp) (by rw [fc.Fg (by omega) (by simp)]; exact d.1.2.2.1) (by rw [fc.Fg (by omega) (by simp)]; exact ⟨d.1.2.2.2.1.2.1, d.1.2.2.2.1.2.2⟩) (by simp)
  have := (d.2 0 h0).1
  unfold SMQ at this ⊢
  rw [fc.Fq (by omega) (by simp), fc.Fq (by omega) (by simp), fc.Fq (by omega) (by simp), fc.Fq (by omega) (by simp)]
  exact this
theorem WRD_q (W : WRD T Fv P PR m) (f : FQm m m2) : WRD T Fv P PR m2 := WRD_g W (FQ_fc f) (DWc_fq W.1 f) (by simp) (by simp)
theorem WL_fq (W0 : WLs RR PR Fv P Fv' P' cur i j0 m w) (f : FQm m m2) (g : FQw w w2) : WLs RR PR Fv P Fv' P' cur i j0 m2 w2 := by
  obtain ⟨⟨d, cx⟩, ⟨dw, lk, wt⟩, pb⟩ := W0.1
  unfold FQw at g
  have f' := f
  unfold FQm at f'
  have lm : ∀ d, LOCm d m m2 := fun d k hk => ⟨f'.1 _ (by simp only [List.mem_cons, List.not_mem_nil, or_false]; unfold pq; omega), f'.2.1 _ (by simp), f'.2.2.1 _ (by simp only [List.mem_cons, List.not_mem_nil, or_false]; unfold pq; omega), f'.2.2.2 _ (by simp only [List.mem_cons, List.not_mem_nil, or_false]; unfold pq; omega)⟩
  have gr : ∀ k, k ∉ [4, 129, 143] → w2.2.2.1 k = w.2.2.1 k := g.2.2.1
  have lw : ∀ d, LOCw d w w2 := fun d => ⟨fun K i h => by
    rw [gr K (by
      simp only [List.mem_cons, List.not_mem_nil, or_false]
      unfold OWi at h
      omega)], fun K hK => by rw [gr K (by simp only [List.mem_cons, List.not_mem_nil, or_false]; omega)], fun i _ _ => by rw [gr 131 (by simp)], by rw [g.2.2.2 111 (by simp)], fun i _ _ => by rw [g.2.2.2 88 (by simp)], fun i _ _ => by rw [g.2.2.2 91 (by simp)], fun i _ _ => by rw [g.2.2.2 93 (by simp)], fun i _ _ => by rw [g.2.2.2 107 (by simp)]⟩
  exact WL_same W0 ⟨⟨DWc_fq d f, CTX_fr cx (f'.1 22 (by simp)) (f'.2.2.1 3 (by simp))⟩, ⟨DW_fr dw g (by simp) (by simp) (by simp) (by simp) (by simp) (by simp) (by simp) (by simp) (by simp) (by simp) (by simp) (by simp) (by simp) (by simp) (by simp) (by simp) (by simp), LK_fr lk g (by simp) (by simp), WTQ_fr wt g (by simp) (by simp) (by simp)⟩, pb⟩ (PGs_fr f' g (by simp) (by simp) (by simp) (by simp) (by simp [PRr]) (by simp)) lm lw (f'.1 955 (by simp)) (f'.2.2.1 54 (by simp)) (g.1 150 (by simp)) (fun K hK => gr K (by simp only [List.mem_cons, List.not_mem_nil, or_false]; omega)) (g.2.2.2 148 (by simp))
theorem ATM_q (h : ATM w) (g : FQw w w2) : ATM w2 := by
  unfold FQw at g
  unfold ATM at h ⊢
  rw [FR.F g (by simp)]
  exact ⟨h.1, h.2.1, fun k hk => by rw [FR.A g (by simp), FR.A g (by simp)]; exact h.2.2 k hk⟩
theorem FQ_q (h : FQs RR PR Fv P Fv' P' m w) (f : FQm m m2) (g : FQw w w2) : FQs RR PR Fv P Fv' P' m2 w2 := by
  obtain ⟨i, W, ⟨h1, h2⟩, ⟨h3, h4⟩, cn, wt⟩ := h
  have W2 := WL_fq W f g
  have at2 := ATM_q cn.2.1 g
  unfold FQm at f
  unfold FQw at g
  exact ⟨i, W2, ⟨by rw [FR.F f (by simp)]; exact h1, by rw [FR.F f (by simp)]; exact h2⟩, ⟨by rw [FR.F g (by simp)]; exact h3, by rw [FR.F g (by simp)]; exact h4⟩, CN_pg cn (PG0_fr f g (by simp) (by simp) (by simp) (by simp [PRr]) (by simp)) at2, WTs_st wt (f.1 950 (by simp)) (fun k hk => f.2.2.1 k (by simp only [List.mem_cons, List.not_mem_nil, or_false]; omega)) (g.1 125 (by simp)) (fun k hk => g.2.2.1 k (by simp only [List.mem_cons, List.not_mem_nil, or_false]; omega))⟩
theorem TBt_q (h : FTs m w ∧ FAr m w ∧ FUs m w) (f : FQm m m2) (g : FQw w w2) : FTs m2 w2 ∧ FAr m2 w2 ∧ FUs m2 w2 := by
  unfold FQm at f
  unfold FQw at g
  exact TB_tab h ⟨f.1 442 (by simp), f.1 449 (by simp)⟩ (fun K hK => f.2.2.1 K (by simp only [List.mem_cons, List.not_mem_nil, or_false]; omega)) (fun K hK => g.2.2.1 K (by unfold PRr at hK; simp only [List.mem_cons, List.not_mem_nil, or_false]; omega)) (g.2.2.2 34 (by simp))
theorem AT_q {fa : Nat → Nat} {na : Nat} (h : ATf m w fa na) (f : FQm m m2) (g : FQw w w2) : ATf m2 w2 fa na := by
  unfold FQm at f
  unfold FQw at g
  exact ATf_k h (f.1 22 (by simp)) (f.2.2.1 2 (by simp)) (f.2.2.1 3 (by simp)) (g.1 14 (by simp)) (g.2.2.1 12 (by simp)) (g.2.2.1 13 (by simp))
theorem TBz_q (h : TBz m w) (f : FQm m m2) (g : FQw w w2) : TBz m2 w2 := by
  obtain ⟨t1, t2, ⟨t3, t4, t5⟩, fa, na, t7⟩ := h
  have a1 := TBt_q t1 f g
  have a7 := AT_q t7 f g
  unfold FQm at f
  unfold FQw at g
  exact ⟨a1, PN_st t2 (f.1 953 (by simp)) (fun K hK => f.2.2.1 K (by simp only [List.mem_cons, List.not_mem_nil, or_false]; omega)) (g.1 128 (by simp)) (fun K hK => g.2.2.1 K (by simp only [List.mem_cons, List.not_mem_nil, or_false]; omega)), ⟨CLk_st t3 (f.1 944 (by simp)) (g.1 120 (by simp)), by rw [f.1 945 (by simp), g.1 121 (by simp)]; exact t4, by rw [f.1 946 (by simp), g.1 119 (by simp)]; exact t5⟩, fa, na, a7⟩
theorem TXr_q (h : TXr m w) (f : FQm m m2) (g : FQw w w2) : TXr m2 w2 := by
  obtain ⟨t1, t2, ⟨t3, t4, t5⟩, t6, fa, na, t7⟩ := h
  have a1 := TBt_q t1 f g
  have a3 := ATM_q t3 g
  have a7 := AT_q t7 f g
  unfold FQm at f
  unfold FQw at g
  exact ⟨a1, by rw [FR.F f (by simp), FR.F g (by simp)]; exact t2, ⟨a3, by rw [FR.F g (by simp)]; exact t4, fun j hj => by rw [FR.A g (by simp)]; exact t5 j hj⟩, by rw [f.1 85 (by simp), g.1 9 (by simp)]; exact t6, fa, na, a7⟩
theorem BGN_q (h : BGN m w) (f : FQm m m2) (g : FQw w w2) : BGN m2 w2 := by
  obtain ⟨T, Fv, P, PR, Fv', AN, TT, CC, ND, CN, PN, SN, UN, FN, h1, h2, h3, h4, h5⟩ := h
  refine ⟨T, Fv, P, PR, Fv', AN, TT, CC, ND, CN, PN, SN, UN, FN, WRD_q h1 f, ?_, ?_, FQ_q h4 f g, TBz_q h5 f g⟩
  · unfold FQw at g
    exact PER_fr h2 g (by decide) (by decide)
  · unfold FQw at g
    exact REST_fr h3 (PRG_26 h2.1) g (by decide) (by decide) (by decide)
theorem NBG_q (h : NBG m) (f : FQm m m2) : NBG m2 := by
  unfold FQm at f
  unfold NBG at h ⊢
  rw [f.1 942 (by simp), f.1 943 (by simp), f.1 944 (by simp), f.1 945 (by simp), f.1 946 (by simp), f.1 953 (by simp)]
  exact h
theorem MCH_q (h : MCH m w) (f : FQm m m2) (g : FQw w w2) : MCH m2 w2 := by
  have f' := f
  have g' := g
  unfold FQm at f'
  unfold FQw at g'
  have e86 : F w2 86 = F w 86 := FR.F g' (by simp)
  have e87 : F w2 87 = F w 87 := FR.F g' (by simp)
  refine ⟨fun z => TXr_q (h.1 (by rw [← e86]; exact z)) f g, ?_⟩
  rcases h.2 with ⟨a1, a2⟩ | ⟨a1, a2, a3, a4, a5⟩
  · exact Or.inl ⟨by rw [e87]; exact a1, NBG_q a2 f⟩
  · exact Or.inr ⟨by rw [e87]; exact a1, by rw [e86]; exact a2, by rw [FR.F f' (by simp)]; exact a3, by rw [FR.F f' (by simp)]; exact a4, BGN_q a5 f g⟩
end
