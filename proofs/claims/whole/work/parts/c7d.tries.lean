/-! a part is tried: what stands behind it, both sides -/
set_option maxRecDepth 100000
/-- the names of FRAME j anew -/
def exO (Os : Nat → List Nat) (j : Nat) (O2 : List Nat) : Nat → List Nat := fun i => if i = j then O2 else Os i
section
variable {b : Int → Nat → Nat → Prop} {P P' : Int64 → Prop} {ow kd ow' kd' : Nat → Nat} {p B0 U W Y nbj j a : Nat} {m w m3 w3 : MS} {nb : Nat → Nat} {Hs Os : Nat → List Nat} {H O O2 : List Nat}
theorem exO_j : exO Os j O2 j = O2 := if_pos rfl
theorem GGm_nf (nf : NFx p B0 m m3) : GGm p m m3 := GGm_fc nf.1 (by simp) (by simp) (by simp)
theorem GGw_fw (fw : FWx p B0 w w3) : GGw p w w3 := by
  obtain ⟨f, f94, f93⟩ := fw
  have ai : ∀ {x y : Int32}, x.toInt = y.toInt → x = y := fun h => Int32.toInt_inj.mp h
  refine ⟨fun d hd => ⟨fun K i h => ?_, fun K h => by rw [f.2.2.1 K (by simp; omega)], fun i _ _ => by rw [f.2.2.1 131 (by simp)], by rw [f.2.2.2 111 (by simp)], fun i _ _ => by rw [f.2.2.2 88 (by simp)], fun i _ _ => by rw [f.2.2.2 91 (by simp)], fun i a c => f93 i (by omega), fun i _ _ => by rw [f.2.2.2 107 (by simp)]⟩, ⟨fun K h => f.2.2.1 K (by unfold PRr at h; simp; omega), f.2.2.2 34 (by simp), f.2.2.1 12 (by simp), f.2.2.1 13 (by simp), f.1 14 (by simp)⟩, f.1 150 (by simp), fun K h => f.2.2.1 K (by simp; omega), f.2.2.2 148 (by simp), fun K h => f.2.2.1 K (by simp; omega), fun k h => f.1 k (by simp)⟩
  by_cases c : K = 94
  · subst c
    have ki : i = d := by
      rcases h with h | h | h | h
      · exact h.2
      · omega
      · omega
      · omega
    subst ki
    exact ai (f94 i hd)
  · rw [f.2.2.1 K (by
      simp only [List.mem_cons, List.not_mem_nil, or_false]
      rcases h with ⟨h, -⟩ | ⟨h, -⟩ | ⟨h, -⟩ | ⟨h, -⟩ <;> omega)]
/-- it does not fit: names as they were -/
theorem PLs_fail (pl : PLs b p m w U B0 W Y) (nf : NFx p B0 m m3) (fw : FWx p B0 w w3) (hB : B0 ≤ 2500) : PLs b p (wi m3 (pq p 24) ((B0 : Nat) : Int)) (wa w3 94 p ((B0 : Nat) : Int)) U B0 W Y := by
  obtain ⟨f, f94, f93⟩ := fw
  have fq : ∀ k, k < 100 → k ∉ [24, 42, 43] → m3.1 (pq p k) = m.1 (pq p k) := fun k h hk => nf.1.2.2.2.2.1 p k h (fun _ => hk)
  have jq : ∀ k, k < 100 → k ∉ [33] → m3.2.2.2 (pq p k) = m.2.2.2 (pq p k) := fun k h hk => nf.1.jq h hk
  have p24 := pl.2.1.1
  have p94 := pl.2.1.2.1
  refine PLs_cg pl (fun k hk => ?_) (fun i _ => by show m3.2.2.2 (pq p 2) i = _; rw [jq 2 (by omega) (by simp)]) (fun i hi => (nf.2.2 i hi).2) (fun i _ => by show m3.2.2.2 (pq p 35) i = _; rw [jq 35 (by omega) (by simp)]) (fun i _ => by show m3.2.2.2 (pq p 6) i = _; rw [jq 6 (by omega) (by simp)]) (fun K hK => ?_) (fun i _ => by show w3.2.2.2 88 _ = _; rw [f.2.2.2 88 (by simp)]) (fun i hi => f93 _ (by omega)) (fun i _ => by show w3.2.2.2 91 _ = _; rw [f.2.2.2 91 (by simp)]) (fun i _ => by show w3.2.2.2 107 _ = _; rw [f.2.2.2 107 (by simp)])
  · simp only [List.mem_cons, List.not_mem_nil, or_false] at hk
    by_cases c : k = 24
    · subst c
      apply Int32.toInt_inj.mp
      show F (wi m3 (pq p 24) ((B0 : Nat) : Int)) (pq p 24) = F m (pq p 24)
      rw [wi_sm (by omega) (by omega), p24]
    · rw [wi_1 (pq_inj c)]
      exact fq k (by omega) (by simp; omega)
  · simp only [List.mem_cons, List.not_mem_nil, or_false] at hK
    by_cases c : K = 94
    · subst c
      apply Int32.toInt_inj.mp
      show A (wa w3 94 p ((B0 : Nat) : Int)) 94 p = A w 94 p
      rw [wa_sm (by omega) (by omega), p94]
    · rw [wa_21 c, f.2.2.1 K (by simp; omega)]
/-- it fits: names more -/
theorem FA_ex (fa : FAs m w p j nb Hs Os) (hX : ∃ X, O2 = Os j ++ X) (nf : NFx p B0 m m3) (fw : FWx p B0 w w3) (nms : NMs m3 p (nb j) (Hs j ++ O2)) (h24 : F m3 (pq p 24) = ((nb j + (Hs j ++ O2).length : Nat) : Int)) (hB : B0 = nb j + (Hs j ++ Os j).length) : FAs m3 w3 p j nb Hs (exO Os j O2) := by
  obtain ⟨⟨f1, f2, f3⟩, f4, f5, f6⟩ := fa
  obtain ⟨f, -, -⟩ := fw
  have aF : ∀ k, k < 100 → k ∉ [24, 42, 43] → F m3 (pq p k) = F m (pq p k) := fun k h hk => nf.1.Fq h hk
  have a30 : A m3 (pq p 30) = A m (pq p 30) := by funext i; exact nf.1.aq (by omega) (by simp)
  have pr : ∀ K, PRr K → w3.2.2.1 K = w.2.2.1 K := fun K h => f.2.2.1 K (by unfold PRr at h; simp; omega)
  have hP : ∀ K, PRr K → A w3 K = A w K := fun K a => by funext i; show (w3.2.2.1 K i).toInt = _; rw [pr K a]; rfl
  have wA : ∀ K i, (95 ≤ K ∧ K ≤ 101) → A w3 K i = A w K i := fun K i h => FR.A f (by simp; omega)
  refine ⟨⟨by rw [aF 21 (by omega) (by simp)]; exact f1, by rw [wA 95 _ (by omega)]; exact f2, f3⟩, fun r hr => ?_, fun r hr => ?_, by rw [exO_j]; exact h24⟩
  · obtain ⟨g1, g2, ⟨g3, g4⟩, g5, g6, g7⟩ := f4 r hr
    refine ⟨by rw [a30, wA 96 _ (by omega)]; exact g1, ?_, ⟨by rw [a30]; exact g3, by rw [wA 99 _ (by omega)]; exact g4⟩, by rw [a30, wA 100 _ (by omega)]; exact g5, by rw [wA 101 _ (by omega)]; exact g6, ?_⟩
    · rw [a30, wA 97 _ (by omega)]
      rcases g2 with g2 | ⟨k, t, k1, k2, k3⟩
      · exact Or.inl g2
      · exact Or.inr ⟨k, t, k1, by rw [hP 44 (by unfold PRr; omega)]; exact k2, by rw [hP 8 (by unfold PRr; omega)]; exact k3⟩
    · by_cases c : r = j
      · subst c
        rw [exO_j]
        exact nms
      · have er : exO Os j O2 r = Os r := if_neg c
        rw [er]
        intro i x hx
        have il : i < (Hs r ++ Os r).length := (List.getElem?_eq_some_iff.mp hx).1
        have hle : nb r + (Hs r).length + (Os r).length ≤ nb j := by
          have h5 := (f5 r (by omega)).1
          have h6 : ∀ d q, q + d = j → nb q ≤ nb j := by
            intro d
            induction d with
            | zero => intro q hq; rw [show q = j by omega]; exact Nat.le_refl _
            | succ d ih =>
              intro q hq
              have := (f5 q (by omega)).1
              have := ih (q + 1) (by omega)
              omega
          have := h6 (j - (r + 1)) (r + 1) (by omega)
          rw [List.length_append] at h5
          omega
        rw [List.length_append] at il
        show (m3.2.2.1 (pq p 32) (nb r + i)).toInt = _
        rw [(nf.2.2 (nb r + i) (by rw [hB]; omega)).1]
        exact g7 i x hx
  · obtain ⟨g1, a, n, g2, g3, g4⟩ := f5 r hr
    have er : exO Os j O2 r = Os r := if_neg (by omega)
    have h23 : A m3 23 = A m 23 := nf.c
    rw [er]
    exact ⟨g1, a, n, by rw [a30]; exact g2, by rw [wA 98 _ (by omega)]; exact g3, by rw [h23, ROs_eq pr, f.2.2.2 34 (by simp)]; exact g4⟩
theorem CT_ex (ct : CTs m w p j nb Hs Os) (hX : ∃ X, O2 = Os j ++ X) (nf : NFx p B0 m m3) (fw : FWx p B0 w w3) : CTs m3 w3 p j nb Hs (exO Os j O2) := by
  obtain ⟨n, c1, c2, c3, c5, c4⟩ := ct
  obtain ⟨f, -, -⟩ := fw
  obtain ⟨X, hX⟩ := hX
  have pr : ∀ K, PRr K → w3.2.2.1 K = w.2.2.1 K := fun K h => f.2.2.1 K (by unfold PRr at h; simp; omega)
  have hP : ∀ K, PRr K → A w3 K = A w K := fun K a => by funext i; show (w3.2.2.1 K i).toInt = _; rw [pr K a]; rfl
  have a37 : A m3 (pq p 37) = A m (pq p 37) := by funext i; exact nf.1.aq (by omega) (by simp)
  have wA : ∀ K i, (102 ≤ K ∧ K ≤ 106) → A w3 K i = A w K i := fun K i h => FR.A f (by simp; omega)
  refine ⟨n, by rw [nf.1.Fq (by omega) (by simp)]; exact c1, by rw [wA 106 _ (by omega)]; exact c2, c3, fun c hc => by rw [wA 102 _ (by omega), wA 102 _ (by omega), wA 105 _ (by omega), wA 105 _ (by omega)]; exact c5 c hc, fun c hc => ?_⟩
  obtain ⟨r, k, a, nd, nn, k1, k2, k3, k4, k5, k6, k7, k8, k9, k10, k11⟩ := c4 c hc
  have h23 : A m3 23 = A m 23 := nf.c
  have le : (Os r).length ≤ (exO Os j O2 r).length ∧ ∀ k, k ≤ (Os r).length → (exO Os j O2 r).take k = (Os r).take k := by
    by_cases cr : r = j
    · subst cr
      rw [exO_j, hX]
      exact ⟨by simp, fun k hk => by rw [List.take_append_of_le_length hk]⟩
    · rw [show exO Os j O2 r = Os r from if_neg cr]
      exact ⟨Nat.le_refl _, fun _ _ => rfl⟩
  exact ⟨r, k, a, nd, nn, k1, by rw [a37]; exact k2, by rw [wA 102 _ (by omega)]; exact k3, by rw [a37]; exact k4, by rw [wA 105 _ (by omega)]; exact k5, by omega, by rw [a37, wA 104 _ (by omega)]; exact k7, by rw [a37]; exact k8, by rw [wA 103 _ (by omega)]; exact k9, by rw [hP 25 (by unfold PRr; omega)]; exact k10, by rw [h23, ROs_eq pr, f.2.2.2 34 (by simp), le.2 k k6]; exact k11⟩
end
