/-! a step of p, and others change: the others may change first -/
set_option maxRecDepth 100000
section
variable {b : Int → Nat → Nat → Prop} {N p q d r j U B W Y K i : Nat} {m w wA wC m2 w2 w3 : MS}
theorem LOCw.sym (a : LOCw d w w2) : LOCw d w2 w := ⟨fun K i h => (a.1 K i h).symm, fun K h => (a.2.1 K h).symm, fun i h1 h2 => (a.2.2.1 i h1 h2).symm, a.2.2.2.1.symm, fun i h1 h2 => (a.2.2.2.2.1 i h1 h2).symm, fun i h1 h2 => (a.2.2.2.2.2.1 i h1 h2).symm, fun i h1 h2 => (a.2.2.2.2.2.2.1 i h1 h2).symm, fun i h1 h2 => (a.2.2.2.2.2.2.2 i h1 h2).symm⟩
/-- what is p's own -/
def owP (p j K i : Nat) : Prop := ((K = 89 ∨ K = 90 ∨ K = 92) ∧ i = p) ∨ (K = 98 ∧ i = 60 * p + j) ∨ K = 135 ∨ K = 142
def owJ (p K i : Nat) : Prop := (K = 88 ∧ 500 * p ≤ i ∧ i < 500 * p + 500) ∨ (K = 91 ∧ 46000 * p ≤ i ∧ i < 46000 * p + 46000) ∨ (K = 93 ∧ 2500 * p ≤ i ∧ i < 2500 * p + 2500) ∨ (K = 107 ∧ 30 * p ≤ i ∧ i < 30 * p + 30) ∨ K = 134 ∨ K = 137 ∨ K = 141
/-- wC, but what is p's own as in w -/
noncomputable def swW (p j : Nat) (w wC : MS) : MS := (fun k => if k = 136 ∨ k = 138 ∨ k = 140 then w.1 k else wC.1 k, fun k => if k = 139 then w.2.1 k else wC.2.1 k, fun K i => @ite _ (owP p j K i) (Classical.propDecidable _) (w.2.2.1 K i) (wC.2.2.1 K i), fun K i => @ite _ (owJ p K i) (Classical.propDecidable _) (w.2.2.2 K i) (wC.2.2.2 K i))
theorem swW_A (h : ¬ owP p j K i) : (swW p j w wC).2.2.1 K i = wC.2.2.1 K i := @if_neg _ (Classical.propDecidable _) h _ _ _
theorem swW_Ap (h : owP p j K i) : (swW p j w wC).2.2.1 K i = w.2.2.1 K i := @if_pos _ (Classical.propDecidable _) h _ _ _
theorem swW_J (h : ¬ owJ p K i) : (swW p j w wC).2.2.2 K i = wC.2.2.2 K i := @if_neg _ (Classical.propDecidable _) h _ _ _
theorem swW_1 {k : Nat} (h : k ≠ 136 ∧ k ≠ 138 ∧ k ≠ 140) : (swW p j w wC).1 k = wC.1 k := if_neg (by omega)
theorem swW_fg : FGw p j (swW p j w wC) wC := by
  refine ⟨⟨fun k hk => (swW_1 (by simp at hk; omega)).symm, fun k hk => (if_neg (by simpa using hk)).symm, fun K hK => funext fun i => (swW_A (fun c => ?_)).symm, fun K hK => funext fun i => (swW_J (fun c => ?_)).symm⟩, fun k hk => ⟨?_, ?_, ?_⟩, fun k hk => ?_, fun i hi => ?_, fun i hi => ?_, fun i hi => ?_, fun i hi => ?_⟩
  · unfold owP at c
    simp at hK
    omega
  · unfold owJ at c
    simp at hK
    omega
  · exact congrArg Int32.toInt (swW_A (fun c => by unfold owP at c; omega)).symm
  · exact (swW_A (fun c => by unfold owP at c; omega)).symm
  · exact congrArg Int32.toInt (swW_A (fun c => by unfold owP at c; omega)).symm
  · exact congrArg Int32.toInt (swW_A (fun c => by unfold owP at c; omega)).symm
  · exact (swW_J (fun c => by unfold owJ at c; omega)).symm
  · exact (swW_J (fun c => by unfold owJ at c; omega)).symm
  · exact (swW_J (fun c => by unfold owJ at c; omega)).symm
  · exact (swW_J (fun c => by unfold owJ at c; omega)).symm
/-- p's own rows are those of w -/
theorem swW_eq (g : FGw p j w wA) (L : LOCw p wA wC) (pr : ∀ K, PRr K → wC.2.2.1 K = wA.2.2.1 K) (h34 : wC.2.2.2 34 = wA.2.2.2 34) : EQw p w (swW p j w wC) := by
  obtain ⟨⟨g1, g2, g3, g4⟩, g5, g6, g7⟩ := g
  have ai : ∀ {x y : Int32}, x.toInt = y.toInt → x = y := fun h => Int32.toInt_inj.mp h
  refine ⟨fun K i h => ?_, ?_, fun K hK => funext fun i => ?_, funext fun i => ?_⟩
  · by_cases c : owP p j K i
    · exact swW_Ap c
    · rw [swW_A c, L.1 K i h]
      by_cases c98 : K = 98
      · subst c98
        exact ai (g6 i (fun e => c (Or.inr (Or.inl ⟨rfl, e⟩))))
      · have n92 : K ≠ 92 := fun e => c (by
          subst e
          refine Or.inl ⟨by omega, ?_⟩
          rcases h with h | h | h | h
          · exact h.2
          · omega
          · omega
          · omega)
        have hk := OWi_k h
        have n89 : K ≠ 89 ∧ K ≠ 90 ∧ K ≠ 135 ∧ K ≠ 142 := ⟨by omega, by omega, by omega, by omega⟩
        rw [g3 K (by simp; omega)]
  · rw [swW_J (fun c => by unfold owJ at c; omega), L.2.2.2.1, g4 111 (by simp)]
  · rw [swW_A (fun c => by unfold owP at c; unfold PRr at hK; omega), pr K hK, g3 K (by unfold PRr at hK; simp; omega)]
  · rw [swW_J (fun c => by unfold owJ at c; omega), h34, g4 34 (by simp)]
/-- all of one that is not touched -/
theorem AL_loc (h : PLs b r m w U B W Y ∧ SCs r m w ∧ WTr r m w) (hb : U ≤ 500 ∧ W ≤ 46000 ∧ B ≤ 2500 ∧ Y ≤ 30 ∧ F m (pq r 15) ≤ 24) (pg : PG0 m w m2 w2) (l1 : LOCm r m m2) (l2 : LOCw r w w2) : PLs b r m2 w2 U B W Y ∧ SCs r m2 w2 ∧ WTr r m2 w2 := by
  obtain ⟨pl', sc', rr⟩ := h
  refine ⟨PLs_cg pl' (fun k hk => (l1 k (by simp at hk; omega)).1) (fun i _ => by rw [(l1 2 (by omega)).2.2.2]) (fun i _ => by rw [(l1 33 (by omega)).2.2.2]) (fun i _ => by rw [(l1 35 (by omega)).2.2.2]) (fun i _ => by rw [(l1 6 (by omega)).2.2.2]) (fun k hk => ?_) (fun i hi => l2.2.2.2.2.1 _ (by omega) (by omega)) (fun i hi => l2.2.2.2.2.2.2.1 _ (by omega) (by omega)) (fun i hi => l2.2.2.2.2.2.1 _ (by omega) (by omega)) (fun i hi => l2.2.2.2.2.2.2.2 _ (by omega) (by omega)), SC_eq sc' hb.2.2.2.2 (EQm_loc pg l1) (EQw_loc pg l2), WTr_st rr (EQm_loc pg l1).n (EQw_loc pg l2).v⟩
  simp only [List.mem_cons, List.not_mem_nil, or_false] at hk
  rcases hk with rfl | rfl | rfl | rfl | rfl
  · exact l2.2.1 89 (by omega)
  · exact l2.2.1 90 (by omega)
  · exact l2.1 92 r (Or.inl ⟨by omega, rfl⟩)
  · exact l2.1 94 r (Or.inl ⟨by omega, rfl⟩)
  · exact l2.2.1 108 (by omega)
/-- held names: whose machine it is does not matter -/
theorem hold_py {p p' v1 v2 : Nat} {v3 : Int64} {v6 : Int32} : ∀ (M : Nat) (u : MS) (v7 : Int32), hg_Ma_hold N M u p v1 v2 v3 v6 v7 = hg_Ma_hold N M u p' v1 v2 v3 v6 v7 := by
  intro M
  induction M with
  | zero => intro u v7; rfl
  | succ M ih =>
    intro u v7
    show hb_Ma_hold_40 N (hg_Ma_hold N M) u p v1 v2 v3 v6 v7 = hb_Ma_hold_40 N (hg_Ma_hold N M) u p' v1 v2 v3 v6 v7
    unfold hb_Ma_hold_40
    simp only [ih]
theorem hold_pp {p p' v1 v2 : Nat} {v3 : Int64} {u : MS} : hm_Ma_hold N u p v1 v2 v3 = hm_Ma_hold N u p' v1 v2 v3 := by
  unfold hm_Ma_hold hb_Ma_hold_0 hb_Ma_hold_24
  rw [hold_py (p' := p')]
end
