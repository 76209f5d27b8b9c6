/-! where the one that goes stands; behind a step -/
set_option maxRecDepth 100000
/-- no CALL is left to it -/
def LIs (m w : MS) (p j : Nat) (nb : Nat → Nat) (Hs Os : Nat → List Nat) (a n : Nat) : Prop := (FAs m w p j nb Hs Os ∧ CTs m w p j nb Hs Os) ∧ (F m 1105 = ((a : Nat) : Int) ∧ A w 98 (60 * p + j) = ((n : Nat) : Int)) ∧ (∃ f, CRs (A m 23) (ROs w) (w.2.2.2 34) f none a n (Hs j) (Os j)) ∧ (F m (pq p 9) = 0 ∧ A w 109 p = 0) ∧ (F m 1108 ≠ 0 ∧ F m 1109 = 0 ∧ F w 151 ≠ 0) ∧ F w 133 = ((p : Nat) : Int) ∧ m.1 1106 = w.1 165
/-- it goes on, it waits, or no CALL is left -/
def SPs (p : Nat) (m w : MS) : Prop := (∃ j nb Hs Os y a n, RUs m w p j nb Hs Os y a n) ∨ (∃ j nb Hs Os sc, WTn m w p j nb Hs Os sc) ∨ ∃ j nb Hs Os a n, LIs m w p j nb Hs Os a n
section
variable {p : Nat} {m w m2 w2 : MS}
theorem SPs_st (h : SPs p m w) (h1 : EQn p m m2) (h2 : EQv p w w2) (pg : PGs m w m2 w2) : SPs p m2 w2 := by
  obtain ⟨⟨⟨g1, -, -⟩, g4, g5, -⟩, g7, g8⟩ := id pg
  have h23 : A m2 23 = A m 23 := by funext i; show (m2.2.2.1 23 i).toInt = _; rw [g1]; rfl
  have hRO := ROs_eq g4
  have hP : ∀ K, PRr K → A w2 K = A w K := fun K c => by funext i; show (w2.2.2.1 K i).toInt = _; rw [g4 K c]; rfl
  have fm : ∀ k, 1100 ≤ k → k < 1120 → F m2 k = F m k := fun k c1 c2 => congrArg Int32.toInt (g7 k c1 c2).1
  have fw : ∀ k, k = 133 ∨ (151 ≤ k ∧ k ≤ 165) → F w2 k = F w k := fun k c => congrArg Int32.toInt (g8 k c)
  have fq : ∀ k, k = 8 ∨ k = 9 → F m2 (pq p k) = F m (pq p k) := fun k hk => congrArg Int32.toInt (h1.1 k (by omega) (by simp; omega))
  have aw : ∀ K i, OWi p K i → K ≠ 116 → K ≠ 117 ∧ K ≠ 113 → A w2 K i = A w K i := fun K i a b c => congrArg Int32.toInt (h2.1 K i a b c)
  rcases h with ⟨j, nb, Hs, Os, y, a, n, h⟩ | ⟨j, nb, Hs, Os, sc, h⟩ | ⟨j, nb, Hs, Os, a, n, h⟩
  · exact Or.inl ⟨j, nb, Hs, Os, y, a, n, RUs_st h h1 h2 pg⟩
  · obtain ⟨t1, ⟨t2, t3⟩, t4, t5, t6, ⟨t7, t8, t9⟩, t10, t11, n, t12, t13, t14, t15, g, t16⟩ := h
    have hj : j < 60 := t1.1.1.2.2
    refine Or.inr (Or.inl ⟨j, nb, Hs, Os, sc, FC_eq t1 h1 h2, ⟨by rw [fq 9 (by omega)]; exact t2, by rw [aw 109 p (Or.inl ⟨by omega, rfl⟩) (by omega) (by omega)]; exact t3⟩, by rw [fq 8 (by omega), aw 110 p (Or.inl ⟨by omega, rfl⟩) (by omega) (by omega)]; exact t4, by rw [h1.2.1 10 (by omega) (by omega), h2.2.1]; exact t5, by rw [fm 1105 (by omega) (by omega)]; exact t6, ⟨by rw [fm 1108 (by omega) (by omega)]; exact t7, by rw [fm 1109 (by omega) (by omega)]; exact t8, by rw [fw 151 (by omega)]; exact t9⟩, by rw [(g7 1106 (by omega) (by omega)).1, g8 165 (by omega)]; exact t10, by rw [fw 133 (by omega)]; exact t11, n, by rw [aw 98 _ (Or.inr (Or.inl ⟨⟨by omega, by omega⟩, by omega, by omega⟩)) (by omega) (by omega)]; exact t12, by rw [hP 23 (by unfold PRr; omega)]; exact t13, by rw [hP 27 (by unfold PRr; omega)]; exact t14, t15, g, by rw [h23, hRO, g5]; exact t16⟩)
  · obtain ⟨t1, ⟨t2, t3⟩, ⟨f, t4⟩, ⟨t5, t6⟩, ⟨t7, t8, t9⟩, t10, t11⟩ := h
    have hj : j < 60 := t1.1.1.2.2
    exact Or.inr (Or.inr ⟨j, nb, Hs, Os, a, n, FC_eq t1 h1 h2, ⟨by rw [fm 1105 (by omega) (by omega)]; exact t2, by rw [aw 98 _ (Or.inr (Or.inl ⟨⟨by omega, by omega⟩, by omega, by omega⟩)) (by omega) (by omega)]; exact t3⟩, ⟨f, by rw [h23, hRO, g5]; exact t4⟩, ⟨by rw [fq 9 (by omega)]; exact t5, by rw [aw 109 p (Or.inl ⟨by omega, rfl⟩) (by omega) (by omega)]; exact t6⟩, ⟨by rw [fm 1108 (by omega) (by omega)]; exact t7, by rw [fm 1109 (by omega) (by omega)]; exact t8, by rw [fw 151 (by omega)]; exact t9⟩, by rw [fw 133 (by omega)]; exact t10, by rw [(g7 1106 (by omega) (by omega)).1, g8 165 (by omega)]; exact t11⟩)
theorem RRq_stb : STBl (RRx p (SPs p)) := fun q m w m2 w2 h h1 h2 pg => by
  rcases h with ⟨rfl, h⟩ | ⟨e, h⟩
  · exact Or.inl ⟨rfl, SPs_st h h1 h2 pg⟩
  · exact Or.inr ⟨e, WTr_st h h1 h2⟩
/-- the world with the one that goes, wherever it stands -/
theorem WL_q {PR i j : Nat} {Fv Fv' : Int64 → Int64 → Prop} {P P' : Int64 → Prop} {cur : Option Nat} (wl : WLs (RRt p) PR Fv P Fv' P' cur i j m w) (h : F m (pq p 9) ≠ 3 → SPs p m w) : WLs (RRx p (SPs p)) PR Fv P Fv' P' cur i j m w := by
  obtain ⟨sf, q, pr, -⟩ := wl
  refine ⟨sf, q, fun r hr => ?_, RRq_stb⟩
  rcases pr r hr with ⟨x1, x2, b, U, B, W, Y, pl, sc, rr⟩ | x
  · refine Or.inl ⟨x1, x2, b, U, B, W, Y, pl, sc, ?_⟩
    by_cases e : r = p
    · subst e
      exact Or.inl ⟨rfl, h x1⟩
    · rcases rr with rr | rr
      · exact absurd rr e
      · exact Or.inr ⟨e, rr⟩
  · exact Or.inr x
end
section
variable {Sf : MS → Int32 → Prop} {β : Type} {Fv Fv' : Int64 → Int64 → Prop} {P P' : Int64 → Prop} {N PR p i k : Nat} {m w : MS} {RR : Nat → MS → MS → Prop} {G : MS → Nat → Int32 → Option (MS × Int32)} {Q : MS → Int32 → MS → β → Prop} {K : MS → Option (MS × β)}
/-- behind a step: ends are told on both sides, then on -/
theorem aft_206 (W : WLs RR PR Fv P Fv' P' none i 0 m w) (h956 : F m 956 = ((i : Nat) : Int)) (h149 : F w 149 = 0) (cn : CNq P P' m w) (wt : WTs PR m w) (hN : 3000000 ≤ N)
    (kA : ∀ m2 w2, Sf m (I ((k : Nat) : Int)) → hm_Wl_settle N m = some (m2, ()) → fm_M_allEnds N w = some (w2, ()) → FQs RR PR Fv P Fv' P' m2 w2 → Kwac m m2 → Kwbc w w2 → PP Q (G m2 p (I ((k + 1 : Nat) : Int))) (K w2)) : PP Q (q206 Sf N G m p (I ((k : Nat) : Int))) (bnd (fm_M_allEnds N w) (fun u _ => K u)) := by
  unfold q206 hb_Ma_goOn_206
  refine pp_cll (fun hs => ?_)
  rw [show I ((k : Nat) : Int) + 1 = I ((k + 1 : Nat) : Int) from addN]
  refine pp_bb (fun m2 _ w2 _ e1 e2 => ?_)
  exact kA m2 w2 hs e1 e2 (settle_pp ⟨i, 0, W, ⟨h956, h149⟩, cn, wt⟩ hN m2 () w2 () e1 e2) (ywa_hm_Wl_settle Kwa_rf m2 () e1) (ywb_fm_M_allEnds Kwb_rf w2 () e2)
theorem aft_195 (h9 : F m 1109 = 0) (W : WLs RR PR Fv P Fv' P' none i 0 m w) (h956 : F m 956 = ((i : Nat) : Int)) (h149 : F w 149 = 0) (cn : CNq P P' m w) (wt : WTs PR m w) (hN : 3000000 ≤ N)
    (kA : ∀ m2 w2, Sf m (I ((k : Nat) : Int)) → hm_Wl_settle N m = some (m2, ()) → fm_M_allEnds N w = some (w2, ()) → FQs RR PR Fv P Fv' P' m2 w2 → Kwac m m2 → Kwbc w w2 → PP Q (G m2 p (I ((k + 1 : Nat) : Int))) (K w2)) : PP Q (q195 Sf N G m p (I ((k : Nat) : Int))) (bnd (fm_M_allEnds N w) (fun u _ => K u)) := by
  unfold q195
  refine pp_cll (fun _ => ?_)
  rw [I_F' h9, show decide (I 0 = 0) = true from rfl, br_t]
  exact aft_206 W h956 h149 cn wt hN kA
end
