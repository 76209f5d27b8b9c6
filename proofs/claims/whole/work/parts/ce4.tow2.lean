/-! toward a process: who it is, told along; watch -/
set_option maxRecDepth 100000
section
variable {α β : Type} {b : Int → Nat → Nat → Prop} {Fv Fv' : Int64 → Int64 → Prop} {P P' : Int64 → Prop} {N PR p U B W Y l : Nat} {m w1 : MS} {Q : MS → α → MS → β → Prop} {K1 : MS → Option (MS × α)} {K2 : MS → Option (MS × β)}
theorem tow_hd2 {d k : Int} (hd : (d = 2 ∧ k = 2) ∨ (d = 3 ∧ k = 3) ∨ (d = 15 ∧ k = 16)) (hp1 : p < 24) (dwc : DWc Fv P PR m) (hP4 : so (m.2.2.2 (pq p 35) W) = 4 → 0 ≤ va (m.2.2.2 (pq p 35) W) ∧ va (m.2.2.2 (pq p 35) W) < ((PR : Nat) : Int)) (h133 : F w1 133 = ((p : Nat) : Int)) (hW : W + 1 ≤ 46000) (hl : F m (pq p 45) = ((l : Nat) : Int)) (hl2 : W + 1 ≤ l ∧ l ≤ 1000000) (pl : PLs b p m w1 U B (W + 1) Y)
    (kT : ∀ q : Nat, q < PR → so (m.2.2.2 (pq p 35) W) = 4 → PP Q (bnd (hb_Ma_toward_95 N () m p (I d) 1 (some q)) (fun u _ => K1 u)) (bnd (fb_M_processRun_151 N () w1 (I k) 0 (I ((q : Nat) : Int)) 92 (I ((p : Nat) : Int)) (I ((W + 1 : Nat) : Int)) 1) (fun u _ => K2 u)))
    (kX : PP Q (K1 (tld m 1 (-1) (mk 1 11))) (bnd (fr_M_error N w1 11) (fun u _ => K2 u))) : PP Q (bnd (hm_Ma_toward N m p (I d)) (fun u _ => K1 u)) (bnd (fm_M_predefinedRun N w1 (I k)) (fun u _ => K2 u)) := by
  by_cases e4 : so (m.2.2.2 (pq p 35) W) = 4
  · exact tow_hd hd hp1 dwc hP4 h133 hW hl hl2 pl (fun q hq => kT q hq e4) kX
  have rt := pl.2.2.1.2.2 W (by omega)
  have be : hm_Fr_below N m p 0 = some (m, m.2.2.2 (pq p 35) W) := by
    have := below_e (N := N) (x := 0) (k := 0) (W := W + 1) (l := l) pl.2.2.1.1 hl hl2.1 hl2.2 rfl (by omega)
    rw [show W + 1 - 1 - 0 = W by omega] at this
    exact this
  have all : PP Q (bnd (bnd (hm_Ma_processAt N m p 0) (fun u65 r65 => br (decide (r65 = none)) (bnd (hm_Ma_wrong N u65 p 11) (fun u61 _ => some (u61, ()))) (hb_Ma_toward_95 N () u65 p (I d) 1 r65))) (fun u _ => K1 u)) (bnd (prcR N w1 (I k)) (fun u _ => K2 u)) := by
    unfold prcR
    refine r_bb (r_bb ?_)
    refine r_bnd (pk_mo (top_r (N := N) (k := 0) hp1 h133 pl.2.2.1.2.1 (by omega) (by omega)) (fun w4 r e => ?_))
    obtain ⟨rfl, rfl⟩ := e
    rw [show 46000 * p + (W + 1 - 1 - 0) = 46000 * p + W by omega, sortOf_e, bnd_so, RTb_so rt, show decide (I (so (m.2.2.2 (pq p 35) W)) = 4) = false from by rw [show (4 : Int32) = I 4 from rfl, decE (so_r _).1 (so_r _).2 (by omega) (by omega)]; exact decide_eq_false e4]
    rw [pat_0 be e4, bnd_so, br_f, show decide ((none : Option Nat) = none) = true from rfl, br_t, wrong_e9, bnd_so, bnd_so]
    refine r_bb ?_
    exact kX
  rcases hd with ⟨rfl, rfl⟩ | ⟨rfl, rfl⟩ | ⟨rfl, rfl⟩
  · rw [tw2, prc2]; exact all
  · rw [tw3, prc3]; exact all
  · rw [tw15, prc16]; exact all
/-- whom it watches -/
theorem tow_hd4 (hp1 : p < 24) (dwc : DWc Fv P PR m) (hP4 : so (m.2.2.2 (pq p 35) W) = 4 → 0 ≤ va (m.2.2.2 (pq p 35) W) ∧ va (m.2.2.2 (pq p 35) W) < ((PR : Nat) : Int)) (h133 : F w1 133 = ((p : Nat) : Int)) (h950 : F m 950 = F w1 125 ∧ 0 ≤ F m 950 ∧ F m 950 ≤ 200) (hW : W + 1 ≤ 46000) (hl : F m (pq p 45) = ((l : Nat) : Int)) (hl2 : W + 1 ≤ l ∧ l ≤ 1000000) (pl : PLs b p m w1 U B (W + 1) Y)
    (kT : ∀ q : Nat, q < PR → so (m.2.2.2 (pq p 35) W) = 4 → F m 950 < 200 → PP Q (bnd (hb_Ma_toward_95 N () m p (I 4) 1 (some q)) (fun u _ => K1 u)) (bnd (fb_M_processRun_151 N () w1 (I 4) 0 (I ((q : Nat) : Int)) 92 (I ((p : Nat) : Int)) (I ((W + 1 : Nat) : Int)) 1) (fun u _ => K2 u)))
    (kX : PP Q (K1 (tld m 1 (-1) (mk 1 11))) (bnd (fr_M_error N w1 11) (fun u _ => K2 u))) : PP Q (bnd (hm_Ma_toward N m p (I 4)) (fun u _ => K1 u)) (bnd (fm_M_predefinedRun N w1 (I 4)) (fun u _ => K2 u)) := by
  have rt := pl.2.2.1.2.2 W (by omega)
  have be : hm_Fr_below N m p 0 = some (m, m.2.2.2 (pq p 35) W) := by
    have := below_e (N := N) (x := 0) (k := 0) (W := W + 1) (l := l) pl.2.2.1.1 hl hl2.1 hl2.2 rfl (by omega)
    rw [show W + 1 - 1 - 0 = W by omega] at this
    exact this
  obtain ⟨h1, h2, h3⟩ := h950
  rw [tw4, prd4, prs4]
  refine r_bb (r_bb ?_)
  refine r_bnd (pk_mo (show PK _ (fm_M_top N w1 0) from top_r (N := N) (k := 0) hp1 h133 pl.2.2.1.2.1 (by omega) (by omega)) (fun w4 r e => ?_))
  obtain ⟨rfl, rfl⟩ := e
  rw [show 46000 * p + (W + 1 - 1 - 0) = 46000 * p + W by omega, prt4, sortOf_e, bnd_so, RTb_so rt, show decide (I (so (m.2.2.2 (pq p 35) W)) = 4) = decide (so (m.2.2.2 (pq p 35) W) = 4) from by rw [show (4 : Int32) = I 4 from rfl, decE (so_r _).1 (so_r _).2 (by omega) (by omega)]]
  by_cases e4 : so (m.2.2.2 (pq p 35) W) = 4
  · have xt := RTb_n rt (by unfold isH; omega)
    obtain ⟨v0, v1⟩ := hP4 e4
    obtain ⟨q, hq⟩ : ∃ q : Nat, va (m.2.2.2 (pq p 35) W) = ((q : Nat) : Int) := ⟨(va (m.2.2.2 (pq p 35) W)).toNat, by omega⟩
    rw [pat_4 be e4 hq dwc (by omega), bnd_so, decide_eq_true e4, br_t, show decide ((some q : Option Nat) = none) = false from rfl, br_f, I_F (k := 950), I_F (w := w4) (k := 125), ← h1, show (200 : Int32) = I 200 from rfl, decL (by omega) (by omega) (by omega) (by omega), decE (by omega) (by omega) (by omega) (by omega)]
    by_cases c : F m 950 < 200
    · rw [decide_eq_true c, br_t, decide_eq_false (show ¬ F m 950 = 200 by omega), br_f, valueOf_e, bnd_so, xt, hq, I_F' h133, tnI (n := p) rfl (by omega), I_A' pl.2.2.1.2.1]
      refine rb_ck (fun _ => ?_)
      have := kT q (by omega) e4 c
      simp only [bb_e, bnd_so] at this ⊢
      exact this
    · rw [decide_eq_false c, br_f, decide_eq_true (show F m 950 = 200 by omega), br_t, wrong_e9, bnd_so, bnd_so]
      simp only [bb_e, bnd_so]
      exact kX
  · rw [pat_0 be e4, bnd_so, decide_eq_false e4, br_f, show decide ((none : Option Nat) = none) = true from rfl, br_t, wrong_e9, bnd_so, bnd_so]
    simp only [bb_e, bnd_so]
    exact kX
end
