/-! settle there, allEnds here: all of it -/
set_option maxRecDepth 100000
section
variable {Fv Fv' : Int64 → Int64 → Prop} {P P' : Int64 → Prop} {N f PR q r o i j d y : Nat} {m w m1 w1 m2 w2 m3 w3 : MS} {t x : Int64} {wr v4 : Int} {cur : Option Nat} {RR : Nat → MS → MS → Prop} {L L2 : List Int} {T : List Int32}
theorem LOCw_fr {is ls as js : List Nat} (f : FR is ls as js w w2) (h1 : ∀ k, k ∈ as → k < 200 → k ∉ [89, 90, 92, 94, 95, 96, 97, 98, 99, 100, 101, 102, 103, 104, 105, 106, 108, 109, 110, 112, 113, 114, 115, 116, 117, 131, 132, 170]) (h2 : ∀ k, k ∈ js → k ∉ [88, 91, 93, 107, 111]) (d : Nat) : LOCw d w w2 := by
  have g : ∀ K, K < 200 → K ∈ [89, 90, 92, 94, 95, 96, 97, 98, 99, 100, 101, 102, 103, 104, 105, 106, 108, 109, 110, 112, 113, 114, 115, 116, 117, 131, 132, 170] → w2.2.2.1 K = w.2.2.1 K := fun K hK c => f.2.2.1 K (fun z => h1 K z hK c)
  have gj : ∀ K, K ∈ [88, 91, 93, 107, 111] → w2.2.2.2 K = w.2.2.2 K := fun K c => f.2.2.2 K (fun z => h2 K z c)
  refine ⟨fun K k h => ?_, fun K h => ?_, fun k _ _ => by rw [g 131 (by omega) (by simp)], by rw [gj 111 (by simp)], fun k _ _ => by rw [gj 88 (by simp)], fun k _ _ => by rw [gj 91 (by simp)], fun k _ _ => by rw [gj 93 (by simp)], fun k _ _ => by rw [gj 107 (by simp)]⟩
  · have hK : K ∈ [89, 90, 92, 94, 95, 96, 97, 98, 99, 100, 101, 102, 103, 104, 105, 106, 108, 109, 110, 112, 113, 114, 115, 116, 117, 131, 132, 170] := by
      simp only [List.mem_cons, List.not_mem_nil, or_false]
      rcases h with ⟨h, -⟩ | ⟨h, -⟩ | ⟨h, -⟩ | ⟨h, -⟩ <;> omega
    rw [g K (by simp only [List.mem_cons, List.not_mem_nil, or_false] at hK; omega) hK]
  · rw [g K (by omega) (by simp only [List.mem_cons, List.not_mem_nil, or_false]; omega)]
theorem PGs_w {is ls as js : List Nat} (f : FR is ls as js w w2) (h1 : ∀ k, k ∈ as → ¬ PRr k ∧ k ≠ 12 ∧ k ≠ 13) (h2 : 34 ∉ js) (h3 : ∀ k, k ∈ is → k ≠ 14 ∧ k ≠ 133 ∧ ¬ (151 ≤ k ∧ k ≤ 165)) : PGs m w m w2 := PGs_fr (FR.rf (is := []) (ls := []) (as := []) (js := [])) f (by simp) (by simp) (by simp) h3 h1 h2
/-- the next end -/
theorem st_A {M : Nat} (hB : ∀ (i j r : Nat) (wr : Int) (o : Nat) (x : Int64) (L : List Int) (M2 M3 v2 : Nat) (m w : MS), CUs RR PR Fv P Fv' P' i j r wr o x m w → LSm m r L → LSw w r (L.drop v2) → v2 ≤ L.length → WTs PR m w → PP (fun m2 (_ : Unit) w2 (_ : Unit) => FQs RR PR Fv P Fv' P' m2 w2) ((hg_Wl_settle N M).2 m r (I ((v2 : Nat) : Int))) (bnd ((gg_M_end N M3).2.1 w (I ((r : Nat) : Int)) (I wr) (I ((o : Nat) : Int)) x) (fun u _ => gg_M_allEnds N M2 u))) (M2 : Nat) (m w : MS) (st : STq RR PR Fv P Fv' P' m w) : PP (fun m2 (_ : Unit) w2 (_ : Unit) => FQs RR PR Fv P Fv' P' m2 w2) ((hg_Wl_settle N (M + 1)).1 m) (gg_M_allEnds N M2 w) := by
  cases M2 with
  | zero => exact pp_nr
  | succ M2 =>
  show PP _ (hb_Wl_settle_0 N (hg_Wl_settle N M) m) (fb_M_allEnds_0 N (gg_M_allEnds N M2) w)
  obtain ⟨i, j, W, ⟨h956, h149⟩, cn, wts⟩ := st
  have W0 := W
  obtain ⟨sf, ⟨n, q1, q2, q3, q4⟩, pr, hR⟩ := W
  obtain ⟨⟨d, cx⟩, ⟨dw, lk, wt⟩, pb⟩ := sf
  have p24 := dw.1.2
  have ce := cEc_le m PR
  have h955 := d.1.2.2.2.1.1
  have i24 : i + n ≤ 24 := by omega
  have j24 : j + n ≤ 24 := by
    obtain ⟨eF, eM, -, k2, -, k4, -⟩ := dw.2.2.2.2.1
    have := cE_le w PR
    omega
  unfold hb_Wl_settle_0 fb_M_allEnds_0
  rw [I_F' q1, I_F' h956, I_F' q2, I_F' h149, decI (by omega) (by omega) (by omega) (by omega), decI (by omega) (by omega) (by omega) (by omega)]
  by_cases n0 : n = 0
  · subst n0
    rw [decide_eq_true (by omega), br_t, decide_eq_true (by omega), br_t, lit0, wi_e, lt_e, wi_e, lt_e]
    have f1 : FR [149, 150] [] [] [] w (wi (wi w 149 0) 150 0) := FR.wi (FR.wi FR.rf (by simp)) (by simp)
    have e150 : F (wi (wi w 149 0) 150 0) 150 = ((0 : Nat) : Int) := by rw [F_wi (by omega) (by omega), if_pos rfl]; rfl
    have e149 : F (wi (wi w 149 0) 150 0) 149 = ((0 : Nat) : Int) := by rw [F_wi (by omega) (by omega), if_neg (by omega), F_wi (by omega) (by omega), if_pos rfl]; rfl
    have pg : PGs m w m (wi (wi w 149 0) 150 0) := PGs_w f1 (by simp) (by simp) (by simp)
    have lw : ∀ e, LOCw e w (wi (wi w 149 0) 150 0) := LOCw_fr f1 (by simp) (by simp)
    have s2 : SFs Fv P Fv' P' PR m (wi (wi w 149 0) 150 0) := ⟨⟨d, cx⟩, ⟨DW_ev dw f1 e149 e150 (Nat.le_refl _) (by rw [q2]; omega) (Or.inr rfl), LK_fr lk f1 (by simp) (by simp), WTQ_fr wt f1 (by simp) (by simp) (by simp)⟩, pb⟩
    refine pp_end ⟨i, ⟨s2, ⟨0, q1, e150, fun k hk => absurd hk (Nat.not_lt_zero _), fun k l hk => absurd hk (Nat.not_lt_zero _)⟩, fun e he => ?_, hR⟩, ⟨h956, q1⟩, ⟨e149, e150⟩, CNs_pg cn pg.1, WTs_st wts rfl (fun _ _ => rfl) (f1.1 125 (by simp)) (fun k hk => f1.2.2.1 k (by simp))⟩
    rcases pr e he with ⟨x1, x2, x3⟩ | ⟨x1, x2, x3⟩
    · exact Or.inl ⟨x1, x2, ALs_loc hR ⟨⟨d, cx⟩, ⟨dw, lk, wt⟩, pb⟩ he x1 x3 pg LOCm.rf (lw e)⟩
    · refine Or.inr ⟨x1, x2, ?_⟩
      rcases x3 with x3 | ⟨k, k1, k2, k3⟩ | x3
      · exact Or.inl x3
      · omega
      · exact Or.inr (Or.inr (DEs_st x3 pg.1 LOCm.rf (lw e) (fun _ h => ⟨h, rfl⟩)))
  · rw [decide_eq_false (by omega), br_f]
    refine r_br (fun c => absurd (of_decide_eq_true c) (by omega)) (fun _ => ?_)
    obtain ⟨r, wr, o, ⟨hr, -, hrd⟩, h54, h145, h146, h147, rq, qe⟩ := q3 0 (by omega)
    rw [Nat.add_zero] at h54 h145 h146 h147 rq
    refine l_ck (fun _ => ?_)
    rw [tnI (n := i) rfl (by omega), I_A' h54]
    refine l_ck (fun _ => ?_)
    rw [tnI (n := r) rfl (by omega), d.1.2.1 r hr, bo_s, litm1, wi_e, lt_e]
    rw [lt_e, show I ((j : Nat) : Int) + 1 = I ((j + 1 : Nat) : Int) from addN, wi_e]
    refine r_ck (fun _ => r_ck (fun _ => r_ck (fun _ => r_ck (fun _ => ?_))))
    rw [tnI (n := j) rfl (by omega)]
    generalize hw1 : wi w 149 ((j + 1 : Nat) : Int) = w1
    have f1 : FR [149, 150] [] [] [] w w1 := by rw [← hw1]; exact FR.wi FR.rf (by simp)
    have e149 : F w1 149 = ((j + 1 : Nat) : Int) := by rw [← hw1, F_wi (by omega) (by omega), if_pos rfl]
    have e150 : F w1 150 = ((j + n : Nat) : Int) := by rw [← hw1, F_wi (by omega) (by omega), if_neg (by omega)]; exact q2
    have aw1 : ∀ K k, A w1 K k = A w K k := fun K k => FR.A f1 (by simp)
    have jw1 : ∀ K, w1.2.2.2 K = w.2.2.2 K := fun K => f1.2.2.2 K (by simp)
    rw [I_A' ((aw1 145 j).trans h145), I_A' ((aw1 146 j).trans h146), I_A' ((aw1 147 j).trans h147), jw1]
    have pg1 : PGs m w m w1 := PGs_w f1 (by simp) (by simp) (by simp)
    have lw1 : ∀ e, LOCw e w w1 := LOCw_fr f1 (by simp) (by simp)
    have a9 : A w 109 r = 3 := by
      rcases pr r hr with h | h
      · exact absurd hrd h.1
      · exact h.2.1
    have rq1 : RQs Fv P Fv' P' PR m w1 r wr o (w.2.2.2 148 j) := RQs_st rq rfl rfl (fun _ h => ⟨h, rfl⟩) (fun e _ k hk => (lw1 e).2.2.2.2.1 _ (by omega) (by omega)) (fun e he => by rw [aw1]; exact he) (fun e _ => aw1 89 e)
    have cn1 := CNs_pg cn pg1.1
    obtain ⟨hm, k, z, k', z', g1, g2, g3, g4, g5, g6, g7, g8⟩ := RQ_text rq1 cn1 p24
    obtain ⟨-, -, -, -, -, -, -, -, gw, ho, -⟩ := RQ_src rq1
    unfold fm_M_end
    refine end_text (N := N) (K := fun u _ => gg_M_allEnds N M2 u) (by omega) ho gw cn1.2.1 cn1.2.2.1 cn1.2.2.2.1 g6 g7 g8 (fun M3 w2 tx => ?_)
    obtain ⟨t1, t2, t3, t4, t5⟩ := tx
    generalize hm1 : wi m (pq r 12) (-1) = m1
    have fm : FR [pq r 12] [] [] [] m m1 := by rw [← hm1]; exact FR.wi FR.rf (by simp)
    have fc : FC r [] [] [] [12] [] [] [] m m1 := by rw [← hm1]; exact FC.wi_q FC.rf (by omega) (by simp)
    have i1 : ∀ e l, l < 100 → (e ≠ r ∨ l ≠ 12) → m1.1 (pq e l) = m.1 (pq e l) := fun e l hl h => fm.1 _ (by
      simp
      intro c
      have := pq_e hl (by omega) c
      omega)
    have lm : ∀ e, e ≠ r → LOCm e m m1 := fun e he l hl => ⟨i1 e l hl (Or.inl he), fm.2.1 _ (by simp), fm.2.2.1 _ (by simp), fm.2.2.2 _ (by simp)⟩
    have lw2 : ∀ e, e ≠ r → LOCw e w1 w2 := fun e he => by
      refine ⟨fun K k h => ?_, fun K h => ?_, fun k a c => t4 k (by omega), by rw [t1.2.2.2 111 (by simp)], fun k _ _ => by rw [t1.2.2.2 88 (by simp)], fun k _ _ => by rw [t1.2.2.2 91 (by simp)], fun k _ _ => by rw [t1.2.2.2 93 (by simp)], fun k _ _ => by rw [t1.2.2.2 107 (by simp)]⟩
      · by_cases c : K = 113
        · subst c
          have ke : k = e := by
            rcases h with h | h | h | h
            · exact h.2
            · omega
            · omega
            · omega
          rw [t5, if_neg (by omega)]
        · rw [t1.2.2.1 K (by
            simp only [List.mem_cons, List.not_mem_nil, or_false]
            rcases h with ⟨h, -⟩ | ⟨h, -⟩ | ⟨h, -⟩ | ⟨h, -⟩ <;> omega)]
      · rcases h with rfl | rfl | rfl | rfl
        · rw [t1.2.2.1 89 (by simp)]
        · rw [t1.2.2.1 90 (by simp)]
        · rw [t1.2.2.1 108 (by simp)]
        · rw [t2, if_neg he]
    have wa2 : ∀ K, K ≠ 113 → K ≠ 131 → K ≠ 132 → K ≠ 143 → w2.2.2.1 K = w.2.2.1 K := fun K h1 h2 h3 h4 => by rw [t1.2.2.1 K (by simp; omega), f1.2.2.1 K (by simp)]
    have pg2 : PGs m1 w1 m1 w2 := PGs_w t1 (fun K hK => by simp at hK; unfold PRr; omega) (by simp) (by simp)
    have pgm : PGs m w1 m1 w1 := PGs_fr fm (FR.rf (is := []) (ls := []) (as := []) (js := [])) (fun k hk => by simp at hk; unfold pq at hk; omega) (by simp) (by simp) (by simp) (by simp) (by simp)
    have pg := PGs.tr (PGs.tr pg1 pgm) pg2
    have d2 : DWc Fv P PR m1 := DWc_gl d fc (by simp) (by simp) (fun _ => by
      have := (d.2 r hr).1
      unfold SMQ at this ⊢
      rw [fc.Fq (by omega) (by simp), fc.Fq (by omega) (by simp), fc.Fq (by omega) (by simp), fc.Fq (by omega) (by simp)]
      exact this) (by simp) (by rw [fc.Fg (by omega) (by simp)]; exact d.1.2.2.1) (by rw [fc.Fg (by omega) (by simp)]; exact ⟨d.1.2.2.2.1.2.1, d.1.2.2.2.1.2.2⟩) (by simp)
    have dw1 : DW Fv' P' PR w1 := DW_ev dw f1 e149 e150 (by omega) (by rw [q2]; exact Int.le_refl _) (Or.inl (by rw [h149]; omega))
    have s2 : SFs Fv P Fv' P' PR m1 w2 := ⟨⟨d2, CTX_fr cx (fm.1 22 (by simp [pq_n])) (fm.2.2.1 3 (by simp))⟩, ⟨DW_fr dw1 t1 (by simp) (by simp) (by simp) (by simp) (by simp) (by simp) (by simp) (by simp) (by simp) (by simp) (by simp) (by simp) (by simp) (by simp) (by simp) (by simp) (by simp), LK_fr (LK_fr lk f1 (by simp) (by simp)) t1 (by simp) (by simp), WTQ_fr (WTQ_fr wt f1 (by simp) (by simp) (by simp)) t1 (by simp) (by simp) (by simp)⟩, pb⟩
    have f9 : ∀ e, F m1 (pq e 9) = F m (pq e 9) := fun e => congrArg Int32.toInt (i1 e 9 (by omega) (Or.inr (by omega)))
    have a92 : ∀ e, A w2 109 e = A w 109 e := fun e => by show (w2.2.2.1 109 e).toInt = _; rw [wa2 109 (by omega) (by omega) (by omega) (by omega)]; rfl
    have a89 : ∀ e, A w2 89 e = A w 89 e := fun e => by show (w2.2.2.1 89 e).toInt = _; rw [wa2 89 (by omega) (by omega) (by omega) (by omega)]; rfl
    have hp2 : ∀ e k, hp w2 e k = hp w e k := fun e k => by unfold hp; rw [t1.2.2.2 88 (by simp), f1.2.2.2 88 (by simp)]
    have W2 : WLs RR PR Fv P Fv' P' (some r) (i + 1) (j + 1) m1 w2 := WL_pop W0 s2 pg h54 hr hrd (by rw [q1]; omega) (fun e he => ⟨lm e he, LOCw.tr (lw1 e) (lw2 e he)⟩) (LOCw.tr (lw1 24) (lw2 24 (by omega))) ⟨by rw [f9]; exact hrd, fm.2.2.2 _ (by simp), i1 r 17 (by omega) (Or.inr (by omega)), fm.2.1 _ (by simp)⟩ ⟨fun k _ => hp2 r k, a89 r, by rw [a92]; exact a9⟩ (fm.1 955 (by simp [pq_n])) (fm.2.2.1 54 (by simp)) (by rw [t1.1 150 (by simp), f1' hw1]) (fun K hK => wa2 K (by omega) (by omega) (by omega) (by omega)) (by rw [t1.2.2.2 148 (by simp), jw1])
    have rq2 : RQs Fv P Fv' P' PR m1 w2 r wr o (w.2.2.2 148 j) := RQs_st rq (i1 r 17 (by omega) (Or.inr (by omega))) (fm.2.1 _ (by simp)) (fun e he => ⟨by rw [f9]; exact he, fm.2.2.2 _ (by simp)⟩) (fun e _ k _ => hp2 e k) (fun e he => by rw [a92]; exact he) (fun e _ => a89 e)
    obtain ⟨-, qe2, qe3, L, qe4, qe5⟩ := qe
    have e22 : F m1 22 = F m 22 := FR.F fm (by simp [pq_n])
    have eAT : ATc m1 = ATc m := ATc_eq (fm.2.2.1 2 (by simp)) (fm.2.2.1 3 (by simp))
    have rz : RZs m1 w2 r := by
      refine ⟨hm, k, z, by rw [i1 r 17 (by omega) (Or.inr (by omega))]; exact g1, g2, by rw [f9]; exact g3, by rw [fm.2.2.2 _ (by simp), e22, fm.2.1 _ (by simp)]; exact g4, g5, ?_, fun k9 hk9 => ?_⟩
      · show (w2.2.2.1 132 r).toInt = _
        rw [t2, if_pos rfl, fm.2.2.2 _ (by simp), fm.2.1 _ (by simp), eAT]
        exact I_ti (by omega) (by omega)
      · rw [fm.2.2.2 _ (by simp), fm.2.1 _ (by simp), eAT] at hk9 ⊢
        exact t3 k9 hk9
    have n12 : m1.1 (pq r 12) = I (-1) := by
      rw [← hm1]
      exact if_pos rfl
    have cu : CUs RR PR Fv P Fv' P' i j r wr o (w.2.2.2 148 j) m1 w2 := ⟨W2, ⟨hr, by rw [f9]; exact hrd, by rw [a92]; exact a9⟩, rq2, ⟨n12, by rw [t5, if_pos rfl]⟩, by rw [i1 r 13 (by omega) (Or.inr (by omega)), wa2 114 (by omega) (by omega) (by omega) (by omega)]; exact qe2, by rw [i1 r 5 (by omega) (Or.inr (by omega)), wa2 90 (by omega) (by omega) (by omega) (by omega)]; exact qe3, rz, ⟨by rw [FR.F fm (by simp [pq_n])]; exact h956, by rw [FR.F t1 (by simp)]; exact e149⟩, CNs_pg cn pg.1⟩
    exact hB i j r wr o _ L M2 M3 0 m1 w2 cu (LSm_st qe4 (i1 r 15 (by omega) (Or.inr (by omega))) (fm.2.2.1 _ (by simp))) (LSw_fr qe5 (wa2 116 (by omega) (by omega) (by omega) (by omega)) (wa2 117 (by omega) (by omega) (by omega) (by omega))) (by omega) (WTs_st wts (fm.1 950 (by simp [pq_n])) (fun k _ => fm.2.2.1 k (by simp)) (by rw [t1.1 125 (by simp), f1.1 125 (by simp)]) (fun k hk => wa2 k (by omega) (by omega) (by omega) (by omega)))
where
  f1' {w w1 : MS} {j : Nat} (h : wi w 149 ((j + 1 : Nat) : Int) = w1) : w1.1 150 = w.1 150 := by
    rw [← h]
    exact wi_1 (by omega)
theorem st_all (hN : 3000000 ≤ N) : ∀ M : Nat, (∀ (M2 : Nat) (m w : MS), STq RR PR Fv P Fv' P' m w → PP (fun m2 (_ : Unit) w2 (_ : Unit) => FQs RR PR Fv P Fv' P' m2 w2) ((hg_Wl_settle N M).1 m) (gg_M_allEnds N M2 w)) ∧ ∀ (i j r : Nat) (wr : Int) (o : Nat) (x : Int64) (L : List Int) (M2 M3 v2 : Nat) (m w : MS), CUs RR PR Fv P Fv' P' i j r wr o x m w → LSm m r L → LSw w r (L.drop v2) → v2 ≤ L.length → WTs PR m w → PP (fun m2 (_ : Unit) w2 (_ : Unit) => FQs RR PR Fv P Fv' P' m2 w2) ((hg_Wl_settle N M).2 m r (I ((v2 : Nat) : Int))) (bnd ((gg_M_end N M3).2.1 w (I ((r : Nat) : Int)) (I wr) (I ((o : Nat) : Int)) x) (fun u _ => gg_M_allEnds N M2 u)) := by
  intro M
  induction M with
  | zero => exact ⟨fun _ _ _ _ => pp_nl, fun _ _ _ _ _ _ _ _ _ _ _ _ _ _ _ _ _ => pp_nl⟩
  | succ M ih => exact ⟨fun M2 m w h => st_A ih.2 M2 m w h, fun i j r wr o x L M2 M3 v2 m w c l1 l2 hv hw => st_B ih.1 (ih.2 i j r wr o x L) M2 M3 v2 m w c l1 l2 hv hw hN⟩
/-- settle there, allEnds here -/
theorem settle_pp (st : STq RR PR Fv P Fv' P' m w) (hN : 3000000 ≤ N) : PP (fun m2 (_ : Unit) w2 (_ : Unit) => FQs RR PR Fv P Fv' P' m2 w2) (hm_Wl_settle N m) (fm_M_allEnds N w) := (st_all (PR := PR) (Fv := Fv) (P := P) (Fv' := Fv') (P' := P') hN (N + 1)).1 (N + 1) m w st
end
