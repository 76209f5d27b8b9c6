/-! what a step may change of the one that goes; literals, names -/
set_option maxRecDepth 100000
def FGm (p : Nat) (m m2 : MS) : Prop := FR [pq p 4, pq p 5, pq p 26, pq p 45, 1105] [] [] [pq p 2, pq p 3, pq p 33, pq p 35, pq p 6, 44, 45, 46] m m2
def FGw (p j : Nat) (w w2 : MS) : Prop := FR [136, 138, 140] [139] [89, 90, 92, 98, 135, 142] [88, 91, 93, 107, 134, 137, 141] w w2 ∧ (∀ k, k ≠ p → A w2 89 k = A w 89 k ∧ w2.2.2.1 90 k = w.2.2.1 90 k ∧ A w2 92 k = A w 92 k) ∧ (∀ k, k ≠ 60 * p + j → A w2 98 k = A w 98 k) ∧ (∀ i, ¬ (500 * p ≤ i ∧ i < 500 * p + 500) → w2.2.2.2 88 i = w.2.2.2 88 i) ∧ (∀ i, ¬ (46000 * p ≤ i ∧ i < 46000 * p + 46000) → w2.2.2.2 91 i = w.2.2.2 91 i) ∧ (∀ i, ¬ (2500 * p ≤ i ∧ i < 2500 * p + 2500) → w2.2.2.2 93 i = w.2.2.2 93 i) ∧ ∀ i, ¬ (30 * p ≤ i ∧ i < 30 * p + 30) → w2.2.2.2 107 i = w.2.2.2 107 i
section
variable {b : Int → Nat → Nat → Prop} {N p k l U B W Y j a a2 n n2 d : Nat} {m w m2 w2 m3 w3 : MS} {t x : Int64} {nb : Nat → Nat} {Hs Os : Nat → List Nat} {y : Option (Nat × Nat × Nat)} {v z : Int}
theorem FGm.tr (h1 : FGm p m m2) (h2 : FGm p m2 m3) : FGm p m m3 := FR.tr h1 h2
theorem FGm.rf : FGm p m m := FR.rf
theorem FGw.rf : FGw p j w w := ⟨FR.rf, fun _ _ => ⟨rfl, rfl, rfl⟩, fun _ _ => rfl, fun _ _ => rfl, fun _ _ => rfl, fun _ _ => rfl, fun _ _ => rfl⟩
theorem FGw.tr (h1 : FGw p j w w2) (h2 : FGw p j w2 w3) : FGw p j w w3 := by
  obtain ⟨a1, a2, a3, a4, a5, a6, a7⟩ := h1
  obtain ⟨c1, c2, c3, c4, c5, c6, c7⟩ := h2
  exact ⟨FR.tr a1 c1, fun k h => ⟨(c2 k h).1.trans (a2 k h).1, (c2 k h).2.1.trans (a2 k h).2.1, (c2 k h).2.2.trans (a2 k h).2.2⟩, fun k h => (c3 k h).trans (a3 k h), fun i h => (c4 i h).trans (a4 i h), fun i h => (c5 i h).trans (a5 i h), fun i h => (c6 i h).trans (a6 i h), fun i h => (c7 i h).trans (a7 i h)⟩
theorem FGm.pc : FGm p m (wi m 1105 v) := FR.wi FR.rf (by simp)
theorem FGm.push (f : FR [pq p 26, pq p 45] [] [] [pq p 35] m m2) : FGm p m m2 := FR.mo f (by simp) (by simp) (by simp) (by simp)
theorem FGm.drop : FGm p m (wi m (pq p 26) v) := FR.wi FR.rf (by simp)
theorem FGw.goto : FGw p j w (wa w 98 (60 * p + j) v) := ⟨FR.wa FR.rf (by simp), fun _ _ => ⟨rfl, rfl, rfl⟩, fun k h => by
  show ((if (98 : Nat) = 98 then upd (w.2.2.1 98) (60 * p + j) (I v) else w.2.2.1 98) k).toInt = _
  rw [if_pos rfl]
  show (if k = 60 * p + j then I v else w.2.2.1 98 k).toInt = _
  rw [if_neg h]
  rfl, fun _ _ => rfl, fun _ _ => rfl, fun _ _ => rfl, fun _ _ => rfl⟩
theorem FGw.w92 : FGw p j w (wa w 92 p v) := ⟨FR.wa FR.rf (by simp), fun k h => ⟨rfl, rfl, by
  show ((if (92 : Nat) = 92 then upd (w.2.2.1 92) p (I v) else w.2.2.1 92) k).toInt = _
  rw [if_pos rfl]
  show (if k = p then I v else w.2.2.1 92 k).toInt = _
  rw [if_neg h]
  rfl⟩, fun _ _ => rfl, fun _ _ => rfl, fun _ _ => rfl, fun _ _ => rfl, fun _ _ => rfl⟩
theorem FGw.w91 (hW : W < 46000) : FGw p j w (wj w 91 (46000 * p + W) x) := ⟨FR.wj FR.rf (by simp), fun _ _ => ⟨rfl, rfl, rfl⟩, fun _ _ => rfl, fun _ _ => rfl, fun i h => by rw [wj_row, if_neg (by omega)], fun _ _ => rfl, fun _ _ => rfl⟩
theorem FGw.put (hW : W < 46000) : FGw p j w (wa (wj w 91 (46000 * p + W) x) 92 p v) := FGw.tr (FGw.w91 hW) FGw.w92
theorem FG_loc (f : FGm p m m2) (g : FGw p j w w2) (hj : j < 60) (hd : d ≠ p) : LOCm d m m2 ∧ LOCw d w w2 := by
  obtain ⟨g1, g2, g3, g4, g5, g6, g7⟩ := g
  have n : ∀ k l, k < 100 → l < 100 → pq d k ≠ pq p l := fun k l hk hl c => hd (pq_e hk hl c).1
  have ai : ∀ {x y : Int32}, x.toInt = y.toInt → x = y := fun h => Int32.toInt_inj.mp h
  refine ⟨fun k hk => ⟨f.1 _ ?_, f.2.1 _ (by simp), f.2.2.1 _ (by simp), f.2.2.2 _ ?_⟩, fun K i h => ?_, fun K h => ?_, fun i _ _ => by rw [g1.2.2.1 131 (by simp)], by rw [g1.2.2.2 111 (by simp)], fun i a c => g4 i (by omega), fun i a c => g5 i (by omega), fun i a c => g6 i (by omega), fun i a c => g7 i (by omega)⟩
  · simp only [List.mem_cons, List.not_mem_nil, or_false]
    intro c
    rcases c with c | c | c | c | c
    · exact n k 4 hk (by omega) c
    · exact n k 5 hk (by omega) c
    · exact n k 26 hk (by omega) c
    · exact n k 45 hk (by omega) c
    · exact pq_n (by omega) c.symm
  · simp only [List.mem_cons, List.not_mem_nil, or_false]
    intro c
    rcases c with c | c | c | c | c | c | c | c
    · exact n k 2 hk (by omega) c
    · exact n k 3 hk (by omega) c
    · exact n k 33 hk (by omega) c
    · exact n k 35 hk (by omega) c
    · exact n k 6 hk (by omega) c
    · exact pq_n (by omega) c.symm
    · exact pq_n (by omega) c.symm
    · exact pq_n (by omega) c.symm
  · by_cases c : K = 92
    · subst c
      have ki : i = d := by
        rcases h with h | h | h | h
        · exact h.2
        · omega
        · omega
        · omega
      subst ki
      exact ai (g2 i hd).2.2
    · by_cases c2 : K = 98
      · subst c2
        have ki : 60 * d ≤ i ∧ i < 60 * d + 60 := by
          rcases h with h | h | h | h
          · omega
          · exact h.2
          · omega
          · omega
        exact ai (g3 i (by omega))
      · rw [g1.2.2.1 K (by
          simp only [List.mem_cons, List.not_mem_nil, or_false]
          rcases h with ⟨h, -⟩ | ⟨h, -⟩ | ⟨h, -⟩ | ⟨h, -⟩ <;> omega)]
  · rcases h with rfl | rfl | rfl | rfl
    · exact ai (g2 d hd).1
    · exact (g2 d hd).2.1
    · rw [g1.2.2.1 108 (by simp)]
    · rw [g1.2.2.1 132 (by simp)]
/-- on from the next word, the next node -/
theorem RUs_mv (h : RUs m w p j nb Hs Os y a n) (f : FGm p m m2) (g : FGw p j w w2) (h1 : F m2 1105 = ((a2 : Nat) : Int)) (h2 : A w2 98 (60 * p + j) = ((n2 : Nat) : Int)) (c : ∃ f, CRs (A m 23) (ROs w) (w.2.2.2 34) f y a2 n2 (Hs j) (Os j)) : RUs m2 w2 p j nb Hs Os y a2 n2 := by
  obtain ⟨r1, -, -, ⟨r5, r6⟩, r7, ⟨r8, r9, r10⟩, r11, r12, r13⟩ := h
  obtain ⟨g1, g2, g3, -⟩ := g
  have hj : j < 60 := r1.1.1.2.2
  have ai : ∀ {x y : Int32}, x.toInt = y.toInt → x = y := fun h => Int32.toInt_inj.mp h
  have i1 : ∀ k, k < 100 → k ≠ 4 → k ≠ 5 → k ≠ 26 → k ≠ 45 → m2.1 (pq p k) = m.1 (pq p k) := fun k h0 h1 h2 h3 h4 => f.1 _ (by
    simp only [List.mem_cons, List.not_mem_nil, or_false]
    intro c
    rcases c with c | c | c | c | c
    · exact pq_inj h1 c
    · exact pq_inj h2 c
    · exact pq_inj h3 c
    · exact pq_inj h4 c
    · exact pq_n (by omega) c.symm)
  have fm : ∀ k, 1106 ≤ k → k < 1120 → m2.1 k = m.1 k := fun k c1 c2 => f.1 k (by simp; unfold pq; omega)
  have fF : ∀ k, 1106 ≤ k → k < 1120 → F m2 k = F m k := fun k c1 c2 => congrArg Int32.toInt (fm k c1 c2)
  have fw : ∀ k, k = 133 ∨ (151 ≤ k ∧ k ≤ 165) → w2.1 k = w.1 k := fun k c => g1.1 k (by simp; omega)
  have wF : ∀ k, k = 133 ∨ (151 ≤ k ∧ k ≤ 165) → F w2 k = F w k := fun k c => congrArg Int32.toInt (fw k c)
  have h23 : A m2 23 = A m 23 := by funext i; exact FR.A f (by simp)
  have pr : ∀ K, PRr K → w2.2.2.1 K = w.2.2.1 K := fun K c => g1.2.2.1 K (by unfold PRr at c; simp; omega)
  have hRO := ROs_eq pr
  have hP : ∀ K, PRr K → A w2 K = A w K := fun K c => by funext i; show (w2.2.2.1 K i).toInt = _; rw [pr K c]; rfl
  have h34 : w2.2.2.2 34 = w.2.2.2 34 := g1.2.2.2 34 (by simp)
  have f8 : F m2 (pq p 8) = F m (pq p 8) := congrArg Int32.toInt (i1 8 (by omega) (by omega) (by omega) (by omega) (by omega))
  refine ⟨FC_w r1 (fun k c => i1 k (by omega) (by omega) (by omega) (by omega) (by omega)) (fun k c => f.2.2.1 _ (by simp)) (f.2.2.1 23 (by simp)) (fun K c => by rw [g1.2.2.1 K (by simp; omega)]) (fun K r c1 c2 c3 c4 => ?_) (fun K c c1 c2 c3 => by rw [g1.2.2.1 K (by simp; omega)]) pr h34, ⟨h1, h2⟩, by rw [h23, hRO, h34]; exact c, ⟨?_, ?_⟩, ?_, ⟨by rw [fF 1108 (by omega) (by omega)]; exact r8, by rw [fF 1109 (by omega) (by omega)]; exact r9, by rw [wF 151 (by omega)]; exact r10⟩, by rw [wF 133 (by omega)]; exact r11, by rw [fm 1106 (by omega) (by omega), fw 165 (by omega)]; exact r12, by rw [fm 1107 (by omega) (by omega), fw 164 (by omega)]; exact r13⟩
  · by_cases c5 : K = 98
    · subst c5
      exact ai (g3 _ (by have := c4 rfl; omega))
    · rw [g1.2.2.1 K (by simp; omega)]
  · show (m2.1 (pq p 9)).toInt = _
    rw [i1 9 (by omega) (by omega) (by omega) (by omega) (by omega)]
    exact r5
  · rw [FR.A g1 (by simp)]
    exact r6
  · rcases r7 with ⟨c1, c2, c3⟩ | ⟨kd, k, sc, c1, fl, W0, O0, X, c2, ⟨c3, c4, c5, c6⟩, ⟨c7, c8, c9, c10, c11⟩, c12, f2, g, c13⟩
    · exact Or.inl ⟨c1, by rw [fF 1112 (by omega) (by omega)]; exact c2, by rw [wF 152 (by omega)]; exact c3⟩
    · refine Or.inr ⟨kd, k, sc, c1, fl, W0, O0, X, c2, ⟨by rw [fF 1112 (by omega) (by omega)]; exact c3, c4, by rw [fF 1113 (by omega) (by omega)]; exact c5, by rw [fF 1114 (by omega) (by omega)]; exact c6⟩, ⟨by rw [wF 152 (by omega)]; exact c7, by rw [wF 153 (by omega)]; exact c8, by rw [wF 154 (by omega)]; exact c9, by rw [wF 156 (by omega)]; exact c10, by rw [wF 157 (by omega)]; exact c11⟩, fun e3 => ?_, f2, g, by rw [h23, hRO, h34, hP 45 (by unfold PRr; omega)]; exact c13⟩
      obtain ⟨d1, n2, d2, d3, d4, d5, g2, d6⟩ := c12 e3
      exact ⟨⟨by rw [wF 158 (by omega), f8]; exact d1.1, by rw [f.2.1 _ (by simp), g1.2.2.2 111 (by simp)]; exact d1.2⟩, n2, by rw [wF 159 (by omega)]; exact d2, by rw [wF 155 (by omega), hP 25 (by unfold PRr; omega)]; exact d3, by rw [hP 23 (by unfold PRr; omega)]; exact d4, by rw [hP 27 (by unfold PRr; omega)]; exact d5, g2, by rw [h23, hRO, h34]; exact d6⟩
end
section
variable {α β : Type} {b : Int → Nat → Nat → Prop} {N p k l U B W Y j a n : Nat} {m w m2 w2 m3 w3 : MS} {t x : Int64} {nb : Nat → Nat} {Hs Os : Nat → List Nat} {y : Option (Nat × Nat × Nat)} {Q : MS → α → MS → β → Prop} {K1 : MS → Option (MS × α)} {K2 : MS → Option (MS × β)}
/-- what is asked of the one that goes: room for its terms -/
def BDr (p W l : Nat) (m : MS) : Prop := W < 46000 ∧ F m (pq p 45) = ((l : Nat) : Int) ∧ W ≤ l ∧ l ≤ 1000000
/-- behind a step that pushes: on -/
theorem push_pp {a2 n2 : Nat} (hp : p < 24) (ru : RUs m w p j nb Hs Os y a n) (bd : BDr p W l m) (rt : RTb b t x) (f0 : FGm p m m2) (g0 : FGw p j w w2) (pl2 : PLs b p m2 w2 U B W Y) (h45 : F m2 (pq p 45) = ((l : Nat) : Int)) (h133 : F w2 133 = ((p : Nat) : Int)) (h98 : A w2 98 (60 * p + j) = ((n2 : Nat) : Int)) {dz : Nat} (ha : F m2 1105 = ((a : Nat) : Int)) (e2 : a2 = a + dz) (hd : a2 < 1000000) (cr : ∃ f, CRs (A m 23) (ROs w) (w.2.2.2 34) f y a2 n2 (Hs j) (Os j))
    (c : ∀ m3 w3, PLs b p m3 w3 U B (W + 1) Y → RUs m3 w3 p j nb Hs Os y a2 n2 → FGm p m m3 → FGw p j w w3 → PP Q (K1 m3) (K2 w3)) : PP Q (bnd (bnd (hm_Fr_push N m2 p t) (fun u11 _ => lt (upI u11 1105 ((u11.1 1105) + I ((dz : Nat) : Int))) (fun w14 => some (w14, ())))) (fun u (_ : Unit) => K1 u)) (bnd (bnd (fm_M_put N w2 x) (fun u28 _ => some (u28, ()))) (fun u (_ : Unit) => K2 u)) := by
  rw [bb_e, bb_e]
  obtain ⟨b1, b2, b3, b4⟩ := bd
  refine l_bnd (pk_mo (push_m (N := N) (t := t) pl2.2.2.1.1 h45 b3 b4) (fun m3 _ h => ?_))
  obtain ⟨h1, h2, h3⟩ := h
  refine r_bnd (pk_mo (put_r (N := N) (x := x) hp h133 pl2.2.2.1.2.1 (by omega)) (fun w3 _ h => ?_))
  subst h
  have e5 : F m3 1105 = ((a : Nat) : Int) := by rw [FR.F h1 (by simp [pq_n])]; exact ha
  rw [I_F' e5, show I ((a : Nat) : Int) + I ((dz : Nat) : Int) = I ((a + dz : Nat) : Int) from addN, wi_e]
  show PP Q (K1 (wi m3 1105 ((a + dz : Nat) : Int))) (K2 _)
  have pl3 := PLs_push pl2 rt h1 h2 h3
  have f3 : FGm p m (wi m3 1105 ((a + dz : Nat) : Int)) := FGm.tr (FGm.tr f0 (FGm.push h1)) FGm.pc
  have g3 : FGw p j w (wa (wj w2 91 (46000 * p + W) x) 92 p ((W + 1 : Nat) : Int)) := FGw.tr g0 (FGw.put b1)
  refine c _ _ (PLs_cg pl3 (fun k hk => ?_) (fun _ _ => rfl) (fun _ _ => rfl) (fun _ _ => rfl) (fun _ _ => rfl) (fun _ _ => rfl) (fun _ _ => rfl) (fun _ _ => rfl) (fun _ _ => rfl) (fun _ _ => rfl)) (RUs_mv ru f3 g3 (by rw [F_wi (by omega) (by omega), if_pos rfl, e2]) h98 cr) f3 g3
  exact if_neg (fun c => pq_n (by omega) c.symm)
/-- a literal -/
theorem op_lit (hp : p < 24) (pl : PLs b p m w U B W Y) (ru : RUs m w p j nb Hs Os y a n) (bd : BDr p W l m) (ha : a + 3 < 24000) (hn : n < 100000) (c1 : A w 25 n = 0 ∨ A w 25 n = 1 ∨ (A w 25 n = 6 ∧ A w 26 n = 0)) (c2 : A m 23 (a + 1) = A w 25 n) (c3 : A m 23 (a + 2) = A w 26 n) (cr : ∃ f, CRs (A m 23) (ROs w) (w.2.2.2 34) f y (a + 3) (n + 1) (Hs j) (Os j))
    (c : ∀ m3 w3, PLs b p m3 w3 U B (W + 1) Y → RUs m3 w3 p j nb Hs Os y (a + 3) (n + 1) → FGm p m m3 → FGw p j w w3 → PP Q (K1 m3) (K2 w3)) : PP Q (bnd (hm_Ma_making N m p (I 1)) (fun u _ => K1 u)) (bnd (fm_M_one N w (I ((n : Nat) : Int)) (I 1)) (fun u _ => K2 u)) := by
  obtain ⟨⟨fa, ct⟩, ⟨r2, r3⟩, -, ⟨r5, r6⟩, r7, ⟨r8, r9, r10⟩, r11, r12, r13⟩ := id ru
  have hj : j < 60 := fa.1.2.2
  rw [mak1, one_1, show I ((n : Nat) : Int) + 1 = I ((n + 1 : Nat) : Int) from addN, I_F' r2, show I ((a : Nat) : Int) + 1 = I ((a + 1 : Nat) : Int) from addN, Co_e (k := a + 1) rfl (by omega), bnd_so, I_F' r2, show I ((a : Nat) : Int) + 2 = I ((a + 2 : Nat) : Int) from addN, Co_e (k := a + 2) rfl (by omega), bnd_so, c2, c3, e_make, bnd_so]
  refine rb_bnd (pk_mo (goto_r (N := N) (n := ((n + 1 : Nat) : Int)) hp r11 fa.1.2.1 hj) (fun w2 _ h => ?_))
  subst h
  refine rb_ck (fun _ => rb_ck (fun _ => ?_))
  have e25 : A (wa w 98 (60 * p + j) ((n + 1 : Nat) : Int)) 25 n = A w 25 n := by rw [A_wa (by omega) (by omega), if_neg (by omega)]
  have e26 : A (wa w 98 (60 * p + j) ((n + 1 : Nat) : Int)) 26 n = A w 26 n := by rw [A_wa (by omega) (by omega), if_neg (by omega)]
  rw [tnI (n := n) rfl (by omega), I_A' e25, I_A' e26, term_e, rb_bnd_so]
  have rt : RTb b (mk (A w 25 n) (A w 26 n)) (mk (A w 25 n) (A w 26 n)) := lit_b (by omega) (fun h => by omega) (A_r _ _ _)
  refine push_pp (a2 := a + 3) (n2 := n + 1) (dz := 3) hp ru bd rt FGm.rf FGw.goto (PLs_cg pl (fun _ _ => rfl) (fun _ _ => rfl) (fun _ _ => rfl) (fun _ _ => rfl) (fun _ _ => rfl) (fun k hk => ?_) (fun _ _ => rfl) (fun _ _ => rfl) (fun _ _ => rfl) (fun _ _ => rfl)) bd.2.1 r11 (by rw [A_wa (by omega) (by omega), if_pos rfl, if_pos rfl]) r2 rfl (by omega) cr c
  show (if k = 98 then _ else w.2.2.1 k) p = _
  rw [if_neg (by simp at hk; omega)]
end
