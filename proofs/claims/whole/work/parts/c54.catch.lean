/-! a step of one process: what it leaves of all others; catches -/
set_option maxRecDepth 100000
def GGm (p : Nat) (m m2 : MS) : Prop := (∀ d, d ≠ p → LOCm d m m2) ∧ (m2.2.2.1 23 = m.2.2.1 23 ∧ m2.1 22 = m.1 22 ∧ m2.2.2.1 2 = m.2.2.1 2 ∧ m2.2.2.1 3 = m.2.2.1 3) ∧ m2.1 955 = m.1 955 ∧ m2.2.2.1 54 = m.2.2.1 54 ∧ m2.1 956 = m.1 956 ∧ (∀ K, K < 100 → m2.2.2.1 K = m.2.2.1 K) ∧ ∀ k, k < 1100 ∨ k = 1106 ∨ k = 1107 → m2.1 k = m.1 k
def GGw (p : Nat) (w w2 : MS) : Prop := (∀ d, d ≠ p → LOCw d w w2) ∧ ((∀ K, PRr K → w2.2.2.1 K = w.2.2.1 K) ∧ w2.2.2.2 34 = w.2.2.2 34 ∧ w2.2.2.1 12 = w.2.2.1 12 ∧ w2.2.2.1 13 = w.2.2.1 13 ∧ w2.1 14 = w.1 14) ∧ w2.1 150 = w.1 150 ∧ (∀ K, K = 145 ∨ K = 146 ∨ K = 147 → w2.2.2.1 K = w.2.2.1 K) ∧ w2.2.2.2 148 = w.2.2.2 148 ∧ (∀ K, K < 88 ∨ (118 ≤ K ∧ K ≤ 130) → w2.2.2.1 K = w.2.2.1 K) ∧ ∀ k, k ≤ 132 ∨ k = 164 ∨ k = 165 → w2.1 k = w.1 k
section
variable {b : Int → Nat → Nat → Prop} {Fv Fv' : Int64 → Int64 → Prop} {P P' : Int64 → Prop} {N PR q r p i j jj d U B W Y a a2 n n2 t2 nd nn : Nat} {m w m2 w2 m3 w3 : MS} {t x : Int64} {cur : Option Nat} {nb : Nat → Nat} {Hs Os : Nat → List Nat} {y : Option (Nat × Nat × Nat)} {gi gl ga ki kl ka kj : List Nat} {v : Int}
theorem GGm.rf : GGm p m m := ⟨fun _ _ => LOCm.rf, ⟨rfl, rfl, rfl, rfl⟩, rfl, rfl, rfl, fun _ _ => rfl, fun _ _ => rfl⟩
theorem GGw.rf : GGw p w w := ⟨fun _ _ => LOCw.rf, ⟨fun _ _ => rfl, rfl, rfl, rfl, rfl⟩, rfl, fun _ _ => rfl, rfl, fun _ _ => rfl, fun _ _ => rfl⟩
theorem GGm.tr (h : GGm p m m2) (g : GGm p m2 m3) : GGm p m m3 := by
  obtain ⟨a1, ⟨a2, a3, a4, a5⟩, a6, a7, a8, a9, a10⟩ := h
  obtain ⟨c1, ⟨c2, c3, c4, c5⟩, c6, c7, c8, c9, c10⟩ := g
  exact ⟨fun d hd => LOCm.tr (a1 d hd) (c1 d hd), ⟨c2.trans a2, c3.trans a3, c4.trans a4, c5.trans a5⟩, c6.trans a6, c7.trans a7, c8.trans a8, fun K h => (c9 K h).trans (a9 K h), fun k h => (c10 k h).trans (a10 k h)⟩
theorem GGw.tr (h : GGw p w w2) (g : GGw p w2 w3) : GGw p w w3 := by
  obtain ⟨a1, ⟨a2, a3, a4, a5, a6⟩, a7, a8, a9, a10, a11⟩ := h
  obtain ⟨c1, ⟨c2, c3, c4, c5, c6⟩, c7, c8, c9, c10, c11⟩ := g
  exact ⟨fun d hd => LOCw.tr (a1 d hd) (c1 d hd), ⟨fun K hK => (c2 K hK).trans (a2 K hK), c3.trans a3, c4.trans a4, c5.trans a5, c6.trans a6⟩, c7.trans a7, fun K hK => (c8 K hK).trans (a8 K hK), c9.trans a9, fun K h => (c10 K h).trans (a10 K h), fun k h => (c11 k h).trans (a11 k h)⟩
theorem PG0_gg (h : GGm p m m2) (g : GGw p w w2) : PG0 m w m2 w2 := ⟨⟨h.2.1.1, h.2.1.2.1, ATc_eq h.2.1.2.2.1 h.2.1.2.2.2⟩, g.2.1.1, g.2.1.2.1, g.2.1.2.2.1, g.2.1.2.2.2.1, g.2.1.2.2.2.2⟩
/-- by frames -/
theorem GGm_fc (f : FC p gi gl ga ki kl ka kj m m2) (h1 : ∀ k, k < 1100 ∨ k = 1106 ∨ k = 1107 → k ∉ gi) (h2 : 955 ∉ gi ∧ 956 ∉ gi) (h3 : ∀ k, k < 100 → k ∉ ga) : GGm p m m2 := ⟨fun d hd k hk => ⟨f.2.2.2.2.1 d k hk (fun e => absurd e hd), f.2.2.2.2.2.1 d k hk (fun e => absurd e hd), f.2.2.2.2.2.2.1 d k hk (fun e => absurd e hd), f.2.2.2.2.2.2.2 d k hk (fun e => absurd e hd)⟩, ⟨f.2.2.1 23 (by omega) (h3 23 (by omega)), f.1 22 (by omega) (h1 22 (by omega)), f.2.2.1 2 (by omega) (h3 2 (by omega)), f.2.2.1 3 (by omega) (h3 3 (by omega))⟩, f.1 955 (by omega) h2.1, f.2.2.1 54 (by omega) (h3 54 (by omega)), f.1 956 (by omega) h2.2, fun K hK => f.2.2.1 K (by omega) (h3 K hK), fun k hk => f.1 k (by omega) (h1 k hk)⟩
theorem GGm_fg (f : FGm p m m2) : GGm p m m2 := ⟨fun d hd => (FG_loc (j := 0) f (FGw.rf (w := m)) (by omega) hd).1, ⟨f.2.2.1 23 (by simp), f.1 22 (by simp; unfold pq; omega), f.2.2.1 2 (by simp), f.2.2.1 3 (by simp)⟩, f.1 955 (by simp; unfold pq; omega), f.2.2.1 54 (by simp), f.1 956 (by simp; unfold pq; omega), fun K _ => f.2.2.1 K (by simp), fun k hk => f.1 k (by simp; unfold pq; omega)⟩
theorem GGw_fg (g : FGw p jj w w2) (hj : jj < 60) : GGw p w w2 := ⟨fun d hd => (FG_loc (FGm.rf (m := w)) g hj hd).2, ⟨fun K hK => g.1.2.2.1 K (by unfold PRr at hK; simp; omega), g.1.2.2.2 34 (by simp), g.1.2.2.1 12 (by simp), g.1.2.2.1 13 (by simp), g.1.1 14 (by simp)⟩, g.1.1 150 (by simp), fun K hK => g.1.2.2.1 K (by simp; omega), g.1.2.2.2 148 (by simp), fun K hK => g.1.2.2.1 K (by simp; omega), fun k hk => g.1.1 k (by simp; omega)⟩
theorem GGm_reg {k : Nat} (hk : 1105 ≤ k ∧ k < 1120 ∧ k ≠ 1106 ∧ k ≠ 1107) : GGm p m (wi m k v) := ⟨fun d _ l _ => ⟨if_neg (by unfold pq; omega), rfl, rfl, rfl⟩, ⟨rfl, if_neg (by omega), rfl, rfl⟩, if_neg (by omega), rfl, if_neg (by omega), fun _ _ => rfl, fun l hl => if_neg (by omega)⟩
theorem GGm_own {k : Nat} (hk : k < 100) : GGm p m (wi m (pq p k) v) := ⟨fun d hd l hl => ⟨if_neg (fun c => hd (pq_e hl hk c).1), rfl, rfl, rfl⟩, ⟨rfl, if_neg (by unfold pq; omega), rfl, rfl⟩, if_neg (by unfold pq; omega), rfl, if_neg (by unfold pq; omega), fun _ _ => rfl, fun l hl => if_neg (by unfold pq; omega)⟩
theorem wa_at {K K2 i2 : Nat} (h : ¬ (K2 = K ∧ i2 = i)) : (wa w K i v).2.2.1 K2 i2 = w.2.2.1 K2 i2 := by
  by_cases c : K2 = K
  · subst c
    show (if K2 = K2 then upd (w.2.2.1 K2) i (I v) else w.2.2.1 K2) i2 = _
    rw [if_pos rfl]
    show (if i2 = i then I v else w.2.2.1 K2 i2) = _
    rw [if_neg (fun z => h ⟨rfl, z⟩)]
  · show (if K2 = K then _ else w.2.2.1 K2) i2 = _
    rw [if_neg c]
theorem OWi_d {K : Nat} (h1 : OWi p K i) (h2 : OWi d K i) : d = p := by
  unfold OWi at h1 h2
  rcases h1 with h1 | h1 | h1 | h1 <;> rcases h2 with h2 | h2 | h2 | h2 <;> omega
theorem OWi_k {K : Nat} (h : OWi p K i) : 92 ≤ K ∧ K ≠ 108 ∧ K ≠ 131 ∧ K ≠ 132 ∧ K ≠ 145 ∧ K ≠ 146 ∧ K ≠ 147 ∧ (K ≤ 117 ∨ K = 170) := by
  unfold OWi at h
  omega
theorem GGw_own {K : Nat} (h : OWi p K i) : GGw p w (wa w K i v) := by
  have hk := OWi_k h
  have ne : ∀ K2, K2 ≠ K → (wa w K i v).2.2.1 K2 = w.2.2.1 K2 := fun K2 c => if_neg c
  refine ⟨fun d hd => ⟨fun K2 i2 h2 => wa_at (fun c => ?_), fun K2 h2 => by rw [ne K2 (by omega)], fun i2 _ _ => by rw [ne 131 (by omega)], rfl, fun _ _ _ => rfl, fun _ _ _ => rfl, fun _ _ _ => rfl, fun _ _ _ => rfl⟩, ⟨fun K2 h2 => ne K2 (by unfold PRr at h2; omega), rfl, ne 12 (by omega), ne 13 (by omega), rfl⟩, rfl, fun K2 h2 => ne K2 (by omega), rfl, fun K2 h2 => ne K2 (by omega), fun _ _ => rfl⟩
  obtain ⟨rfl, rfl⟩ := c
  exact hd (OWi_d h h2)
/-- the world behind a step of p -/
theorem WL_own (wl : WLs (RRt p) PR Fv P Fv' P' cur i j m w) (hp : p < PR) (hal : F m (pq p 9) ≠ 3) (h9 : A w 109 p ≠ 3) (s2 : SFs Fv P Fv' P' PR m2 w2) (f : GGm p m m2) (g : GGw p w w2) (pl : PLs b p m2 w2 U B W Y) (sc2 : SCs p m2 w2) (ru : RUs m2 w2 p jj nb Hs Os y a n) : WLs (RRp p) PR Fv P Fv' P' cur i j m2 w2 := by
  have p24 := wl.1.2.1.1.1.2
  have D : ∀ d, d ≠ p → LOCm d m m2 ∧ LOCw d w w2 := fun d hd => ⟨f.1 d hd, g.1 d hd⟩
  have pg : PG0 m w m2 w2 := PG0_gg f g
  have dq : ∀ d, F m (pq d 9) = 3 → d ≠ p := fun d hd c => hal (by rw [← c]; exact hd)
  have dq2 : ∀ d, d = 24 ∨ A w 109 d = 3 → d ≠ p := fun d hd c => by
    rcases hd with hd | hd
    · omega
    · exact h9 (by rw [← c]; exact hd)
  have f9 : ∀ d, d ≠ p → F m2 (pq d 9) = F m (pq d 9) := fun d hd => congrArg Int32.toInt ((D d hd).1 9 (by omega)).1
  have a9 : ∀ d, d ≠ p → A w2 109 d = A w 109 d := fun d hd => congrArg Int32.toInt ((D d hd).2.1 109 d (Or.inl ⟨by omega, rfl⟩))
  have dm : ∀ d, F m (pq d 9) = 3 → F m2 (pq d 9) = 3 ∧ m2.2.2.2 (pq d 2) = m.2.2.2 (pq d 2) ∧ m2.1 (pq d 17) = m.1 (pq d 17) ∧ m2.2.1 (pq d 16) = m.2.1 (pq d 16) := fun d hd => ⟨by rw [f9 d (dq d hd)]; exact hd, ((D d (dq d hd)).1 2 (by omega)).2.2.2, ((D d (dq d hd)).1 17 (by omega)).1, ((D d (dq d hd)).1 16 (by omega)).2.1⟩
  have W3 : WLs (RRt p) PR Fv P Fv' P' cur i j m2 w2 := by
    refine WL_gen wl s2 dm (fun d hd => ⟨fun i hi => (D d (dq2 d hd)).2.2.2.2.2.1 _ (by omega) (by omega), congrArg Int32.toInt ((D d (dq2 d hd)).2.2.1 89 (by omega))⟩) (fun d hd => by rw [a9 d (dq2 d (Or.inr hd))]; exact hd) (fun r _ hr _ h => QEs_st h (D r (dq r hr)).1 (D r (dq r hr)).2) (fun r _ _ h => DEs_st h pg (D r (dq r h.1)).1 (D r (dq r h.1)).2 (fun d hd => ⟨(dm d hd).1, (dm d hd).2.1⟩)) (fun r hr x1 x2 x3 => ?_) ?_
    · by_cases rq : r = p
      · subst rq
        exact Or.inl ⟨by rw [ru.2.2.2.1.1]; omega, by rw [ru.2.2.2.1.2]; omega, b, U, B, W, Y, pl, sc2, Or.inl rfl⟩
      · obtain ⟨b, U, B, W, Y, pl, sc, rr⟩ := x3
        obtain ⟨-, -, ⟨b1, b2, b3⟩, b4⟩ := SF_al wl.1 hr x1 pl
        have hU := pl.1.1.2.2
        obtain ⟨l1, l2⟩ := D r rq
        refine Or.inl ⟨by rw [f9 r rq]; exact x1, by rw [a9 r rq]; exact x2, b, U, B, W, Y, PLs_cg pl (fun k hk => (l1 k (by simp at hk; omega)).1) (fun i _ => by rw [(l1 2 (by omega)).2.2.2]) (fun i _ => by rw [(l1 33 (by omega)).2.2.2]) (fun i _ => by rw [(l1 35 (by omega)).2.2.2]) (fun i _ => by rw [(l1 6 (by omega)).2.2.2]) (fun k hk => ?_) (fun i hi => l2.2.2.2.2.1 _ (by omega) (by omega)) (fun i hi => l2.2.2.2.2.2.2.1 _ (by omega) (by omega)) (fun i hi => l2.2.2.2.2.2.1 _ (by omega) (by omega)) (fun i hi => l2.2.2.2.2.2.2.2 _ (by omega) (by omega)), SC_eq sc b4.2 (EQm_loc pg l1) (EQw_loc pg l2), RRt_st rr (EQm_loc pg l1).n (EQw_loc pg l2).v⟩
        simp only [List.mem_cons, List.not_mem_nil, or_false] at hk
        rcases hk with rfl | rfl | rfl | rfl | rfl
        · exact l2.2.1 89 (by omega)
        · exact l2.2.1 90 (by omega)
        · exact l2.1 92 r (Or.inl ⟨by omega, rfl⟩)
        · exact l2.1 94 r (Or.inl ⟨by omega, rfl⟩)
        · exact l2.2.1 108 (by omega)
    · obtain ⟨n, q1, q2, -⟩ := wl.2.1
      refine ⟨i + n, j + n, q1, q2, fun k _ => ?_, fun k _ => ⟨fun K hK => ?_, by rw [g.2.2.2.2.1]⟩, Or.inl ⟨?_, ?_⟩⟩
      · show (m2.2.2.1 54 k).toInt = _
        rw [f.2.2.2.1]
        rfl
      · show (w2.2.2.1 K k).toInt = _
        rw [g.2.2.2.1 K hK]
        rfl
      · show (m2.1 955).toInt = _
        rw [f.2.2.1]
        exact q1
      · show (w2.1 150).toInt = _
        rw [g.2.2.1]
        exact q2
  obtain ⟨sf, qu, pr, -⟩ := W3
  refine ⟨sf, qu, fun r hr => ?_, RRp_stb⟩
  rcases pr r hr with ⟨x1, x2, b', U', B', W', Y', pl', sc', rr⟩ | x
  · by_cases rq : r = p
    · subst rq
      exact Or.inl ⟨x1, x2, b', U', B', W', Y', pl', sc', Or.inl ⟨rfl, jj, nb, Hs, Os, y, a, n, ru⟩⟩
    · rcases rr with rr | rr
      · exact absurd rr rq
      · exact Or.inl ⟨x1, x2, b', U', B', W', Y', pl', sc', Or.inr ⟨rq, rr⟩⟩
  · exact Or.inr x
/-- GUARD: the numbers of the machine are as they were -/
theorem GD_w {nbj : Nat} {H O : List Nat} (r7 : GDr y m w p nbj H O) (f8 : m2.1 (pq p 8) = m.1 (pq p 8)) (fL : m2.2.1 (pq p 10) = m.2.1 (pq p 10)) (fJ : w2.2.2.2 111 p = w.2.2.2 111 p) (fm : ∀ k, 1106 ≤ k → k < 1120 → m2.1 k = m.1 k) (fw : ∀ k, k = 133 ∨ (151 ≤ k ∧ k ≤ 165) → w2.1 k = w.1 k) (e23 : m2.2.2.1 23 = m.2.2.1 23) (pr : ∀ K, PRr K → w2.2.2.1 K = w.2.2.1 K) (h34 : w2.2.2.2 34 = w.2.2.2 34) : GDr y m2 w2 p nbj H O := by
  have fF : ∀ k, 1106 ≤ k → k < 1120 → F m2 k = F m k := fun k c1 c2 => congrArg Int32.toInt (fm k c1 c2)
  have wF : ∀ k, k = 133 ∨ (151 ≤ k ∧ k ≤ 165) → F w2 k = F w k := fun k c => congrArg Int32.toInt (fw k c)
  have h23 : A m2 23 = A m 23 := by funext i; show (m2.2.2.1 23 i).toInt = _; rw [e23]; rfl
  have hRO := ROs_eq pr
  have hP : ∀ K, PRr K → A w2 K = A w K := fun K c => by funext i; show (w2.2.2.1 K i).toInt = _; rw [pr K c]; rfl
  have g8 : F m2 (pq p 8) = F m (pq p 8) := congrArg Int32.toInt f8
  rcases r7 with ⟨c1, c2, c3⟩ | ⟨kd, k, sc, c1, fl, W0, O0, X, c2, ⟨c3, c4, c5, c6⟩, ⟨c7, c8, c9, c10, c11⟩, c12, f2, g, c13⟩
  · exact Or.inl ⟨c1, by rw [fF 1112 (by omega) (by omega)]; exact c2, by rw [wF 152 (by omega)]; exact c3⟩
  · refine Or.inr ⟨kd, k, sc, c1, fl, W0, O0, X, c2, ⟨by rw [fF 1112 (by omega) (by omega)]; exact c3, c4, by rw [fF 1113 (by omega) (by omega)]; exact c5, by rw [fF 1114 (by omega) (by omega)]; exact c6⟩, ⟨by rw [wF 152 (by omega)]; exact c7, by rw [wF 153 (by omega)]; exact c8, by rw [wF 154 (by omega)]; exact c9, by rw [wF 156 (by omega)]; exact c10, by rw [wF 157 (by omega)]; exact c11⟩, fun e3 => ?_, f2, g, by rw [h23, hRO, h34, hP 45 (by unfold PRr; omega)]; exact c13⟩
    obtain ⟨d1, n2, d2, d3, d4, d5, g2, d6⟩ := c12 e3
    exact ⟨⟨by rw [wF 158 (by omega), g8]; exact d1.1, by rw [fL, fJ]; exact d1.2⟩, n2, by rw [wF 159 (by omega)]; exact d2, by rw [wF 155 (by omega), hP 25 (by unfold PRr; omega)]; exact d3, by rw [hP 23 (by unfold PRr; omega)]; exact d4, by rw [hP 27 (by unfold PRr; omega)]; exact d5, g2, by rw [h23, hRO, h34]; exact d6⟩
/-- FRAMES and catches anew -/
theorem RUs_gen (h : RUs m w p j nb Hs Os y a n) (fa : FAs m2 w2 p j nb Hs Os) (ct : CTs m2 w2 p j nb Hs Os) (f : GGm p m m2) (g : GGw p w w2) (h8 : m2.1 (pq p 8) = m.1 (pq p 8)) (h9 : m2.1 (pq p 9) = m.1 (pq p 9)) (h9w : A w2 109 p = A w 109 p) (hL : m2.2.1 (pq p 10) = m.2.1 (pq p 10)) (hJ : w2.2.2.2 111 p = w.2.2.2 111 p) (fm : ∀ k, 1106 ≤ k → k < 1120 → m2.1 k = m.1 k) (fw : ∀ k, k = 133 ∨ (151 ≤ k ∧ k ≤ 165) → w2.1 k = w.1 k) (h1 : F m2 1105 = ((a2 : Nat) : Int)) (h2 : A w2 98 (60 * p + j) = ((n2 : Nat) : Int)) (c : ∃ f, CRs (A m 23) (ROs w) (w.2.2.2 34) f y a2 n2 (Hs j) (Os j)) : RUs m2 w2 p j nb Hs Os y a2 n2 := by
  obtain ⟨-, -, -, ⟨r5, r6⟩, r7, ⟨r8, r9, r10⟩, r11, r12, r13⟩ := h
  have h23 : A m2 23 = A m 23 := by funext i; show (m2.2.2.1 23 i).toInt = _; rw [f.2.1.1]; rfl
  refine ⟨⟨fa, ct⟩, ⟨h1, h2⟩, by rw [h23, ROs_eq g.2.1.1, g.2.1.2.1]; exact c, ⟨?_, by rw [h9w]; exact r6⟩, GD_w r7 h8 hL hJ fm fw f.2.1.1 g.2.1.1 g.2.1.2.1, ⟨?_, ?_, ?_⟩, ?_, ?_, ?_⟩
  · show (m2.1 (pq p 9)).toInt = _
    rw [h9]; exact r5
  · show (m2.1 1108).toInt = _
    rw [fm 1108 (by omega) (by omega)]; exact r8
  · show (m2.1 1109).toInt = _
    rw [fm 1109 (by omega) (by omega)]; exact r9
  · show (w2.1 151).toInt = _
    rw [fw 151 (by omega)]; exact r10
  · show (w2.1 133).toInt = _
    rw [fw 133 (by omega)]; exact r11
  · rw [fm 1106 (by omega) (by omega), fw 165 (by omega)]; exact r12
  · rw [fm 1107 (by omega) (by omega), fw 164 (by omega)]; exact r13
theorem nb_le (fa : FAs m w p j nb Hs Os) : ∀ d r, r + d = j → nb r + (Hs r).length + (Os r).length ≤ nb j + (Hs j).length + (Os j).length := by
  intro d
  induction d with
  | zero => intro r h; have : r = j := by omega
            subst this; exact Nat.le_refl _
  | succ d ih =>
    intro r h
    have e := (fa.2.2.1 r (by omega)).1
    rw [List.length_append] at e
    have := ih (r + 1) (by omega)
    omega
/-- one catch more -/
theorem CT_push (fa : FAs m w p j nb Hs Os) (ct : CTs m w p j nb Hs Os) (hn : F m (pq p 28) = ((n : Nat) : Int)) (hb : n < 1600) (e28 : F m2 (pq p 28) = ((n + 1 : Nat) : Int)) (e106 : A w2 106 p = ((n + 1 : Nat) : Int)) (r37 : ∀ i, i < 4 * n → A m2 (pq p 37) i = A m (pq p 37) i)
    (q0 : A m2 (pq p 37) (4 * n) = ((j + 1 : Nat) : Int)) (q1 : A m2 (pq p 37) (4 * n + 1) = ((nb j + (Hs j ++ Os j).length : Nat) : Int)) (q2 : A m2 (pq p 37) (4 * n + 2) = A w2 104 (1600 * p + n)) (q3 : A m2 (pq p 37) (4 * n + 3) = ((t2 : Nat) : Int))
    (old : ∀ K c, 102 ≤ K → K ≤ 105 → c < n → A w2 K (1600 * p + c) = A w K (1600 * p + c)) (z0 : A w2 102 (1600 * p + n) = ((j : Nat) : Int)) (z3 : A w2 105 (1600 * p + n) = ((nb j + (Hs j ++ Os j).length : Nat) : Int)) (z1 : A w2 103 (1600 * p + n) = ((nd : Nat) : Int)) (h25 : A w 25 nd = ((nn : Nat) : Int))
    (e23 : m2.2.2.1 23 = m.2.2.1 23) (pr : ∀ K, PRr K → w2.2.2.1 K = w.2.2.1 K) (h34 : w2.2.2.2 34 = w.2.2.2 34) (cr : ∃ f, CRs (A m 23) (ROs w) (w.2.2.2 34) f none t2 nn (Hs j) (Os j)) : CTs m2 w2 p j nb Hs Os := by
  obtain ⟨n', c1, c2, c3, c4, c5⟩ := ct
  have e : n' = n := by omega
  subst e
  have h23 : A m2 23 = A m 23 := by funext i; show (m2.2.2.1 23 i).toInt = _; rw [e23]; rfl
  have hP : ∀ K i, PRr K → A w2 K i = A w K i := fun K i c => by show (w2.2.2.1 K i).toInt = _; rw [pr K c]; rfl
  refine ⟨n' + 1, e28, e106, by omega, fun c hc => ?_, fun c hc => ?_⟩
  · by_cases cc : c + 1 = n'
    · obtain ⟨r, k, a, nd2, nn2, s1, -, s3, -, s5, s6, -⟩ := c5 c (by omega)
      have := nb_le fa (j - r) r (by omega)
      rw [cc, old 102 c (by omega) (by omega) (by omega), old 105 c (by omega) (by omega) (by omega), z0, z3, s3, s5, List.length_append]
      omega
    · rw [old 102 c (by omega) (by omega) (by omega), old 105 c (by omega) (by omega) (by omega), old 102 (c + 1) (by omega) (by omega) (by omega), old 105 (c + 1) (by omega) (by omega) (by omega)]
      exact c4 c (by omega)
  · by_cases cc : c = n'
    · subst cc
      refine ⟨j, (Os j).length, t2, nd, nn, Nat.le_refl _, q0, z0, ?_, ?_, Nat.le_refl _, q2, q3, z1, by rw [hP 25 nd (by unfold PRr; omega)]; exact h25, ?_⟩
      · rw [q1, List.length_append]; congr 1; omega
      · rw [z3, List.length_append]; congr 1; omega
      · rw [h23, ROs_eq pr, h34, List.take_length]; exact cr
    · obtain ⟨r, k, a, nd2, nn2, s1, s2, s3, s4, s5, s6, s7, s8, s9, s10, s11⟩ := c5 c (by omega)
      exact ⟨r, k, a, nd2, nn2, s1, by rw [r37 _ (by omega)]; exact s2, by rw [old 102 c (by omega) (by omega) (by omega)]; exact s3, by rw [r37 _ (by omega)]; exact s4, by rw [old 105 c (by omega) (by omega) (by omega)]; exact s5, s6, by rw [r37 _ (by omega), old 104 c (by omega) (by omega) (by omega)]; exact s7, by rw [r37 _ (by omega)]; exact s8, by rw [old 103 c (by omega) (by omega) (by omega)]; exact s9, by rw [hP 25 nd2 (by unfold PRr; omega)]; exact s10, by rw [h23, ROs_eq pr, h34]; exact s11⟩
/-- one catch fewer -/
theorem CT_pop (ct : CTs m w p j nb Hs Os) (hn : F m (pq p 28) = ((n + 1 : Nat) : Int)) (e28 : F m2 (pq p 28) = ((n : Nat) : Int)) (e106 : A w2 106 p = ((n : Nat) : Int)) (r37 : m2.2.2.1 (pq p 37) = m.2.2.1 (pq p 37)) (old : ∀ K c, 102 ≤ K → K ≤ 105 → A w2 K (1600 * p + c) = A w K (1600 * p + c)) (e23 : m2.2.2.1 23 = m.2.2.1 23) (pr : ∀ K, PRr K → w2.2.2.1 K = w.2.2.1 K) (h34 : w2.2.2.2 34 = w.2.2.2 34) : CTs m2 w2 p j nb Hs Os := by
  obtain ⟨n', c1, c2, c3, c4, c5⟩ := ct
  have e : n' = n + 1 := by omega
  subst e
  have h23 : A m2 23 = A m 23 := by funext i; show (m2.2.2.1 23 i).toInt = _; rw [e23]; rfl
  have h37 : ∀ i, A m2 (pq p 37) i = A m (pq p 37) i := fun i => by show (m2.2.2.1 (pq p 37) i).toInt = _; rw [r37]; rfl
  have hP : ∀ K i, PRr K → A w2 K i = A w K i := fun K i c => by show (w2.2.2.1 K i).toInt = _; rw [pr K c]; rfl
  refine ⟨n, e28, e106, by omega, fun c hc => ?_, fun c hc => ?_⟩
  · rw [old 102 c (by omega) (by omega), old 105 c (by omega) (by omega), old 102 (c + 1) (by omega) (by omega), old 105 (c + 1) (by omega) (by omega)]
    exact c4 c (by omega)
  · obtain ⟨r, k, a, nd2, nn2, s1, s2, s3, s4, s5, s6, s7, s8, s9, s10, s11⟩ := c5 c (by omega)
    exact ⟨r, k, a, nd2, nn2, s1, by rw [h37]; exact s2, by rw [old 102 c (by omega) (by omega)]; exact s3, by rw [h37]; exact s4, by rw [old 105 c (by omega) (by omega)]; exact s5, s6, by rw [h37, old 104 c (by omega) (by omega)]; exact s7, by rw [h37]; exact s8, by rw [old 103 c (by omega) (by omega)]; exact s9, by rw [hP 25 nd2 (by unfold PRr; omega)]; exact s10, by rw [h23, ROs_eq pr, h34]; exact s11⟩
end
