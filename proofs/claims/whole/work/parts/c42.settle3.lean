/-! settle there, allEnds here -/
set_option maxRecDepth 100000
/-- watches alike -/
def WTs (PR : Nat) (m w : MS) : Prop := ∃ L, WSm m L ∧ WSw w L ∧ ∀ y, y ∈ L → GWs PR y
/-- all ends are told -/
def FQs (RR : Nat → MS → MS → Prop) (PR : Nat) (Fv : Int64 → Int64 → Prop) (P : Int64 → Prop) (Fv' : Int64 → Int64 → Prop) (P' : Int64 → Prop) (m w : MS) : Prop := ∃ i : Nat, WLs RR PR Fv P Fv' P' none i 0 m w ∧ (F m 956 = ((i : Nat) : Int) ∧ F m 955 = ((i : Nat) : Int)) ∧ (F w 149 = 0 ∧ F w 150 = 0) ∧ CNq P P' m w ∧ WTs PR m w
section
variable {Fv Fv' : Int64 → Int64 → Prop} {P P' : Int64 → Prop} {N f PR q r o i j d y : Nat} {m w m1 w1 m2 w2 m3 w3 : MS} {t x : Int64} {wr v4 : Int} {cur : Option Nat} {RR : Nat → MS → MS → Prop} {L L2 : List Int} {T : List Int32}
theorem WSm_st {Lw : List (Int × Int × Int)} (s : WSm m Lw) (h1 : m2.1 950 = m.1 950) (h2 : ∀ k, k = 49 ∨ k = 50 ∨ k = 51 → m2.2.2.1 k = m.2.2.1 k) : WSm m2 Lw := ⟨by show (m2.1 950).toInt = _; rw [h1]; exact s.1, s.2.1, fun i x hx => ⟨by show (m2.2.2.1 49 i).toInt = _; rw [h2 49 (by omega)]; exact (s.2.2 i x hx).1, by show (m2.2.2.1 50 i).toInt = _; rw [h2 50 (by omega)]; exact (s.2.2 i x hx).2.1, by show (m2.2.2.1 51 i).toInt = _; rw [h2 51 (by omega)]; exact (s.2.2 i x hx).2.2⟩⟩
theorem WSw_st {Lw : List (Int × Int × Int)} (s : WSw w Lw) (h1 : w2.1 125 = w.1 125) (h2 : ∀ k, k = 122 ∨ k = 123 ∨ k = 124 → w2.2.2.1 k = w.2.2.1 k) : WSw w2 Lw := ⟨by show (w2.1 125).toInt = _; rw [h1]; exact s.1, s.2.1, fun i x hx => ⟨by show (w2.2.2.1 123 i).toInt = _; rw [h2 123 (by omega)]; exact (s.2.2 i x hx).1, by show (w2.2.2.1 124 i).toInt = _; rw [h2 124 (by omega)]; exact (s.2.2 i x hx).2.1, by show (w2.2.2.1 122 i).toInt = _; rw [h2 122 (by omega)]; exact (s.2.2 i x hx).2.2⟩⟩
theorem WTs_st (h : WTs PR m w) (h1 : m2.1 950 = m.1 950) (h2 : ∀ k, k = 49 ∨ k = 50 ∨ k = 51 → m2.2.2.1 k = m.2.2.1 k) (h3 : w2.1 125 = w.1 125) (h4 : ∀ k, k = 122 ∨ k = 123 ∨ k = 124 → w2.2.2.1 k = w.2.2.1 k) : WTs PR m2 w2 := by
  obtain ⟨L, a, b, c⟩ := h
  exact ⟨L, WSm_st a h1 h2, WSw_st b h3 h4, c⟩
theorem GW_wt {Lw : List (Int × Int × Int)} (s : WSw w Lw) (g : ∀ y, y ∈ Lw → GWs PR y) : WTQ w PR := by
  refine ⟨by rw [s.1]; omega, by rw [s.1]; have := s.2.1; omega, fun i hi => ?_⟩
  rw [s.1] at hi
  have hi2 : i < Lw.length := by omega
  have ge : Lw[i]? = some Lw[i] := List.getElem?_eq_getElem hi2
  obtain ⟨a1, a2, a3⟩ := s.2.2 i _ ge
  obtain ⟨⟨a, b1, b2⟩, b3, -⟩ := g _ (List.getElem_mem hi2)
  rw [a1, a2]
  omega
theorem LS_nd (l : LSw w y L) (k : LKR w PR y) : L.Nodup ∧ ∀ z, z ∈ L → 0 ≤ z ∧ z < ((PR : Nat) : Int) ∧ z ≠ ((y : Nat) : Int) := by
  obtain ⟨l1, l2, l3⟩ := l
  obtain ⟨-, -, k3, k4⟩ := k
  refine ⟨List.pairwise_iff_getElem.mpr (fun a c ha hc hac e => ?_), fun z hz => ?_⟩
  · have g1 : L[a]? = some L[a] := List.getElem?_eq_getElem ha
    have g2 : L[c]? = some L[c] := List.getElem?_eq_getElem hc
    have e1 := l3 a _ g1
    have e2 := l3 c _ g2
    have := k4 a c (by rw [l1]; omega) (by rw [l1]; omega) (by rw [e1, e2, e])
    omega
  · obtain ⟨a, ha, e⟩ := List.mem_iff_getElem.mp hz
    have g1 : L[a]? = some L[a] := List.getElem?_eq_getElem ha
    have e1 := l3 a _ g1
    have := k3 a (by rw [l1]; omega)
    rw [e1, e] at this
    exact this
/-- nothing of any process has changed -/
theorem WL_same (W : WLs RR PR Fv P Fv' P' cur i j m w) (s2 : SFs Fv P Fv' P' PR m2 w2) (pg : PGs m w m2 w2) (lm : ∀ d, LOCm d m m2) (lw : ∀ d, LOCw d w w2) (h1 : m2.1 955 = m.1 955) (h2 : m2.2.2.1 54 = m.2.2.1 54) (h3 : w2.1 150 = w.1 150) (h4 : ∀ K, K = 145 ∨ K = 146 ∨ K = 147 → w2.2.2.1 K = w.2.2.1 K) (h5 : w2.2.2.2 148 = w.2.2.2 148) : WLs RR PR Fv P Fv' P' cur i j m2 w2 := by
  have f9 : ∀ d, F m2 (pq d 9) = F m (pq d 9) := fun d => congrArg Int32.toInt (lm d 9 (by omega)).1
  have a9 : ∀ d, A w2 109 d = A w 109 d := fun d => congrArg Int32.toInt ((lw d).1 109 d (Or.inl ⟨by omega, rfl⟩))
  refine WL_gen W s2 (fun d hd => ⟨by rw [f9]; exact hd, (lm d 2 (by omega)).2.2.2, (lm d 17 (by omega)).1, (lm d 16 (by omega)).2.1⟩) (fun d _ => ⟨fun i hi => (lw d).2.2.2.2.1 _ (by omega) (by omega), congrArg Int32.toInt ((lw d).2.1 89 (by omega))⟩) (fun d hd => by rw [a9]; exact hd) (fun d _ _ _ h => QEs_st h (lm d) (lw d)) (fun d _ _ h => DEs_st h pg.1 (lm d) (lw d) (fun d hd => ⟨by rw [f9]; exact hd, (lm d 2 (by omega)).2.2.2⟩)) (fun d hd x1 x2 x3 => Or.inl ⟨by rw [f9]; exact x1, by rw [a9]; exact x2, ALs_loc W.2.2.2 W.1 hd x1 x3 pg (lm d) (lw d)⟩) ?_
  obtain ⟨n, q1, q2, -⟩ := W.2.1
  exact ⟨i + n, j + n, q1, q2, fun k _ => by show (m2.2.2.1 54 k).toInt = _; rw [h2]; rfl, fun k _ => ⟨fun K hK => by show (w2.2.2.1 K k).toInt = _; rw [h4 K hK]; rfl, by rw [h5]⟩, Or.inl ⟨by show (m2.1 955).toInt = _; rw [h1]; exact q1, by show (w2.1 150).toInt = _; rw [h3]; exact q2⟩⟩
/-- the watches change -/
theorem CUs_tab {Lw : List (Int × Int × Int)} (c : CUs RR PR Fv P Fv' P' i j r wr o x m w) (f1 : WFm m m2) (b1 : 0 ≤ F m2 950 ∧ F m2 950 ≤ 200) (f2 : WFw w w2) (s : WSw w2 Lw) (g : ∀ y, y ∈ Lw → GWs PR y) : CUs RR PR Fv P Fv' P' i j r wr o x m2 w2 := by
  have c0 := c
  obtain ⟨W, -⟩ := c
  obtain ⟨⟨d, cx⟩, ⟨dw, lk, wt⟩, pb⟩ := W.1
  have fc : FC 0 [950] [] [49, 50, 51] [] [] [] [] m m2 := FC.of f1 (by simp) (by simp) (by simp) (by simp)
  have d2 : DWc Fv P PR m2 := DWc_gl d fc (by simp) (by simp) (fun h0 => by
    have := (d.2 0 h0).1
    unfold SMQ at this ⊢
    rw [fc.Fq (by omega) (by simp), fc.Fq (by omega) (by simp), fc.Fq (by omega) (by simp), fc.Fq (by omega) (by simp)]
    exact this) (by simp) b1 (by rw [fc.Fg (by omega) (by simp)]; exact ⟨d.1.2.2.2.1.2.1, d.1.2.2.2.1.2.2⟩) (by simp)
  have pg : PGs m w m2 w2 := PGs_fr f1 f2 (by simp) (by simp) (by simp) (by simp) (fun k hk => by simp at hk; unfold PRr; omega) (by simp)
  have lm : ∀ d, LOCm d m m2 := fun d k hk => ⟨f1.1 _ (by simp; exact fun c => pq_n (by omega) c.symm), f1.2.1 _ (by simp), f1.2.2.1 _ (by simp; exact ⟨fun c => pq_n (by omega) c.symm, fun c => pq_n (by omega) c.symm, fun c => pq_n (by omega) c.symm⟩), f1.2.2.2 _ (by simp)⟩
  have lw : ∀ d, LOCw d w w2 := fun d => ⟨fun K k h => by rw [f2.2.2.1 K (by simp; rcases h with ⟨h, -⟩ | ⟨h, -⟩ | ⟨h, -⟩ | ⟨h, -⟩ <;> omega)], fun K h => by rw [f2.2.2.1 K (by simp; omega)], fun k _ _ => by rw [f2.2.2.1 131 (by simp)], by rw [f2.2.2.2 111 (by simp)], fun k _ _ => by rw [f2.2.2.2 88 (by simp)], fun k _ _ => by rw [f2.2.2.2 91 (by simp)], fun k _ _ => by rw [f2.2.2.2 93 (by simp)], fun k _ _ => by rw [f2.2.2.2 107 (by simp)]⟩
  have W2 := WL_same (m2 := m2) (w2 := w2) W ⟨⟨d2, CTX_fr cx (f1.1 22 (by simp)) (f1.2.2.1 3 (by simp))⟩, ⟨DW_fr dw f2 (by simp) (by simp) (by simp) (by simp) (by simp) (by simp) (by simp) (by simp) (by simp) (by simp) (by simp) (by simp) (by simp) (by simp) (by simp) (by simp) (by simp), LK_fr lk f2 (by simp) (by simp), GW_wt s g⟩, pb⟩ pg lm lw (f1.1 955 (by simp)) (f1.2.2.1 54 (by simp)) (f2.1 150 (by simp)) (fun K h => f2.2.2.1 K (by simp; omega)) (f2.2.2.2 148 (by simp))
  exact CUs_gen c0 W2 pg (fun k hk _ => (lm r k hk).1) (lm r 16 (by omega)).2.1 (fun K hK => by rw [f2.2.2.1 K (by simp; omega)]) (lw r).2.2.1 (fun d hd => ⟨by show (m2.1 (pq d 9)).toInt = 3; rw [(lm d 9 (by omega)).1]; exact hd, (lm d 2 (by omega)).2.2.2⟩) (fun d _ i hi => (lw d).2.2.2.2.1 _ (by omega) (by omega)) (fun d hd => by show (w2.2.2.1 109 d).toInt = 3; rw [(lw d).1 109 d (Or.inl ⟨by omega, rfl⟩)]; exact hd) (fun d _ => congrArg Int32.toInt ((lw d).2.1 89 (by omega))) (f1.1 956 (by simp)) (f2.1 149 (by simp))
/-- all watchers are told -/
theorem tell_pp (c : CUs RR PR Fv P Fv' P' i j r wr o x m w) (h15 : F m (pq r 15) = 0) (h117 : A w 117 r = 0) (hw : WTs PR m w) (hN : 3000000 ≤ N) {M : Nat} : PP (fun m2 (_ : Unit) w2 (_ : Unit) => (CUs RR PR Fv P Fv' P' i j r wr o x m2 w2 ∧ F m2 (pq r 15) = 0 ∧ A w2 117 r = 0) ∧ WTs PR m2 w2) (hm_Wl_tellWatchers N m r) ((gg_M_end N M).2.2.1 w (I ((r : Nat) : Int)) (I wr) (I ((o : Nat) : Int)) x 0) := by
  obtain ⟨Lw, a1, a2, a3⟩ := hw
  have hr := c.2.1.1
  have p24 := c.1.1.2.1.1.1.2
  unfold hm_Wl_tellWatchers hb_Wl_tellWatchers_0
  exact tell_lp (N := N) (J := fun m w => CUs RR PR Fv P Fv' P' i j r wr o x m w ∧ F m (pq r 15) = 0 ∧ A w 117 r = 0) (PR := PR) (by omega)
    (fun m w a cc hJ ha hc => pp_mo (wl_come (a := 5) (sort := 1) (Or.inr (Or.inr ⟨rfl, rfl⟩)) hJ.1.1 ha hJ.1.2.1.1 (fun c e => by injection e with e; subst e; exact hJ.1.2.1.2.1) hJ.1.2.2.1 hc hN) (fun m2 _ w2 _ h => ⟨⟨CUs_mv hJ.1 h.1 h.2, by show (m2.1 (pq r 15)).toInt = 0; rw [(h.2.2.1 r hJ.1.2.1.2.1 15 (by omega)).1]; exact hJ.2.1, by show (w2.2.2.1 117 r).toInt = 0; rw [(h.2.2.2.1 r (Or.inr hJ.1.2.1.2.2)).1 117 r (Or.inl ⟨by omega, rfl⟩)]; exact hJ.2.2⟩, ⟨h.2.2.2.2.1.1, h.2.2.2.2.1.2.1⟩, h.2.2.2.2.2.1, h.2.2.2.2.2.2.1⟩))
    (fun m w m2 w2 L hJ f1 b1 f2 s g => ⟨CUs_tab hJ.1 f1 b1 f2 s g, by rw [FR.F f1 (by simp; exact fun c => pq_n (by omega) c.symm)]; exact hJ.2.1, by rw [FR.A f2 (by simp)]; exact hJ.2.2⟩) (fun m w a hJ ha => findc_at hJ.1.1.1.1.1.1 ha) N M [] [] Lw 0 m w ⟨c, h15, h117⟩ (by simp) (by have := a1.2.1; omega) (by rw [Nat.zero_add]; exact a1.1) (fun i y hy => by simp at hy) (fun i y hy => by rw [Nat.zero_add]; exact a1.2.2 i y hy) a2 rfl a3
/-- only something of the one whose end is told has changed, there -/
theorem WL_cur (W : WLs RR PR Fv P Fv' P' (some r) i j m w) (s2 : SFs Fv P Fv' P' PR m2 w) (hrd : F m (pq r 9) = 3) {k : Nat} (hk : k = 12 ∨ k = 15) (f1 : FR [pq r k] [] [] [] m m2) : WLs RR PR Fv P Fv' P' (some r) i j m2 w ∧ PGs m w m2 w := by
  have pg : PGs m w m2 w := PGs_fr f1 (FR.rf (is := []) (ls := []) (as := []) (js := [])) (fun k hk => by simp at hk; unfold pq at hk; omega) (by simp) (by simp) (by simp) (by simp) (by simp)
  have i1 : ∀ d l, l < 100 → (d ≠ r ∨ l ≠ k) → m2.1 (pq d l) = m.1 (pq d l) := fun d l hl h => f1.1 _ (by
    simp
    intro c
    have := pq_e hl (by omega) c
    omega)
  have lm : ∀ d, d ≠ r → LOCm d m m2 := fun d hd l hl => ⟨i1 d l hl (Or.inl hd), f1.2.1 _ (by simp), f1.2.2.1 _ (by simp), f1.2.2.2 _ (by simp)⟩
  have f9 : ∀ d, F m2 (pq d 9) = F m (pq d 9) := fun d => congrArg Int32.toInt (i1 d 9 (by omega) (Or.inr (by omega)))
  refine ⟨WL_gen W s2 (fun d hd => ⟨by rw [f9]; exact hd, f1.2.2.2 _ (by simp), i1 d 17 (by omega) (Or.inr (by omega)), f1.2.1 _ (by simp)⟩) (fun d _ => ⟨fun _ _ => rfl, rfl⟩) (fun d hd => hd) (fun d _ _ hc h => QEs_st h (lm d (fun z => hc (by rw [z]))) LOCw.rf) (fun d _ hc h => DEs_st h pg.1 (lm d (fun z => hc (by rw [z]))) LOCw.rf (fun d hd => ⟨by rw [f9]; exact hd, f1.2.2.2 _ (by simp)⟩)) (fun d hd x1 x2 x3 => Or.inl ⟨by rw [f9]; exact x1, x2, ALs_loc W.2.2.2 W.1 hd x1 x3 pg (lm d (fun z => x1 (by rw [z]; exact hrd))) LOCw.rf⟩) ?_, pg⟩
  obtain ⟨n, q1, q2, -⟩ := W.2.1
  exact ⟨i + n, j + n, q1, q2, fun l _ => FR.A f1 (by simp), fun l _ => ⟨fun K hK => rfl, rfl⟩, Or.inl ⟨by rw [FR.F f1 (by simp [pq_n])]; exact q1, q2⟩⟩
end
