/-! all processes, those that have ENDED too, while ends are told -/
set_option maxRecDepth 100000
/-- the REASON of one that has ENDED: there in cells of its home, here in cells of o -/
def RQs (Fv : Int64 → Int64 → Prop) (P : Int64 → Prop) (Fv' : Int64 → Int64 → Prop) (P' : Int64 → Prop) (PR : Nat) (m w : MS) (r : Nat) (wr : Int) (o : Nat) (x : Int64) : Prop := ∃ hm s, rf (m.1 (pq r 17)) = some hm ∧ hm < PR ∧ F m (pq hm 9) = 3 ∧ (o = 24 ∨ (o < PR ∧ A w 109 o = 3)) ∧ SRs Fv P Fv' P' m w 99 0 (some hm) (m.2.1 (pq r 16)) wr o x s ∧ TE Fv' P' w PR o x
/-- one whose end is not told yet -/
def QEs (m w : MS) (r : Nat) : Prop := m.1 (pq r 12) = w.2.2.1 113 r ∧ m.1 (pq r 13) = w.2.2.1 114 r ∧ m.1 (pq r 5) = w.2.2.1 90 r ∧ ∃ L, LSm m r L ∧ LSw w r L
/-- among those whose end is not told yet -/
def inQ (m : MS) (i r : Nat) : Prop := ∃ k : Nat, i ≤ k ∧ ((k : Nat) : Int) < F m 955 ∧ A m 54 k = ((r : Nat) : Int)
/-- all that is good by itself, there and here -/
def SFs (Fv : Int64 → Int64 → Prop) (P : Int64 → Prop) (Fv' : Int64 → Int64 → Prop) (P' : Int64 → Prop) (PR : Nat) (m w : MS) : Prop := (DWc Fv P PR m ∧ CTX Fv P m) ∧ ESI Fv' P' PR w ∧ PB P' PR
/-- one of those whose end is not told yet -/
def ENs (Fv : Int64 → Int64 → Prop) (P : Int64 → Prop) (Fv' : Int64 → Int64 → Prop) (P' : Int64 → Prop) (PR : Nat) (cur : Option Nat) (m w : MS) (i j : Nat) : Prop := ∃ (r : Nat) (wr : Int) (o : Nat), (r < PR ∧ some r ≠ cur ∧ F m (pq r 9) = 3) ∧ A m 54 i = ((r : Nat) : Int) ∧ A w 145 j = ((r : Nat) : Int) ∧ A w 146 j = wr ∧ A w 147 j = ((o : Nat) : Int) ∧ RQs Fv P Fv' P' PR m w r wr o (w.2.2.2 148 j) ∧ QEs m w r
/-- what a process is besides its terms and its links stays where nothing of it is touched -/
def STBl (RR : Nat → MS → MS → Prop) : Prop := ∀ q m w m2 w2, RR q m w → EQn q m m2 → EQv q w w2 → PGs m w m2 w2 → RR q m2 w2
/-- a process that has not ENDED; RR: what it is besides its terms and its links -/
def ALr (RR : Nat → MS → MS → Prop) (m w : MS) (q : Nat) : Prop := ∃ b U B W Y, PLs b q m w U B W Y ∧ SCs q m w ∧ RR q m w
/-- the world; cur: whose end is told now; i, j: whose end comes next, there, here -/
def WLs (RR : Nat → MS → MS → Prop) (PR : Nat) (Fv : Int64 → Int64 → Prop) (P : Int64 → Prop) (Fv' : Int64 → Int64 → Prop) (P' : Int64 → Prop) (cur : Option Nat) (i j : Nat) (m w : MS) : Prop :=
  SFs Fv P Fv' P' PR m w ∧
  (∃ n : Nat, F m 955 = ((i + n : Nat) : Int) ∧ F w 150 = ((j + n : Nat) : Int) ∧ (∀ k, k < n → ENs Fv P Fv' P' PR cur m w (i + k) (j + k)) ∧ ∀ k l, k < n → l < n → A m 54 (i + k) = A m 54 (i + l) → k = l) ∧
  (∀ r, r < PR → (F m (pq r 9) ≠ 3 ∧ A w 109 r ≠ 3 ∧ ALr RR m w r) ∨ (F m (pq r 9) = 3 ∧ A w 109 r = 3 ∧ (some r = cur ∨ inQ m i r ∨ DEs m w r))) ∧ STBl RR
/-- nothing of process d has changed, there, here -/
def LOCm (d : Nat) (m m2 : MS) : Prop := ∀ k, k < 100 → m2.1 (pq d k) = m.1 (pq d k) ∧ m2.2.1 (pq d k) = m.2.1 (pq d k) ∧ m2.2.2.1 (pq d k) = m.2.2.1 (pq d k) ∧ m2.2.2.2 (pq d k) = m.2.2.2 (pq d k)
def LOCw (d : Nat) (w w2 : MS) : Prop := (∀ K i, OWi d K i → w2.2.2.1 K i = w.2.2.1 K i) ∧ (∀ K, K = 89 ∨ K = 90 ∨ K = 108 ∨ K = 132 → w2.2.2.1 K d = w.2.2.1 K d) ∧ (∀ i, 100 * d ≤ i → i < 100 * d + 100 → w2.2.2.1 131 i = w.2.2.1 131 i) ∧ w2.2.2.2 111 d = w.2.2.2 111 d ∧ (∀ i, 500 * d ≤ i → i < 500 * d + 500 → w2.2.2.2 88 i = w.2.2.2 88 i) ∧ (∀ i, 46000 * d ≤ i → i < 46000 * d + 46000 → w2.2.2.2 91 i = w.2.2.2 91 i) ∧ (∀ i, 2500 * d ≤ i → i < 2500 * d + 2500 → w2.2.2.2 93 i = w.2.2.2 93 i) ∧ ∀ i, 30 * d ≤ i → i < 30 * d + 30 → w2.2.2.2 107 i = w.2.2.2 107 i
section
variable {b : Int → Nat → Nat → Prop} {Fv Fv' : Int64 → Int64 → Prop} {P P' : Int64 → Prop} {N f PR q r o s U i j : Nat} {m w m2 w2 : MS} {t x : Int64} {wr : Int} {cur src : Option Nat} {RR : Nat → MS → MS → Prop}
theorem SRs_q (sr : SRs Fv P Fv' P' m w 99 0 (some r) t wr o x s) (h1 : r ≠ q) (h2 : o ≠ q) : SRs Fv P Fv' P' m w q U (some r) t wr o x s := by
  obtain ⟨ho, sr⟩ := sr
  refine ⟨ho, ?_⟩
  rcases sr with ⟨e, -⟩ | ⟨jj, bS, n, ow, kd, f, n', ow', kd', f', e, ⟨g1, g2, g3⟩, ⟨g4, g5, g6⟩, g7⟩
  · cases e
  · injection e with e
    subst e
    exact Or.inr ⟨r, bS, n, ow, kd, f, n', ow', kd', f', rfl, ⟨g1, g2, fun c => absurd c h1⟩, ⟨g4, g5, fun c => absurd c h2⟩, g7⟩
theorem RQs_st (h : RQs Fv P Fv' P' PR m w r wr o x) (h1 : m2.1 (pq r 17) = m.1 (pq r 17)) (h2 : m2.2.1 (pq r 16) = m.2.1 (pq r 16)) (h3 : ∀ d, F m (pq d 9) = 3 → F m2 (pq d 9) = 3 ∧ m2.2.2.2 (pq d 2) = m.2.2.2 (pq d 2)) (h4 : ∀ d, d = 24 ∨ A w 109 d = 3 → ∀ i, i < 500 → hp w2 d i = hp w d i) (h5 : ∀ d, A w 109 d = 3 → A w2 109 d = 3) (h6 : ∀ d, d = 24 ∨ A w 109 d = 3 → A w2 89 d = A w 89 d) : RQs Fv P Fv' P' PR m2 w2 r wr o x := by
  obtain ⟨hm, s, g1, g2, g3, g4, g5, g6⟩ := h
  refine ⟨hm, s, by rw [h1]; exact g1, g2, (h3 hm g3).1, ?_, ?_, ?_⟩
  · rcases g4 with g | g
    · exact Or.inl g
    · exact Or.inr ⟨g.1, h5 o g.2⟩
  · rw [h2]
    have ho := g5.1
    exact SRs_st g5 (fun jj e => by injection e with e; subst e; exact (h3 hm g3).2) (fun _ i hi => h4 o (by rcases g4 with g | g; exact Or.inl g; exact Or.inr g.2) i hi) (fun e => by omega) (fun c => by
      rcases c with c | c
      · injection c with c
        omega
      · omega)
  · have od : o = 24 ∨ A w 109 o = 3 := by
      rcases g4 with g | g
      · exact Or.inl g
      · exact Or.inr g.2
    rcases g6 with g | ⟨y1, y2, n, ow, kd, y3, y4, y5, y6⟩
    · exact Or.inl g
    · refine Or.inr ⟨y1, ?_, n, ow, kd, by rw [h6 o od]; exact y3, y4, HP_agr (fun i hi => h4 o od i (by omega)) y5, y6⟩
      rcases y2 with y | y
      · exact Or.inl y
      · exact Or.inr ⟨y.1, h5 o y.2⟩
theorem LSm_st {L : List Int} (s : LSm m r L) (h1 : m2.1 (pq r 15) = m.1 (pq r 15)) (h2 : m2.2.2.1 (pq r 14) = m.2.2.1 (pq r 14)) : LSm m2 r L := ⟨by show (m2.1 (pq r 15)).toInt = _; rw [h1]; exact s.1, s.2.1, fun i x hx => by show (m2.2.2.1 (pq r 14) i).toInt = _; rw [h2]; exact s.2.2 i x hx⟩
theorem LSw_st {L : List Int} (s : LSw w r L) (h : LOCw r w w2) : LSw w2 r L := ⟨by show (w2.2.2.1 117 r).toInt = _; rw [h.1 117 r (Or.inl ⟨by omega, rfl⟩)]; exact s.1, s.2.1, fun i x hx => by
  have hi : i < L.length := by
    apply Classical.byContradiction
    intro c
    rw [List.getElem?_eq_none (by omega)] at hx
    cases hx
  have := s.2.1
  show (w2.2.2.1 116 (24 * r + i)).toInt = _
  rw [h.1 116 _ (Or.inr (Or.inr (Or.inr ⟨rfl, by omega, by omega⟩)))]
  exact s.2.2 i x hx⟩
theorem QEs_st (h : QEs m w r) (h1 : LOCm r m m2) (h2 : LOCw r w w2) : QEs m2 w2 r := by
  obtain ⟨a1, a2, a3, L, a4, a5⟩ := h
  exact ⟨by rw [(h1 12 (by omega)).1, h2.1 113 r (Or.inl ⟨by omega, rfl⟩)]; exact a1, by rw [(h1 13 (by omega)).1, h2.1 114 r (Or.inl ⟨by omega, rfl⟩)]; exact a2, by rw [(h1 5 (by omega)).1, h2.2.1 90 (by omega)]; exact a3, L, LSm_st a4 (h1 15 (by omega)).1 (h1 14 (by omega)).2.2.1, LSw_st a5 h2⟩
theorem RZs_st (h : RZs m w r) (pg : PG0 m w m2 w2) (h1 : m2.1 (pq r 17) = m.1 (pq r 17)) (h2 : m2.2.1 (pq r 16) = m.2.1 (pq r 16)) (h3 : ∀ d, F m (pq d 9) = 3 → F m2 (pq d 9) = 3 ∧ m2.2.2.2 (pq d 2) = m.2.2.2 (pq d 2)) (h4 : w2.2.2.1 132 r = w.2.2.1 132 r) (h5 : ∀ i, 100 * r ≤ i → i < 100 * r + 100 → w2.2.2.1 131 i = w.2.2.1 131 i) : RZs m2 w2 r := by
  obtain ⟨hm, k, z, g1, g2, g3, g4, g5, g6, g7⟩ := h
  obtain ⟨⟨-, p2, p3⟩, -⟩ := pg
  have e22 : F m2 22 = F m 22 := congrArg Int32.toInt p2
  refine ⟨hm, k, z, by rw [h1]; exact g1, g2, (h3 hm g3).1, by rw [(h3 hm g3).2, e22, h2]; exact g4, g5, ?_, fun i hi => ?_⟩
  · show (w2.2.2.1 132 r).toInt = _
    rw [h4, (h3 hm g3).2, h2, p3]
    exact g6
  · rw [(h3 hm g3).2, h2, p3] at hi ⊢
    rw [h5 _ (by omega) (by omega)]
    exact g7 i hi
theorem DEs_st (h : DEs m w r) (pg : PG0 m w m2 w2) (h1 : LOCm r m m2) (h2 : LOCw r w w2) (h3 : ∀ d, F m (pq d 9) = 3 → F m2 (pq d 9) = 3 ∧ m2.2.2.2 (pq d 2) = m.2.2.2 (pq d 2)) : DEs m2 w2 r := by
  obtain ⟨a1, a2, a3, ⟨a4, a5⟩, a6, a7, a8, a9⟩ := h
  refine ⟨by show (m2.1 (pq r 9)).toInt = _; rw [(h1 9 (by omega)).1]; exact a1, by show (w2.2.2.1 109 r).toInt = _; rw [h2.1 109 r (Or.inl ⟨by omega, rfl⟩)]; exact a2, RZs_st a3 pg (h1 17 (by omega)).1 (h1 16 (by omega)).2.1 h3 (h2.2.1 132 (by omega)) h2.2.2.1, ⟨by rw [(h1 12 (by omega)).1]; exact a4, by rw [h2.1 113 r (Or.inl ⟨by omega, rfl⟩)]; exact a5⟩, by rw [(h1 13 (by omega)).1, h2.1 114 r (Or.inl ⟨by omega, rfl⟩)]; exact a6, by rw [(h1 5 (by omega)).1, h2.2.1 90 (by omega)]; exact a7, by show (m2.1 (pq r 15)).toInt = _; rw [(h1 15 (by omega)).1]; exact a8, by show (w2.2.2.1 117 r).toInt = _; rw [h2.1 117 r (Or.inl ⟨by omega, rfl⟩)]; exact a9⟩
theorem EQm_loc (pg : PG0 m w m2 w2) (h1 : LOCm r m m2) : EQm r m m2 := ⟨fun k hk _ => (h1 k hk).1, fun k hk _ => (h1 k hk).2.1, fun k hk => (h1 k hk).2.2.1, pg.1.1⟩
theorem EQw_loc (pg : PG0 m w m2 w2) (h2 : LOCw r w w2) : EQw r w w2 := ⟨h2.1, h2.2.2.2.1, pg.2.1, pg.2.2.1⟩
/-- what safety tells of one that lives -/
theorem SF_al (sf : SFs Fv P Fv' P' PR m w) (hr : r < PR) (hal : F m (pq r 9) ≠ 3) {U B W Y : Nat} (pl : PLs b r m w U B W Y) : (∃ ow kd, PTQ m r U ow kd Fv P B W Y) ∧ (∃ ow' kd', CX w r (hp w r) U ow' kd' Fv' P' W B Y) ∧ (W ≤ 46000 ∧ B ≤ 2500 ∧ Y ≤ 30) ∧ (0 ≤ F m (pq r 15) ∧ F m (pq r 15) ≤ 24) := by
  obtain ⟨⟨d, cx⟩, ⟨dw, lk, wt⟩, pb⟩ := sf
  obtain ⟨⟨⟨p1, p2, p3⟩, p4, p5⟩, ⟨p6, p7, p8⟩, ⟨p9, p10, p11⟩, p12, p13, p14⟩ := pl
  obtain ⟨s1, -, s3⟩ := d.2 r hr
  obtain ⟨n, ow, kd, B', W', Y', pt⟩ := s3 hal
  have e1 : n = U := by have := pt.1.1; omega
  have e2 : B' = B := by have := pt.2.1.1; omega
  have e3 : W' = W := by have := pt.2.2.1.1; omega
  have e4 : Y' = Y := by have := pt.2.2.2.1.1; omega
  subst e1 e2 e3 e4
  obtain ⟨n2, ow', kd', oM, bM, xM, c1, cx2⟩ := dw.2.1 r hr
  have g1 : n2 = n := by omega
  have g2 : oM = W' := by have := cx2.2.2.2.2.1.1; omega
  have g3 : bM = B' := by have := cx2.2.2.2.2.2.1.1; omega
  have g4 : xM = Y' := by have := cx2.2.2.2.2.2.2.1.1; omega
  subst g1 g2 g3 g4
  exact ⟨⟨ow, kd, pt⟩, ⟨ow', kd', cx2⟩, ⟨cx2.2.2.2.2.1.2, cx2.2.2.2.2.2.1.2, cx2.2.2.2.2.2.2.1.2⟩, s1.1⟩
theorem ALs_loc (hR : STBl RR) (sf : SFs Fv P Fv' P' PR m w) (hr : r < PR) (hal : F m (pq r 9) ≠ 3) (h : ALr RR m w r) (pg : PGs m w m2 w2) (h1 : LOCm r m m2) (h2 : LOCw r w w2) : ALr RR m2 w2 r := by
  obtain ⟨b, U, B, W, Y, pl, rs⟩ := h
  obtain ⟨-, -, ⟨b1, b2, b3⟩, b4⟩ := SF_al sf hr hal pl
  have hU := pl.1.1.2.2
  refine ⟨b, U, B, W, Y, PLs_cg pl (fun k hk => (h1 k (by simp at hk; omega)).1) (fun i _ => by rw [(h1 2 (by omega)).2.2.2]) (fun i _ => by rw [(h1 33 (by omega)).2.2.2]) (fun i _ => by rw [(h1 35 (by omega)).2.2.2]) (fun i _ => by rw [(h1 6 (by omega)).2.2.2]) (fun k hk => ?_) (fun i hi => h2.2.2.2.2.1 _ (by omega) (by omega)) (fun i hi => h2.2.2.2.2.2.2.1 _ (by omega) (by omega)) (fun i hi => h2.2.2.2.2.2.1 _ (by omega) (by omega)) (fun i hi => h2.2.2.2.2.2.2.2 _ (by omega) (by omega)), SC_eq rs.1 b4.2 (EQm_loc pg.1 h1) (EQw_loc pg.1 h2), hR _ _ _ _ _ rs.2 (EQm_loc pg.1 h1).n (EQw_loc pg.1 h2).v pg⟩
  simp only [List.mem_cons, List.not_mem_nil, or_false] at hk
  rcases hk with rfl | rfl | rfl | rfl | rfl
  · exact h2.2.1 89 (by omega)
  · exact h2.2.1 90 (by omega)
  · exact h2.1 92 r (Or.inl ⟨by omega, rfl⟩)
  · exact h2.1 94 r (Or.inl ⟨by omega, rfl⟩)
  · exact h2.2.1 108 (by omega)
/-- what has ENDED stays as it is, what lives goes on or ENDS -/
theorem WL_gen (W : WLs RR PR Fv P Fv' P' cur i j m w) (s2 : SFs Fv P Fv' P' PR m2 w2)
    (dm : ∀ d, F m (pq d 9) = 3 → F m2 (pq d 9) = 3 ∧ m2.2.2.2 (pq d 2) = m.2.2.2 (pq d 2) ∧ m2.1 (pq d 17) = m.1 (pq d 17) ∧ m2.2.1 (pq d 16) = m.2.1 (pq d 16))
    (dw : ∀ d, d = 24 ∨ A w 109 d = 3 → (∀ i, i < 500 → hp w2 d i = hp w d i) ∧ A w2 89 d = A w 89 d) (dw9 : ∀ d, A w 109 d = 3 → A w2 109 d = 3)
    (qe : ∀ r, r < PR → F m (pq r 9) = 3 → some r ≠ cur → QEs m w r → QEs m2 w2 r) (de : ∀ r, r < PR → some r ≠ cur → DEs m w r → DEs m2 w2 r)
    (al : ∀ r, r < PR → F m (pq r 9) ≠ 3 → A w 109 r ≠ 3 → ALr RR m w r → (F m2 (pq r 9) ≠ 3 ∧ A w2 109 r ≠ 3 ∧ ALr RR m2 w2 r) ∨ (F m2 (pq r 9) = 3 ∧ A w2 109 r = 3 ∧ A m2 54 (F m 955).toNat = ((r : Nat) : Int) ∧ F m2 955 = F m 955 + 1))
    (Q : ∃ e e' : Nat, F m 955 = ((e : Nat) : Int) ∧ F w 150 = ((e' : Nat) : Int) ∧ (∀ k, k < e → A m2 54 k = A m 54 k) ∧ (∀ k, k < e' → (∀ K, K = 145 ∨ K = 146 ∨ K = 147 → A w2 K k = A w K k) ∧ w2.2.2.2 148 k = w.2.2.2 148 k) ∧
      ((F m2 955 = ((e : Nat) : Int) ∧ F w2 150 = ((e' : Nat) : Int)) ∨ (F m2 955 = ((e + 1 : Nat) : Int) ∧ F w2 150 = ((e' + 1 : Nat) : Int) ∧ ENs Fv P Fv' P' PR cur m2 w2 e e' ∧ ∃ q : Nat, F m (pq q 9) ≠ 3 ∧ A m2 54 e = ((q : Nat) : Int)))) : WLs RR PR Fv P Fv' P' cur i j m2 w2 := by
  obtain ⟨sf, ⟨n, q1, q2, q3, q4⟩, pr, hR⟩ := W
  obtain ⟨e, e', c1, c2, c3, c4, c5⟩ := Q
  have ee : e = i + n := by omega
  have ee' : e' = j + n := by omega
  subst ee ee'
  have old : ∀ k, k < n → ENs Fv P Fv' P' PR cur m2 w2 (i + k) (j + k) := fun k hk => by
    obtain ⟨r, wr, o, ⟨x1, x2, x3⟩, x4, x5, x6, x7, x8, x9⟩ := q3 k hk
    refine ⟨r, wr, o, ⟨x1, x2, (dm r x3).1⟩, by rw [c3 _ (by omega)]; exact x4, by rw [(c4 _ (by omega)).1 145 (by omega)]; exact x5, by rw [(c4 _ (by omega)).1 146 (by omega)]; exact x6, by rw [(c4 _ (by omega)).1 147 (by omega)]; exact x7, ?_, qe r x1 x3 x2 x9⟩
    rw [(c4 _ (by omega)).2]
    exact RQs_st x8 (dm r x3).2.2.1 (dm r x3).2.2.2 (fun d hd => ⟨(dm d hd).1, (dm d hd).2.1⟩) (fun d hd => (dw d hd).1) dw9 (fun d hd => (dw d hd).2)
  refine ⟨s2, ?_, fun r hr => ?_, hR⟩
  · rcases c5 with ⟨d1, d2⟩ | ⟨d1, d2, d6, q, d8, d7⟩
    · exact ⟨n, d1, d2, old, fun k l hk hl e => q4 k l hk hl (by rw [← c3 _ (by omega), ← c3 (i + l) (by omega)]; exact e)⟩
    · have ne : ∀ k, k < n → A m2 54 (i + k) ≠ A m2 54 (i + n) := fun k hk e => by
        obtain ⟨r, wr, o, ⟨x1, x2, x3⟩, x4, -⟩ := q3 k hk
        rw [c3 _ (by omega), x4, d7] at e
        have : r = q := by omega
        exact d8 (by rw [← this]; exact x3)
      refine ⟨n + 1, by rw [d1]; omega, by rw [d2]; omega, fun k hk => ?_, fun k l hk hl e => ?_⟩
      · by_cases c : k = n
        · subst c; exact d6
        · exact old k (by omega)
      · by_cases c : k = n
        · by_cases c2 : l = n
          · omega
          · subst c
            exact absurd e.symm (ne l (by omega))
        · by_cases c2 : l = n
          · subst c2
            exact absurd e (ne k (by omega))
          · exact q4 k l (by omega) (by omega) (by rw [← c3 _ (by omega), ← c3 (i + l) (by omega)]; exact e)
  · have l955 : F m 955 ≤ F m2 955 := by
      rcases c5 with ⟨d1, -⟩ | ⟨d1, -⟩
      · rw [c1, d1]; exact Int.le_refl _
      · rw [c1, d1]; omega
    rcases pr r hr with ⟨x1, x2, x3⟩ | ⟨x1, x2, x3⟩
    · rcases al r hr x1 x2 x3 with h | ⟨h1, h2, h3, h4⟩
      · exact Or.inl h
      · refine Or.inr ⟨h1, h2, Or.inr (Or.inl ⟨i + n, by omega, by omega, ?_⟩)⟩
        rw [c1, show ((i + n : Nat) : Int).toNat = i + n by omega] at h3
        exact h3
    · refine Or.inr ⟨(dm r x1).1, dw9 r x2, ?_⟩
      by_cases rc : some r = cur
      · exact Or.inl rc
      · rcases x3 with x3 | ⟨k, k1, k2, k3⟩ | x3
        · exact Or.inl x3
        · exact Or.inr (Or.inl ⟨k, k1, by omega, by rw [c3 k (by omega)]; exact k3⟩)
        · exact Or.inr (Or.inr (de r hr rc x3))
/-- one process that lives has changed, or ENDED -/
theorem WL_move (W : WLs RR PR Fv P Fv' P' cur i j m w) (s2 : SFs Fv P Fv' P' PR m2 w2) (pg : PGs m w m2 w2) (hq : q < PR) (hal : F m (pq q 9) ≠ 3 ∧ A w 109 q ≠ 3) (D : ∀ d, d ≠ q → LOCm d m m2 ∧ LOCw d w w2)
    (Q : ∃ e e' : Nat, F m 955 = ((e : Nat) : Int) ∧ F w 150 = ((e' : Nat) : Int) ∧ (∀ k, k < e → A m2 54 k = A m 54 k) ∧ (∀ k, k < e' → (∀ K, K = 145 ∨ K = 146 ∨ K = 147 → A w2 K k = A w K k) ∧ w2.2.2.2 148 k = w.2.2.2 148 k) ∧
      ((F m2 955 = ((e : Nat) : Int) ∧ F w2 150 = ((e' : Nat) : Int) ∧ F m2 (pq q 9) ≠ 3 ∧ A w2 109 q ≠ 3 ∧ ALr RR m2 w2 q) ∨ (F m2 955 = ((e + 1 : Nat) : Int) ∧ F w2 150 = ((e' + 1 : Nat) : Int) ∧ F m2 (pq q 9) = 3 ∧ A w2 109 q = 3 ∧ some q ≠ cur ∧ ENs Fv P Fv' P' PR cur m2 w2 e e' ∧ A m2 54 e = ((q : Nat) : Int)))) : WLs RR PR Fv P Fv' P' cur i j m2 w2 := by
  have sf := W.1
  have p24 := sf.2.1.1.1.2
  have dq : ∀ d, F m (pq d 9) = 3 → d ≠ q := fun d hd c => hal.1 (by rw [← c]; exact hd)
  have dq2 : ∀ d, d = 24 ∨ A w 109 d = 3 → d ≠ q := fun d hd c => by
    rcases hd with hd | hd
    · omega
    · exact hal.2 (by rw [← c]; exact hd)
  have f9 : ∀ d, d ≠ q → F m2 (pq d 9) = F m (pq d 9) := fun d hd => congrArg Int32.toInt ((D d hd).1 9 (by omega)).1
  have a9 : ∀ d, d ≠ q → A w2 109 d = A w 109 d := fun d hd => congrArg Int32.toInt ((D d hd).2.1 109 d (Or.inl ⟨by omega, rfl⟩))
  have dm : ∀ d, F m (pq d 9) = 3 → F m2 (pq d 9) = 3 ∧ m2.2.2.2 (pq d 2) = m.2.2.2 (pq d 2) ∧ m2.1 (pq d 17) = m.1 (pq d 17) ∧ m2.2.1 (pq d 16) = m.2.1 (pq d 16) := fun d hd => ⟨by rw [f9 d (dq d hd)]; exact hd, ((D d (dq d hd)).1 2 (by omega)).2.2.2, ((D d (dq d hd)).1 17 (by omega)).1, ((D d (dq d hd)).1 16 (by omega)).2.1⟩
  refine WL_gen W s2 dm (fun d hd => ⟨fun i hi => (D d (dq2 d hd)).2.2.2.2.2.1 _ (by omega) (by omega), congrArg Int32.toInt ((D d (dq2 d hd)).2.2.1 89 (by omega))⟩) (fun d hd => by rw [a9 d (dq2 d (Or.inr hd))]; exact hd) (fun r _ hr _ h => QEs_st h (D r (dq r hr)).1 (D r (dq r hr)).2) (fun r _ _ h => DEs_st h pg.1 (D r (dq r h.1)).1 (D r (dq r h.1)).2 (fun d hd => ⟨(dm d hd).1, (dm d hd).2.1⟩)) (fun r hr x1 x2 x3 => ?_) ?_
  · by_cases rq : r = q
    · subst rq
      obtain ⟨e, e', c1, c2, c3, c4, c5⟩ := Q
      rcases c5 with ⟨-, -, d1, d2, d3⟩ | ⟨d1, d2, d3, d4, d5, d6, d7⟩
      · exact Or.inl ⟨d1, d2, d3⟩
      · refine Or.inr ⟨d3, d4, ?_, by rw [d1, c1]; omega⟩
        rw [c1, show ((e : Nat) : Int).toNat = e by omega]
        exact d7
    · exact Or.inl ⟨by rw [f9 r rq]; exact x1, by rw [a9 r rq]; exact x2, ALs_loc W.2.2.2 sf hr x1 x3 pg (D r rq).1 (D r rq).2⟩
  · obtain ⟨e, e', c1, c2, c3, c4, c5⟩ := Q
    refine ⟨e, e', c1, c2, c3, c4, ?_⟩
    rcases c5 with ⟨d1, d2, -⟩ | ⟨d1, d2, d3, d4, d5, d6, d7⟩
    · exact Or.inl ⟨d1, d2⟩
    · exact Or.inr ⟨d1, d2, d6, q, hal.1, d7⟩
end
