/-! ends are told, both sides -/
set_option maxRecDepth 100000
/-- texts and atoms -/
def CNq (P P' : Int64 → Prop) (m w : MS) : Prop := ATs9 m w ∧ ATM w ∧ 22 ≤ F w 14 ∧ (∀ a, a = 7 ∨ a = 19 → (ATr w a).length ≤ 50) ∧ (∀ t, P' t → LFr (F w 14) t) ∧ ∀ t, P t → LFs (F m 22) t
/-- the one whose end is told now -/
def CUs (RR : Nat → MS → MS → Prop) (PR : Nat) (Fv : Int64 → Int64 → Prop) (P : Int64 → Prop) (Fv' : Int64 → Int64 → Prop) (P' : Int64 → Prop) (i j r : Nat) (wr : Int) (o : Nat) (x : Int64) (m w : MS) : Prop :=
  WLs RR PR Fv P Fv' P' (some r) (i + 1) (j + 1) m w ∧ (r < PR ∧ F m (pq r 9) = 3 ∧ A w 109 r = 3) ∧ RQs Fv P Fv' P' PR m w r wr o x ∧ (m.1 (pq r 12) = I (-1) ∧ w.2.2.1 113 r = I (-1)) ∧ m.1 (pq r 13) = w.2.2.1 114 r ∧ m.1 (pq r 5) = w.2.2.1 90 r ∧ RZs m w r ∧ (F m 956 = ((i : Nat) : Int) ∧ F w 149 = ((j + 1 : Nat) : Int)) ∧ CNq P P' m w
section
variable {b : Int → Nat → Nat → Prop} {Fv Fv' : Int64 → Int64 → Prop} {P P' : Int64 → Prop} {N f PR q r o s U B W Y i j d e e' hm y : Nat} {m w m1 w1 m2 w2 m3 w3 : MS} {t x : Int64} {wr v4 : Int} {cur src : Option Nat} {RR : Nat → MS → MS → Prop} {L L2 : List Int}
theorem ATr_eq (h1 : w2.2.2.1 12 = w.2.2.1 12) (h2 : w2.2.2.1 13 = w.2.2.1 13) : ATr w2 = ATr w := by
  funext a
  unfold ATr
  rw [h1]
  congr 1
  funext i
  show (w2.2.2.1 13 i).toInt.toNat = _
  rw [h2]
  rfl
theorem CNs_pg (c : CNq P P' m w) (pg : PG0 m w m2 w2) : CNq P P' m2 w2 := by
  obtain ⟨c1, ⟨a1, a2, a3⟩, c3, c4, c5, c6⟩ := c
  obtain ⟨⟨-, p2, p3⟩, -, -, p6, p7, p8⟩ := pg
  have e14 : F w2 14 = F w 14 := congrArg Int32.toInt p8
  have e22 : F m2 22 = F m 22 := congrArg Int32.toInt p2
  have e13 : ∀ k, A w2 13 k = A w 13 k := fun k => by show (w2.2.2.1 13 k).toInt = _; rw [p7]; rfl
  have eA := ATr_eq p6 p7
  refine ⟨fun t h => by rw [p3, eA]; exact c1 t (by rw [← e14]; exact h), ⟨by rw [e14]; exact a1, by rw [e14]; exact a2, fun k hk => by rw [e14] at hk; rw [e13, e13]; exact a3 k hk⟩, by rw [e14]; exact c3, fun a ha => by rw [eA]; exact c4 a ha, fun t h => by rw [e14]; exact c5 t h, fun t h => by rw [e22]; exact c6 t h⟩
theorem CUs_gen (c : CUs RR PR Fv P Fv' P' i j r wr o x m w) (W : WLs RR PR Fv P Fv' P' (some r) (i + 1) (j + 1) m2 w2) (pg : PGs m w m2 w2) (lr : ∀ k, k < 100 → k ≠ 15 → m2.1 (pq r k) = m.1 (pq r k)) (l16 : m2.2.1 (pq r 16) = m.2.1 (pq r 16)) (lw : ∀ K, K = 90 ∨ K = 109 ∨ K = 113 ∨ K = 114 ∨ K = 132 → w2.2.2.1 K r = w.2.2.1 K r) (l131 : ∀ k, 100 * r ≤ k → k < 100 * r + 100 → w2.2.2.1 131 k = w.2.2.1 131 k)
    (dm : ∀ d, F m (pq d 9) = 3 → F m2 (pq d 9) = 3 ∧ m2.2.2.2 (pq d 2) = m.2.2.2 (pq d 2)) (dh : ∀ d, d = 24 ∨ A w 109 d = 3 → ∀ i, i < 500 → hp w2 d i = hp w d i) (d9 : ∀ d, A w 109 d = 3 → A w2 109 d = 3) (d89 : ∀ d, d = 24 ∨ A w 109 d = 3 → A w2 89 d = A w 89 d) (v4 : m2.1 956 = m.1 956) (v5 : w2.1 149 = w.1 149) : CUs RR PR Fv P Fv' P' i j r wr o x m2 w2 := by
  obtain ⟨-, ⟨c1, c2, c3⟩, c4, ⟨c5, c6⟩, c7, c8, c9, ⟨c10, c11⟩, c12⟩ := c
  refine ⟨W, ⟨c1, (dm r c2).1, d9 r c3⟩, RQs_st c4 (lr 17 (by omega) (by omega)) l16 dm dh d9 d89, ⟨by rw [lr 12 (by omega) (by omega)]; exact c5, by rw [lw 113 (by omega)]; exact c6⟩, by rw [lr 13 (by omega) (by omega), lw 114 (by omega)]; exact c7, by rw [lr 5 (by omega) (by omega), lw 90 (by omega)]; exact c8, RZs_st c9 pg.1 (lr 17 (by omega) (by omega)) l16 dm (lw 132 (by omega)) l131, ⟨?_, ?_⟩, CNs_pg c12 pg.1⟩
  · show (m2.1 956).toInt = _
    rw [v4]
    exact c10
  · show (w2.1 149).toInt = _
    rw [v5]
    exact c11
theorem CUs_mv (c : CUs RR PR Fv P Fv' P' i j r wr o x m w) (W : WLs RR PR Fv P Fv' P' (some r) (i + 1) (j + 1) m2 w2) (v : MVs m w m2 w2) : CUs RR PR Fv P Fv' P' i j r wr o x m2 w2 := by
  have c2 := c.2.1.2.1
  have c3 := c.2.1.2.2
  obtain ⟨pg, v1, v2, ⟨-, -, v4⟩, -, -, v5⟩ := v
  have l1 := v1 r c2
  have l2 := v2 r (Or.inr c3)
  refine CUs_gen c W pg (fun k hk _ => (l1 k hk).1) (l1 16 (by omega)).2.1 (fun K hK => ?_) l2.2.2.1 (fun d hd => ⟨by show (m2.1 (pq d 9)).toInt = 3; rw [(v1 d hd 9 (by omega)).1]; exact hd, (v1 d hd 2 (by omega)).2.2.2⟩) (fun d hd i hi => (v2 d hd).2.2.2.2.1 _ (by omega) (by omega)) (fun d hd => ?_) (fun d hd => congrArg Int32.toInt ((v2 d hd).2.1 89 (by omega))) v4 v5
  · rcases hK with rfl | rfl | rfl | rfl | rfl
    · exact l2.2.1 90 (by omega)
    · exact l2.1 109 r (Or.inl ⟨by omega, rfl⟩)
    · exact l2.1 113 r (Or.inl ⟨by omega, rfl⟩)
    · exact l2.1 114 r (Or.inl ⟨by omega, rfl⟩)
    · exact l2.2.1 132 (by omega)
  · show (w2.2.2.1 109 d).toInt = 3
    rw [(v2 d (Or.inr hd)).1 109 d (Or.inl ⟨by omega, rfl⟩)]
    exact hd
/-- links of all: there, here -/
theorem WL_ls (W : WLs RR PR Fv P Fv' P' (some r) i j m w) (hy : y < PR) (yr : y ≠ r) : ∃ L, LSm m y L ∧ LSw w y L := by
  obtain ⟨sf, ⟨n, q1, q2, q3, q4⟩, pr, hR⟩ := W
  rcases pr y hy with ⟨x1, x2, b, U, B, Wt, Y, pl, rs⟩ | ⟨x1, x2, x3⟩
  · obtain ⟨-, -, -, b4⟩ := SF_al sf hy x1 pl
    exact LS_of rs.1 b4
  · rcases x3 with x3 | ⟨k, k1, k2, k3⟩ | x3
    · injection x3 with x3
      exact absurd x3 yr
    · obtain ⟨r9, wr, o, -, x4, -, -, -, -, x9⟩ := q3 (k - i) (by omega)
      rw [show i + (k - i) = k by omega, k3] at x4
      have : r9 = y := by omega
      subst this
      exact x9.2.2.2
    · obtain ⟨-, -, -, -, -, -, h1, h2⟩ := x3
      exact ⟨[], ⟨h1, by simp, fun i x hx => by simp at hx⟩, h2, by simp, fun i x hx => by simp at hx⟩
/-- one link less -/
theorem WL_link (W : WLs RR PR Fv P Fv' P' (some r) i j m w) (s2 : SFs Fv P Fv' P' PR m2 w2) (hrd : F m (pq r 9) = 3) (hy : y < PR) (yr : y ≠ r) (f1 : FR [pq y 15] [] [pq y 14] [] m m2) (f2 : FR [] [] [116, 117] [] w w2) (g1 : ∀ k, k ≠ y → k ≠ r → A w2 117 k = A w 117 k) (g2 : ∀ k, ¬ (24 * y ≤ k ∧ k < 24 * y + 24) → ¬ (24 * r ≤ k ∧ k < 24 * r + 24) → A w2 116 k = A w 116 k) (l1 : LSm m2 y L) (l2 : LSw w2 y L) (hd : DEs m w y → L = []) : WLs RR PR Fv P Fv' P' (some r) i j m2 w2 ∧ PGs m w m2 w2 ∧ (∀ d, d ≠ y → LOCm d m m2) ∧ (∀ d, d ≠ y → d ≠ r → LOCw d w w2) := by
  have ai : ∀ {x y : Int32}, x.toInt = y.toInt → x = y := fun h => Int32.toInt_inj.mp h
  have pg : PGs m w m2 w2 := PGs_fr f1 f2 (fun k hk => by simp at hk; unfold pq at hk; omega) (by simp) (fun k hk => by simp at hk; unfold pq at hk; omega) (by simp) (fun k hk => by simp at hk; unfold PRr; omega) (by simp)
  have lm : ∀ d, d ≠ y → LOCm d m m2 := fun d hd k hk => ⟨f1.1 _ (by simp; exact fun c => hd (pq_e hk (by omega) c).1), f1.2.1 _ (by simp), f1.2.2.1 _ (by simp; exact fun c => hd (pq_e hk (by omega) c).1), f1.2.2.2 _ (by simp)⟩
  have lw : ∀ d, d ≠ y → d ≠ r → LOCw d w w2 := fun d hd hd2 => by
    refine ⟨fun K k h => ?_, fun K h => by rw [f2.2.2.1 K (by simp; omega)], fun k _ _ => by rw [f2.2.2.1 131 (by simp)], by rw [f2.2.2.2 111 (by simp)], fun k _ _ => by rw [f2.2.2.2 88 (by simp)], fun k _ _ => by rw [f2.2.2.2 91 (by simp)], fun k _ _ => by rw [f2.2.2.2 93 (by simp)], fun k _ _ => by rw [f2.2.2.2 107 (by simp)]⟩
    by_cases c : K = 117
    · subst c
      have kd : k = d := by
        rcases h with h | h | h | h
        · exact h.2
        · omega
        · omega
        · omega
      subst kd
      exact ai (g1 k hd hd2)
    · by_cases c2 : K = 116
      · subst c2
        have kd : 24 * d ≤ k ∧ k < 24 * d + 24 := by
          rcases h with h | h | h | h
          · omega
          · omega
          · omega
          · exact h.2
        exact ai (g2 k (by omega) (by omega))
      · rw [f2.2.2.1 K (by simp; omega)]
  have my : ∀ k, k < 100 → k ≠ 15 → m2.1 (pq y k) = m.1 (pq y k) := fun k hk c => f1.1 _ (by simp; exact fun z => c (pq_e hk (by omega) z).2)
  have wy : ∀ K, K ≠ 116 → K ≠ 117 → w2.2.2.1 K = w.2.2.1 K := fun K h1 h2 => f2.2.2.1 K (by simp; omega)
  have f9 : ∀ d, F m2 (pq d 9) = F m (pq d 9) := fun d => by
    by_cases c : d = y
    · subst c; exact congrArg Int32.toInt (my 9 (by omega) (by omega))
    · exact congrArg Int32.toInt (lm d c 9 (by omega)).1
  have a9 : ∀ d, A w2 109 d = A w 109 d := fun d => by show (w2.2.2.1 109 d).toInt = _; rw [wy 109 (by omega) (by omega)]; rfl
  have j2 : ∀ d k, m2.2.2.2 (pq d k) = m.2.2.2 (pq d k) := fun d k => f1.2.2.2 _ (by simp)
  have i17 : ∀ d, m2.1 (pq d 17) = m.1 (pq d 17) := fun d => by
    by_cases c : d = y
    · subst c; exact my 17 (by omega) (by omega)
    · exact (lm d c 17 (by omega)).1
  refine ⟨WL_gen W s2 (fun d hd => ⟨by rw [f9]; exact hd, j2 d 2, i17 d, f1.2.1 _ (by simp)⟩) (fun d _ => ⟨fun k _ => by unfold hp; rw [f2.2.2.2 88 (by simp)], FR.A f2 (by simp)⟩) (fun d hd => by rw [a9]; exact hd) (fun d hd1 hd2 hc h => ?_) (fun d hd1 hc h => ?_) (fun d hd1 x1 x2 x3 => Or.inl ⟨by rw [f9]; exact x1, by rw [a9]; exact x2, ?_⟩) ?_, pg, lm, lw⟩
  · by_cases c : d = y
    · subst c
      exact ⟨by rw [my 12 (by omega) (by omega), wy 113 (by omega) (by omega)]; exact h.1, by rw [my 13 (by omega) (by omega), wy 114 (by omega) (by omega)]; exact h.2.1, by rw [my 5 (by omega) (by omega), wy 90 (by omega) (by omega)]; exact h.2.2.1, L, l1, l2⟩
    · exact QEs_st h (lm d c) (lw d c (fun z => hc (by rw [z])))
  · by_cases c : d = y
    · subst c
      have eL := hd h
      subst eL
      obtain ⟨a1, a2, a3, ⟨a4, a5⟩, a6, a7, a8, a10⟩ := h
      exact ⟨by rw [f9]; exact a1, by rw [a9]; exact a2, RZs_st a3 pg.1 (i17 d) (f1.2.1 _ (by simp)) (fun d hd => ⟨by rw [f9]; exact hd, j2 d 2⟩) (by rw [wy 132 (by omega) (by omega)]) (fun k _ _ => by rw [wy 131 (by omega) (by omega)]), ⟨by rw [my 12 (by omega) (by omega)]; exact a4, by rw [wy 113 (by omega) (by omega)]; exact a5⟩, by rw [my 13 (by omega) (by omega), wy 114 (by omega) (by omega)]; exact a6, by rw [my 5 (by omega) (by omega), wy 90 (by omega) (by omega)]; exact a7, l1.1, l2.1⟩
    · exact DEs_st h pg.1 (lm d c) (lw d c (fun z => hc (by rw [z]))) (fun d hd => ⟨by rw [f9]; exact hd, j2 d 2⟩)
  · by_cases c : d = y
    · subst c
      obtain ⟨b, U, B, Wt, Y, pl, rs⟩ := x3
      obtain ⟨-, -, ⟨b1, b2, b3⟩, b4⟩ := SF_al W.1 hd1 x1 pl
      have hU := pl.1.1.2.2
      refine ⟨b, U, B, Wt, Y, PLs_cg pl (fun k hk => my k (by simp at hk; omega) (by simp at hk; omega)) (fun k _ => by rw [j2]) (fun k _ => by rw [j2]) (fun k _ => by rw [j2]) (fun k _ => by rw [j2]) (fun k hk => by rw [wy k (by simp at hk; omega) (by simp at hk; omega)]) (fun k _ => by rw [f2.2.2.2 88 (by simp)]) (fun k _ => by rw [f2.2.2.2 93 (by simp)]) (fun k _ => by rw [f2.2.2.2 91 (by simp)]) (fun k _ => by rw [f2.2.2.2 107 (by simp)]), SC_of l1 l2 ?_ ?_ ?_ ?_, W.2.2.2 _ _ _ _ _ rs.2 ⟨fun k hk h => my k hk (by simp at h; omega), fun k _ _ => f1.2.1 _ (by simp), fun k hk h => f1.2.2.1 _ (by simp; exact fun z => h (pq_e hk (by omega) z).2), pg.1.1.1⟩ ⟨fun K k _ h1 h2 => by rw [wy K h1 h2.1], by rw [f2.2.2.2 111 (by simp)], pg.1.2.1, pg.1.2.2.1⟩ pg⟩
      · rw [my 12 (by omega) (by omega), wy 113 (by omega) (by omega)]; exact rs.1.1
      · rw [my 13 (by omega) (by omega), wy 114 (by omega) (by omega)]; exact rs.1.2.1
      · rw [my 11 (by omega) (by omega), wy 112 (by omega) (by omega)]; exact rs.1.2.2.1
      · rw [my 29 (by omega) (by omega), wy 115 (by omega) (by omega)]; exact rs.1.2.2.2.2.1
    · exact ALs_loc W.2.2.2 W.1 hd1 x1 x3 pg (lm d c) (lw d c (fun z => by
        subst z
        exact x1 hrd))
  · obtain ⟨n, q1, q2, -⟩ := W.2.1
    exact ⟨i + n, j + n, q1, q2, fun k _ => by rw [FR.A f1 (by simp [pq_n])], fun k _ => ⟨fun K hK => FR.A f2 (by simp; omega), by rw [f2.2.2.2 148 (by simp)]⟩, Or.inl ⟨by rw [FR.F f1 (by simp [pq_n])]; exact q1, by rw [FR.F f2 (by simp)]; exact q2⟩⟩
end
