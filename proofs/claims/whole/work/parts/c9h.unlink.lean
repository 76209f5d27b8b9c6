/-! what is PREDEFINED: unlink -/
set_option maxRecDepth 100000
section
variable {α β : Type} {b : Int → Nat → Nat → Prop} {Fv Fv' : Int64 → Int64 → Prop} {P P' : Int64 → Prop} {N PR p q i j0 U B W Y l j a n : Nat} {m w w1 m1 m2 w2 w3 : MS} {t x : Int64} {nb : Nat → Nat} {Hs Os : Nat → List Nat} {y : Option (Nat × Nat × Nat)} {Q : MS → α → MS → β → Prop} {K1 : MS → Option (MS × α)} {K2 : MS → Option (MS × β)} {L : List Int} {r : Nat}
/-- links of two change: the one that goes is as it was otherwise -/
theorem lk_n (f : FR [pq p 15, pq q 15] [] [pq p 14, pq q 14] [] m m2) : EQn r m m2 := ⟨fun k hk h => f.1 _ (by
  simp only [List.mem_cons, List.not_mem_nil, or_false]
  simp at h
  intro c
  rcases c with c | c
  · exact pq_ne2 hk (by omega) (by omega) c
  · exact pq_ne2 hk (by omega) (by omega) c), fun k _ _ => f.2.1 _ (by simp), fun k hk h => f.2.2.1 _ (by
  simp only [List.mem_cons, List.not_mem_nil, or_false]
  intro c
  rcases c with c | c
  · exact pq_ne2 hk (by omega) h c
  · exact pq_ne2 hk (by omega) h c), f.2.2.1 23 (by simp [pq_n])⟩
theorem lk_v (g : FR [] [] [116, 117] [] w w2) : EQv r w w2 := ⟨fun K k _ h1 h2 => by rw [g.2.2.1 K (by simp; omega)], by rw [g.2.2.2 111 (by simp)], fun K h => g.2.2.1 K (by unfold PRr at h; simp; omega), g.2.2.2 34 (by simp)⟩
theorem lk_pgm (f : FR [pq p 15, pq q 15] [] [pq p 14, pq q 14] [] m m2) : PGs m w m2 w := PGs_fr f (FR.rf (is := []) (ls := []) (as := []) (js := [])) (fun k hk => by simp at hk; unfold pq at hk; omega) (by simp) (fun k hk => by simp at hk; unfold pq at hk; omega) (by simp) (by simp) (by simp)
theorem lk_pgw (g : FR [] [] [116, 117] [] w w2) : PGs m w m w2 := PGs_fr (FR.rf (is := []) (ls := []) (as := []) (js := [])) g (by simp) (by simp) (by simp) (by simp) (by simp [PRr]) (by simp)
theorem lk_plm (pl : PLs b r m w U B W Y) (f : FR [pq p 15, pq q 15] [] [pq p 14, pq q 14] [] m m2) : PLs b r m2 w U B W Y := PLs_cg pl (fun k hk => f.1 _ (by
  simp only [List.mem_cons, List.not_mem_nil, or_false]
  simp at hk
  intro c
  rcases c with c | c
  · exact pq_ne2 (by omega) (by omega) (by omega) c
  · exact pq_ne2 (by omega) (by omega) (by omega) c)) (fun i _ => by rw [f.2.2.2 _ (by simp)]) (fun i _ => by rw [f.2.2.2 _ (by simp)]) (fun i _ => by rw [f.2.2.2 _ (by simp)]) (fun i _ => by rw [f.2.2.2 _ (by simp)]) (fun _ _ => rfl) (fun _ _ => rfl) (fun _ _ => rfl) (fun _ _ => rfl) (fun _ _ => rfl)
theorem lk_plw (pl : PLs b r m w U B W Y) (g : FR [] [] [116, 117] [] w w2) : PLs b r m w2 U B W Y := PLs_cg pl (fun _ _ => rfl) (fun _ _ => rfl) (fun _ _ => rfl) (fun _ _ => rfl) (fun _ _ => rfl) (fun k hk => by rw [g.2.2.1 k (by simp at hk ⊢; omega)]) (fun i _ => by rw [g.2.2.2 88 (by simp)]) (fun i _ => by rw [g.2.2.2 93 (by simp)]) (fun i _ => by rw [g.2.2.2 91 (by simp)]) (fun i _ => by rw [g.2.2.2 107 (by simp)])
theorem LSm_o (s : LSm m r L) (h : q ≠ r) (f : FR [pq q 15] [] [pq q 14] [] m m2) : LSm m2 r L := LSm_st s (f.1 _ (by simp; exact fun c => h (pq_e (by omega) (by omega) c).1.symm)) (f.2.2.1 _ (by simp; exact fun c => h (pq_e (by omega) (by omega) c).1.symm))
theorem LSw_o (s : LSw w r L) (h : q ≠ r) (f : LFw q w w2) : LSw w2 r L := ⟨by rw [f.2.1 r (Ne.symm h)]; exact s.1, s.2.1, fun i x hx => by
  have hi : i < L.length := by
    rcases Nat.lt_or_ge i L.length with h | h
    · exact h
    · rw [List.getElem?_eq_none h] at hx
      cases hx
  have := s.2.1
  rw [f.2.2 (24 * r + i) (by omega)]
  exact s.2.2 i x hx⟩
theorem LSm_fg (s : LSm m r L) (f : FGm p m m2) : LSm m2 r L := LSm_st s (f.1 _ (by
  simp only [List.mem_cons, List.not_mem_nil, or_false]
  intro c
  rcases c with c | c | c | c | c
  · exact pq_ne2 (by omega) (by omega) (by omega) c
  · exact pq_ne2 (by omega) (by omega) (by omega) c
  · exact pq_ne2 (by omega) (by omega) (by omega) c
  · exact pq_ne2 (by omega) (by omega) (by omega) c
  · exact pq_n (by omega) c.symm)) (f.2.2.1 _ (by simp))
theorem LSw_fg (s : LSw w r L) (g : FGw p j w w2) : LSw w2 r L := LSw_fr s (g.1.2.2.1 116 (by simp)) (g.1.2.2.1 117 (by simp))
/-- no link any more -/
theorem op_unlink (hpp : p < PR) (hq : q < PR) (wl : WLs (RRp p) PR Fv P Fv' P' none i j0 m w) (ru : RUs m w p j nb Hs Os y a n) (sc : SCs p m w) (hW : W + 1 ≤ 46000) (hl : F m (pq p 45) = ((l : Nat) : Int)) (hl2 : W + 1 ≤ l ∧ l ≤ 1000000) (pl : PLs b p m w1 U B (W + 1) Y) (g1 : FGw p j w w1) (h98 : A w1 98 (60 * p + j) = ((n + 1 : Nat) : Int)) (cr : ∃ f, CRs (A m 23) (ROs w) (w.2.2.2 34) f y (a + 2) (n + 1) (Hs j) (Os j))
    (c : ∀ m3 w3, (SFs Fv P Fv' P' PR m3 w3 → WLs (RRp p) PR Fv P Fv' P' none i j0 m3 w3) → PLs b p m3 w3 U B (W + 1) Y → RUs m3 w3 p j nb Hs Os y (a + 2) (n + 1) → GLm p q m m3 → GLw p q w w3 → PP Q (K1 m3) (K2 w3)) : PP Q (bnd (hb_Ma_toward_95 N () m p (I 3) 1 (some q)) (fun u _ => K1 u)) (bnd (fb_M_processRun_151 N () w1 (I 3) 0 (I ((q : Nat) : Int)) 92 (I ((p : Nat) : Int)) (I ((W + 1 : Nat) : Int)) 1) (fun u _ => K2 u)) := by
  obtain ⟨⟨fa, -⟩, ⟨r2, -⟩, -, ⟨q9, q9w⟩, -, -, r11, -, -⟩ := id ru
  have hj : j < 60 := fa.1.2.2
  have p24 : PR ≤ 24 := wl.1.2.1.1.1.2
  have cb2 : a + 2 + 1 < 24000 := by
    obtain ⟨f9, cr9⟩ := cr
    exact (CR_b cr9).1
  obtain ⟨Lp, lp1, lp2, lp3, -⟩ := WL_ls0 wl hpp
  obtain ⟨Lq, lq1, lq2, lq3, lq4⟩ := WL_ls0 wl hq
  rw [tw95_3, prr_3, sub1, tnI (n := p) rfl (by omega), wa_e, oI, oI]
  refine rb_ck (fun _ => rb_ck (fun _ => ?_))
  rw [lt_e, truth1, bnd_so]
  refine lb_bnd (pk_mo (rml_m (N := N) (x := ((q : Nat) : Int)) lp1 ⟨by omega, by omega⟩) (fun m1 _ h => ?_))
  obtain ⟨h1, f1⟩ := h
  have lp1' : LSm m1 p (Lp.filter (fun y => decide (y ≠ ((q : Nat) : Int)))) := by
    rcases h1 with h1 | h1
    · exact h1
    · exact absurd lp3 h1
  -- what q is linked with now
  obtain ⟨L2, hL2, hL2w, hL2d, hL2e⟩ : ∃ L2 : List Int, LSm m1 q L2 ∧ (∀ u v : MS, LSw u q Lq → LFw p u v → LSw v p (Lp.filter (fun y => decide (y ≠ ((q : Nat) : Int)))) → LSw v q L2) ∧ L2.Nodup ∧ (DEs m w q → L2 = []) := by
    by_cases e : p = q
    · subst e
      exact ⟨_, lp1', fun u v _ _ h => h, lp3.filter _, fun h => absurd h.1 (by rw [q9]; omega)⟩
    · exact ⟨Lq, LSm_o lq1 e f1, fun u v h f _ => LSw_o h e f, lq3, lq4⟩
  refine lb_bnd (pk_mo (rml_m (N := N) (x := ((p : Nat) : Int)) hL2 ⟨by omega, by omega⟩) (fun m2 _ h => ?_))
  obtain ⟨h2, f2⟩ := h
  have lq1' : LSm m2 q (L2.filter (fun y => decide (y ≠ ((p : Nat) : Int)))) := by
    rcases h2 with h2 | h2
    · exact h2
    · exact absurd hL2d h2
  have f12 : FR [pq p 15, pq q 15] [] [pq p 14, pq q 14] [] m m2 := FR.tr (FR.mo f1 (by simp) (by simp) (by simp) (by simp)) (FR.mo f2 (by simp) (by simp) (by simp) (by simp))
  have ru2 : RUs m2 w p j nb Hs Os y a n := RUs_st ru (lk_n f12) EQw.rf.v (lk_pgm f12)
  have pl2 := lk_plm pl f12
  have pd := PLs_drop (k := 1) (W := W) pl2 (by omega)
  have g3 : FGw p j w (wa w1 92 p ((W : Nat) : Int)) := FGw.tr g1 FGw.w92
  have h983 : A (wa w1 92 p ((W : Nat) : Int)) 98 (60 * p + j) = ((n + 1 : Nat) : Int) := by rw [wa_rne (by omega)]; exact h98
  generalize hw3 : wa w1 92 p ((W : Nat) : Int) = w3 at pd g3 h983
  have e45 : F m2 (pq p 45) = ((l : Nat) : Int) := by
    rw [← hl]
    exact congrArg Int32.toInt ((lk_n (r := p) f12).1 45 (by omega) (by simp))
  have e05 : F m2 1105 = ((a : Nat) : Int) := by
    rw [FR.F f12 (by simp [pq_n])]
    exact r2
  have cr2 : ∃ f, CRs (A m2 23) (ROs w) (w.2.2.2 34) f y (a + 2) (n + 1) (Hs j) (Os j) := by
    rw [show A m2 23 = A m 23 from by funext k; show (m2.2.2.1 23 k).toInt = _; rw [f12.2.2.1 23 (by simp [pq_n])]; rfl]
    exact cr
  unfold hb_Ma_toward_335 hm_Ma_answer hb_Ma_answer_0
  rw [show (1 : Int32) = I 1 from rfl, drop_e (W := W + 1) (k := 1) (x := 1) pl2.2.2.1.1 rfl (by omega), bnd_so, Nat.add_sub_cancel]
  simp only [bb_e, bnd_so]
  refine pre_pt (l := l) (by omega) ru2 (by omega) ⟨by omega, hl2.2⟩ (lit_b (b := b) (v := 1) (Or.inr (Or.inl rfl)) (z := 0) (fun h => by omega) ⟨by omega, by omega⟩) FGm.drop g3 pd (by rw [wi_ne (pq_inj (by omega))]; exact e45) h983 (by rw [wi_ne (pq_n (by omega))]; exact e05) (by omega) cr2 (fun m8 w8 pl8 ru8 f8 g8 x33 => ?_)
  rw [I_F' x33]
  refine r_bnd (pk_mo (rml_w (N := N) (x := ((q : Nat) : Int)) (by omega) ⟨by omega, by omega⟩ (LSw_fg lp2 g8)) (fun w9 _ h => ?_))
  obtain ⟨k1, k2⟩ := h
  have x339 : F w9 133 = ((p : Nat) : Int) := by rw [FR.F k2.1 (by simp)]; exact x33
  rw [I_F' x339]
  refine r_bnd (pk_mo (rml_w (N := N) (x := ((p : Nat) : Int)) (by omega) ⟨by omega, by omega⟩ (hL2w w8 w9 (LSw_fg lq2 g8) k2 k1)) (fun w10 _ h => ?_))
  obtain ⟨k3, k4⟩ := h
  show PP Q (K1 m8) (K2 w10)
  have g89 : FR [] [] [116, 117] [] w8 w10 := FR.tr k2.1 k4.1
  have pl10 := lk_plw pl8 g89
  have ru10 : RUs m8 w10 p j nb Hs Os y (a + 2) (n + 1) := RUs_st ru8 EQm.rf.n (lk_v g89) (lk_pgw g89)
  have gm : GLm p q m m8 := GLm.tr (GLm.tr (GLm_lk (Or.inl rfl) f1) (GLm_lk (Or.inr rfl) f2)) (GLm_gg (GGm_fg f8))
  have gw : GLw p q w w10 := GLw.tr (GLw.tr (GLw_gg (GGw_fg g8 hj)) (GLw_lk (Or.inl rfl) k2)) (GLw_lk (Or.inr rfl) k4)
  have em : ∀ k, k = 11 ∨ k = 12 ∨ k = 13 ∨ k = 29 → m8.1 (pq p k) = m.1 (pq p k) := fun k hk => (f8.1 _ (by
    simp only [List.mem_cons, List.not_mem_nil, or_false]
    intro c
    rcases c with c | c | c | c | c
    · exact pq_ne2 (by omega) (by omega) (by omega) c
    · exact pq_ne2 (by omega) (by omega) (by omega) c
    · exact pq_ne2 (by omega) (by omega) (by omega) c
    · exact pq_ne2 (by omega) (by omega) (by omega) c
    · exact pq_n (by omega) c.symm)).trans (f12.1 _ (by
    simp only [List.mem_cons, List.not_mem_nil, or_false]
    intro c
    rcases c with c | c
    · exact pq_ne2 (by omega) (by omega) (by omega) c
    · exact pq_ne2 (by omega) (by omega) (by omega) c))
  have ew : ∀ K, K = 112 ∨ K = 113 ∨ K = 114 ∨ K = 115 → w10.2.2.1 K = w.2.2.1 K := fun K hK => (g89.2.2.1 K (by simp; omega)).trans (g8.1.2.2.1 K (by simp; omega))
  obtain ⟨L9, l1, l2⟩ : ∃ L, LSm m8 p L ∧ LSw w10 p L := by
    by_cases e : q = p
    · subst e
      exact ⟨_, LSm_fg lq1' f8, k3⟩
    · exact ⟨_, LSm_fg (LSm_o lp1' e f2) f8, LSw_o k1 e k4⟩
  have scp : SCs p m8 w10 := SC_of l1 l2 (by rw [em 12 (by omega), ew 113 (by omega)]; exact sc.1) (by rw [em 13 (by omega), ew 114 (by omega)]; exact sc.2.1) (by rw [em 11 (by omega), ew 112 (by omega)]; exact sc.2.2.1) (by rw [em 29 (by omega), ew 115 (by omega)]; exact sc.2.2.2.2.1)
  refine c m8 w10 (fun s2 => WL_ownL (WL_t wl) hpp (by rw [q9]; omega) (by rw [q9w]; omega) s2 gm gw (fun e => ⟨_, LSm_fg lq1' f8, k3, fun h => by rw [hL2e h]; rfl⟩) pl10 scp ru10) pl10 ru10 gm gw
end
