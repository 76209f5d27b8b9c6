/-! spawn: the FUN's copy, here; the answer -/
set_option maxRecDepth 100000
section
variable {Fv : Int64 → Int64 → Prop} {P : Int64 → Prop} {N p q n s f : Nat} {ow kd : Nat → Nat} {w : MS} {x : Int64}
/-- how many names a FUN holds is copied -/
theorem copy_c1 (hp1 : p < 25) (hq : q < 25) (hpq : p ≠ q) (hn : n ≤ 500) (hs : s ≤ 500) (g : HP (hp w p) n ow kd Fv P) (z : SZ (hp w p) n ow kd Fv P f x s) (h89 : A w 89 q = 0) (hN : 3000 ≤ N) (e3 : so x = 3) : PK (fun w2 r => hp w2 q (vn r + 1) = hp w p (vn x + 1)) (fm_M_copy N w (I ((p : Nat) : Int)) x (I ((q : Nat) : Int))) := by
  intro w2 r e
  obtain ⟨c1, c2, c3, cc, st, src, oo, c4, c5⟩ := pk_ok (copy_ok (N := N) (fr := p) (to := q) (n0 := 0) (s := s) hp1 hq hn (by omega) (fun c => absurd c hpq) g z (by rw [h89]; rfl) hN) w2 r e
  rcases c5 with ⟨c5, -⟩ | ⟨-, e2, e3', e4, e5⟩
  · exact absurd (Or.inl e3) c5
  · obtain ⟨q1, q2, q3, q4, q5, q6⟩ := c4.2.2.1 _ e4
    rw [e5] at q2 q6
    have bp : 2 ≤ blk (hp w p) x := by unfold blk; rw [if_neg (by omega), if_neg (by omega), if_pos e3]; omega
    have pt : prt x = 2 := by unfold prt; rw [e3]; rfl
    exact (q6 1 (by omega) (fun y => by omega)).1 (by omega)
end
/-- what spawn leaves as it was, there -/
def NGm (q : Nat) (m m2 : MS) : Prop := (∀ d, d ≠ q → LOCm d m m2) ∧ (∀ k, k < 2000 → k ≠ 942 → m2.1 k = m.1 k) ∧ (∀ k, k < 2000 → m2.2.1 k = m.2.1 k) ∧ (∀ K, K < 2000 → K ≠ 1948 → m2.2.2.1 K = m.2.2.1 K) ∧ F m2 942 = ((q + 1 : Nat) : Int)
/-- the same, here -/
def NGw (q : Nat) (w w2 : MS) : Prop := (∀ d, d ≠ q → LOCw d w w2) ∧ (∀ k, k ≠ 118 → w2.1 k = w.1 k) ∧ (∀ K, K < 88 ∨ (118 ≤ K ∧ K ≤ 130) ∨ (145 ≤ K ∧ K ≤ 147) → w2.2.2.1 K = w.2.2.1 K) ∧ w2.2.2.2 34 = w.2.2.2 34 ∧ F w2 118 = ((q + 1 : Nat) : Int)
section
variable {α β : Type} {b b2 : Int → Nat → Nat → Prop} {Fv Fv' : Int64 → Int64 → Prop} {P P' : Int64 → Prop} {N PR p i j0 U B W Y l j a n s L : Nat} {m w w1 mB wC : MS} {nb : Nat → Nat} {Hs Os : Nat → List Nat} {y : Option (Nat × Nat × Nat)} {Q : MS → α → MS → β → Prop} {K1 : MS → Option (MS × α)} {K2 : MS → Option (MS × β)}
theorem spawn_fin (hpp : p < PR) (hPR : PR < 24) (wl : WLs (RRp p) PR Fv P Fv' P' none i j0 m w) (hq : F m 955 = ((i : Nat) : Int)) (ru : RUs m w p j nb Hs Os y a n) (sc : SCs p m w) (hW : W + 1 ≤ 46000) (hBY : B ≤ 2500 ∧ Y ≤ 30) (hl : F m (pq p 45) = ((l : Nat) : Int)) (hl2 : W + 1 ≤ l ∧ l ≤ 1000000) (pl : PLs b p m w1 U B (W + 1) Y) (g1 : FGw p j w w1) (h98 : A w1 98 (60 * p + j) = ((n + 1 : Nat) : Int)) (cr : ∃ f, CRs (A m 23) (ROs w) (w.2.2.2 34) f y (a + 2) (n + 1) (Hs j) (Os j))
    (gm : NGm PR m mB) (gw : NGw PR w1 wC) (hL : L ≤ 2500) (nal : PLs b2 PR mB wC s L 0 0 ∧ SCs PR mB wC ∧ WTr PR mB wC) (n9 : F mB (pq PR 9) = 0 ∧ A wC 109 PR = 5 ∧ F mB (pq PR 15) = 0)
    (c : ∀ m3 w3, (∀ P2, SFs Fv P Fv' P2 (PR + 1) m3 w3 → WLs (RRp p) (PR + 1) Fv P Fv' P2 none i j0 m3 w3) → PLs b p m3 w3 U B (W + 1) Y → RUs m3 w3 p j nb Hs Os y (a + 2) (n + 1) → NGm PR m mB → NGw PR w1 wC → FGm p mB m3 → FGw p j wC w3 → PP Q (K1 m3) (K2 w3)) : PP Q (bnd (hb_Ma_spawn_170 N () mB p PR) (fun u _ => bnd (hb_Ma_predefined_146 N () u p) (fun u _ => K1 u))) (bnd (an4 N wC (I ((PR : Nat) : Int))) (fun u _ => K2 u)) := by
  obtain ⟨⟨fa, -⟩, ⟨r2, -⟩, -, ⟨q9, q9w⟩, -, -, r11, -, -⟩ := id ru
  obtain ⟨m1, m2, m3', m4, m5⟩ := id gm
  obtain ⟨w1', w2', w3', w4', w5'⟩ := id gw
  have hj : j < 60 := fa.1.2.2
  have hU := pl.1.1.2.2
  have pn : p ≠ PR := by omega
  have cb2 : a + 2 + 1 < 24000 := by
    obtain ⟨f9, cr9⟩ := cr
    exact (CR_b cr9).1
  have lp := m1 p pn
  have lw := w1' p pn
  -- p's own terms
  have plB : PLs b p mB wC U B (W + 1) Y := by
    refine PLs_cg pl (fun k hk => (lp k (by simp at hk; omega)).1) (fun i _ => by rw [(lp 2 (by omega)).2.2.2]) (fun i _ => by rw [(lp 33 (by omega)).2.2.2]) (fun i _ => by rw [(lp 35 (by omega)).2.2.2]) (fun i _ => by rw [(lp 6 (by omega)).2.2.2]) (fun k hk => ?_) (fun i hi => lw.2.2.2.2.1 _ (by omega) (by omega)) (fun i hi => lw.2.2.2.2.2.2.1 _ (by omega) (by omega)) (fun i hi => lw.2.2.2.2.2.1 _ (by omega) (by omega)) (fun i hi => lw.2.2.2.2.2.2.2 _ (by omega) (by omega))
    simp only [List.mem_cons, List.not_mem_nil, or_false] at hk
    rcases hk with rfl | rfl | rfl | rfl | rfl
    · exact lw.2.1 89 (by omega)
    · exact lw.2.1 90 (by omega)
    · exact lw.1 92 p (Or.inl ⟨by omega, rfl⟩)
    · exact lw.1 94 p (Or.inl ⟨by omega, rfl⟩)
    · exact lw.2.1 108 (by omega)
  have pd := PLs_drop (k := 1) (W := W) plB (by omega)
  -- the others first
  have ew : EQw p w (swW p j w wC) := swW_eq g1 lw (fun K hK => w3' K (by unfold PRr at hK; omega)) w4'
  have gB : FGw p j (swW p j w wC) wC := swW_fg
  have em : EQm p m mB := ⟨fun k hk _ => (lp k hk).1, fun k hk _ => (lp k hk).2.1, fun k hk => (lp k hk).2.2.1, m4 23 (by omega) (by omega)⟩
  have bw : ∀ k, k ≠ 118 → k ≠ 136 → k ≠ 138 → k ≠ 140 → (swW p j w wC).1 k = w.1 k := fun k h0 h1 h2 h3 => by rw [swW_1 ⟨h1, h2, h3⟩, w2' k h0]; exact g1.1.1 k (by simp; omega)
  have bA : ∀ K, K < 88 ∨ (118 ≤ K ∧ K ≤ 130) → (swW p j w wC).2.2.1 K = w.2.2.1 K := fun K h => funext fun i => by rw [swW_A (fun c => by unfold owP at c; omega), w3' K (by omega)]; exact congrFun (g1.1.2.2.1 K (by simp; omega)) i
  have pg : PGs m w mB (swW p j w wC) := ⟨⟨⟨m4 23 (by omega) (by omega), m2 22 (by omega) (by omega), ATc_eq (m4 2 (by omega) (by omega)) (m4 3 (by omega) (by omega))⟩, ew.2.2.1, ew.2.2.2, bA 12 (by omega), bA 13 (by omega), bw 14 (by omega) (by omega) (by omega) (by omega)⟩, fun k h1 h2 => ⟨m2 k (by omega) (by omega), m3' k (by omega)⟩, fun k h => bw k (by omega) (by omega) (by omega) (by omega)⟩
  have ruB : RUs mB (swW p j w wC) p j nb Hs Os y a n := RUs_st ru em.n ew.v pg
  have hb15 : F m (pq p 15) ≤ 24 := by
    rcases wl.2.2.1 p hpp with ⟨x1, x2, b', U', B', W', Y', pl', -⟩ | ⟨x1, -⟩
    · exact (SF_al wl.1 hpp x1 pl').2.2.2.2
    · rw [q9] at x1
      omega
  have scB : SCs p mB (swW p j w wC) := SC_eq sc hb15 em ew
  have crB : ∃ f, CRs (A mB 23) (ROs (swW p j w wC)) ((swW p j w wC).2.2.2 34) f y (a + 2) (n + 1) (Hs j) (Os j) := by
    rw [show A mB 23 = A m 23 from by funext k; show (mB.2.2.1 23 k).toInt = _; rw [m4 23 (by omega) (by omega)]; rfl, ROs_eq (w := w) ew.2.2.1, ew.2.2.2]
    exact cr
  have x33 : F wC 133 = ((p : Nat) : Int) := by
    rw [← r11]
    show (wC.1 133).toInt = (w.1 133).toInt
    rw [w2' 133 (by omega), g1.1.1 133 (by simp)]
  have e45 : F mB (pq p 45) = ((l : Nat) : Int) := by
    rw [← hl]
    exact congrArg Int32.toInt (lp 45 (by omega)).1
  have e05 : F mB 1105 = ((a : Nat) : Int) := by
    rw [← r2]
    exact congrArg Int32.toInt (m2 1105 (by omega) (by omega))
  have e98 : A wC 98 (60 * p + j) = ((n + 1 : Nat) : Int) := by
    rw [← h98]
    exact congrArg Int32.toInt (lw.1 98 _ (Or.inr (Or.inl ⟨⟨by omega, by omega⟩, by omega, by omega⟩)))
  have tk := take_r (N := N) (W := W) (show p < 24 by omega) x33 plB.2.2.1.2.1 (by omega)
  unfold an4 hb_Ma_spawn_170
  refine r_bb (r_bnd (pk_mo tk (fun w4 r e => ?_)))
  obtain ⟨rfl, -⟩ := e
  rw [oI, show (4 : Int32) = I 4 from rfl, e_make, term_e]
  simp only [bb_e, bnd_so]
  unfold hm_Ma_answer hb_Ma_answer_0
  rw [show (1 : Int32) = I 1 from rfl, drop_e (W := W + 1) (k := 1) (x := 1) plB.2.2.1.1 rfl (by omega), bnd_so, Nat.add_sub_cancel]
  simp only [bb_e, bnd_so]
  have g3 : FGw p j (swW p j w wC) (wa wC 92 p ((W : Nat) : Int)) := FGw.tr gB FGw.w92
  refine pre_pp (l := l) (t := mk 4 ((PR : Nat) : Int)) (x := mk 4 ((PR : Nat) : Int)) (by omega) ruB (by omega) ⟨by omega, hl2.2⟩ (RTb_lit (nh_mk (by omega)) (fun h => ?_)) FGm.drop g3 pd (by rw [wi_ne (pq_inj (by omega))]; exact e45) (by rw [wa_rne (by omega)]; exact e98) (by rw [wi_ne (pq_n (by omega))]; exact e05) (by omega) crB (fun m8 w8 pl8 ru8 f8 g8 => ?_)
  · rw [so_mk (by omega) (by omega)] at h
    omega
  have gm8 := GGm_fg f8
  have gw8 := GGw_fg g8 hj
  have gwB := GGw_fg gB hj
  have L8 : ∀ d, d ≠ p → LOCw d wC w8 := fun d hd => ((gwB.1 d hd).sym).tr2 (gw8.1 d hd)
  have pg2 : PG0 mB (swW p j w wC) m8 w8 := PG0_gg gm8 gw8
  have pgC : PG0 mB wC m8 w8 := ⟨pg2.1, fun K hK => (pg2.2.1 K hK).trans (gwB.2.1.1 K hK).symm, pg2.2.2.1.trans gwB.2.1.2.1.symm, pg2.2.2.2.1.trans gwB.2.1.2.2.1.symm, pg2.2.2.2.2.1.trans gwB.2.1.2.2.2.1.symm, pg2.2.2.2.2.2.trans gwB.2.1.2.2.2.2.symm⟩
  have g1' := GGw_fg g1 hj
  have f8C : FGw p j wC w8 := by
    obtain ⟨b1, b2, b3, b4, b5, b6, b7⟩ := gB
    obtain ⟨d1, d2, d3, d4, d5, d6, d7⟩ := g8
    exact ⟨⟨fun k hk => (d1.1 k hk).trans (b1.1 k hk).symm, fun k hk => (d1.2.1 k hk).trans (b1.2.1 k hk).symm, fun k hk => (d1.2.2.1 k hk).trans (b1.2.2.1 k hk).symm, fun k hk => (d1.2.2.2 k hk).trans (b1.2.2.2 k hk).symm⟩, fun k hk => ⟨(d2 k hk).1.trans (b2 k hk).1.symm, (d2 k hk).2.1.trans (b2 k hk).2.1.symm, (d2 k hk).2.2.trans (b2 k hk).2.2.symm⟩, fun k hk => (d3 k hk).trans (b3 k hk).symm, fun k hk => (d4 k hk).trans (b4 k hk).symm, fun k hk => (d5 k hk).trans (b5 k hk).symm, fun k hk => (d6 k hk).trans (b6 k hk).symm, fun k hk => (d7 k hk).trans (b7 k hk).symm⟩
  refine c m8 w8 (fun P2 s2 => ?_) pl8 ru8 gm gw f8 f8C
  have hs := nal.1.1.1.2.2
  have na8 := AL_loc nal ⟨hs, by omega, hL, by omega, by rw [n9.2.2]; omega⟩ pgC (gm8.1 PR (Ne.symm pn)) (L8 PR (Ne.symm pn))
  refine WL_new (WL_t wl) (by rw [q9]; omega) hq s2 (fun d h1 h2 => ⟨LOCm.tr (m1 d h2) (gm8.1 d h1), ((g1'.1 d h1).tr2 (w1' d h2)).tr2 (L8 d h1)⟩) ?_ ?_ ?_ pl8 (SC_fg scB f8 g8) ru8 hpp ⟨?_, ?_⟩ ⟨b2, s, L, 0, 0, na8⟩
  · exact ⟨⟨pg2.1.1.trans pg.1.1.1, pg2.1.2.1.trans pg.1.1.2.1, pg2.1.2.2.trans pg.1.1.2.2⟩, fun K hK => (pg2.2.1 K hK).trans (pg.1.2.1 K hK), pg2.2.2.1.trans pg.1.2.2.1, pg2.2.2.2.1.trans pg.1.2.2.2.1, pg2.2.2.2.2.1.trans pg.1.2.2.2.2.1, pg2.2.2.2.2.2.trans pg.1.2.2.2.2.2⟩
  · show (m8.1 955).toInt = (m.1 955).toInt
    rw [gm8.2.2.1, m2 955 (by omega) (by omega)]
  · show (w8.1 150).toInt = (w.1 150).toInt
    rw [gw8.2.2.1, bw 150 (by omega) (by omega) (by omega) (by omega)]
  · rw [show F m8 (pq PR 9) = F mB (pq PR 9) from congrArg Int32.toInt (gm8.1 PR (Ne.symm pn) 9 (by omega)).1, n9.1]
    omega
  · rw [show A w8 109 PR = A wC 109 PR from congrArg Int32.toInt ((L8 PR (Ne.symm pn)).1 109 PR (Or.inl ⟨by omega, rfl⟩)), n9.2.1]
    omega
end
