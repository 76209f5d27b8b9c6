/-! what is PREDEFINED: alive, unlink -/
set_option maxRecDepth 100000
/-- a step of p that leaves all others alone, but for the links of q: there, here -/
def GLm (p q : Nat) (m m2 : MS) : Prop := (∀ d, d ≠ p → d ≠ q → LOCm d m m2) ∧ (q ≠ p → ∀ k, k < 100 → (k ≠ 15 → m2.1 (pq q k) = m.1 (pq q k)) ∧ m2.2.1 (pq q k) = m.2.1 (pq q k) ∧ (k ≠ 14 → m2.2.2.1 (pq q k) = m.2.2.1 (pq q k)) ∧ m2.2.2.2 (pq q k) = m.2.2.2 (pq q k)) ∧ (m2.2.2.1 23 = m.2.2.1 23 ∧ m2.1 22 = m.1 22 ∧ m2.2.2.1 2 = m.2.2.1 2 ∧ m2.2.2.1 3 = m.2.2.1 3) ∧ m2.1 955 = m.1 955 ∧ m2.2.2.1 54 = m.2.2.1 54 ∧ m2.1 956 = m.1 956 ∧ (∀ K, K < 100 → m2.2.2.1 K = m.2.2.1 K) ∧ ∀ k, k < 1100 ∨ k = 1106 ∨ k = 1107 → m2.1 k = m.1 k
def GLw (p q : Nat) (w w2 : MS) : Prop := (∀ d, d ≠ p → d ≠ q → LOCw d w w2) ∧ (q ≠ p → (∀ K i, OWi q K i → K ≠ 116 → K ≠ 117 → w2.2.2.1 K i = w.2.2.1 K i) ∧ (∀ K, K = 89 ∨ K = 90 ∨ K = 108 ∨ K = 132 → w2.2.2.1 K q = w.2.2.1 K q) ∧ (∀ i, 100 * q ≤ i → i < 100 * q + 100 → w2.2.2.1 131 i = w.2.2.1 131 i) ∧ w2.2.2.2 111 q = w.2.2.2 111 q ∧ (∀ i, 500 * q ≤ i → i < 500 * q + 500 → w2.2.2.2 88 i = w.2.2.2 88 i) ∧ (∀ i, 46000 * q ≤ i → i < 46000 * q + 46000 → w2.2.2.2 91 i = w.2.2.2 91 i) ∧ (∀ i, 2500 * q ≤ i → i < 2500 * q + 2500 → w2.2.2.2 93 i = w.2.2.2 93 i) ∧ ∀ i, 30 * q ≤ i → i < 30 * q + 30 → w2.2.2.2 107 i = w.2.2.2 107 i) ∧ ((∀ K, PRr K → w2.2.2.1 K = w.2.2.1 K) ∧ w2.2.2.2 34 = w.2.2.2 34 ∧ w2.2.2.1 12 = w.2.2.1 12 ∧ w2.2.2.1 13 = w.2.2.1 13 ∧ w2.1 14 = w.1 14) ∧ w2.1 150 = w.1 150 ∧ (∀ K, K = 145 ∨ K = 146 ∨ K = 147 → w2.2.2.1 K = w.2.2.1 K) ∧ w2.2.2.2 148 = w.2.2.2 148 ∧ (∀ K, K < 88 ∨ (118 ≤ K ∧ K ≤ 130) → w2.2.2.1 K = w.2.2.1 K) ∧ ∀ k, k ≤ 132 ∨ k = 164 ∨ k = 165 → w2.1 k = w.1 k
section
variable {b : Int → Nat → Nat → Prop} {Fv Fv' : Int64 → Int64 → Prop} {P P' : Int64 → Prop} {N PR q r p i j0 j jj U B W Y a n : Nat} {m w m2 w2 m3 w3 : MS} {cur : Option Nat} {nb : Nat → Nat} {Hs Os : Nat → List Nat} {y : Option (Nat × Nat × Nat)} {z x1 x2 : Int} {L : List Int}
theorem GLm.tr (h : GLm p q m m2) (g : GLm p q m2 m3) : GLm p q m m3 := by
  obtain ⟨a1, a2, ⟨a3, a4, a5, a6⟩, a7, a8, a9, a10, a11⟩ := h
  obtain ⟨c1, c2, ⟨c3, c4, c5, c6⟩, c7, c8, c9, c10, c11⟩ := g
  exact ⟨fun d h1 h2 k hk => ⟨((c1 d h1 h2 k hk).1).trans (a1 d h1 h2 k hk).1, ((c1 d h1 h2 k hk).2.1).trans (a1 d h1 h2 k hk).2.1, ((c1 d h1 h2 k hk).2.2.1).trans (a1 d h1 h2 k hk).2.2.1, ((c1 d h1 h2 k hk).2.2.2).trans (a1 d h1 h2 k hk).2.2.2⟩, fun h k hk => ⟨fun e => ((c2 h k hk).1 e).trans ((a2 h k hk).1 e), ((c2 h k hk).2.1).trans (a2 h k hk).2.1, fun e => ((c2 h k hk).2.2.1 e).trans ((a2 h k hk).2.2.1 e), ((c2 h k hk).2.2.2).trans (a2 h k hk).2.2.2⟩, ⟨c3.trans a3, c4.trans a4, c5.trans a5, c6.trans a6⟩, c7.trans a7, c8.trans a8, c9.trans a9, fun K h => (c10 K h).trans (a10 K h), fun k h => (c11 k h).trans (a11 k h)⟩
theorem LOCw.tr2 {d : Nat} (a : LOCw d w w2) (c : LOCw d w2 w3) : LOCw d w w3 := ⟨fun K i h => (c.1 K i h).trans (a.1 K i h), fun K h => (c.2.1 K h).trans (a.2.1 K h), fun i h1 h2 => (c.2.2.1 i h1 h2).trans (a.2.2.1 i h1 h2), c.2.2.2.1.trans a.2.2.2.1, fun i h1 h2 => (c.2.2.2.2.1 i h1 h2).trans (a.2.2.2.2.1 i h1 h2), fun i h1 h2 => (c.2.2.2.2.2.1 i h1 h2).trans (a.2.2.2.2.2.1 i h1 h2), fun i h1 h2 => (c.2.2.2.2.2.2.1 i h1 h2).trans (a.2.2.2.2.2.2.1 i h1 h2), fun i h1 h2 => (c.2.2.2.2.2.2.2 i h1 h2).trans (a.2.2.2.2.2.2.2 i h1 h2)⟩
theorem GLw.tr (h : GLw p q w w2) (g : GLw p q w2 w3) : GLw p q w w3 := by
  obtain ⟨a1, a2, ⟨a3, a4, a5, a6, a7⟩, a8, a9, a10, a11, a12⟩ := h
  obtain ⟨c1, c2, ⟨c3, c4, c5, c6, c7⟩, c8, c9, c10, c11, c12⟩ := g
  refine ⟨fun d h1 h2 => (a1 d h1 h2).tr2 (c1 d h1 h2), fun e => ?_, ⟨fun K h => (c3 K h).trans (a3 K h), c4.trans a4, c5.trans a5, c6.trans a6, c7.trans a7⟩, c8.trans a8, fun K h => (c9 K h).trans (a9 K h), c10.trans a10, fun K h => (c11 K h).trans (a11 K h), fun k h => (c12 k h).trans (a12 k h)⟩
  obtain ⟨b1, b2, b3, b4, b5, b6, b7, b8⟩ := a2 e
  obtain ⟨d1, d2, d3, d4, d5, d6, d7, d8⟩ := c2 e
  exact ⟨fun K i h h1 h2 => (d1 K i h h1 h2).trans (b1 K i h h1 h2), fun K h => (d2 K h).trans (b2 K h), fun i h1 h2 => (d3 i h1 h2).trans (b3 i h1 h2), d4.trans b4, fun i h1 h2 => (d5 i h1 h2).trans (b5 i h1 h2), fun i h1 h2 => (d6 i h1 h2).trans (b6 i h1 h2), fun i h1 h2 => (d7 i h1 h2).trans (b7 i h1 h2), fun i h1 h2 => (d8 i h1 h2).trans (b8 i h1 h2)⟩
theorem GLm_gg (f : GGm p m m2) : GLm p q m m2 := ⟨fun d h _ => f.1 d h, fun e k hk => ⟨fun _ => (f.1 q e k hk).1, (f.1 q e k hk).2.1, fun _ => (f.1 q e k hk).2.2.1, (f.1 q e k hk).2.2.2⟩, f.2⟩
theorem GLw_gg (g : GGw p w w2) : GLw p q w w2 := ⟨fun d h _ => g.1 d h, fun e => ⟨fun K i h _ _ => (g.1 q e).1 K i h, (g.1 q e).2⟩, g.2⟩
/-- links of r (p or q) change -/
theorem GLm_lk (hr : r = p ∨ r = q) (f : FR [pq r 15] [] [pq r 14] [] m m2) : GLm p q m m2 := by
  refine ⟨fun d h1 h2 k hk => ⟨f.1 _ (by simp; exact fun c => by have := (pq_e hk (by omega) c).1; omega), f.2.1 _ (by simp), f.2.2.1 _ (by simp; exact fun c => by have := (pq_e hk (by omega) c).1; omega), f.2.2.2 _ (by simp)⟩, fun e k hk => ⟨fun h => f.1 _ (by simp; exact fun c => h (pq_e hk (by omega) c).2), f.2.1 _ (by simp), fun h => f.2.2.1 _ (by simp; exact fun c => h (pq_e hk (by omega) c).2), f.2.2.2 _ (by simp)⟩, ⟨f.2.2.1 23 (by simp [pq_n]), f.1 22 (by simp [pq_n]), f.2.2.1 2 (by simp [pq_n]), f.2.2.1 3 (by simp [pq_n])⟩, f.1 955 (by simp [pq_n]), f.2.2.1 54 (by simp [pq_n]), f.1 956 (by simp [pq_n]), fun K h => f.2.2.1 K (by simp; exact pq_n (by omega)), fun k h => f.1 k (by simp; exact pq_n (by omega))⟩
theorem GLw_lk (hr : r = p ∨ r = q) (f : LFw r w w2) : GLw p q w w2 := by
  obtain ⟨f, g1, g2⟩ := f
  have ai : ∀ {x y : Int32}, x.toInt = y.toInt → x = y := fun h => Int32.toInt_inj.mp h
  have wy : ∀ K, K ≠ 116 → K ≠ 117 → w2.2.2.1 K = w.2.2.1 K := fun K h1 h2 => f.2.2.1 K (by simp; omega)
  refine ⟨fun d h1 h2 => ⟨fun K k h => ?_, fun K h => by rw [wy K (by omega) (by omega)], fun k _ _ => by rw [wy 131 (by omega) (by omega)], by rw [f.2.2.2 111 (by simp)], fun k _ _ => by rw [f.2.2.2 88 (by simp)], fun k _ _ => by rw [f.2.2.2 91 (by simp)], fun k _ _ => by rw [f.2.2.2 93 (by simp)], fun k _ _ => by rw [f.2.2.2 107 (by simp)]⟩, fun e => ⟨fun K k h h1 h2 => by rw [wy K h1 h2], fun K h => by rw [wy K (by omega) (by omega)], fun k _ _ => by rw [wy 131 (by omega) (by omega)], by rw [f.2.2.2 111 (by simp)], fun k _ _ => by rw [f.2.2.2 88 (by simp)], fun k _ _ => by rw [f.2.2.2 91 (by simp)], fun k _ _ => by rw [f.2.2.2 93 (by simp)], fun k _ _ => by rw [f.2.2.2 107 (by simp)]⟩, ⟨fun K h => wy K (by unfold PRr at h; omega) (by unfold PRr at h; omega), f.2.2.2 34 (by simp), wy 12 (by omega) (by omega), wy 13 (by omega) (by omega), f.1 14 (by simp)⟩, f.1 150 (by simp), fun K h => wy K (by omega) (by omega), f.2.2.2 148 (by simp), fun K h => wy K (by omega) (by omega), fun k h => f.1 k (by simp)⟩
  by_cases c : K = 117
  · subst c
    have kd : k = d := by
      rcases h with h | h | h | h
      · exact h.2
      · omega
      · omega
      · omega
    subst kd
    exact ai (g1 k (by omega))
  · by_cases c2 : K = 116
    · subst c2
      have kd : 24 * d ≤ k ∧ k < 24 * d + 24 := by
        rcases h with h | h | h | h
        · omega
        · omega
        · omega
        · exact h.2
      exact ai (g2 k (by omega))
    · rw [wy K c2 c]
/-- the world behind such a step -/
theorem WL_ownL (wl : WLs (RRt p) PR Fv P Fv' P' none i j0 m w) (hpp : p < PR) (hal : F m (pq p 9) ≠ 3) (h9 : A w 109 p ≠ 3) (s2 : SFs Fv P Fv' P' PR m2 w2) (f : GLm p q m m2) (g : GLw p q w w2) (hL : q ≠ p → ∃ L, LSm m2 q L ∧ LSw w2 q L ∧ (DEs m w q → L = [])) (pl : PLs b p m2 w2 U B W Y) (sc2 : SCs p m2 w2) (ru : RUs m2 w2 p jj nb Hs Os y a n) : WLs (RRp p) PR Fv P Fv' P' none i j0 m2 w2 := by
  have p24 := wl.1.2.1.1.1.2
  have D : ∀ d, d ≠ p → d ≠ q → LOCm d m m2 ∧ LOCw d w w2 := fun d hd h2 => ⟨f.1 d hd h2, g.1 d hd h2⟩
  have pg : PG0 m w m2 w2 := ⟨⟨f.2.2.1.1, f.2.2.1.2.1, ATc_eq f.2.2.1.2.2.1 f.2.2.1.2.2.2⟩, g.2.2.1.1, g.2.2.1.2.1, g.2.2.1.2.2.1, g.2.2.1.2.2.2.1, g.2.2.1.2.2.2.2⟩
  have dq : ∀ d, F m (pq d 9) = 3 → d ≠ p := fun d hd c => hal (by rw [← c]; exact hd)
  have dq2 : ∀ d, d = 24 ∨ A w 109 d = 3 → d ≠ p := fun d hd c => by
    rcases hd with hd | hd
    · omega
    · exact h9 (by rw [← c]; exact hd)
  have m1 : ∀ d k, d ≠ p → k < 100 → k ≠ 15 → m2.1 (pq d k) = m.1 (pq d k) := fun d k hd hk hk2 => by
    by_cases c : d = q
    · subst c; exact (f.2.1 hd k hk).1 hk2
    · exact (D d hd c).1 k hk |>.1
  have ml : ∀ d k, d ≠ p → k < 100 → m2.2.1 (pq d k) = m.2.1 (pq d k) := fun d k hd hk => by
    by_cases c : d = q
    · subst c; exact (f.2.1 hd k hk).2.1
    · exact (D d hd c).1 k hk |>.2.1
  have mj : ∀ d k, d ≠ p → k < 100 → m2.2.2.2 (pq d k) = m.2.2.2 (pq d k) := fun d k hd hk => by
    by_cases c : d = q
    · subst c; exact (f.2.1 hd k hk).2.2.2
    · exact (D d hd c).1 k hk |>.2.2.2
  have w1 : ∀ d K, d ≠ p → (K = 92 ∨ K = 94 ∨ K = 109 ∨ K = 112 ∨ K = 113 ∨ K = 114 ∨ K = 115) → w2.2.2.1 K d = w.2.2.1 K d := fun d K hd hK => by
    by_cases c : d = q
    · subst c; exact (g.2.1 hd).1 K d (Or.inl ⟨by omega, rfl⟩) (by omega) (by omega)
    · exact (D d hd c).2.1 K d (Or.inl ⟨by omega, rfl⟩)
  have wd : ∀ d K, d ≠ p → (K = 89 ∨ K = 90 ∨ K = 108 ∨ K = 132) → w2.2.2.1 K d = w.2.2.1 K d := fun d K hd hK => by
    by_cases c : d = q
    · subst c; exact (g.2.1 hd).2.1 K hK
    · exact (D d hd c).2.2.1 K hK
  have w88 : ∀ d k, d ≠ p → k < 500 → hp w2 d k = hp w d k := fun d k hd hk => by
    by_cases c : d = q
    · subst c; exact (g.2.1 hd).2.2.2.2.1 _ (by omega) (by omega)
    · exact (D d hd c).2.2.2.2.2.1 _ (by omega) (by omega)
  have f9 : ∀ d, d ≠ p → F m2 (pq d 9) = F m (pq d 9) := fun d hd => congrArg Int32.toInt (m1 d 9 hd (by omega) (by omega))
  have a9 : ∀ d, d ≠ p → A w2 109 d = A w 109 d := fun d hd => congrArg Int32.toInt (w1 d 109 hd (by omega))
  have dm : ∀ d, F m (pq d 9) = 3 → F m2 (pq d 9) = 3 ∧ m2.2.2.2 (pq d 2) = m.2.2.2 (pq d 2) ∧ m2.1 (pq d 17) = m.1 (pq d 17) ∧ m2.2.1 (pq d 16) = m.2.1 (pq d 16) := fun d hd => ⟨by rw [f9 d (dq d hd)]; exact hd, mj d 2 (dq d hd) (by omega), m1 d 17 (dq d hd) (by omega) (by omega), ml d 16 (dq d hd) (by omega)⟩
  have W3 : WLs (RRt p) PR Fv P Fv' P' none i j0 m2 w2 := by
    refine WL_gen wl s2 dm (fun d hd => ⟨fun k hk => w88 d k (dq2 d hd) hk, congrArg Int32.toInt (wd d 89 (dq2 d hd) (by omega))⟩) (fun d hd => by rw [a9 d (dq2 d (Or.inr hd))]; exact hd) (fun r _ hr _ h => ?_) (fun r _ _ h => ?_) (fun r hr x1 x2 x3 => ?_) ?_
    · have rp := dq r hr
      by_cases c : r = q
      · subst c
        obtain ⟨L, l1, l2, -⟩ := hL rp
        exact ⟨by rw [m1 r 12 rp (by omega) (by omega), w1 r 113 rp (by omega)]; exact h.1, by rw [m1 r 13 rp (by omega) (by omega), w1 r 114 rp (by omega)]; exact h.2.1, by rw [m1 r 5 rp (by omega) (by omega), wd r 90 rp (by omega)]; exact h.2.2.1, L, l1, l2⟩
      · exact QEs_st h (D r rp c).1 (D r rp c).2
    · have rp := dq r h.1
      by_cases c : r = q
      · subst c
        obtain ⟨L, l1, l2, l3⟩ := hL rp
        have eL := l3 h
        subst eL
        obtain ⟨a1, a2, a3, ⟨a4, a5⟩, a6, a7, a8, a10⟩ := h
        exact ⟨by rw [f9 r rp]; exact a1, by rw [a9 r rp]; exact a2, RZs_st a3 pg (m1 r 17 rp (by omega) (by omega)) (ml r 16 rp (by omega)) (fun d hd => ⟨(dm d hd).1, (dm d hd).2.1⟩) (wd r 132 rp (by omega)) (g.2.1 rp).2.2.1, ⟨by rw [m1 r 12 rp (by omega) (by omega)]; exact a4, by rw [w1 r 113 rp (by omega)]; exact a5⟩, by rw [m1 r 13 rp (by omega) (by omega), w1 r 114 rp (by omega)]; exact a6, by rw [m1 r 5 rp (by omega) (by omega), wd r 90 rp (by omega)]; exact a7, l1.1, l2.1⟩
      · exact DEs_st h pg (D r rp c).1 (D r rp c).2 (fun d hd => ⟨(dm d hd).1, (dm d hd).2.1⟩)
    · by_cases rp : r = p
      · subst rp
        exact Or.inl ⟨by rw [ru.2.2.2.1.1]; omega, by rw [ru.2.2.2.1.2]; omega, b, U, B, W, Y, pl, sc2, Or.inl rfl⟩
      · obtain ⟨b, U, B, W, Y, pl, sc, rr⟩ := x3
        obtain ⟨-, -, ⟨b1, b2, b3⟩, b4⟩ := SF_al wl.1 hr x1 pl
        have hU := pl.1.1.2.2
        refine Or.inl ⟨by rw [f9 r rp]; exact x1, by rw [a9 r rp]; exact x2, b, U, B, W, Y, PLs_cg pl (fun k hk => m1 r k rp (by simp at hk; omega) (by simp at hk; omega)) (fun i _ => by rw [mj r 2 rp (by omega)]) (fun i _ => by rw [mj r 33 rp (by omega)]) (fun i _ => by rw [mj r 35 rp (by omega)]) (fun i _ => by rw [mj r 6 rp (by omega)]) (fun k hk => ?_) (fun i hi => w88 r i rp (by omega)) (fun i hi => ?_) (fun i hi => ?_) (fun i hi => ?_), ?_, ?_⟩
        · simp only [List.mem_cons, List.not_mem_nil, or_false] at hk
          rcases hk with rfl | rfl | rfl | rfl | rfl
          · exact wd r 89 rp (by omega)
          · exact wd r 90 rp (by omega)
          · exact w1 r 92 rp (by omega)
          · exact w1 r 94 rp (by omega)
          · exact wd r 108 rp (by omega)
        · by_cases c : r = q
          · subst c; exact (g.2.1 rp).2.2.2.2.2.2.1 _ (by omega) (by omega)
          · exact (D r rp c).2.2.2.2.2.2.2.1 _ (by omega) (by omega)
        · by_cases c : r = q
          · subst c; exact (g.2.1 rp).2.2.2.2.2.1 _ (by omega) (by omega)
          · exact (D r rp c).2.2.2.2.2.2.1 _ (by omega) (by omega)
        · by_cases c : r = q
          · subst c; exact (g.2.1 rp).2.2.2.2.2.2.2 _ (by omega) (by omega)
          · exact (D r rp c).2.2.2.2.2.2.2.2 _ (by omega) (by omega)
        · by_cases c : r = q
          · subst c
            obtain ⟨L, l1, l2, -⟩ := hL rp
            refine SC_of l1 l2 ?_ ?_ ?_ ?_
            · rw [m1 r 12 rp (by omega) (by omega), w1 r 113 rp (by omega)]; exact sc.1
            · rw [m1 r 13 rp (by omega) (by omega), w1 r 114 rp (by omega)]; exact sc.2.1
            · rw [m1 r 11 rp (by omega) (by omega), w1 r 112 rp (by omega)]; exact sc.2.2.1
            · rw [m1 r 29 rp (by omega) (by omega), w1 r 115 rp (by omega)]; exact sc.2.2.2.2.1
          · exact SC_eq sc b4.2 (EQm_loc pg (D r rp c).1) (EQw_loc pg (D r rp c).2)
        · by_cases c : r = q
          · subst c
            exact RRt_st rr ⟨fun k hk h => m1 r k rp hk (by simp at h; omega), fun k hk _ => ml r k rp hk, fun k hk h => (f.2.1 rp k hk).2.2.1 h, pg.1.1⟩ ⟨fun K k h h1 h2 => (g.2.1 rp).1 K k h h1 h2.1, (g.2.1 rp).2.2.2.1, pg.2.1, pg.2.2.1⟩
          · exact RRt_st rr (EQm_loc pg (D r rp c).1).n (EQw_loc pg (D r rp c).2).v
    · obtain ⟨n, q1, q2, -⟩ := wl.2.1
      refine ⟨i + n, j0 + n, q1, q2, fun k _ => ?_, fun k _ => ⟨fun K hK => ?_, by rw [g.2.2.2.2.2.1]⟩, Or.inl ⟨?_, ?_⟩⟩
      · show (m2.2.2.1 54 k).toInt = _
        rw [f.2.2.2.2.1]
        rfl
      · show (w2.2.2.1 K k).toInt = _
        rw [g.2.2.2.2.1 K hK]
        rfl
      · show (m2.1 955).toInt = _
        rw [f.2.2.2.1]
        exact q1
      · show (w2.1 150).toInt = _
        rw [g.2.2.2.1]
        exact q2
  obtain ⟨sf, qu, pr, -⟩ := W3
  refine ⟨sf, qu, fun r hr => ?_, RRp_stb⟩
  rcases pr r hr with ⟨x1, x2, b', U', B', W', Y', pl', sc', rr⟩ | x
  · by_cases rq : r = p
    · subst rq
      exact Or.inl ⟨x1, x2, b', U', B', W', Y', pl', sc', Or.inl ⟨rfl, jj, nb, Hs, Os, y, a, n, ru⟩⟩
    · rcases rr with rr | rr
      · exact absurd rr rq
      · exact Or.inl ⟨x1, x2, b', U', B', W', Y', pl', sc', Or.inr ⟨rq, rr⟩⟩
  · exact Or.inr x
end
section
variable {N p q : Nat} {u w : MS} {t : Int64} {Fv : Int64 → Int64 → Prop} {P : Int64 → Prop} {PR : Nat} {v2 : Int64} {v7 t1 t2 : Int32}
theorem tw2 : hm_Ma_toward N u p (I 2) = bnd (hm_Ma_processAt N u p 0) (fun u65 r65 => br (decide (r65 = none)) (bnd (hm_Ma_wrong N u65 p 11) (fun u61 _ => some (u61, ()))) (hb_Ma_toward_95 N () u65 p (I 2) 1 r65)) := rfl
theorem tw3 : hm_Ma_toward N u p (I 3) = bnd (hm_Ma_processAt N u p 0) (fun u65 r65 => br (decide (r65 = none)) (bnd (hm_Ma_wrong N u65 p 11) (fun u61 _ => some (u61, ()))) (hb_Ma_toward_95 N () u65 p (I 3) 1 r65)) := rfl
theorem tw15 : hm_Ma_toward N u p (I 15) = bnd (hm_Ma_processAt N u p 0) (fun u65 r65 => br (decide (r65 = none)) (bnd (hm_Ma_wrong N u65 p 11) (fun u61 _ => some (u61, ()))) (hb_Ma_toward_95 N () u65 p (I 15) 1 r65)) := rfl
def prcR (N : Nat) (w : MS) (k : Int32) : Option (MS × Unit) := bnd (bnd (fm_M_top N w 0) (fun u29 r29 => bnd (fm_M_sortOf N u29 r29) (fun u28 r28 => br (decide (r28 = 4)) (bnd (fm_M_valueOf N u28 r29) (fun u25 r25 => ck (inb (u25.1 133) (ln 92)) (fb_M_processRun_151 N () u25 k 0 r25 92 (u25.1 133) (u25.2.2.1 92 (u25.1 133).toNatClampNeg) 1))) (bnd (fr_M_error N u28 11) (fun u26 _ => some (u26, ())))))) (fun u6 _ => some (u6, ()))
theorem prc2 : fm_M_predefinedRun N w (I 2) = prcR N w (I 2) := rfl
theorem prc3 : fm_M_predefinedRun N w (I 3) = prcR N w (I 3) := rfl
theorem prd16 : fm_M_predefinedRun N w (I 16) = bnd (fm_M_processRun N w (I 16)) (fun u6 _ => some (u6, ())) := rfl
theorem prs16 : fm_M_processRun N w (I 16) = bnd (fm_M_top N w 0) (fun u29 r29 => fb_M_processRun_45 N () u29 (I 16) 0 r29) := rfl
theorem prt16 : fb_M_processRun_45 N () w (I 16) 0 t = bnd (fm_M_sortOf N w t) (fun u28 r28 => br (decide (r28 = 4)) (bnd (fm_M_valueOf N u28 t) (fun u25 r25 => ck (inb (u25.1 133) (ln 92)) (fb_M_processRun_151 N () u25 (I 16) 0 r25 92 (u25.1 133) (u25.2.2.1 92 (u25.1 133).toNatClampNeg) 1))) (bnd (fr_M_error N u28 11) (fun u26 _ => some (u26, ())))) := by
  have d1 : decide ((1 : Int32) = 0) = false := by decide
  have d3 : decide (I 16 = 4) = false := by decide
  have d4 : decide (I 16 = 8) = false := by decide
  have bt : ∀ (p q : Option (MS × Unit)), br true p q = p := fun p q => by rw [br_t]
  have bf : ∀ (p q : Option (MS × Unit)), br false p q = q := fun p q => by rw [br_f]
  unfold fb_M_processRun_45 fb_M_processRun_61 fb_M_processRun_83 fb_M_processRun_104 fb_M_processRun_108 fb_M_processRun_109
  have d5 : decide True = true := rfl
  simp only [d1, d3, d4, d5, bt, bf]
theorem prc16 : fm_M_predefinedRun N w (I 16) = prcR N w (I 16) := by
  rw [prd16, prs16]
  unfold prcR
  simp only [prt16]
theorem pat_4 (be : hm_Fr_below N u p 0 = some (u, t)) (e4 : so t = 4) (hq : va t = ((q : Nat) : Int)) (dwc : DWc Fv P PR u) (hq2 : q < PR) : hm_Ma_processAt N u p 0 = some (u, some q) := by
  have pa : hm_Ma_processAt N u p 0 = bnd (hm_Fr_below N u p 0) (fun u2 r2 => bnd (hm_Te_tag N u2 r2) (fun u4 r4 => br (decide (r4 = 4)) (bnd (hm_Wl_find N u4 (r2.toInt32)) (fun u6 r6 => some (u6, r6))) (some (u4, none)))) := rfl
  rw [pa, be, bnd_so, e_tag, bnd_so, show (4 : Int32) = I 4 from rfl, decE (so_r _).1 (so_r _).2 (by omega) (by omega), decide_eq_true e4, br_t, valI, hq, find_e (q := q) dwc hq2, bnd_so]
theorem pat_0 (be : hm_Fr_below N u p 0 = some (u, t)) (e4 : so t ≠ 4) : hm_Ma_processAt N u p 0 = some (u, none) := by
  have pa : hm_Ma_processAt N u p 0 = bnd (hm_Fr_below N u p 0) (fun u2 r2 => bnd (hm_Te_tag N u2 r2) (fun u4 r4 => br (decide (r4 = 4)) (bnd (hm_Wl_find N u4 (r2.toInt32)) (fun u6 r6 => some (u6, r6))) (some (u4, none)))) := rfl
  rw [pa, be, bnd_so, e_tag, bnd_so, show (4 : Int32) = I 4 from rfl, decE (so_r _).1 (so_r _).2 (by omega) (by omega), decide_eq_false e4, br_f]
theorem tw95_15 : hb_Ma_toward_95 N () u p (I 15) 1 (some q) = br (decide ((u.1 (pq q 9)) = 3)) (hb_Ma_toward_330 N () u p 1 0) (hb_Ma_toward_330 N () u p 1 1) := rfl
theorem tw95_3 : hb_Ma_toward_95 N () u p (I 3) 1 (some q) = bnd (hm_Pr_removeLink N u p (Int32.ofNat q)) (fun u34 _ => bnd (hm_Pr_removeLink N u34 q (Int32.ofNat p)) (fun u39 _ => hb_Ma_toward_335 N () u39 p 1 (mk 1 0))) := rfl
theorem prr_16 : fb_M_processRun_151 N () w (I 16) v2 v7 92 t1 t2 1 = ck (isK 92 4) (ck (inb t1 (ln 92)) (lt (upA w 92 (upd (w.2.2.1 92) t1.toNatClampNeg (t2 - 1))) (fun w3 => ck (inb v7 (ln 109)) (br (decide ((w3.2.2.1 109 v7.toNatClampNeg) = 3)) (fb_M_processRun_176 N () w3 0) (fb_M_processRun_176 N () w3 1))))) := rfl
theorem prr_3 : fb_M_processRun_151 N () w (I 3) v2 v7 92 t1 t2 1 = ck (isK 92 4) (ck (inb t1 (ln 92)) (lt (upA w 92 (upd (w.2.2.1 92) t1.toNatClampNeg (t2 - 1))) (fun w3 => bnd (fm_M_truth N w3 1) (fun u4 r4 => bnd (fm_M_put N u4 r4) (fun u5 _ => bnd (fm_M_removeLink N u5 (u5.1 133) v7) (fun u13 _ => bnd (fm_M_removeLink N u13 v7 (u13.1 133)) (fun u14 _ => some (u14, ())))))))) := rfl
end
section
variable {α β : Type} {b : Int → Nat → Nat → Prop} {Fv Fv' : Int64 → Int64 → Prop} {P P' : Int64 → Prop} {N PR p i j0 U B W Y l j a n : Nat} {m w w1 m2 w2 : MS} {t x : Int64} {nb : Nat → Nat} {Hs Os : Nat → List Nat} {y : Option (Nat × Nat × Nat)} {Q : MS → α → MS → β → Prop} {K1 : MS → Option (MS × α)} {K2 : MS → Option (MS × β)} {RR : Nat → MS → MS → Prop}
/-- it answers, and on -/
theorem pre_pt (hp : p < 24) (ru : RUs m w p j nb Hs Os y a n) (hW : W < 46000) (hl : W ≤ l ∧ l ≤ 1000000) (rt : RTb b t x) (f0 : FGm p m m2) (g0 : FGw p j w w2) (pl2 : PLs b p m2 w2 U B W Y) (h45 : F m2 (pq p 45) = ((l : Nat) : Int)) (h98 : A w2 98 (60 * p + j) = ((n + 1 : Nat) : Int)) (ha : F m2 1105 = ((a : Nat) : Int)) (ha2 : a + 2 < 24000) (cr : ∃ f, CRs (A m 23) (ROs w) (w.2.2.2 34) f y (a + 2) (n + 1) (Hs j) (Os j))
    (c : ∀ m3 w3, PLs b p m3 w3 U B (W + 1) Y → RUs m3 w3 p j nb Hs Os y (a + 2) (n + 1) → FGm p m m3 → FGw p j w w3 → F w3 133 = ((p : Nat) : Int) → PP Q (K1 m3) (K2 w3)) : PP Q (bnd (hm_Fr_push N m2 p t) (fun u _ => bnd (lt (upI u 1105 ((u.1 1105) + 2)) (fun w3 => some (w3, ()))) (fun u _ => K1 u))) (bnd (fm_M_put N w2 x) (fun u _ => K2 u)) := by
  obtain ⟨-, -, -, -, -, -, r11, -, -⟩ := id ru
  have h133 : F w2 133 = ((p : Nat) : Int) := by rw [FR.F g0.1 (by simp)]; exact r11
  refine l_bnd (pk_mo (push_m (N := N) (t := t) pl2.2.2.1.1 h45 hl.1 hl.2) (fun m3 _ h => ?_))
  obtain ⟨h1, h2, h3⟩ := h
  refine r_bnd (pk_mo (put_r (N := N) (x := x) hp h133 pl2.2.2.1.2.1 (by omega)) (fun w3 _ h => ?_))
  subst h
  have e5 : F m3 1105 = ((a : Nat) : Int) := by rw [FR.F h1 (by simp [pq_n])]; exact ha
  rw [I_F' e5, show I ((a : Nat) : Int) + 2 = I ((a + 2 : Nat) : Int) from addN, wi_e, lt_e]
  show PP Q (K1 (wi m3 1105 ((a + 2 : Nat) : Int))) (K2 _)
  have pl3 := PLs_pc (z := ((a + 2 : Nat) : Int)) (PLs_push pl2 rt h1 h2 h3)
  have f3 : FGm p m (wi m3 1105 ((a + 2 : Nat) : Int)) := FGm.tr (FGm.tr f0 (FGm.push h1)) FGm.pc
  have g3 : FGw p j w (wa (wj w2 91 (46000 * p + W) x) 92 p ((W + 1 : Nat) : Int)) := FGw.tr g0 (FGw.put hW)
  exact c _ _ pl3 (RUs_mv ru f3 g3 (wi_sm (by omega) (by omega)) (by rw [wa_rne (by omega), A_wj]; exact h98) cr) f3 g3 h133
/-- toward a process: who it is -/
theorem tow_hd {d k : Int} (hd : (d = 2 ∧ k = 2) ∨ (d = 3 ∧ k = 3) ∨ (d = 15 ∧ k = 16)) (hp1 : p < 24) (dwc : DWc Fv P PR m) (hP4 : so (m.2.2.2 (pq p 35) W) = 4 → 0 ≤ va (m.2.2.2 (pq p 35) W) ∧ va (m.2.2.2 (pq p 35) W) < ((PR : Nat) : Int)) (h133 : F w1 133 = ((p : Nat) : Int)) (hW : W + 1 ≤ 46000) (hl : F m (pq p 45) = ((l : Nat) : Int)) (hl2 : W + 1 ≤ l ∧ l ≤ 1000000) (pl : PLs b p m w1 U B (W + 1) Y)
    (kT : ∀ q : Nat, q < PR → PP Q (bnd (hb_Ma_toward_95 N () m p (I d) 1 (some q)) (fun u _ => K1 u)) (bnd (fb_M_processRun_151 N () w1 (I k) 0 (I ((q : Nat) : Int)) 92 (I ((p : Nat) : Int)) (I ((W + 1 : Nat) : Int)) 1) (fun u _ => K2 u)))
    (kX : PP Q (K1 (tld m 1 (-1) (mk 1 11))) (bnd (fr_M_error N w1 11) (fun u _ => K2 u))) : PP Q (bnd (hm_Ma_toward N m p (I d)) (fun u _ => K1 u)) (bnd (fm_M_predefinedRun N w1 (I k)) (fun u _ => K2 u)) := by
  have rt := pl.2.2.1.2.2 W (by omega)
  have be : hm_Fr_below N m p 0 = some (m, m.2.2.2 (pq p 35) W) := by
    have := below_e (N := N) (x := 0) (k := 0) (W := W + 1) (l := l) pl.2.2.1.1 hl hl2.1 hl2.2 rfl (by omega)
    rw [show W + 1 - 1 - 0 = W by omega] at this
    exact this
  have all : PP Q (bnd (bnd (hm_Ma_processAt N m p 0) (fun u65 r65 => br (decide (r65 = none)) (bnd (hm_Ma_wrong N u65 p 11) (fun u61 _ => some (u61, ()))) (hb_Ma_toward_95 N () u65 p (I d) 1 r65))) (fun u _ => K1 u)) (bnd (prcR N w1 (I k)) (fun u _ => K2 u)) := by
    unfold prcR
    refine r_bb (r_bb ?_)
    refine r_bnd (pk_mo (top_r (N := N) (k := 0) hp1 h133 pl.2.2.1.2.1 (by omega) (by omega)) (fun w4 r e => ?_))
    obtain ⟨rfl, rfl⟩ := e
    rw [show 46000 * p + (W + 1 - 1 - 0) = 46000 * p + W by omega]
    generalize hx : w4.2.2.2 91 (46000 * p + W) = x at rt
    generalize ht : m.2.2.2 (pq p 35) W = t at rt be hP4
    rw [sortOf_e, bnd_so, RTb_so rt, show decide (I (so t) = 4) = decide (so t = 4) from by rw [show (4 : Int32) = I 4 from rfl, decE (so_r _).1 (so_r _).2 (by omega) (by omega)]]
    by_cases e4 : so t = 4
    · have xt := RTb_n rt (by unfold isH; omega)
      obtain ⟨v0, v1⟩ := hP4 e4
      obtain ⟨q, hq⟩ : ∃ q : Nat, va t = ((q : Nat) : Int) := ⟨(va t).toNat, by omega⟩
      rw [pat_4 be e4 hq dwc (by omega), bnd_so, decide_eq_true e4, br_t, show decide ((some q : Option Nat) = none) = false from rfl, br_f, valueOf_e, bnd_so, xt, hq, I_F' h133, tnI (n := p) rfl (by omega), I_A' pl.2.2.1.2.1]
      refine rb_ck (fun _ => ?_)
      exact kT q (by omega)
    · rw [pat_0 be e4, bnd_so, decide_eq_false e4, br_f, show decide ((none : Option Nat) = none) = true from rfl, br_t, wrong_e9, bnd_so, bnd_so]
      refine r_bb ?_
      exact kX
  rcases hd with ⟨rfl, rfl⟩ | ⟨rfl, rfl⟩ | ⟨rfl, rfl⟩
  · rw [tw2, prc2]; exact all
  · rw [tw3, prc3]; exact all
  · rw [tw15, prc16]; exact all
theorem sub1 : I ((W + 1 : Nat) : Int) - 1 = I ((W : Nat) : Int) := by
  rw [lit1, I_sub]
  congr 1
  omega
/-- whether it has ENDED -/
theorem op_alive {q : Nat} (hp1 : p < 24) (hq : q < PR) (nd : NDs PR m w) (ru : RUs m w p j nb Hs Os y a n) (hW : W + 1 ≤ 46000) (hl : F m (pq p 45) = ((l : Nat) : Int)) (hl2 : W + 1 ≤ l ∧ l ≤ 1000000) (pl : PLs b p m w1 U B (W + 1) Y) (g1 : FGw p j w w1) (h98 : A w1 98 (60 * p + j) = ((n + 1 : Nat) : Int)) (cr : ∃ f, CRs (A m 23) (ROs w) (w.2.2.2 34) f y (a + 2) (n + 1) (Hs j) (Os j))
    (c : ∀ m3 w3, PLs b p m3 w3 U B (W + 1) Y → RUs m3 w3 p j nb Hs Os y (a + 2) (n + 1) → FGm p m m3 → FGw p j w w3 → PP Q (K1 m3) (K2 w3)) : PP Q (bnd (hb_Ma_toward_95 N () m p (I 15) 1 (some q)) (fun u _ => K1 u)) (bnd (fb_M_processRun_151 N () w1 (I 16) 0 (I ((q : Nat) : Int)) 92 (I ((p : Nat) : Int)) (I ((W + 1 : Nat) : Int)) 1) (fun u _ => K2 u)) := by
  obtain ⟨-, ⟨r2, -⟩, -⟩ := id ru
  have p24 := nd.1.2.2
  have cb2 : a + 2 + 1 < 24000 := by
    obtain ⟨f9, cr9⟩ := cr
    exact (CR_b cr9).1
  have pd := PLs_drop (k := 1) (W := W) pl (by omega)
  have g3 : FGw p j w (wa w1 92 p ((W : Nat) : Int)) := FGw.tr g1 FGw.w92
  have h983 : A (wa w1 92 p ((W : Nat) : Int)) 98 (60 * p + j) = ((n + 1 : Nat) : Int) := by rw [wa_rne (by omega)]; exact h98
  have nd3 : NDs PR m (wa w1 92 p ((W : Nat) : Int)) := NDs_w nd (g3.1.1 118 (by simp)) (g3.1.2.2.1 109 (by simp)) (g3.1.2.2.1 113 (by simp))
  rw [tw95_15, prr_16, sub1, tnI (n := p) rfl (by omega), wa_e]
  refine rb_ck (fun _ => rb_ck (fun _ => ?_))
  rw [lt_e]
  refine rb_ck (fun _ => ?_)
  generalize hw3 : wa w1 92 p ((W : Nat) : Int) = w3 at pd g3 h983 nd3
  have core : ∀ z : Int32, PP Q (bnd (hb_Ma_toward_330 N () m p 1 z) (fun u _ => K1 u)) (bnd (fb_M_processRun_176 N () w3 z) (fun u _ => K2 u)) := fun z => by
    obtain ⟨v, hv, ev⟩ := truth_z (N := N) (z := z)
    unfold hb_Ma_toward_330 fb_M_processRun_176 hb_Ma_toward_335 fb_M_processRun_480 hm_Ma_answer hb_Ma_answer_0
    rw [(ev m w3).1, bnd_so, (ev m w3).2, bnd_so, show (1 : Int32) = I 1 from rfl, drop_e (W := W + 1) (k := 1) (x := 1) pl.2.2.1.1 rfl (by omega), bnd_so, Nat.add_sub_cancel]
    simp only [bb_e, bnd_so]
    exact pre_pt (l := l) hp1 ru (by omega) ⟨by omega, hl2.2⟩ (lit_b (b := b) (v := 1) (Or.inr (Or.inl rfl)) (z := v) (fun h => by omega) ⟨by omega, by omega⟩) FGm.drop g3 pd (by rw [wi_ne (pq_inj (by omega))]; exact hl) h983 (by rw [wi_ne (pq_n (by omega))]; exact r2) (by omega) cr (fun m3 w3 a1 a2 a3 a4 _ => c m3 w3 a1 a2 a3 a4)
  have rr9 := F_r m (pq q 9)
  have rw9 := A_r w3 109 q
  rw [tnI (n := q) rfl (by omega), I_F (w := m) (k := pq q 9), I_A (w := w3) (k := 109) (i := q), show (3 : Int32) = I 3 from rfl, decE rr9.1 rr9.2 (by omega) (by omega), decE rw9.1 rw9.2 (by omega) (by omega)]
  rcases nd3.2.2 q hq with ⟨x1, x2, -⟩ | ⟨x1, x2⟩
  · rw [decide_eq_false x1, decide_eq_false x2, br_f, br_f]
    exact core 1
  · rw [decide_eq_true x1, decide_eq_true x2, br_t, br_t]
    exact core 0
theorem WL_ls0 {r : Nat} (W0 : WLs RR PR Fv P Fv' P' none i j0 m w) (hy : r < PR) : ∃ L, LSm m r L ∧ LSw w r L ∧ L.Nodup ∧ (DEs m w r → L = []) := by
  have lk := W0.1.2.1.2.1.1 r hy
  obtain ⟨sf, ⟨n, q1, q2, q3, q4⟩, pr, hR⟩ := W0
  rcases pr r hy with ⟨x1, x2, b, U, B, Wt, Y, pl, rs⟩ | ⟨x1, x2, x3⟩
  · obtain ⟨-, -, -, b4⟩ := SF_al sf hy x1 pl
    obtain ⟨L, l1, l2⟩ := LS_of rs.1 b4
    exact ⟨L, l1, l2, (LS_nd l2 lk).1, fun h => absurd h.1 x1⟩
  · have em : DEs m w r → ∀ L, LSm m r L → L = [] := fun h L l => by
      have := l.1
      rw [h.2.2.2.2.2.2.1] at this
      exact List.length_eq_zero_iff.mp (by omega)
    rcases x3 with x3 | ⟨k, k1, k2, k3⟩ | x3
    · cases x3
    · obtain ⟨r9, wr, o, -, x4, -, -, -, -, x9⟩ := q3 (k - i) (by omega)
      rw [show i + (k - i) = k by omega, k3] at x4
      have : r9 = r := by omega
      subst this
      obtain ⟨L, l1, l2⟩ := x9.2.2.2
      exact ⟨L, l1, l2, (LS_nd l2 lk).1, fun h => em h L l1⟩
    · obtain ⟨-, -, -, -, -, -, h1, h2⟩ := x3
      exact ⟨[], ⟨h1, by simp, fun i x hx => by simp at hx⟩, ⟨h2, by simp, fun i x hx => by simp at hx⟩, List.nodup_nil, fun _ => rfl⟩
end
