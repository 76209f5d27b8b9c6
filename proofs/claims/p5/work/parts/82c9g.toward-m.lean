section
set_option maxRecDepth 100000
def GLm (p q : Nat) (m m2 : MS) : Prop := (∀ d, d ≠ p → d ≠ q → LOCm d m m2) ∧ (q ≠ p → ∀ k, k < 100 → (k ≠ 15 → m2.1 (pq q k) = m.1 (pq q k)) ∧ m2.2.1 (pq q k) = m.2.1 (pq q k) ∧ (k ≠ 14 → m2.2.2.1 (pq q k) = m.2.2.1 (pq q k)) ∧ m2.2.2.2 (pq q k) = m.2.2.2 (pq q k)) ∧ (m2.2.2.1 23 = m.2.2.1 23 ∧ m2.1 22 = m.1 22 ∧ m2.2.2.1 2 = m.2.2.1 2 ∧ m2.2.2.1 3 = m.2.2.1 3) ∧ m2.1 955 = m.1 955 ∧ m2.2.2.1 54 = m.2.2.1 54 ∧ m2.1 956 = m.1 956 ∧ (∀ K, K < 100 → m2.2.2.1 K = m.2.2.1 K) ∧ ∀ k, k < 1100 ∨ k = 1106 ∨ k = 1107 → m2.1 k = m.1 k
def GLw (p q : Nat) (w w2 : MS) : Prop := (∀ d, d ≠ p → d ≠ q → LOCw d w w2) ∧ (q ≠ p → (∀ K i, OWi q K i → K ≠ 116 → K ≠ 117 → w2.2.2.1 K i = w.2.2.1 K i) ∧ (∀ K, K = 89 ∨ K = 90 ∨ K = 108 ∨ K = 132 → w2.2.2.1 K q = w.2.2.1 K q) ∧ (∀ i, 100 * q ≤ i → i < 100 * q + 100 → w2.2.2.1 131 i = w.2.2.1 131 i) ∧ w2.2.2.2 111 q = w.2.2.2 111 q ∧ (∀ i, 500 * q ≤ i → i < 500 * q + 500 → w2.2.2.2 88 i = w.2.2.2 88 i) ∧ (∀ i, 46000 * q ≤ i → i < 46000 * q + 46000 → w2.2.2.2 91 i = w.2.2.2 91 i) ∧ (∀ i, 2500 * q ≤ i → i < 2500 * q + 2500 → w2.2.2.2 93 i = w.2.2.2 93 i) ∧ ∀ i, 30 * q ≤ i → i < 30 * q + 30 → w2.2.2.2 107 i = w.2.2.2 107 i) ∧ ((∀ K, PRr K → w2.2.2.1 K = w.2.2.1 K) ∧ w2.2.2.2 34 = w.2.2.2 34 ∧ w2.2.2.1 12 = w.2.2.1 12 ∧ w2.2.2.1 13 = w.2.2.1 13 ∧ w2.1 14 = w.1 14) ∧ w2.1 150 = w.1 150 ∧ (∀ K, K = 145 ∨ K = 146 ∨ K = 147 → w2.2.2.1 K = w.2.2.1 K) ∧ w2.2.2.2 148 = w.2.2.2 148 ∧ (∀ K, K < 88 ∨ (118 ≤ K ∧ K ≤ 130) → w2.2.2.1 K = w.2.2.1 K) ∧ ∀ k, k ≤ 132 ∨ k = 164 ∨ k = 165 → w2.1 k = w.1 k
section
variable {b : Int → Nat → Nat → Prop} {Fv Fv' : Int64 → Int64 → Prop} {P P' : Int64 → Prop} {N PR q r p i j0 j jj U B W Y a n : Nat} {m w m2 w2 m3 w3 : MS} {cur : Option Nat} {nb : Nat → Nat} {Hs Os : Nat → List Nat} {y : Option (Nat × Nat × Nat)} {z x1 x2 : Int} {L : List Int}
theorem GLm.tr (h : GLm p q m m2) (g : GLm p q m2 m3) : GLm p q m m3 := by
  obtain ⟨a1, a2, ⟨a3, a4, a5, a6⟩, a7, a8, a9, a10, a11⟩ := h
  obtain ⟨c1, c2, ⟨c3, c4, c5, c6⟩, c7, c8, c9, c10, c11⟩ := g
  exact ⟨fun d h1 h2 k hk => ⟨((c1 d h1 h2 k hk).1).trans (a1 d h1 h2 k hk).1, ((c1 d h1 h2 k hk).2.1).trans (a1 d h1 h2 k hk).2.1, ((c1 d h1 h2 k hk).2.2.1).trans (a1 d h1 h2 k hk).2.2.1, ((c1 d h1 h2 k hk).2.2.2).trans (a1 d h1 h2 k hk).2.2.2⟩, fun h k hk => ⟨fun e => ((c2 h k hk).1 e).trans ((a2 h k hk).1 e), ((c2 h k hk).2.1).trans (a2 h k hk).2.1, fun e => ((c2 h k hk).2.2.1 e).trans ((a2 h k hk).2.2.1 e), ((c2 h k hk).2.2.2).trans (a2 h k hk).2.2.2⟩, ⟨c3.trans a3, c4.trans a4, c5.trans a5, c6.trans a6⟩, c7.trans a7, c8.trans a8, c9.trans a9, fun K h => (c10 K h).trans (a10 K h), fun k h => (c11 k h).trans (a11 k h)⟩
theorem LOCw.tr2 {d : Nat} (a : LOCw d w w2) (c : LOCw d w2 w3) : LOCw d w w3 := ⟨fun K i h => (c.1 K i h).trans (a.1 K i h), fun K h => (c.2.1 K h).trans (a.2.1 K h), fun i h1 h2 => (c.2.2.1 i h1 h2).trans (a.2.2.1 i h1 h2), c.2.2.2.1.trans a.2.2.2.1, fun i h1 h2 => (c.2.2.2.2.1 i h1 h2).trans (a.2.2.2.2.1 i h1 h2), fun i h1 h2 => (c.2.2.2.2.2.1 i h1 h2).trans (a.2.2.2.2.2.1 i h1 h2), fun i h1 h2 => (c.2.2.2.2.2.2.1 i h1 h2).trans (a.2.2.2.2.2.2.1 i h1 h2), fun i h1 h2 => (c.2.2.2.2.2.2.2 i h1 h2).trans (a.2.2.2.2.2.2.2 i h1 h2)⟩
theorem GLw.tr (h : GLw p q w w2) (g : GLw p q w2 w3) : GLw p q w w3 := by
  obtain ⟨a1, a2, ⟨a3, a4, a5, a6, a7⟩, a8, a9, a10, a11, a12⟩ := h
  obtain ⟨c1, c2, ⟨c3, c4, c5, c6, c7⟩, c8, c9, c10, c11, c12⟩ := g
  refine ⟨fun d h1 h2 => (a1 d h1 h2).tr2 (c1 d h1 h2), fun e => ?_, ⟨fun K h => (c3 K h).trans (a3 K h), c4.trans a4, c5.trans a5, c6.trans a6, c7.trans a7⟩, c8.trans a8, fun K h => (c9 K h).trans (a9 K h), c10.trans a10, fun K h => (c11 K h).trans (a11 K h), fun k h => (c12 k h).trans (a12 k h)⟩
  obtain ⟨b1, b2, b3, b4, b5, b6, b7, b8⟩ := a2 e
  obtain ⟨d1, d2, d3, d4, d5, d6, d7, d8⟩ := c2 e
  exact ⟨fun K i h h1 h2 => (d1 K i h h1 h2).trans (b1 K i h h1 h2), fun K h => (d2 K h).trans (b2 K h), fun i h1 h2 => (d3 i h1 h2).trans (b3 i h1 h2), d4.trans b4, fun i h1 h2 => (d5 i h1 h2).trans (b5 i h1 h2), fun i h1 h2 => (d6 i h1 h2).trans (b6 i h1 h2), fun i h1 h2 => (d7 i h1 h2).trans (b7 i h1 h2), fun i h1 h2 => (d8 i h1 h2).trans (b8 i h1 h2)⟩
theorem GLm_gg (f : GGm p m m2) : GLm p q m m2 := ⟨fun d h _ => f.1 d h, fun e k hk => ⟨fun _ => (f.1 q e k hk).1, (f.1 q e k hk).2.1, fun _ => (f.1 q e k hk).2.2.1, (f.1 q e k hk).2.2.2⟩, f.2⟩
theorem GLw_gg (g : GGw p w w2) : GLw p q w w2 := ⟨fun d h _ => g.1 d h, fun e => ⟨fun K i h _ _ => (g.1 q e).1 K i h, (g.1 q e).2⟩, g.2⟩
theorem GLm_lk (hr : r = p ∨ r = q) (f : FR [pq r 15] [] [pq r 14] [] m m2) : GLm p q m m2 := by
  refine ⟨fun d h1 h2 k hk => ⟨f.1 _ (by simp; exact fun c => by have := (pq_e hk (by omega) c).1; omega), f.2.1 _ (by simp), f.2.2.1 _ (by simp; exact fun c => by have := (pq_e hk (by omega) c).1; omega), f.2.2.2 _ (by simp)⟩, fun e k hk => ⟨fun h => f.1 _ (by simp; exact fun c => h (pq_e hk (by omega) c).2), f.2.1 _ (by simp), fun h => f.2.2.1 _ (by simp; exact fun c => h (pq_e hk (by omega) c).2), f.2.2.2 _ (by simp)⟩, ⟨f.2.2.1 23 (by simp [pq_n]), f.1 22 (by simp [pq_n]), f.2.2.1 2 (by simp [pq_n]), f.2.2.1 3 (by simp [pq_n])⟩, f.1 955 (by simp [pq_n]), f.2.2.1 54 (by simp [pq_n]), f.1 956 (by simp [pq_n]), fun K h => f.2.2.1 K (by simp; exact pq_n (by omega)), fun k h => f.1 k (by simp; exact pq_n (by omega))⟩
theorem GLw_lk (hr : r = p ∨ r = q) (f : LFw r w w2) : GLw p q w w2 := by
  obtain ⟨f, g1, g2⟩ := f
  have ai : ∀ {x y : Int32}, x.toInt = y.toInt → x = y := fun h => Int32.toInt_inj.mp h
  have wy : ∀ K, K ≠ 116 → K ≠ 117 → w2.2.2.1 K = w.2.2.1 K := fun K h1 h2 => f.2.2.1 K (by simp; omega)
  refine ⟨fun d h1 h2 => ⟨fun K k h => ?_, fun K h => by rw [wy K (by omega) (by omega)], fun k _ _ => by rw [wy 131 (by omega) (by omega)], by rw [f.2.2.2 111 (by simp)], fun k _ _ => by rw [f.2.2.2 88 (by simp)], fun k _ _ => by rw [f.2.2.2 91 (by simp)], fun k _ _ => by rw [f.2.2.2 93 (by simp)], fun k _ _ => by rw [f.2.2.2 107 (by simp)]⟩, fun e => ⟨fun K k h h1 h2 => by rw [wy K h1 h2], fun K h => by rw [wy K (by omega) (by omega)], fun k _ _ => by rw [wy 131 (by omega) (by omega)], by rw [f.2.2.2 111 (by simp)], fun k _ _ => by rw [f.2.2.2 88 (by simp)], fun k _ _ => by rw [f.2.2.2 91 (by simp)], fun k _ _ => by rw [f.2.2.2 93 (by simp)], fun k _ _ => by rw [f.2.2.2 107 (by simp)]⟩, ⟨fun K h => wy K (by unfold PRr at h; omega) (by unfold PRr at h; omega), f.2.2.2 34 (by simp), wy 12 (by omega) (by omega), wy 13 (by omega) (by omega), f.1 14 (by simp)⟩, f.1 150 (by simp), fun K h => wy K (by omega) (by omega), f.2.2.2 148 (by simp), fun K h => wy K (by omega) (by omega), fun k h => f.1 k (by simp)⟩
  by_cases c : K = 117
  · subst c
    have kd : k = d := by
      rcases h with h | h | h | h
      · exact h.2
      · omega
      · omega
      · omega
    subst kd
    exact ai (g1 k (by omega))
  · by_cases c2 : K = 116
    · subst c2
      have kd : 24 * d ≤ k ∧ k < 24 * d + 24 := by
        rcases h with h | h | h | h
        · omega
        · omega
        · omega
        · exact h.2
      exact ai (g2 k (by omega))
    · rw [wy K c2 c]
theorem WL_ownL (wl : WLs (RRt p) PR Fv P Fv' P' none i j0 m w) (hpp : p < PR) (hal : F m (pq p 9) ≠ 3) (h9 : A w 109 p ≠ 3) (s2 : SFs Fv P Fv' P' PR m2 w2) (f : GLm p q m m2) (g : GLw p q w w2) (hL : q ≠ p → ∃ L, LSm m2 q L ∧ LSw w2 q L ∧ (DEs m w q → L = [])) (pl : PLs b p m2 w2 U B W Y) (sc2 : SCs p m2 w2) (ru : RUs m2 w2 p jj nb Hs Os y a n) : WLs (RRp p) PR Fv P Fv' P' none i j0 m2 w2 := by
  have p24 := wl.1.2.1.1.1.2
  have D : ∀ d, d ≠ p → d ≠ q → LOCm d m m2 ∧ LOCw d w w2 := fun d hd h2 => ⟨f.1 d hd h2, g.1 d hd h2⟩
  have pg : PG0 m w m2 w2 := ⟨⟨f.2.2.1.1, f.2.2.1.2.1, ATc_eq f.2.2.1.2.2.1 f.2.2.1.2.2.2⟩, g.2.2.1.1, g.2.2.1.2.1, g.2.2.1.2.2.1, g.2.2.1.2.2.2.1, g.2.2.1.2.2.2.2⟩
  have dq : ∀ d, F m (pq d 9) = 3 → d ≠ p := fun d hd c => hal (by rw [← c]; exact hd)
  have dq2 : ∀ d, d = 24 ∨ A w 109 d = 3 → d ≠ p := fun d hd c => by
    rcases hd with hd | hd
    · omega
    · exact h9 (by rw [← c]; exact hd)
  have m1 : ∀ d k, d ≠ p → k < 100 → k ≠ 15 → m2.1 (pq d k) = m.1 (pq d k) := fun d k hd hk hk2 => by
    by_cases c : d = q
    · subst c; exact (f.2.1 hd k hk).1 hk2
    · exact (D d hd c).1 k hk |>.1
  have ml : ∀ d k, d ≠ p → k < 100 → m2.2.1 (pq d k) = m.2.1 (pq d k) := fun d k hd hk => by
    by_cases c : d = q
    · subst c; exact (f.2.1 hd k hk).2.1
    · exact (D d hd c).1 k hk |>.2.1
  have mj : ∀ d k, d ≠ p → k < 100 → m2.2.2.2 (pq d k) = m.2.2.2 (pq d k) := fun d k hd hk => by
    by_cases c : d = q
    · subst c; exact (f.2.1 hd k hk).2.2.2
    · exact (D d hd c).1 k hk |>.2.2.2
  have w1 : ∀ d K, d ≠ p → (K = 92 ∨ K = 94 ∨ K = 109 ∨ K = 112 ∨ K = 113 ∨ K = 114 ∨ K = 115) → w2.2.2.1 K d = w.2.2.1 K d := fun d K hd hK => by
    by_cases c : d = q
    · subst c; exact (g.2.1 hd).1 K d (Or.inl ⟨by omega, rfl⟩) (by omega) (by omega)
    · exact (D d hd c).2.1 K d (Or.inl ⟨by omega, rfl⟩)
  have wd : ∀ d K, d ≠ p → (K = 89 ∨ K = 90 ∨ K = 108 ∨ K = 132) → w2.2.2.1 K d = w.2.2.1 K d := fun d K hd hK => by
    by_cases c : d = q
    · subst c; exact (g.2.1 hd).2.1 K hK
    · exact (D d hd c).2.2.1 K hK
  have w88 : ∀ d k, d ≠ p → k < 500 → hp w2 d k = hp w d k := fun d k hd hk => by
    by_cases c : d = q
    · subst c; exact (g.2.1 hd).2.2.2.2.1 _ (by omega) (by omega)
    · exact (D d hd c).2.2.2.2.2.1 _ (by omega) (by omega)
  have f9 : ∀ d, d ≠ p → F m2 (pq d 9) = F m (pq d 9) := fun d hd => congrArg Int32.toInt (m1 d 9 hd (by omega) (by omega))
  have a9 : ∀ d, d ≠ p → A w2 109 d = A w 109 d := fun d hd => congrArg Int32.toInt (w1 d 109 hd (by omega))
  have dm : ∀ d, F m (pq d 9) = 3 → F m2 (pq d 9) = 3 ∧ m2.2.2.2 (pq d 2) = m.2.2.2 (pq d 2) ∧ m2.1 (pq d 17) = m.1 (pq d 17) ∧ m2.2.1 (pq d 16) = m.2.1 (pq d 16) := fun d hd => ⟨by rw [f9 d (dq d hd)]; exact hd, mj d 2 (dq d hd) (by omega), m1 d 17 (dq d hd) (by omega) (by omega), ml d 16 (dq d hd) (by omega)⟩
  have W3 : WLs (RRt p) PR Fv P Fv' P' none i j0 m2 w2 := by
    refine WL_gen wl s2 dm (fun d hd => ⟨fun k hk => w88 d k (dq2 d hd) hk, congrArg Int32.toInt (wd d 89 (dq2 d hd) (by omega))⟩) (fun d hd => by rw [a9 d (dq2 d (Or.inr hd))]; exact hd) (fun r _ hr _ h => ?_) (fun r _ _ h => ?_) (fun r hr x1 x2 x3 => ?_) ?_
    · have rp := dq r hr
      by_cases c : r = q
      · subst c
        obtain ⟨L, l1, l2, -⟩ := hL rp
        exact ⟨by rw [m1 r 12 rp (by omega) (by omega), w1 r 113 rp (by omega)]; exact h.1, by rw [m1 r 13 rp (by omega) (by omega), w1 r 114 rp (by omega)]; exact h.2.1, by rw [m1 r 5 rp (by omega) (by omega), wd r 90 rp (by omega)]; exact h.2.2.1, L, l1, l2⟩
      · exact QEs_st h (D r rp c).1 (D r rp c).2
    · have rp := dq r h.1
      by_cases c : r = q
      · subst c
        obtain ⟨L, l1, l2, l3⟩ := hL rp
        have eL := l3 h
        subst eL
        obtain ⟨a1, a2, a3, ⟨a4, a5⟩, a6, a7, a8, a10⟩ := h
        exact ⟨by rw [f9 r rp]; exact a1, by rw [a9 r rp]; exact a2, RZs_st a3 pg (m1 r 17 rp (by omega) (by omega)) (ml r 16 rp (by omega)) (fun d hd => ⟨(dm d hd).1, (dm d hd).2.1⟩) (wd r 132 rp (by omega)) (g.2.1 rp).2.2.1, ⟨by rw [m1 r 12 rp (by omega) (by omega)]; exact a4, by rw [w1 r 113 rp (by omega)]; exact a5⟩, by rw [m1 r 13 rp (by omega) (by omega), w1 r 114 rp (by omega)]; exact a6, by rw [m1 r 5 rp (by omega) (by omega), wd r 90 rp (by omega)]; exact a7, l1.1, l2.1⟩
      · exact DEs_st h pg (D r rp c).1 (D r rp c).2 (fun d hd => ⟨(dm d hd).1, (dm d hd).2.1⟩)
    · by_cases rp : r = p
      · subst rp
        exact Or.inl ⟨by rw [ru.2.2.2.1.1]; omega, by rw [ru.2.2.2.1.2]; omega, b, U, B, W, Y, pl, sc2, Or.inl rfl⟩
      · obtain ⟨b, U, B, W, Y, pl, sc, rr⟩ := x3
        obtain ⟨-, -, ⟨b1, b2, b3⟩, b4⟩ := SF_al wl.1 hr x1 pl
        have hU := pl.1.1.2.2
        refine Or.inl ⟨by rw [f9 r rp]; exact x1, by rw [a9 r rp]; exact x2, b, U, B, W, Y, PLs_cg pl (fun k hk => m1 r k rp (by simp at hk; omega) (by simp at hk; omega)) (fun i _ => by rw [mj r 2 rp (by omega)]) (fun i _ => by rw [mj r 33 rp (by omega)]) (fun i _ => by rw [mj r 35 rp (by omega)]) (fun i _ => by rw [mj r 6 rp (by omega)]) (fun k hk => ?_) (fun i hi => w88 r i rp (by omega)) (fun i hi => ?_) (fun i hi => ?_) (fun i hi => ?_), ?_, ?_⟩
        · simp only [List.mem_cons, List.not_mem_nil, or_false] at hk
          rcases hk with rfl | rfl | rfl | rfl | rfl
          · exact wd r 89 rp (by omega)
          · exact wd r 90 rp (by omega)
          · exact w1 r 92 rp (by omega)
          · exact w1 r 94 rp (by omega)
          · exact wd r 108 rp (by omega)
        · by_cases c : r = q
          · subst c; exact (g.2.1 rp).2.2.2.2.2.2.1 _ (by omega) (by omega)
          · exact (D r rp c).2.2.2.2.2.2.2.1 _ (by omega) (by omega)
        · by_cases c : r = q
          · subst c; exact (g.2.1 rp).2.2.2.2.2.1 _ (by omega) (by omega)
          · exact (D r rp c).2.2.2.2.2.2.1 _ (by omega) (by omega)
        · by_cases c : r = q
          · subst c; exact (g.2.1 rp).2.2.2.2.2.2.2 _ (by omega) (by omega)
          · exact (D r rp c).2.2.2.2.2.2.2.2 _ (by omega) (by omega)
        · by_cases c : r = q
          · subst c
            obtain ⟨L, l1, l2, -⟩ := hL rp
            refine SC_of l1 l2 ?_ ?_ ?_ ?_
            · rw [m1 r 12 rp (by omega) (by omega), w1 r 113 rp (by omega)]; exact sc.1
            · rw [m1 r 13 rp (by omega) (by omega), w1 r 114 rp (by omega)]; exact sc.2.1
            · rw [m1 r 11 rp (by omega) (by omega), w1 r 112 rp (by omega)]; exact sc.2.2.1
            · rw [m1 r 29 rp (by omega) (by omega), w1 r 115 rp (by omega)]; exact sc.2.2.2.2.1
          · exact SC_eq sc b4.2 (EQm_loc pg (D r rp c).1) (EQw_loc pg (D r rp c).2)
        · by_cases c : r = q
          · subst c
            exact RRt_st rr ⟨fun k hk h => m1 r k rp hk (by simp at h; omega), fun k hk _ => ml r k rp hk, fun k hk h => (f.2.1 rp k hk).2.2.1 h, pg.1.1⟩ ⟨fun K k h h1 h2 => (g.2.1 rp).1 K k h h1 h2.1, (g.2.1 rp).2.2.2.1, pg.2.1, pg.2.2.1⟩
          · exact RRt_st rr (EQm_loc pg (D r rp c).1).n (EQw_loc pg (D r rp c).2).v
    · obtain ⟨n, q1, q2, -⟩ := wl.2.1
      refine ⟨i + n, j0 + n, q1, q2, fun k _ => ?_, fun k _ => ⟨fun K hK => ?_, by rw [g.2.2.2.2.2.1]⟩, Or.inl ⟨?_, ?_⟩⟩
      · show (m2.2.2.1 54 k).toInt = _
        rw [f.2.2.2.2.1]
        rfl
      · show (w2.2.2.1 K k).toInt = _
        rw [g.2.2.2.2.1 K hK]
        rfl
      · show (m2.1 955).toInt = _
        rw [f.2.2.2.1]
        exact q1
      · show (w2.1 150).toInt = _
        rw [g.2.2.2.1]
        exact q2
  obtain ⟨sf, qu, pr, -⟩ := W3
  refine ⟨sf, qu, fun r hr => ?_, RRp_stb⟩
  rcases pr r hr with ⟨x1, x2, b', U', B', W', Y', pl', sc', rr⟩ | x
  · by_cases rq : r = p
    · subst rq
      exact Or.inl ⟨x1, x2, b', U', B', W', Y', pl', sc', Or.inl ⟨rfl, jj, nb, Hs, Os, y, a, n, ru⟩⟩
    · rcases rr with rr | rr
      · exact absurd rr rq
      · exact Or.inl ⟨x1, x2, b', U', B', W', Y', pl', sc', Or.inr ⟨rq, rr⟩⟩
  · exact Or.inr x
end
section
variable {N p q : Nat} {u w : MS} {t : Int64} {Fv : Int64 → Int64 → Prop} {P : Int64 → Prop} {PR : Nat} {v2 : Int64} {v7 t1 t2 : Int32}
theorem tw2 : hm_Ma_toward N u p (I 2) = bnd (hm_Ma_processAt N u p 0) (fun u65 r65 => br (decide (r65 = none)) (bnd (hm_Ma_wrong N u65 p 11) (fun u61 _ => some (u61, ()))) (hb_Ma_toward_95 N () u65 p (I 2) 1 r65)) := rfl
theorem tw3 : hm_Ma_toward N u p (I 3) = bnd (hm_Ma_processAt N u p 0) (fun u65 r65 => br (decide (r65 = none)) (bnd (hm_Ma_wrong N u65 p 11) (fun u61 _ => some (u61, ()))) (hb_Ma_toward_95 N () u65 p (I 3) 1 r65)) := rfl
theorem tw15 : hm_Ma_toward N u p (I 15) = bnd (hm_Ma_processAt N u p 0) (fun u65 r65 => br (decide (r65 = none)) (bnd (hm_Ma_wrong N u65 p 11) (fun u61 _ => some (u61, ()))) (hb_Ma_toward_95 N () u65 p (I 15) 1 r65)) := rfl
def prcR (N : Nat) (w : MS) (k : Int32) : Option (MS × Unit) := bnd (bnd (fm_M_top N w 0) (fun u29 r29 => bnd (fm_M_sortOf N u29 r29) (fun u28 r28 => br (decide (r28 = 4)) (bnd (fm_M_valueOf N u28 r29) (fun u25 r25 => ck (inb (u25.1 133) (ln 92)) (fb_M_processRun_151 N () u25 k 0 r25 92 (u25.1 133) (u25.2.2.1 92 (u25.1 133).toNatClampNeg) 1))) (bnd (fr_M_error N u28 11) (fun u26 _ => some (u26, ())))))) (fun u6 _ => some (u6, ()))
theorem prc2 : fm_M_predefinedRun N w (I 2) = prcR N w (I 2) := rfl
theorem prc3 : fm_M_predefinedRun N w (I 3) = prcR N w (I 3) := rfl
theorem prd16 : fm_M_predefinedRun N w (I 16) = bnd (fm_M_processRun N w (I 16)) (fun u6 _ => some (u6, ())) := rfl
theorem prs16 : fm_M_processRun N w (I 16) = bnd (fm_M_top N w 0) (fun u29 r29 => fb_M_processRun_45 N () u29 (I 16) 0 r29) := rfl
theorem prt16 : fb_M_processRun_45 N () w (I 16) 0 t = bnd (fm_M_sortOf N w t) (fun u28 r28 => br (decide (r28 = 4)) (bnd (fm_M_valueOf N u28 t) (fun u25 r25 => ck (inb (u25.1 133) (ln 92)) (fb_M_processRun_151 N () u25 (I 16) 0 r25 92 (u25.1 133) (u25.2.2.1 92 (u25.1 133).toNatClampNeg) 1))) (bnd (fr_M_error N u28 11) (fun u26 _ => some (u26, ())))) := by
  have d1 : decide ((1 : Int32) = 0) = false := by decide
  have d3 : decide (I 16 = 4) = false := by decide
  have d4 : decide (I 16 = 8) = false := by decide
  have bt : ∀ (p q : Option (MS × Unit)), br true p q = p := fun p q => by rw [br_tq]
  have bf : ∀ (p q : Option (MS × Unit)), br false p q = q := fun p q => by rw [br_fq]
  unfold fb_M_processRun_45 fb_M_processRun_61 fb_M_processRun_83 fb_M_processRun_104 fb_M_processRun_108 fb_M_processRun_109
  have d5 : decide True = true := rfl
  simp only [d1, d3, d4, d5, bt, bf]
theorem prc16 : fm_M_predefinedRun N w (I 16) = prcR N w (I 16) := by
  rw [prd16, prs16]
  unfold prcR
  simp only [prt16]
theorem pat_4 (be : hm_Fr_below N u p 0 = some (u, t)) (e4 : so t = 4) (hq : va t = ((q : Nat) : Int)) (dwc : DWc Fv P PR u) (hq2 : q < PR) : hm_Ma_processAt N u p 0 = some (u, some q) := by
  have pa : hm_Ma_processAt N u p 0 = bnd (hm_Fr_below N u p 0) (fun u2 r2 => bnd (hm_Te_tag N u2 r2) (fun u4 r4 => br (decide (r4 = 4)) (bnd (hm_Wl_find N u4 (r2.toInt32)) (fun u6 r6 => some (u6, r6))) (some (u4, none)))) := rfl
  rw [pa, be, bnd_so, e_tag, bnd_so, show (4 : Int32) = I 4 from rfl, decE (so_r _).1 (so_r _).2 (by omega) (by omega), decide_eq_true e4, br_tq, valI, hq, find_e (q := q) dwc hq2, bnd_so]
theorem pat_0 (be : hm_Fr_below N u p 0 = some (u, t)) (e4 : so t ≠ 4) : hm_Ma_processAt N u p 0 = some (u, none) := by
  have pa : hm_Ma_processAt N u p 0 = bnd (hm_Fr_below N u p 0) (fun u2 r2 => bnd (hm_Te_tag N u2 r2) (fun u4 r4 => br (decide (r4 = 4)) (bnd (hm_Wl_find N u4 (r2.toInt32)) (fun u6 r6 => some (u6, r6))) (some (u4, none)))) := rfl
  rw [pa, be, bnd_so, e_tag, bnd_so, show (4 : Int32) = I 4 from rfl, decE (so_r _).1 (so_r _).2 (by omega) (by omega), decide_eq_false e4, br_fq]
theorem tw95_15 : hb_Ma_toward_95 N () u p (I 15) 1 (some q) = br (decide ((u.1 (pq q 9)) = 3)) (hb_Ma_toward_330 N () u p 1 0) (hb_Ma_toward_330 N () u p 1 1) := rfl
theorem tw95_3 : hb_Ma_toward_95 N () u p (I 3) 1 (some q) = bnd (hm_Pr_removeLink N u p (Int32.ofNat q)) (fun u34 _ => bnd (hm_Pr_removeLink N u34 q (Int32.ofNat p)) (fun u39 _ => hb_Ma_toward_335 N () u39 p 1 (mk 1 0))) := rfl
theorem prr_16 : fb_M_processRun_151 N () w (I 16) v2 v7 92 t1 t2 1 = ck (isK 92 4) (ck (inb t1 (ln 92)) (lt (upA w 92 (upd (w.2.2.1 92) t1.toNatClampNeg (t2 - 1))) (fun w3 => ck (inb v7 (ln 109)) (br (decide ((w3.2.2.1 109 v7.toNatClampNeg) = 3)) (fb_M_processRun_176 N () w3 0) (fb_M_processRun_176 N () w3 1))))) := rfl
theorem prr_3 : fb_M_processRun_151 N () w (I 3) v2 v7 92 t1 t2 1 = ck (isK 92 4) (ck (inb t1 (ln 92)) (lt (upA w 92 (upd (w.2.2.1 92) t1.toNatClampNeg (t2 - 1))) (fun w3 => bnd (fm_M_truth N w3 1) (fun u4 r4 => bnd (fm_M_put N u4 r4) (fun u5 _ => bnd (fm_M_removeLink N u5 (u5.1 133) v7) (fun u13 _ => bnd (fm_M_removeLink N u13 v7 (u13.1 133)) (fun u14 _ => some (u14, ())))))))) := rfl
end
section
variable {α β : Type} {b : Int → Nat → Nat → Prop} {Fv Fv' : Int64 → Int64 → Prop} {P P' : Int64 → Prop} {N PR p i j0 U B W Y l j a n : Nat} {m w w1 m2 w2 : MS} {t x : Int64} {nb : Nat → Nat} {Hs Os : Nat → List Nat} {y : Option (Nat × Nat × Nat)} {Q : MS → α → MS → β → Prop} {K1 : MS → Option (MS × α)} {K2 : MS → Option (MS × β)} {RR : Nat → MS → MS → Prop}
theorem pre_pt (hp : p < 24) (ru : RUs m w p j nb Hs Os y a n) (hW : W < 46000) (hl : W ≤ l ∧ l ≤ 1000000) (rt : RTb b t x) (f0 : FGm p m m2) (g0 : FGw p j w w2) (pl2 : PLs b p m2 w2 U B W Y) (h45 : F m2 (pq p 45) = ((l : Nat) : Int)) (h98 : A w2 98 (60 * p + j) = ((n + 1 : Nat) : Int)) (ha : F m2 1105 = ((a : Nat) : Int)) (ha2 : a + 2 < 24000) (cr : ∃ f, CRs (A m 23) (ROs w) (w.2.2.2 34) f y (a + 2) (n + 1) (Hs j) (Os j))
    (c : ∀ m3 w3, PLs b p m3 w3 U B (W + 1) Y → RUs m3 w3 p j nb Hs Os y (a + 2) (n + 1) → FGm p m m3 → FGw p j w w3 → F w3 133 = ((p : Nat) : Int) → PP Q (K1 m3) (K2 w3)) : PP Q (bnd (hm_Fr_push N m2 p t) (fun u _ => bnd (lt (upI u 1105 ((u.1 1105) + 2)) (fun w3 => some (w3, ()))) (fun u _ => K1 u))) (bnd (fm_M_put N w2 x) (fun u _ => K2 u)) := by
  obtain ⟨-, -, -, -, -, -, r11, -, -⟩ := id ru
  have h133 : F w2 133 = ((p : Nat) : Int) := by rw [FR.F g0.1 (by simp)]; exact r11
  refine l_bnd (pk_mo (push_m (N := N) (t := t) pl2.2.2.1.1 h45 hl.1 hl.2) (fun m3 _ h => ?_))
  obtain ⟨h1, h2, h3⟩ := h
  refine r_bnd (pk_mo (put_r (N := N) (x := x) hp h133 pl2.2.2.1.2.1 (by omega)) (fun w3 _ h => ?_))
  subst h
  have e5 : F m3 1105 = ((a : Nat) : Int) := by rw [FR.F h1 (by simp [pq_n])]; exact ha
  rw [I_F' e5, show I ((a : Nat) : Int) + 2 = I ((a + 2 : Nat) : Int) from addN, wi_e, lt_e]
  show PP Q (K1 (wi m3 1105 ((a + 2 : Nat) : Int))) (K2 _)
  have pl3 := PLs_pc (z := ((a + 2 : Nat) : Int)) (PLs_push pl2 rt h1 h2 h3)
  have f3 : FGm p m (wi m3 1105 ((a + 2 : Nat) : Int)) := FGm.tr (FGm.tr f0 (FGm.push h1)) FGm.pc
  have g3 : FGw p j w (wa (wj w2 91 (46000 * p + W) x) 92 p ((W + 1 : Nat) : Int)) := FGw.tr g0 (FGw.put hW)
  exact c _ _ pl3 (RUs_mv ru f3 g3 (wi_sm (by omega) (by omega)) (by rw [wa_rne (by omega), A_wj]; exact h98) cr) f3 g3 h133
theorem tow_hd {d k : Int} (hd : (d = 2 ∧ k = 2) ∨ (d = 3 ∧ k = 3) ∨ (d = 15 ∧ k = 16)) (hp1 : p < 24) (dwc : DWc Fv P PR m) (hP4 : so (m.2.2.2 (pq p 35) W) = 4 → 0 ≤ va (m.2.2.2 (pq p 35) W) ∧ va (m.2.2.2 (pq p 35) W) < ((PR : Nat) : Int)) (h133 : F w1 133 = ((p : Nat) : Int)) (hW : W + 1 ≤ 46000) (hl : F m (pq p 45) = ((l : Nat) : Int)) (hl2 : W + 1 ≤ l ∧ l ≤ 1000000) (pl : PLs b p m w1 U B (W + 1) Y)
    (kT : ∀ q : Nat, q < PR → PP Q (bnd (hb_Ma_toward_95 N () m p (I d) 1 (some q)) (fun u _ => K1 u)) (bnd (fb_M_processRun_151 N () w1 (I k) 0 (I ((q : Nat) : Int)) 92 (I ((p : Nat) : Int)) (I ((W + 1 : Nat) : Int)) 1) (fun u _ => K2 u)))
    (kX : PP Q (K1 (tld m 1 (-1) (mk 1 11))) (bnd (fr_M_error N w1 11) (fun u _ => K2 u))) : PP Q (bnd (hm_Ma_toward N m p (I d)) (fun u _ => K1 u)) (bnd (fm_M_predefinedRun N w1 (I k)) (fun u _ => K2 u)) := by
  have rt := pl.2.2.1.2.2 W (by omega)
  have be : hm_Fr_below N m p 0 = some (m, m.2.2.2 (pq p 35) W) := by
    have := below_e (N := N) (x := 0) (k := 0) (W := W + 1) (l := l) pl.2.2.1.1 hl hl2.1 hl2.2 rfl (by omega)
    rw [show W + 1 - 1 - 0 = W by omega] at this
    exact this
  have all : PP Q (bnd (bnd (hm_Ma_processAt N m p 0) (fun u65 r65 => br (decide (r65 = none)) (bnd (hm_Ma_wrong N u65 p 11) (fun u61 _ => some (u61, ()))) (hb_Ma_toward_95 N () u65 p (I d) 1 r65))) (fun u _ => K1 u)) (bnd (prcR N w1 (I k)) (fun u _ => K2 u)) := by
    unfold prcR
    refine r_bb (r_bb ?_)
    refine r_bnd (pk_mo (top_r (N := N) (k := 0) hp1 h133 pl.2.2.1.2.1 (by omega) (by omega)) (fun w4 r e => ?_))
    obtain ⟨rfl, rfl⟩ := e
    rw [show 46000 * p + (W + 1 - 1 - 0) = 46000 * p + W by omega]
    generalize hx : w4.2.2.2 91 (46000 * p + W) = x at rt
    generalize ht : m.2.2.2 (pq p 35) W = t at rt be hP4
    rw [sortOf_e, bnd_so, RTb_so rt, show decide (I (so t) = 4) = decide (so t = 4) from by rw [show (4 : Int32) = I 4 from rfl, decE (so_r _).1 (so_r _).2 (by omega) (by omega)]]
    by_cases e4 : so t = 4
    · have xt := RTb_n rt (by unfold isH; omega)
      obtain ⟨v0, v1⟩ := hP4 e4
      obtain ⟨q, hq⟩ : ∃ q : Nat, va t = ((q : Nat) : Int) := ⟨(va t).toNat, by omega⟩
      rw [pat_4 be e4 hq dwc (by omega), bnd_so, decide_eq_true e4, br_tq, show decide ((some q : Option Nat) = none) = false from rfl, br_fq, valueOf_e, bnd_so, xt, hq, I_F' h133, tnI (n := p) rfl (by omega), I_A' pl.2.2.1.2.1]
      refine rb_ck (fun _ => ?_)
      exact kT q (by omega)
    · rw [pat_0 be e4, bnd_so, decide_eq_false e4, br_fq, show decide ((none : Option Nat) = none) = true from rfl, br_tq, wrong_e9, bnd_so, bnd_so]
      refine r_bb ?_
      exact kX
  rcases hd with ⟨rfl, rfl⟩ | ⟨rfl, rfl⟩ | ⟨rfl, rfl⟩
  · rw [tw2, prc2]; exact all
  · rw [tw3, prc3]; exact all
  · rw [tw15, prc16]; exact all
theorem sub1 : I ((W + 1 : Nat) : Int) - 1 = I ((W : Nat) : Int) := by
  rw [lit1q, I_sub]
  congr 1
  omega
theorem op_alive {q : Nat} (hp1 : p < 24) (hq : q < PR) (nd : NDs PR m w) (ru : RUs m w p j nb Hs Os y a n) (hW : W + 1 ≤ 46000) (hl : F m (pq p 45) = ((l : Nat) : Int)) (hl2 : W + 1 ≤ l ∧ l ≤ 1000000) (pl : PLs b p m w1 U B (W + 1) Y) (g1 : FGw p j w w1) (h98 : A w1 98 (60 * p + j) = ((n + 1 : Nat) : Int)) (cr : ∃ f, CRs (A m 23) (ROs w) (w.2.2.2 34) f y (a + 2) (n + 1) (Hs j) (Os j))
    (c : ∀ m3 w3, PLs b p m3 w3 U B (W + 1) Y → RUs m3 w3 p j nb Hs Os y (a + 2) (n + 1) → FGm p m m3 → FGw p j w w3 → PP Q (K1 m3) (K2 w3)) : PP Q (bnd (hb_Ma_toward_95 N () m p (I 15) 1 (some q)) (fun u _ => K1 u)) (bnd (fb_M_processRun_151 N () w1 (I 16) 0 (I ((q : Nat) : Int)) 92 (I ((p : Nat) : Int)) (I ((W + 1 : Nat) : Int)) 1) (fun u _ => K2 u)) := by
  obtain ⟨-, ⟨r2, -⟩, -⟩ := id ru
  have p24 := nd.1.2.2
  have cb2 : a + 2 + 1 < 24000 := by
    obtain ⟨f9, cr9⟩ := cr
    exact (CR_b cr9).1
  have pd := PLs_drop (k := 1) (W := W) pl (by omega)
  have g3 : FGw p j w (wa w1 92 p ((W : Nat) : Int)) := FGw.tr g1 FGw.w92
  have h983 : A (wa w1 92 p ((W : Nat) : Int)) 98 (60 * p + j) = ((n + 1 : Nat) : Int) := by rw [wa_rne (by omega)]; exact h98
  have nd3 : NDs PR m (wa w1 92 p ((W : Nat) : Int)) := NDs_w nd (g3.1.1 118 (by simp)) (g3.1.2.2.1 109 (by simp)) (g3.1.2.2.1 113 (by simp))
  rw [tw95_15, prr_16, sub1, tnI (n := p) rfl (by omega), wa_e]
  refine rb_ck (fun _ => rb_ck (fun _ => ?_))
  rw [lt_e]
  refine rb_ck (fun _ => ?_)
  generalize hw3 : wa w1 92 p ((W : Nat) : Int) = w3 at pd g3 h983 nd3
  have core : ∀ z : Int32, PP Q (bnd (hb_Ma_toward_330 N () m p 1 z) (fun u _ => K1 u)) (bnd (fb_M_processRun_176 N () w3 z) (fun u _ => K2 u)) := fun z => by
    obtain ⟨v, hv, ev⟩ := truth_z (N := N) (z := z)
    unfold hb_Ma_toward_330 fb_M_processRun_176 hb_Ma_toward_335 fb_M_processRun_480 hm_Ma_answer hb_Ma_answer_0
    rw [(ev m w3).1, bnd_so, (ev m w3).2, bnd_so, show (1 : Int32) = I 1 from rfl, drop_e (W := W + 1) (k := 1) (x := 1) pl.2.2.1.1 rfl (by omega), bnd_so, Nat.add_sub_cancel]
    simp only [bb_e, bnd_so]
    exact pre_pt (l := l) hp1 ru (by omega) ⟨by omega, hl2.2⟩ (lit_b (b := b) (v := 1) (Or.inr (Or.inl rfl)) (z := v) (fun h => by omega) ⟨by omega, by omega⟩) FGm.drop g3 pd (by rw [wi_ne (pq_inj (by omega))]; exact hl) h983 (by rw [wi_ne (pq_n (by omega))]; exact r2) (by omega) cr (fun m3 w3 a1 a2 a3 a4 _ => c m3 w3 a1 a2 a3 a4)
  have rr9 := F_r m (pq q 9)
  have rw9 := A_r w3 109 q
  rw [tnI (n := q) rfl (by omega), I_F (w := m) (k := pq q 9), I_A (w := w3) (k := 109) (i := q), show (3 : Int32) = I 3 from rfl, decE rr9.1 rr9.2 (by omega) (by omega), decE rw9.1 rw9.2 (by omega) (by omega)]
  rcases nd3.2.2 q hq with ⟨x1, x2, -⟩ | ⟨x1, x2⟩
  · rw [decide_eq_false x1, decide_eq_false x2, br_fq, br_fq]
    exact core 1
  · rw [decide_eq_true x1, decide_eq_true x2, br_tq, br_tq]
    exact core 0
theorem WL_ls0 {r : Nat} (W0 : WLs RR PR Fv P Fv' P' none i j0 m w) (hy : r < PR) : ∃ L, LSm m r L ∧ LSw w r L ∧ L.Nodup ∧ (DEs m w r → L = []) := by
  have lk := W0.1.2.1.2.1.1 r hy
  obtain ⟨sf, ⟨n, q1, q2, q3, q4⟩, pr, hR⟩ := W0
  rcases pr r hy with ⟨x1, x2, b, U, B, Wt, Y, pl, rs⟩ | ⟨x1, x2, x3⟩
  · obtain ⟨-, -, -, b4⟩ := SF_al sf hy x1 pl
    obtain ⟨L, l1, l2⟩ := LS_of rs.1 b4
    exact ⟨L, l1, l2, (LS_nd l2 lk).1, fun h => absurd h.1 x1⟩
  · have em : DEs m w r → ∀ L, LSm m r L → L = [] := fun h L l => by
      have := l.1
      rw [h.2.2.2.2.2.2.1] at this
      exact List.length_eq_zero_iff.mp (by omega)
    rcases x3 with x3 | ⟨k, k1, k2, k3⟩ | x3
    · cases x3
    · obtain ⟨r9, wr, o, -, x4, -, -, -, -, x9⟩ := q3 (k - i) (by omega)
      rw [show i + (k - i) = k by omega, k3] at x4
      have : r9 = r := by omega
      subst this
      obtain ⟨L, l1, l2⟩ := x9.2.2.2
      exact ⟨L, l1, l2, (LS_nd l2 lk).1, fun h => em h L l1⟩
    · obtain ⟨-, -, -, -, -, -, h1, h2⟩ := x3
      exact ⟨[], ⟨h1, by simp, fun i x hx => by simp at hx⟩, ⟨h2, by simp, fun i x hx => by simp at hx⟩, List.nodup_nil, fun _ => rfl⟩
end
end
section
set_option maxRecDepth 100000
section
variable {α β : Type} {b : Int → Nat → Nat → Prop} {Fv Fv' : Int64 → Int64 → Prop} {P P' : Int64 → Prop} {N PR p q i j0 U B W Y l j a n : Nat} {m w w1 m1 m2 w2 w3 : MS} {t x : Int64} {nb : Nat → Nat} {Hs Os : Nat → List Nat} {y : Option (Nat × Nat × Nat)} {Q : MS → α → MS → β → Prop} {K1 : MS → Option (MS × α)} {K2 : MS → Option (MS × β)} {L : List Int} {r : Nat}
theorem lk_n (f : FR [pq p 15, pq q 15] [] [pq p 14, pq q 14] [] m m2) : EQn r m m2 := ⟨fun k hk h => f.1 _ (by
  simp only [List.mem_cons, List.not_mem_nil, or_false]
  simp at h
  intro c
  rcases c with c | c
  · exact pq_ne2 hk (by omega) (by omega) c
  · exact pq_ne2 hk (by omega) (by omega) c), fun k _ _ => f.2.1 _ (by simp), fun k hk h => f.2.2.1 _ (by
  simp only [List.mem_cons, List.not_mem_nil, or_false]
  intro c
  rcases c with c | c
  · exact pq_ne2 hk (by omega) h c
  · exact pq_ne2 hk (by omega) h c), f.2.2.1 23 (by simp [pq_n])⟩
theorem lk_v (g : FR [] [] [116, 117] [] w w2) : EQv r w w2 := ⟨fun K k _ h1 h2 => by rw [g.2.2.1 K (by simp; omega)], by rw [g.2.2.2 111 (by simp)], fun K h => g.2.2.1 K (by unfold PRr at h; simp; omega), g.2.2.2 34 (by simp)⟩
theorem lk_pgm (f : FR [pq p 15, pq q 15] [] [pq p 14, pq q 14] [] m m2) : PGs m w m2 w := PGs_fr f (FR.rf (is := []) (ls := []) (as := []) (js := [])) (fun k hk => by simp at hk; unfold pq at hk; omega) (by simp) (fun k hk => by simp at hk; unfold pq at hk; omega) (by simp) (by simp) (by simp)
theorem lk_pgw (g : FR [] [] [116, 117] [] w w2) : PGs m w m w2 := PGs_fr (FR.rf (is := []) (ls := []) (as := []) (js := [])) g (by simp) (by simp) (by simp) (by simp) (by simp [PRr]) (by simp)
theorem lk_plm (pl : PLs b r m w U B W Y) (f : FR [pq p 15, pq q 15] [] [pq p 14, pq q 14] [] m m2) : PLs b r m2 w U B W Y := PLs_cg pl (fun k hk => f.1 _ (by
  simp only [List.mem_cons, List.not_mem_nil, or_false]
  simp at hk
  intro c
  rcases c with c | c
  · exact pq_ne2 (by omega) (by omega) (by omega) c
  · exact pq_ne2 (by omega) (by omega) (by omega) c)) (fun i _ => by rw [f.2.2.2 _ (by simp)]) (fun i _ => by rw [f.2.2.2 _ (by simp)]) (fun i _ => by rw [f.2.2.2 _ (by simp)]) (fun i _ => by rw [f.2.2.2 _ (by simp)]) (fun _ _ => rfl) (fun _ _ => rfl) (fun _ _ => rfl) (fun _ _ => rfl) (fun _ _ => rfl)
theorem lk_plw (pl : PLs b r m w U B W Y) (g : FR [] [] [116, 117] [] w w2) : PLs b r m w2 U B W Y := PLs_cg pl (fun _ _ => rfl) (fun _ _ => rfl) (fun _ _ => rfl) (fun _ _ => rfl) (fun _ _ => rfl) (fun k hk => by rw [g.2.2.1 k (by simp at hk ⊢; omega)]) (fun i _ => by rw [g.2.2.2 88 (by simp)]) (fun i _ => by rw [g.2.2.2 93 (by simp)]) (fun i _ => by rw [g.2.2.2 91 (by simp)]) (fun i _ => by rw [g.2.2.2 107 (by simp)])
theorem LSm_o (s : LSm m r L) (h : q ≠ r) (f : FR [pq q 15] [] [pq q 14] [] m m2) : LSm m2 r L := LSm_st s (f.1 _ (by simp; exact fun c => h (pq_e (by omega) (by omega) c).1.symm)) (f.2.2.1 _ (by simp; exact fun c => h (pq_e (by omega) (by omega) c).1.symm))
theorem LSw_o (s : LSw w r L) (h : q ≠ r) (f : LFw q w w2) : LSw w2 r L := ⟨by rw [f.2.1 r (Ne.symm h)]; exact s.1, s.2.1, fun i x hx => by
  have hi : i < L.length := by
    rcases Nat.lt_or_ge i L.length with h | h
    · exact h
    · rw [List.getElem?_eq_none h] at hx
      cases hx
  have := s.2.1
  rw [f.2.2 (24 * r + i) (by omega)]
  exact s.2.2 i x hx⟩
theorem LSm_fg (s : LSm m r L) (f : FGm p m m2) : LSm m2 r L := LSm_st s (f.1 _ (by
  simp only [List.mem_cons, List.not_mem_nil, or_false]
  intro c
  rcases c with c | c | c | c | c
  · exact pq_ne2 (by omega) (by omega) (by omega) c
  · exact pq_ne2 (by omega) (by omega) (by omega) c
  · exact pq_ne2 (by omega) (by omega) (by omega) c
  · exact pq_ne2 (by omega) (by omega) (by omega) c
  · exact pq_n (by omega) c.symm)) (f.2.2.1 _ (by simp))
theorem LSw_fg (s : LSw w r L) (g : FGw p j w w2) : LSw w2 r L := LSw_fr s (g.1.2.2.1 116 (by simp)) (g.1.2.2.1 117 (by simp))
theorem op_unlink (hpp : p < PR) (hq : q < PR) (wl : WLs (RRp p) PR Fv P Fv' P' none i j0 m w) (ru : RUs m w p j nb Hs Os y a n) (sc : SCs p m w) (hW : W + 1 ≤ 46000) (hl : F m (pq p 45) = ((l : Nat) : Int)) (hl2 : W + 1 ≤ l ∧ l ≤ 1000000) (pl : PLs b p m w1 U B (W + 1) Y) (g1 : FGw p j w w1) (h98 : A w1 98 (60 * p + j) = ((n + 1 : Nat) : Int)) (cr : ∃ f, CRs (A m 23) (ROs w) (w.2.2.2 34) f y (a + 2) (n + 1) (Hs j) (Os j))
    (c : ∀ m3 w3, (SFs Fv P Fv' P' PR m3 w3 → WLs (RRp p) PR Fv P Fv' P' none i j0 m3 w3) → PLs b p m3 w3 U B (W + 1) Y → RUs m3 w3 p j nb Hs Os y (a + 2) (n + 1) → GLm p q m m3 → GLw p q w w3 → PP Q (K1 m3) (K2 w3)) : PP Q (bnd (hb_Ma_toward_95 N () m p (I 3) 1 (some q)) (fun u _ => K1 u)) (bnd (fb_M_processRun_151 N () w1 (I 3) 0 (I ((q : Nat) : Int)) 92 (I ((p : Nat) : Int)) (I ((W + 1 : Nat) : Int)) 1) (fun u _ => K2 u)) := by
  obtain ⟨⟨fa, -⟩, ⟨r2, -⟩, -, ⟨q9, q9w⟩, -, -, r11, -, -⟩ := id ru
  have hj : j < 60 := fa.1.2.2
  have p24 : PR ≤ 24 := wl.1.2.1.1.1.2
  have cb2 : a + 2 + 1 < 24000 := by
    obtain ⟨f9, cr9⟩ := cr
    exact (CR_b cr9).1
  obtain ⟨Lp, lp1, lp2, lp3, -⟩ := WL_ls0 wl hpp
  obtain ⟨Lq, lq1, lq2, lq3, lq4⟩ := WL_ls0 wl hq
  rw [tw95_3, prr_3, sub1, tnI (n := p) rfl (by omega), wa_e, oI, oI]
  refine rb_ck (fun _ => rb_ck (fun _ => ?_))
  rw [lt_e, truth1, bnd_so]
  refine lb_bnd (pk_mo (rml_m (N := N) (x := ((q : Nat) : Int)) lp1 ⟨by omega, by omega⟩) (fun m1 _ h => ?_))
  obtain ⟨h1, f1⟩ := h
  have lp1' : LSm m1 p (Lp.filter (fun y => decide (y ≠ ((q : Nat) : Int)))) := by
    rcases h1 with h1 | h1
    · exact h1
    · exact absurd lp3 h1
  obtain ⟨L2, hL2, hL2w, hL2d, hL2e⟩ : ∃ L2 : List Int, LSm m1 q L2 ∧ (∀ u v : MS, LSw u q Lq → LFw p u v → LSw v p (Lp.filter (fun y => decide (y ≠ ((q : Nat) : Int)))) → LSw v q L2) ∧ L2.Nodup ∧ (DEs m w q → L2 = []) := by
    by_cases e : p = q
    · subst e
      exact ⟨_, lp1', fun u v _ _ h => h, lp3.filter _, fun h => absurd h.1 (by rw [q9]; omega)⟩
    · exact ⟨Lq, LSm_o lq1 e f1, fun u v h f _ => LSw_o h e f, lq3, lq4⟩
  refine lb_bnd (pk_mo (rml_m (N := N) (x := ((p : Nat) : Int)) hL2 ⟨by omega, by omega⟩) (fun m2 _ h => ?_))
  obtain ⟨h2, f2⟩ := h
  have lq1' : LSm m2 q (L2.filter (fun y => decide (y ≠ ((p : Nat) : Int)))) := by
    rcases h2 with h2 | h2
    · exact h2
    · exact absurd hL2d h2
  have f12 : FR [pq p 15, pq q 15] [] [pq p 14, pq q 14] [] m m2 := FR.tr (FR.mo f1 (by simp) (by simp) (by simp) (by simp)) (FR.mo f2 (by simp) (by simp) (by simp) (by simp))
  have ru2 : RUs m2 w p j nb Hs Os y a n := RUs_st ru (lk_n f12) EQw.rf.v (lk_pgm f12)
  have pl2 := lk_plm pl f12
  have pd := PLs_drop (k := 1) (W := W) pl2 (by omega)
  have g3 : FGw p j w (wa w1 92 p ((W : Nat) : Int)) := FGw.tr g1 FGw.w92
  have h983 : A (wa w1 92 p ((W : Nat) : Int)) 98 (60 * p + j) = ((n + 1 : Nat) : Int) := by rw [wa_rne (by omega)]; exact h98
  generalize hw3 : wa w1 92 p ((W : Nat) : Int) = w3 at pd g3 h983
  have e45 : F m2 (pq p 45) = ((l : Nat) : Int) := by
    rw [← hl]
    exact congrArg Int32.toInt ((lk_n (r := p) f12).1 45 (by omega) (by simp))
  have e05 : F m2 1105 = ((a : Nat) : Int) := by
    rw [FR.F f12 (by simp [pq_n])]
    exact r2
  have cr2 : ∃ f, CRs (A m2 23) (ROs w) (w.2.2.2 34) f y (a + 2) (n + 1) (Hs j) (Os j) := by
    rw [show A m2 23 = A m 23 from by funext k; show (m2.2.2.1 23 k).toInt = _; rw [f12.2.2.1 23 (by simp [pq_n])]; rfl]
    exact cr
  unfold hb_Ma_toward_335 hm_Ma_answer hb_Ma_answer_0
  rw [show (1 : Int32) = I 1 from rfl, drop_e (W := W + 1) (k := 1) (x := 1) pl2.2.2.1.1 rfl (by omega), bnd_so, Nat.add_sub_cancel]
  simp only [bb_e, bnd_so]
  refine pre_pt (l := l) (by omega) ru2 (by omega) ⟨by omega, hl2.2⟩ (lit_b (b := b) (v := 1) (Or.inr (Or.inl rfl)) (z := 0) (fun h => by omega) ⟨by omega, by omega⟩) FGm.drop g3 pd (by rw [wi_ne (pq_inj (by omega))]; exact e45) h983 (by rw [wi_ne (pq_n (by omega))]; exact e05) (by omega) cr2 (fun m8 w8 pl8 ru8 f8 g8 x33 => ?_)
  rw [I_F' x33]
  refine r_bnd (pk_mo (rml_w (N := N) (x := ((q : Nat) : Int)) (by omega) ⟨by omega, by omega⟩ (LSw_fg lp2 g8)) (fun w9 _ h => ?_))
  obtain ⟨k1, k2⟩ := h
  have x339 : F w9 133 = ((p : Nat) : Int) := by rw [FR.F k2.1 (by simp)]; exact x33
  rw [I_F' x339]
  refine r_bnd (pk_mo (rml_w (N := N) (x := ((p : Nat) : Int)) (by omega) ⟨by omega, by omega⟩ (hL2w w8 w9 (LSw_fg lq2 g8) k2 k1)) (fun w10 _ h => ?_))
  obtain ⟨k3, k4⟩ := h
  show PP Q (K1 m8) (K2 w10)
  have g89 : FR [] [] [116, 117] [] w8 w10 := FR.tr k2.1 k4.1
  have pl10 := lk_plw pl8 g89
  have ru10 : RUs m8 w10 p j nb Hs Os y (a + 2) (n + 1) := RUs_st ru8 EQm.rf.n (lk_v g89) (lk_pgw g89)
  have gm : GLm p q m m8 := GLm.tr (GLm.tr (GLm_lk (Or.inl rfl) f1) (GLm_lk (Or.inr rfl) f2)) (GLm_gg (GGm_fg f8))
  have gw : GLw p q w w10 := GLw.tr (GLw.tr (GLw_gg (GGw_fg g8 hj)) (GLw_lk (Or.inl rfl) k2)) (GLw_lk (Or.inr rfl) k4)
  have em : ∀ k, k = 11 ∨ k = 12 ∨ k = 13 ∨ k = 29 → m8.1 (pq p k) = m.1 (pq p k) := fun k hk => (f8.1 _ (by
    simp only [List.mem_cons, List.not_mem_nil, or_false]
    intro c
    rcases c with c | c | c | c | c
    · exact pq_ne2 (by omega) (by omega) (by omega) c
    · exact pq_ne2 (by omega) (by omega) (by omega) c
    · exact pq_ne2 (by omega) (by omega) (by omega) c
    · exact pq_ne2 (by omega) (by omega) (by omega) c
    · exact pq_n (by omega) c.symm)).trans (f12.1 _ (by
    simp only [List.mem_cons, List.not_mem_nil, or_false]
    intro c
    rcases c with c | c
    · exact pq_ne2 (by omega) (by omega) (by omega) c
    · exact pq_ne2 (by omega) (by omega) (by omega) c))
  have ew : ∀ K, K = 112 ∨ K = 113 ∨ K = 114 ∨ K = 115 → w10.2.2.1 K = w.2.2.1 K := fun K hK => (g89.2.2.1 K (by simp; omega)).trans (g8.1.2.2.1 K (by simp; omega))
  obtain ⟨L9, l1, l2⟩ : ∃ L, LSm m8 p L ∧ LSw w10 p L := by
    by_cases e : q = p
    · subst e
      exact ⟨_, LSm_fg lq1' f8, k3⟩
    · exact ⟨_, LSm_fg (LSm_o lp1' e f2) f8, LSw_o k1 e k4⟩
  have scp : SCs p m8 w10 := SC_of l1 l2 (by rw [em 12 (by omega), ew 113 (by omega)]; exact sc.1) (by rw [em 13 (by omega), ew 114 (by omega)]; exact sc.2.1) (by rw [em 11 (by omega), ew 112 (by omega)]; exact sc.2.2.1) (by rw [em 29 (by omega), ew 115 (by omega)]; exact sc.2.2.2.2.1)
  refine c m8 w10 (fun s2 => WL_ownL (WL_t wl) hpp (by rw [q9]; omega) (by rw [q9w]; omega) s2 gm gw (fun e => ⟨_, LSm_fg lq1' f8, k3, fun h => by rw [hL2e h]; rfl⟩) pl10 scp ru10) pl10 ru10 gm gw
end
end
section
set_option maxRecDepth 100000
section
variable {N PR p q r : Nat} {m w u : MS} {L : List Int} {x : Int} {v2 : Int64} {v7 t1 t2 : Int32}
theorem ls_len (nd : L.Nodup) (h : ∀ z, z ∈ L → 0 ≤ z ∧ z < ((PR : Nat) : Int)) (hq : q < PR) (hn : ((q : Nat) : Int) ∉ L) : L.length + 1 ≤ PR := by
  refine pigU (V := PR) (U := L.length + 1) (r := fun c e => (L ++ [((q : Nat) : Int)])[c]? = some ((e : Nat) : Int)) (fun c hc => ?_) (fun c c2 e hc hc2 h1 h2 => ?_)
  · by_cases e : c < L.length
    · have := h L[c] (List.getElem_mem e)
      refine ⟨L[c].toNat, by omega, ?_⟩
      rw [List.getElem?_append_left e, List.getElem?_eq_getElem e]
      congr 1
      omega
    · have : c = L.length := by omega
      subst this
      exact ⟨q, hq, by simp⟩
  · have nd2 : (L ++ [((q : Nat) : Int)]).Nodup := by
      rw [List.nodup_append]
      refine ⟨nd, by simp, fun a ha b hb => ?_⟩
      simp at hb
      subst hb
      exact fun c => hn (c ▸ ha)
    have l1 : c < (L ++ [((q : Nat) : Int)]).length := by simp; omega
    have l2 : c2 < (L ++ [((q : Nat) : Int)]).length := by simp; omega
    rw [List.getElem?_eq_getElem l1] at h1
    rw [List.getElem?_eq_getElem l2] at h2
    injection h1 with h1
    injection h2 with h2
    have ne := List.pairwise_iff_getElem.mp nd2
    rcases Nat.lt_trichotomy c c2 with g | g | g
    · exact absurd (h1.trans h2.symm) (ne c c2 l1 l2 g)
    · exact g
    · exact absurd (h2.trans h1.symm) (ne c2 c l2 l1 g)
theorem ls_app {i : Nat} {y : Int} (h : (L ++ [x])[i]? = some y) : (i < L.length ∧ L[i]? = some y) ∨ (i = L.length ∧ y = x) := by
  rcases Nat.lt_trichotomy i L.length with c | c | c
  · rw [List.getElem?_append_left c] at h
    exact Or.inl ⟨c, h⟩
  · subst c
    simp at h
    exact Or.inr ⟨rfl, h.symm⟩
  · rw [List.getElem?_eq_none (by simp; omega)] at h
    cases h
theorem add_m (s : LSm m p L) (hL : L.length < 24) (hx : RG x) : ∃ m2, hm_Pr_addLink N m p (I x) = some (m2, ()) ∧ LSm m2 p (L ++ [x]) ∧ FR [pq p 15] [] [pq p 14] [] m m2 := by
  refine ⟨wi (wa m (pq p 14) L.length x) (pq p 15) ((L.length + 1 : Nat) : Int), ?_, ⟨?_, by simp; omega, fun i y h => ?_⟩, FR.wi (FR.wa FR.rf (by simp)) (by simp)⟩
  · unfold hm_Pr_addLink hb_Pr_addLink_0 hb_Pr_addLink_29
    rw [I_F' s.1, show decide (24 ≤ I ((L.length : Nat) : Int)) = false from by
      rw [show (24 : Int32) = I 24 from rfl]
      exact decide_eq_false (by rw [I_le (by omega) (by omega) (by omega) (by omega)]; omega), br_fq, (I_inb (by omega) (by omega)).mpr ⟨by omega, by omega⟩, ck_t, tnI (n := L.length) rfl (by omega), wa_e, lt_e]
    have e : F (wa m (pq p 14) L.length x) (pq p 15) = ((L.length : Nat) : Int) := s.1
    rw [I_F' e, show I ((L.length : Nat) : Int) + 1 = I ((L.length + 1 : Nat) : Int) from addN, wi_e, lt_e]
  · rw [wi_sm (by omega) (by omega)]
    simp
  · rcases ls_app h with ⟨h1, h2⟩ | ⟨rfl, rfl⟩
    · show A (wa m (pq p 14) L.length x) (pq p 14) i = y
      rw [wa_ne (by omega)]
      exact s.2.2 i y h2
    · show A (wa m (pq p 14) L.length y) (pq p 14) L.length = y
      exact wa_sm hx.1 hx.2
theorem add_w (s : LSw w p L) (hL : L.length < 24) (hx : RG x) : LSw (wa (wa w 116 (24 * p + L.length) x) 117 p ((L.length + 1 : Nat) : Int)) p (L ++ [x]) ∧ LFw p w (wa (wa w 116 (24 * p + L.length) x) 117 p ((L.length + 1 : Nat) : Int)) := by
  refine ⟨⟨?_, by simp; omega, fun i y h => ?_⟩, FR.wa (FR.wa FR.rf (by simp)) (by simp), fun i hi => ?_, fun i hi => ?_⟩
  · rw [wa_sm (by omega) (by omega)]
    simp
  · rw [wa_rne (by omega)]
    rcases ls_app h with ⟨h1, h2⟩ | ⟨rfl, rfl⟩
    · rw [wa_ne (by omega)]
      exact s.2.2 i y h2
    · exact wa_sm hx.1 hx.2
  · rw [wa_ne hi, wa_rne (by omega)]
  · rw [wa_rne (by omega), wa_ne (by omega)]
theorem isl_lp (hp1 : p < 24) (h133 : F w 133 = ((p : Nat) : Int)) (hx : RG x) (s : LSw w p L) : ∀ (M : Nat) (L1 L2 : List Int), L = L1 ++ L2 → x ∉ L1 → PK (fun w2 r => w2 = w ∧ ((r = 1 ∧ x ∈ L) ∨ (r = 0 ∧ x ∉ L))) (gg_M_isLinked N M w (I x) (I ((L1.length : Nat) : Int))) := by
  intro M
  induction M with
  | zero => intro L1 L2 _ _; exact pk_none
  | succ M ih =>
    intro L1 L2 e hn
    have hl := s.2.1
    have hl1 : L1.length ≤ L.length := by rw [e]; simp
    show PK _ (fb_M_isLinked_2 N (gg_M_isLinked N M) w (I x) (I ((L1.length : Nat) : Int)))
    unfold fb_M_isLinked_2
    refine pk_ck (fun _ => ?_)
    rw [I_F' h133, tnI (n := p) rfl (by omega), I_A' s.1]
    cases L2 with
    | nil =>
      have e2 : L = L1 := by rw [e]; simp
      subst e2
      rw [show decide (I ((L.length : Nat) : Int) ≤ I ((L.length : Nat) : Int)) = true from decide_eq_true (Int32.le_refl _), br_tq]
      exact pk_ck (fun _ => pk_some ⟨rfl, Or.inr ⟨rfl, hn⟩⟩)
    | cons z L3 =>
      have hl2 : L1.length < L.length := by rw [e]; simp
      have gz : L[L1.length]? = some z := by rw [e]; exact mid_get
      have hz := s.2.2 L1.length z gz
      rw [show decide (I ((L.length : Nat) : Int) ≤ I ((L1.length : Nat) : Int)) = false from decide_eq_false (by rw [I_le (by omega) (by omega) (by omega) (by omega)]; omega), br_fq]
      refine pk_ck (fun _ => ?_)
      have e24 : 24 * I ((p : Nat) : Int) + I ((L1.length : Nat) : Int) = I ((24 * p + L1.length : Nat) : Int) := by
        rw [show (24 : Int32) = I 24 from rfl, I_mul, I_add]
        congr 1
      rw [e24, tnI (n := 24 * p + L1.length) rfl (by omega), I_A' hz]
      have zr := A_r w 116 (24 * p + L1.length)
      rw [hz] at zr
      rw [decE zr.1 zr.2 hx.1 hx.2]
      by_cases c : z = x
      · rw [decide_eq_true c, br_tq]
        refine pk_ck (fun _ => pk_some ⟨rfl, Or.inl ⟨rfl, ?_⟩⟩)
        rw [e, ← c]
        simp
      · rw [decide_eq_false c, br_fq, show I ((L1.length : Nat) : Int) + 1 = I (((L1 ++ [z]).length : Nat) : Int) from by simp; exact addN]
        exact ih (L1 ++ [z]) L3 (by rw [e]; simp) (by simp; exact ⟨hn, fun h => c h.symm⟩)
theorem isl_r (hp1 : p < 24) (h133 : F w 133 = ((p : Nat) : Int)) (hx : RG x) (s : LSw w p L) : PK (fun w2 r => w2 = w ∧ ((r = 1 ∧ x ∈ L) ∨ (r = 0 ∧ x ∉ L))) (fm_M_isLinked N w (I x)) := by
  unfold fm_M_isLinked fb_M_isLinked_0
  exact isl_lp (N := N) hp1 h133 hx s N [] L rfl (by simp)
theorem tw95_2 : hb_Ma_toward_95 N () u p (I 2) 1 (some q) = br (decide ((u.1 (pq q 9)) = 3)) (bnd (hm_Wl_signal N u (Int32.ofNat q) p (mk 1 3) none) (fun u29 _ => hb_Ma_toward_335 N () u29 p 1 (mk 1 0))) (br (decide ((some q) = (some p))) (hb_Ma_toward_335 N () u p 1 (mk 1 0)) (bnd (hm_Pr_seekLink N u p (Int32.ofNat q)) (fun u12 r12 => br (decide (r12 = (-1))) (bnd (hm_Pr_addLink N u12 p (Int32.ofNat q)) (fun u17 _ => bnd (hm_Pr_addLink N u17 q (Int32.ofNat p)) (fun u22 _ => hb_Ma_toward_335 N () u22 p 1 (mk 1 0)))) (hb_Ma_toward_335 N () u12 p 1 (mk 1 0))))) := rfl
def adR (w : MS) (K : MS → Option (MS × Unit)) (a : MS → Int32) (c : Int32) : Option (MS × Unit) := ck (inb (a w) (ln 117)) (ck (inb ((24 * (a w)) + (w.2.2.1 117 (a w).toNatClampNeg)) (ln 116)) (lt (upA w 116 (upd (w.2.2.1 116) ((24 * (a w)) + (w.2.2.1 117 (a w).toNatClampNeg)).toNatClampNeg c)) (fun w7 => ck (inb (a w7) (ln 117)) (ck (inb (a w7) (ln 117)) (lt (upA w7 117 (upd (w7.2.2.1 117) (a w7).toNatClampNeg ((w7.2.2.1 117 (a w7).toNatClampNeg) + 1))) (fun w8 => K w8))))))
theorem prr_2 : fb_M_processRun_151 N () w (I 2) v2 v7 92 t1 t2 1 = ck (isK 92 4) (ck (inb t1 (ln 92)) (lt (upA w 92 (upd (w.2.2.1 92) t1.toNatClampNeg (t2 - 1))) (fun w3 => bnd (fm_M_truth N w3 1) (fun u4 r4 => bnd (fm_M_put N u4 r4) (fun u5 _ => ck (inb v7 (ln 109)) (br (decide ((u5.2.2.1 109 v7.toNatClampNeg) = 3)) (bnd (fm_M_term N u5 1 3) (fun u11 r11 => bnd (fm_M_signal N u11 (u5.1 133) v7 0 v7 r11) (fun u12 _ => some (u12, ())))) (br (decide (v7 = (u5.1 133))) (some (u5, ())) (bnd (fm_M_isLinked N u5 v7) (fun u6 r6 => br (decide (r6 = 0)) (adR u6 (fun w8 => adR w8 (fun w10 => some (w10, ())) (fun _ => v7) (w8.1 133)) (fun u => u.1 133) v7) (some (u6, ()))))))))))) := rfl
end
section
variable {α β : Type} {b : Int → Nat → Nat → Prop} {Fv Fv' : Int64 → Int64 → Prop} {P P' : Int64 → Prop} {N PR p q i j0 U B W Y l j a n : Nat} {m w w1 m2 w2 w3 : MS} {nb : Nat → Nat} {Hs Os : Nat → List Nat} {y : Option (Nat × Nat × Nat)} {Q : MS → α → MS → β → Prop} {K1 : MS → Option (MS × α)} {K2 : MS → Option (MS × β)} {L : List Int} {r : Nat} {z : Option (MS × α)} {x : Int}
theorem adR_e {K : MS → Option (MS × Unit)} {KK : MS → Unit → Option (MS × β)} {g : MS → Int32} (hr : r < 24) (s : LSw w r L) (hL : L.length < 24) (hg : ∀ u : MS, u.1 = w.1 → g u = I ((r : Nat) : Int)) (h : PP Q z (bnd (K (wa (wa w 116 (24 * r + L.length) x) 117 r ((L.length + 1 : Nat) : Int))) KK)) : PP Q z (bnd (adR w K g (I x)) KK) := by
  unfold adR
  refine rb_ck (fun _ => rb_ck (fun _ => ?_))
  have e24 : 24 * I ((r : Nat) : Int) + I ((L.length : Nat) : Int) = I ((24 * r + L.length : Nat) : Int) := by
    rw [show (24 : Int32) = I 24 from rfl, I_mul, I_add]
    congr 1
  rw [hg w rfl, tnI (n := r) rfl (by omega), I_A' s.1, e24, tnI (n := 24 * r + L.length) rfl (by omega), wa_e, lt_e]
  refine rb_ck (fun _ => rb_ck (fun _ => ?_))
  have e7 : A (wa w 116 (24 * r + L.length) x) 117 r = ((L.length : Nat) : Int) := by rw [wa_rne (by omega)]; exact s.1
  rw [hg (wa w 116 (24 * r + L.length) x) rfl, tnI (n := r) rfl (by omega), I_A' e7, show I ((L.length : Nat) : Int) + 1 = I ((L.length + 1 : Nat) : Int) from addN, wa_e, lt_e]
  exact h
theorem lnk_ans {KK : MS → Unit → Option (MS × β)} (hp1 : p < 24) (f12 : FR [pq p 15, pq q 15] [] [pq p 14, pq q 14] [] m m2) (ru : RUs m w p j nb Hs Os y a n) (hW : W + 1 ≤ 46000) (hl : F m (pq p 45) = ((l : Nat) : Int)) (hl2 : W + 1 ≤ l ∧ l ≤ 1000000) (pl : PLs b p m w1 U B (W + 1) Y) (g1 : FGw p j w w1) (h98 : A w1 98 (60 * p + j) = ((n + 1 : Nat) : Int)) (cr : ∃ f, CRs (A m 23) (ROs w) (w.2.2.2 34) f y (a + 2) (n + 1) (Hs j) (Os j))
    (c : ∀ m8 w8, PLs b p m8 w8 U B (W + 1) Y → RUs m8 w8 p j nb Hs Os y (a + 2) (n + 1) → FGm p m2 m8 → FGw p j w w8 → F w8 133 = ((p : Nat) : Int) → PP Q (K1 m8) (KK w8 ())) : PP Q (bnd (hb_Ma_toward_335 N () m2 p 1 (mk 1 0)) (fun u _ => K1 u)) (bnd (fm_M_put N (wa w1 92 p ((W : Nat) : Int)) (mk 1 0)) KK) := by
  obtain ⟨⟨fa, -⟩, ⟨r2, -⟩, -⟩ := id ru
  have cb2 : a + 2 + 1 < 24000 := by
    obtain ⟨f9, cr9⟩ := cr
    exact (CR_b cr9).1
  have ru2 : RUs m2 w p j nb Hs Os y a n := RUs_st ru (lk_n f12) EQw.rf.v (lk_pgm f12)
  have pl2 := lk_plm pl f12
  have pd := PLs_drop (k := 1) (W := W) pl2 (by omega)
  have g3 : FGw p j w (wa w1 92 p ((W : Nat) : Int)) := FGw.tr g1 FGw.w92
  have h983 : A (wa w1 92 p ((W : Nat) : Int)) 98 (60 * p + j) = ((n + 1 : Nat) : Int) := by rw [wa_rne (by omega)]; exact h98
  have e45 : F m2 (pq p 45) = ((l : Nat) : Int) := by
    rw [← hl]
    exact congrArg Int32.toInt ((lk_n (r := p) f12).1 45 (by omega) (by simp))
  have e05 : F m2 1105 = ((a : Nat) : Int) := by
    rw [FR.F f12 (by simp [pq_n])]
    exact r2
  have cr2 : ∃ f, CRs (A m2 23) (ROs w) (w.2.2.2 34) f y (a + 2) (n + 1) (Hs j) (Os j) := by
    rw [show A m2 23 = A m 23 from by funext k; show (m2.2.2.1 23 k).toInt = _; rw [f12.2.2.1 23 (by simp [pq_n])]; rfl]
    exact cr
  unfold hb_Ma_toward_335 hm_Ma_answer hb_Ma_answer_0
  rw [show (1 : Int32) = I 1 from rfl, drop_e (W := W + 1) (k := 1) (x := 1) pl2.2.2.1.1 rfl (by omega), bnd_so, Nat.add_sub_cancel]
  simp only [bb_e, bnd_so]
  exact pre_pt (K2 := fun u => KK u ()) (l := l) hp1 ru2 (by omega) ⟨by omega, hl2.2⟩ (lit_b (b := b) (v := 1) (Or.inr (Or.inl rfl)) (z := 0) (fun h => by omega) ⟨by omega, by omega⟩) FGm.drop g3 pd (by rw [wi_ne (pq_inj (by omega))]; exact e45) h983 (by rw [wi_ne (pq_n (by omega))]; exact e05) (by omega) cr2 c
theorem op_link (hpp : p < PR) (hq : q < PR) (al : F m (pq q 9) ≠ 3) (wl : WLs (RRp p) PR Fv P Fv' P' none i j0 m w) (ru : RUs m w p j nb Hs Os y a n) (sc : SCs p m w) (hW : W + 1 ≤ 46000) (hl : F m (pq p 45) = ((l : Nat) : Int)) (hl2 : W + 1 ≤ l ∧ l ≤ 1000000) (pl : PLs b p m w1 U B (W + 1) Y) (g1 : FGw p j w w1) (h98 : A w1 98 (60 * p + j) = ((n + 1 : Nat) : Int)) (cr : ∃ f, CRs (A m 23) (ROs w) (w.2.2.2 34) f y (a + 2) (n + 1) (Hs j) (Os j))
    (c : ∀ m3 w3, (SFs Fv P Fv' P' PR m3 w3 → WLs (RRp p) PR Fv P Fv' P' none i j0 m3 w3) → PLs b p m3 w3 U B (W + 1) Y → RUs m3 w3 p j nb Hs Os y (a + 2) (n + 1) → GLm p q m m3 → GLw p q w w3 → PP Q (K1 m3) (K2 w3)) : PP Q (bnd (hb_Ma_toward_95 N () m p (I 2) 1 (some q)) (fun u _ => K1 u)) (bnd (fb_M_processRun_151 N () w1 (I 2) 0 (I ((q : Nat) : Int)) 92 (I ((p : Nat) : Int)) (I ((W + 1 : Nat) : Int)) 1) (fun u _ => K2 u)) := by
  obtain ⟨⟨fa, -⟩, ⟨r2, -⟩, -, ⟨q9, q9w⟩, -, -, r11, -, -⟩ := id ru
  have hj : j < 60 := fa.1.2.2
  have p24 : PR ≤ 24 := wl.1.2.1.1.1.2
  have nd := NDs_of wl
  have alw : A w 109 q ≠ 3 := by
    rcases nd.2.2 q hq with ⟨-, h, -⟩ | ⟨h, -⟩
    · exact h
    · exact absurd h al
  obtain ⟨Lp, lp1, lp2, lp3, -⟩ := WL_ls0 wl hpp
  obtain ⟨Lq, lq1, lq2, lq3, lq4⟩ := WL_ls0 wl hq
  have np := LS_nd lp2 (wl.1.2.1.2.1.1 p hpp)
  have nq := LS_nd lq2 (wl.1.2.1.2.1.1 q hq)
  have rr9 := F_r m (pq q 9)
  rw [tw95_2, prr_2, sub1, tnI (n := p) rfl (by omega), wa_e, oI, oI, I_F (w := m) (k := pq q 9), show (3 : Int32) = I 3 from rfl, decE rr9.1 rr9.2 (by omega) (by omega), decide_eq_false al, br_fq]
  refine rb_ck (fun _ => rb_ck (fun _ => ?_))
  rw [lt_e, truth1, bnd_so]
  refine r_bb ?_
  have f0 : FR [pq p 15, pq q 15] [] [pq p 14, pq q 14] [] m m := FR.rf
  have a9 : ∀ w8, FGw p j w w8 → decide (w8.2.2.1 109 q = I 3) = false := fun w8 g8 => by
    have rw9 := A_r w8 109 q
    rw [I_A (w := w8) (k := 109) (i := q), decE rw9.1 rw9.2 (by omega) (by omega), FR.A g8.1 (by simp)]
    exact decide_eq_false alw
  have dpq : decide (I ((q : Nat) : Int) = I ((p : Nat) : Int)) = decide (q = p) := by
    rw [decE (by omega) (by omega) (by omega) (by omega)]
    exact decide_eq_decide.mpr ⟨fun h => by omega, fun h => by omega⟩
  have fin : ∀ m8 w8, PLs b p m8 w8 U B (W + 1) Y → RUs m8 w8 p j nb Hs Os y (a + 2) (n + 1) → FGm p m m8 → FGw p j w w8 → PP Q (K1 m8) (K2 w8) := fun m8 w8 pl8 ru8 f8 g8 => c m8 w8 (fun s2 => WL_ownL (q := q) (WL_t wl) hpp (by rw [q9]; omega) (by rw [q9w]; omega) s2 (GLm_gg (GGm_fg f8)) (GLw_gg (GGw_fg g8 hj)) (fun e => ⟨Lq, LSm_fg lq1 f8, LSw_fg lq2 g8, lq4⟩) pl8 (SC_fg sc f8 g8) ru8) pl8 ru8 (GLm_gg (GGm_fg f8)) (GLw_gg (GGw_fg g8 hj))
  by_cases e : q = p
  · subst e
    rw [show decide ((some q : Option Nat) = some q) = true from decide_eq_true rfl, br_tq]
    refine lnk_ans (q := q) (by omega) f0 ru hW hl hl2 pl g1 h98 cr (fun m8 w8 pl8 ru8 f8 g8 x33 => ?_)
    refine rb_ck (fun _ => ?_)
    rw [tnI (n := q) rfl (by omega), a9 w8 g8, br_fq, I_F' x33, show decide (I ((q : Nat) : Int) = I ((q : Nat) : Int)) = true from decide_eq_true rfl, br_tq]
    exact fin m8 w8 pl8 ru8 f8 g8
  · rw [show decide ((some q : Option Nat) = some p) = false from decide_eq_false (fun h => e (by injection h)), br_fq]
    have sk := seek_l (N := N) (x := ((q : Nat) : Int)) lp1 ⟨by omega, by omega⟩ N [] Lp rfl (by simp)
    refine lb_bnd (pk_mo (show PK _ (hm_Pr_seekLink N m p (I ((q : Nat) : Int))) from sk) (fun m4 r h => ?_))
    obtain ⟨rfl, h⟩ := h
    have mid : ∀ w8, FGw p j w w8 → F w8 133 = ((p : Nat) : Int) → PK (fun w2 r => w2 = w8 ∧ ((r = 1 ∧ ((q : Nat) : Int) ∈ Lp) ∨ (r = 0 ∧ ((q : Nat) : Int) ∉ Lp))) (fm_M_isLinked N w8 (I ((q : Nat) : Int))) := fun w8 g8 x33 => isl_r (by omega) x33 ⟨by omega, by omega⟩ (LSw_fg lp2 g8)
    rcases h with ⟨rfl, hn⟩ | ⟨L1, L2, eL, -, rfl⟩
    · have l1 := ls_len (PR := PR) np.1 (fun z hz => ⟨(np.2 z hz).1, (np.2 z hz).2.1⟩) hq hn
      have hn2 : ((p : Nat) : Int) ∉ Lq := fun h => hn (by
        have inq : inL w q p := by
          obtain ⟨k, hk, ek⟩ := List.mem_iff_getElem.mp h
          have g := lq2.2.2 k _ (List.getElem?_eq_getElem hk)
          exact ⟨k, by rw [lq2.1]; omega, by rw [g, ek]⟩
        obtain ⟨k, hk, ek⟩ := wl.1.2.1.2.1.2 q p hq hpp inq
        rw [lp2.1] at hk
        have hk2 : k < Lp.length := by omega
        have g := lp2.2.2 k _ (List.getElem?_eq_getElem hk2)
        rw [← ek, g]
        exact List.getElem_mem hk2)
      have l2 := ls_len (PR := PR) nq.1 (fun z hz => ⟨(nq.2 z hz).1, (nq.2 z hz).2.1⟩) hpp hn2
      obtain ⟨m5, e5, lp5, f5⟩ := add_m (N := N) (x := ((q : Nat) : Int)) lp1 (by omega) ⟨by omega, by omega⟩
      obtain ⟨m6, e6, lq6, f6⟩ := add_m (N := N) (x := ((p : Nat) : Int)) (LSm_o lq1 (Ne.symm e) f5) (by omega) ⟨by omega, by omega⟩
      have f56 : FR [pq p 15, pq q 15] [] [pq p 14, pq q 14] [] m4 m6 := FR.tr (FR.mo f5 (by simp) (by simp) (by simp) (by simp)) (FR.mo f6 (by simp) (by simp) (by simp) (by simp))
      rw [show decide (I (-1) = -1) = true from rfl, br_tq, e5, bnd_so, e6, bnd_so]
      refine lnk_ans (q := q) (by omega) f56 ru hW hl hl2 pl g1 h98 cr (fun m8 w8 pl8 ru8 f8 g8 x33 => ?_)
      refine rb_ck (fun _ => ?_)
      rw [tnI (n := q) rfl (by omega), a9 w8 g8, br_fq, I_F' x33, dpq, decide_eq_false e, br_fq]
      refine rb_bnd (pk_mo (mid w8 g8 x33) (fun w9 r h => ?_))
      obtain ⟨rfl, ⟨-, h⟩ | ⟨rfl, -⟩⟩ := h
      · exact absurd h hn
      · rw [show decide ((0 : Int32) = 0) = true from rfl, br_tq]
        refine adR_e (r := p) (by omega) (LSw_fg lp2 g8) (by omega) (fun u hu => by rw [hu]; exact I_F' x33) ?_
        obtain ⟨s5, k5⟩ := add_w (x := ((q : Nat) : Int)) (LSw_fg lp2 g8) (by omega) ⟨by omega, by omega⟩
        generalize hwA : wa (wa w9 116 (24 * p + Lp.length) ((q : Nat) : Int)) 117 p ((Lp.length + 1 : Nat) : Int) = wA at s5 k5
        have xA : F wA 133 = ((p : Nat) : Int) := by rw [FR.F k5.1 (by simp)]; exact x33
        have lqA := LSw_o (LSw_fg lq2 g8) (Ne.symm e) k5
        rw [I_F' xA]
        refine adR_e (r := q) (by omega) lqA (by omega) (fun u hu => rfl) ?_
        obtain ⟨s6, k6⟩ := add_w (x := ((p : Nat) : Int)) lqA (by omega) ⟨by omega, by omega⟩
        generalize hwB : wa (wa wA 116 (24 * q + Lq.length) ((p : Nat) : Int)) 117 q ((Lq.length + 1 : Nat) : Int) = wB at s6 k6
        show PP Q (K1 m8) (K2 wB)
        have g89 : FR [] [] [116, 117] [] w9 wB := FR.tr k5.1 k6.1
        have pl10 := lk_plw pl8 g89
        have ru10 : RUs m8 wB p j nb Hs Os y (a + 2) (n + 1) := RUs_st ru8 EQm.rf.n (lk_v g89) (lk_pgw g89)
        have gm : GLm p q m4 m8 := GLm.tr (GLm.tr (GLm_lk (Or.inl rfl) f5) (GLm_lk (Or.inr rfl) f6)) (GLm_gg (GGm_fg f8))
        have gw : GLw p q w wB := GLw.tr (GLw.tr (GLw_gg (GGw_fg g8 hj)) (GLw_lk (Or.inl rfl) k5)) (GLw_lk (Or.inr rfl) k6)
        have em : ∀ k, k = 11 ∨ k = 12 ∨ k = 13 ∨ k = 29 → m8.1 (pq p k) = m4.1 (pq p k) := fun k hk => (f8.1 _ (by
          simp only [List.mem_cons, List.not_mem_nil, or_false]
          intro c
          rcases c with c | c | c | c | c
          · exact pq_ne2 (by omega) (by omega) (by omega) c
          · exact pq_ne2 (by omega) (by omega) (by omega) c
          · exact pq_ne2 (by omega) (by omega) (by omega) c
          · exact pq_ne2 (by omega) (by omega) (by omega) c
          · exact pq_n (by omega) c.symm)).trans (f56.1 _ (by
          simp only [List.mem_cons, List.not_mem_nil, or_false]
          intro c
          rcases c with c | c
          · exact pq_ne2 (by omega) (by omega) (by omega) c
          · exact pq_ne2 (by omega) (by omega) (by omega) c))
        have ew : ∀ K, K = 112 ∨ K = 113 ∨ K = 114 ∨ K = 115 → wB.2.2.1 K = w.2.2.1 K := fun K hK => (g89.2.2.1 K (by simp; omega)).trans (g8.1.2.2.1 K (by simp; omega))
        have scp : SCs p m8 wB := SC_of (LSm_fg (LSm_o lp5 e f6) f8) (LSw_o s5 e k6) (by rw [em 12 (by omega), ew 113 (by omega)]; exact sc.1) (by rw [em 13 (by omega), ew 114 (by omega)]; exact sc.2.1) (by rw [em 11 (by omega), ew 112 (by omega)]; exact sc.2.2.1) (by rw [em 29 (by omega), ew 115 (by omega)]; exact sc.2.2.2.2.1)
        exact c m8 wB (fun s2 => WL_ownL (WL_t wl) hpp (by rw [q9]; omega) (by rw [q9w]; omega) s2 gm gw (fun e => ⟨_, LSm_fg lq6 f8, s6, fun h => absurd h.1 al⟩) pl10 scp ru10) pl10 ru10 gm gw
    · have hin : ((q : Nat) : Int) ∈ Lp := by rw [eL]; simp
      have hl4 := lp1.2.1
      have hl5 : L1.length < Lp.length := by rw [eL]; simp
      rw [show decide (I ((L1.length : Nat) : Int) = -1) = false from by rw [show (-1 : Int32) = I (-1) from rfl, decE (by omega) (by omega) (by omega) (by omega)]; exact decide_eq_false (by omega), br_fq]
      refine lnk_ans (q := q) (by omega) f0 ru hW hl hl2 pl g1 h98 cr (fun m8 w8 pl8 ru8 f8 g8 x33 => ?_)
      refine rb_ck (fun _ => ?_)
      rw [tnI (n := q) rfl (by omega), a9 w8 g8, br_fq, I_F' x33, dpq, decide_eq_false e, br_fq]
      refine rb_bnd (pk_mo (mid w8 g8 x33) (fun w9 r h => ?_))
      obtain ⟨rfl, ⟨rfl, -⟩ | ⟨-, h⟩⟩ := h
      · rw [show decide ((1 : Int32) = 0) = false from rfl, br_fq]
        exact fin m8 w9 pl8 ru8 f8 g8
      · exact absurd hin h
end
end
section
set_option maxRecDepth 100000
def kpW (a c : Int) (y : Int × Int × Int) : Bool := !(decide (y.1 = a) && decide (y.2.2 = c))
section
variable {N : Nat} {m w w0 m2 w2 m0 : MS} {L L1 L2 : List (Int × Int × Int)} {y : Int × Int × Int} {a c : Int}
theorem unw_lp (ha : RG a) (hc : RG c) (hl : L.length ≤ 200) : ∀ (M : Nat) (L1 L2 : List (Int × Int × Int)) (m : MS), L = L1 ++ L2 → WFm m0 m → F m 950 = ((L.length : Nat) : Int) → (∀ k x, (L1.filter (kpW a c))[k]? = some x → WAm m k x) → (∀ k x, L2[k]? = some x → WAm m (L1.length + k) x) → PK (fun m2 (_ : Unit) => WSm m2 (L.filter (kpW a c)) ∧ WFm m0 m2) (hg_Wl_removeWatch N M m (I a) (I c) (I (((L1.filter (kpW a c)).length : Nat) : Int)) (I ((L1.length : Nat) : Int))) := by
  intro M
  induction M with
  | zero => intro L1 L2 m _ _ _ _ _; exact pk_none
  | succ M ih =>
    intro L1 L2 m e f h950 h1 h2
    have hf : (L1.filter (kpW a c)).length ≤ L1.length := List.length_filter_le _ _
    have hL : L.length = L1.length + L2.length := by rw [e]; simp
    show PK _ (hb_Wl_removeWatch_5 N (hg_Wl_removeWatch N M) m (I a) (I c) (I (((L1.filter (kpW a c)).length : Nat) : Int)) (I ((L1.length : Nat) : Int)))
    unfold hb_Wl_removeWatch_5 hb_Wl_removeWatch_36 hb_Wl_removeWatch_46
    rw [I_F' h950, decI (by omega) (by omega) (by omega) (by omega)]
    cases L2 with
    | nil =>
      rw [show decide (((L.length : Nat) : Int) ≤ ((L1.length : Nat) : Int)) = true from decide_eq_true (by simp at hL; omega), br_tq, wi_e, lt_e]
      refine pk_some ⟨⟨?_, ?_, fun i x hx => ?_⟩, FR.wi f (by simp)⟩
      · rw [wi_sm (by omega) (by omega), e]
        simp
      · have := List.length_filter_le (kpW a c) L
        omega
      · rw [e] at hx
        simp at hx
        exact h1 i x hx
    | cons z L3 =>
      have z0 : WAm m L1.length z := by simpa using h2 0 z (by simp)
      obtain ⟨z1, z2, z3⟩ := z0
      obtain ⟨y1, y2, y3⟩ := WAm_r (m := m) (i := L1.length) ⟨z1, z2, z3⟩
      simp at hL
      rw [show decide (((L.length : Nat) : Int) ≤ ((L1.length : Nat) : Int)) = false from decide_eq_false (by omega), br_fq, tnI (n := L1.length) rfl (by omega), I_A' z1, I_A' z3, decE y1.1 y1.2 ha.1 ha.2, decE y3.1 y3.2 hc.1 hc.2, show I ((L1.length : Nat) : Int) + 1 = I (((L1 ++ [z]).length : Nat) : Int) from by simp; exact addN]
      have on : kpW a c z = false → PK (fun m2 (_ : Unit) => WSm m2 (L.filter (kpW a c)) ∧ WFm m0 m2) (hg_Wl_removeWatch N M m (I a) (I c) (I (((L1.filter (kpW a c)).length : Nat) : Int)) (I (((L1 ++ [z]).length : Nat) : Int))) := fun hk => by
        have e2 : (L1 ++ [z]).filter (kpW a c) = L1.filter (kpW a c) := by simp [List.filter_append, List.filter_cons, hk]
        have := ih (L1 ++ [z]) L3 m (by rw [e]; simp) f h950 (by rw [e2]; exact h1) (fun k x hx => by
          have := h2 (k + 1) x (by simpa using hx)
          rw [show (L1 ++ [z]).length + k = L1.length + (k + 1) by simp; omega]
          exact this)
        rw [e2] at this
        exact this
      have kp : kpW a c z = true → PK (fun m2 (_ : Unit) => WSm m2 (L.filter (kpW a c)) ∧ WFm m0 m2) (bnd (hm_Wl_keepWatch N m (I ((L1.length : Nat) : Int)) (I (((L1.filter (kpW a c)).length : Nat) : Int))) (fun u1 _ => hg_Wl_removeWatch N M u1 (I a) (I c) (I (((L1.filter (kpW a c)).length : Nat) : Int) + 1) (I (((L1 ++ [z]).length : Nat) : Int)))) := fun hk => by
        have e2 : (L1 ++ [z]).filter (kpW a c) = L1.filter (kpW a c) ++ [z] := by simp [List.filter_append, List.filter_cons, hk]
        refine pk_bnd (pk_mo (keepW (N := N) (i := L1.length) (j := (L1.filter (kpW a c)).length) ⟨z1, z2, z3⟩ (by omega) hf) (fun m5 _ h => ?_))
        obtain ⟨f5, q5, w5, o5⟩ := h
        have := ih (L1 ++ [z]) L3 m5 (by rw [e]; simp) (FR.tr f f5) (by show (m5.1 950).toInt = _; rw [q5]; exact h950) (by
          rw [e2]
          intro k x hx
          rcases Nat.lt_trichotomy k (L1.filter (kpW a c)).length with g | g | g
          · rw [List.getElem?_append_left g] at hx
            exact o5 k x (by omega) (h1 k x hx)
          · subst g
            simp at hx
            subst hx
            exact w5
          · rw [List.getElem?_eq_none (by simp; omega)] at hx
            cases hx) (fun k x hx => by
          rw [show (L1 ++ [z]).length + k = L1.length + (k + 1) by simp; omega]
          exact o5 _ x (by omega) (h2 (k + 1) x (by simpa using hx)))
        rw [e2] at this
        rw [show I (((L1.filter (kpW a c)).length : Nat) : Int) + 1 = I (((L1.filter (kpW a c) ++ [z]).length : Nat) : Int) from by simp; exact addN]
        exact this
      refine pk_ck (fun _ => ?_)
      by_cases c1 : z.1 = a
      · rw [decide_eq_true c1, br_tq]
        refine pk_ck (fun _ => ?_)
        by_cases c2 : z.2.2 = c
        · rw [decide_eq_true c2, br_tq]
          exact on (by unfold kpW; rw [decide_eq_true c1, decide_eq_true c2]; rfl)
        · rw [decide_eq_false c2, br_fq]
          exact kp (by unfold kpW; rw [decide_eq_false c2]; simp)
      · rw [decide_eq_false c1, br_fq]
        exact kp (by unfold kpW; rw [decide_eq_false c1]; rfl)
theorem unw_m (s : WSm m L) (ha : RG a) (hc : RG c) : PK (fun m2 (_ : Unit) => WSm m2 (L.filter (kpW a c)) ∧ WFm m m2) (hm_Wl_removeWatch N m (I a) (I c)) := by
  unfold hm_Wl_removeWatch hb_Wl_removeWatch_0
  exact unw_lp (N := N) ha hc s.2.1 N [] L m rfl FR.rf s.1 (fun k x hx => by simp at hx) (fun k x hx => by simpa using s.2.2 k x hx)
end
section
variable {α β : Type} {N p : Nat} {w w0 : MS} {Q : MS → α → MS → β → Prop} {z : Option (MS × α)} {KK : MS → Unit → Option (MS × β)} {t : Int64}
theorem unww_lp (hp1 : p < 24) (h33 : F w0 133 = ((p : Nat) : Int)) : ∀ (M : Nat) (L1 L2 : List (Int × Int × Int)) (w : MS), WFw w0 w → WSw w (L1 ++ L2) → (∀ w2, WSw w2 (L1 ++ L2.filter (kpW ((p : Nat) : Int) (va t))) → WFw w0 w2 → PP Q z (bnd (bnd (fm_M_truth N w2 1) (fun u1 r1 => bnd (fm_M_put N u1 r1) (fun u2 _ => some (u2, ())))) KK)) → PP Q z (bnd (gg_M_unwatchRun N M w t (I ((L1.length : Nat) : Int))) KK) := by
  intro M
  induction M with
  | zero => intro L1 L2 w _ _ _; exact pp_nr
  | succ M ih =>
    intro L1 L2 w f s hh
    have hl := s.2.1
    have x33 : F w 133 = ((p : Nat) : Int) := by rw [FR.F f (by simp)]; exact h33
    have vr := va_r t
    show PP Q z (bnd (fb_M_unwatchRun_22 N (gg_M_unwatchRun N M) w t (I ((L1.length : Nat) : Int))) KK)
    unfold fb_M_unwatchRun_22 fb_M_unwatchRun_64
    cases L2 with
    | nil =>
      simp at hl s
      rw [I_F' s.1, show decide (I ((L1.length : Nat) : Int) ≤ I ((L1.length : Nat) : Int)) = true from decide_eq_true (Int32.le_refl _), br_tq]
      exact hh w (by simpa using s) f
    | cons v L3 =>
      have z0 : WAw w L1.length v := s.2.2 L1.length v mid_get
      obtain ⟨z1, z2, z3⟩ := z0
      obtain ⟨y1, y2, y3⟩ := WAw_r (w := w) (i := L1.length) ⟨z1, z2, z3⟩
      have hl2 : (L1 ++ v :: L3).length = L1.length + L3.length + 1 := by simp; omega
      rw [I_F' s.1, hl2, decI (by omega) (by omega) (by omega) (by omega), show decide (((L1.length + L3.length + 1 : Nat) : Int) ≤ ((L1.length : Nat) : Int)) = false from decide_eq_false (by omega), br_fq, valueOf_e]
      refine rb_ck (fun _ => ?_)
      rw [bnd_so, tnI (n := L1.length) rfl (by omega), I_A' z3, I_A' z1, I_F' x33, decE y3.1 y3.2 vr.1 vr.2, decE y1.1 y1.2 (by omega) (by omega), show I ((L1.length : Nat) : Int) + 1 = I (((L1 ++ [v]).length : Nat) : Int) from by simp; exact addN]
      have on : kpW ((p : Nat) : Int) (va t) v = true → PP Q z (bnd (gg_M_unwatchRun N M w t (I (((L1 ++ [v]).length : Nat) : Int))) KK) := fun hk => by
        refine ih (L1 ++ [v]) L3 w f (by rw [List.append_assoc]; exact s) (fun w2 s2 f2 => hh w2 ?_ f2)
        rw [List.append_assoc] at s2
        simpa [List.filter_cons, hk] using s2
      by_cases c1 : v.2.2 = va t
      · rw [decide_eq_true c1, br_tq]
        refine rb_ck (fun _ => ?_)
        by_cases c2 : v.1 = ((p : Nat) : Int)
        · rw [decide_eq_true c2, br_tq]
          have hk : kpW ((p : Nat) : Int) (va t) v = false := by unfold kpW; rw [decide_eq_true c1, decide_eq_true c2]; rfl
          refine rb_bnd (pk_mo (rmw_w (N := N) s) (fun w5 _ h5 => ?_))
          refine ih L1 L3 w5 (FR.tr f h5.2) h5.1 (fun w2 s2 f2 => hh w2 ?_ f2)
          simpa [List.filter_cons, hk] using s2
        · rw [decide_eq_false c2, br_fq]
          exact on (by unfold kpW; rw [decide_eq_false c2]; rfl)
      · rw [decide_eq_false c1, br_fq]
        exact on (by unfold kpW; rw [decide_eq_false c1]; simp)
end
section
variable {b : Int → Nat → Nat → Prop} {Fv Fv' : Int64 → Int64 → Prop} {P P' : Int64 → Prop} {N PR r p i j0 j U B W Y a n : Nat} {m w m1 w1 m2 w2 wA wC : MS} {cur : Option Nat} {RR : Nat → MS → MS → Prop} {nb : Nat → Nat} {Hs Os : Nat → List Nat} {y : Option (Nat × Nat × Nat)} {Lw : List (Int × Int × Int)}
theorem tab_sw (g : FGw p j w wA) (f : WFw wA wC) : ∃ wB, WFw w wB ∧ FGw p j wB wC ∧ ∀ L, WSw wC L → WSw wB L := by
  obtain ⟨⟨g1, g2, g3, g4⟩, g5, g6, g7⟩ := g
  refine ⟨⟨fun k => if k = 125 then wC.1 125 else w.1 k, w.2.1, fun K => if K = 122 ∨ K = 123 ∨ K = 124 then wC.2.2.1 K else w.2.2.1 K, w.2.2.2⟩, ⟨fun k hk => if_neg (by simpa using hk), fun _ _ => rfl, fun K hK => if_neg (by simpa using hK), fun _ _ => rfl⟩, ⟨⟨fun k hk => ?_, fun k hk => ?_, fun K hK => ?_, fun K hK => ?_⟩, fun k hk => ?_, fun k hk => ?_, ?_⟩, fun L s => ⟨?_, s.2.1, fun k x hx => ?_⟩⟩
  · show wC.1 k = if k = 125 then wC.1 125 else w.1 k
    by_cases c : k = 125
    · rw [if_pos c, c]
    · rw [if_neg c, f.1 k (by simpa using c)]
      exact g1 k hk
  · show wC.2.1 k = w.2.1 k
    rw [f.2.1 k (by simp)]
    exact g2 k hk
  · show wC.2.2.1 K = if K = 122 ∨ K = 123 ∨ K = 124 then wC.2.2.1 K else w.2.2.1 K
    by_cases c : K = 122 ∨ K = 123 ∨ K = 124
    · rw [if_pos c]
    · rw [if_neg c, f.2.2.1 K (by simpa using c)]
      exact g3 K hK
  · show wC.2.2.2 K = w.2.2.2 K
    rw [f.2.2.2 K (by simp)]
    exact g4 K hK
  · have e : ∀ K, K ≠ 122 → K ≠ 123 → K ≠ 124 → wC.2.2.1 K = wA.2.2.1 K := fun K a b c => f.2.2.1 K (by simp; omega)
    show (wC.2.2.1 89 k).toInt = (w.2.2.1 89 k).toInt ∧ wC.2.2.1 90 k = w.2.2.1 90 k ∧ (wC.2.2.1 92 k).toInt = (w.2.2.1 92 k).toInt
    rw [e 89 (by omega) (by omega) (by omega), e 90 (by omega) (by omega) (by omega), e 92 (by omega) (by omega) (by omega)]
    exact g5 k hk
  · show (wC.2.2.1 98 k).toInt = (w.2.2.1 98 k).toInt
    rw [f.2.2.1 98 (by simp)]
    exact g6 k hk
  · have e : wC.2.2.2 = wA.2.2.2 := funext fun K => f.2.2.2 K (by simp)
    show (∀ i, _ → wC.2.2.2 88 i = _) ∧ _
    rw [e]
    exact g7
  · show (wC.1 125).toInt = _
    exact s.1
  · exact s.2.2 k x hx
theorem tab_n (f : WFm m m1) : EQn r m m1 := ⟨fun k hk _ => f.1 _ (by simp; exact fun c => pq_n (by omega) c.symm), fun _ _ _ => f.2.1 _ (by simp), fun k hk _ => f.2.2.1 _ (by simp; exact ⟨fun c => pq_n (by omega) c.symm, fun c => pq_n (by omega) c.symm, fun c => pq_n (by omega) c.symm⟩), f.2.2.1 23 (by simp)⟩
theorem tab_v (f : WFw w w1) : EQv r w w1 := ⟨fun K k h _ _ => by rw [f.2.2.1 K (by simp; rcases h with ⟨h, -⟩ | ⟨h, -⟩ | ⟨h, -⟩ | ⟨h, -⟩ <;> omega)], by rw [f.2.2.2 111 (by simp)], fun K h => f.2.2.1 K (by unfold PRr at h; simp; omega), f.2.2.2 34 (by simp)⟩
theorem tab_pg (f1 : WFm m m1) (f2 : WFw w w1) : PGs m w m1 w1 := PGs_fr f1 f2 (by simp) (by simp) (by simp) (by simp) (fun k hk => by simp at hk; unfold PRr; omega) (by simp)
theorem RUs_tab (h : RUs m w p j nb Hs Os y a n) (f1 : WFm m m1) (f2 : WFw w w1) : RUs m1 w1 p j nb Hs Os y a n := RUs_st h (tab_n f1) (tab_v f2) (tab_pg f1 f2)
theorem PLs_tab (pl : PLs b r m w U B W Y) (f1 : WFm m m1) : PLs b r m1 w U B W Y := PLs_cg pl (fun k hk => f1.1 _ (by simp; exact fun c => pq_n (by omega) c.symm)) (fun i _ => by rw [f1.2.2.2 _ (by simp)]) (fun i _ => by rw [f1.2.2.2 _ (by simp)]) (fun i _ => by rw [f1.2.2.2 _ (by simp)]) (fun i _ => by rw [f1.2.2.2 _ (by simp)]) (fun _ _ => rfl) (fun _ _ => rfl) (fun _ _ => rfl) (fun _ _ => rfl) (fun _ _ => rfl)
theorem PLs_tabw (pl : PLs b r m w U B W Y) (f2 : WFw w w1) : PLs b r m w1 U B W Y := PLs_cg pl (fun _ _ => rfl) (fun _ _ => rfl) (fun _ _ => rfl) (fun _ _ => rfl) (fun _ _ => rfl) (fun k hk => by rw [f2.2.2.1 k (by simp at hk ⊢; omega)]) (fun i _ => by rw [f2.2.2.2 88 (by simp)]) (fun i _ => by rw [f2.2.2.2 93 (by simp)]) (fun i _ => by rw [f2.2.2.2 91 (by simp)]) (fun i _ => by rw [f2.2.2.2 107 (by simp)])
theorem SCs_tab (s : SCs p m w) (f1 : WFm m m1) (f2 : WFw w w1) : SCs p m1 w1 := SC_ow s (fun k _ => f1.1 _ (by simp; exact fun c => pq_n (by omega) c.symm)) (f1.2.2.1 _ (by simp; exact ⟨fun c => pq_n (by omega) c.symm, fun c => pq_n (by omega) c.symm, fun c => pq_n (by omega) c.symm⟩)) (fun K h1 h2 => f2.2.2.1 K (by simp; omega))
theorem WL_tab (W0 : WLs RR PR Fv P Fv' P' cur i j0 m w) (f1 : WFm m m1) (b1 : 0 ≤ F m1 950 ∧ F m1 950 ≤ 200) (f2 : WFw w w1) (s : WSw w1 Lw) (g : ∀ y, y ∈ Lw → GWs PR y) : WLs RR PR Fv P Fv' P' cur i j0 m1 w1 := by
  obtain ⟨⟨d, cx⟩, ⟨dw, lk, wt⟩, pb⟩ := W0.1
  have fc : FC 0 [950] [] [49, 50, 51] [] [] [] [] m m1 := FC.of f1 (by simp) (by simp) (by simp) (by simp)
  have d2 : DWc Fv P PR m1 := DWc_gl d fc (by simp) (by simp) (fun h0 => by
    have := (d.2 0 h0).1
    unfold SMQ at this ⊢
    rw [fc.Fq (by omega) (by simp), fc.Fq (by omega) (by simp), fc.Fq (by omega) (by simp), fc.Fq (by omega) (by simp)]
    exact this) (by simp) b1 (by rw [fc.Fg (by omega) (by simp)]; exact ⟨d.1.2.2.2.1.2.1, d.1.2.2.2.1.2.2⟩) (by simp)
  have lm : ∀ d, LOCm d m m1 := fun d k hk => ⟨f1.1 _ (by simp; exact fun c => pq_n (by omega) c.symm), f1.2.1 _ (by simp), f1.2.2.1 _ (by simp; exact ⟨fun c => pq_n (by omega) c.symm, fun c => pq_n (by omega) c.symm, fun c => pq_n (by omega) c.symm⟩), f1.2.2.2 _ (by simp)⟩
  have lw : ∀ d, LOCw d w w1 := fun d => ⟨fun K k h => by rw [f2.2.2.1 K (by simp; rcases h with ⟨h, -⟩ | ⟨h, -⟩ | ⟨h, -⟩ | ⟨h, -⟩ <;> omega)], fun K h => by rw [f2.2.2.1 K (by simp; omega)], fun k _ _ => by rw [f2.2.2.1 131 (by simp)], by rw [f2.2.2.2 111 (by simp)], fun k _ _ => by rw [f2.2.2.2 88 (by simp)], fun k _ _ => by rw [f2.2.2.2 91 (by simp)], fun k _ _ => by rw [f2.2.2.2 93 (by simp)], fun k _ _ => by rw [f2.2.2.2 107 (by simp)]⟩
  exact WL_same W0 ⟨⟨d2, CTX_fr cx (f1.1 22 (by simp)) (f1.2.2.1 3 (by simp))⟩, ⟨DW_fr dw f2 (by simp) (by simp) (by simp) (by simp) (by simp) (by simp) (by simp) (by simp) (by simp) (by simp) (by simp) (by simp) (by simp) (by simp) (by simp) (by simp) (by simp), LK_fr lk f2 (by simp) (by simp), GW_wt s g⟩, pb⟩ (tab_pg f1 f2) lm lw (f1.1 955 (by simp)) (f1.2.2.1 54 (by simp)) (f2.1 150 (by simp)) (fun K h => f2.2.2.1 K (by simp; omega)) (f2.2.2.2 148 (by simp))
end
end
section
set_option maxRecDepth 100000
section
variable {N p q : Nat} {u w : MS} {v2 : Int64} {v7 t1 t2 : Int32}
theorem pm5 : hm_Ma_predefined N u p (I 5) = bnd (bnd (hm_Fr_below N u p 0) (fun u11 r11 => bnd (hm_Te_tag N u11 r11) (fun u22 r22 => br (decide (r22 = 2)) (bnd (hm_Wl_removeWatch N u22 (Int32.ofNat p) (r11.toInt32)) (fun u27 _ => bnd (hm_Ma_atom N u27 0) (fun u29 r29 => bnd (hm_Ma_answer N u29 p 1 r29) (fun u30 _ => some (u30, ()))))) (bnd (hm_Ma_wrong N u22 p 11) (fun u31 _ => some (u31, ())))))) (fun u4 _ => hb_Ma_predefined_146 N () u4 p) := rfl
theorem pr5 : fm_M_predefinedRun N w (I 5) = bnd (bnd (fm_M_unwatchRun N w) (fun u32 _ => some (u32, ()))) (fun u9 _ => some (u9, ())) := rfl
theorem unr_e : fm_M_unwatchRun N w = bnd (fm_M_take N w) (fun u5 r5 => bnd (fm_M_sortOf N u5 r5) (fun u6 r6 => br (decide (r6 = 2)) (gg_M_unwatchRun N N u6 r5 0) (bnd (fr_M_error N u6 11) (fun u7 _ => some (u7, ()))))) := rfl
end
section
variable {α β : Type} {b : Int → Nat → Nat → Prop} {Fv Fv' : Int64 → Int64 → Prop} {P P' : Int64 → Prop} {N PR p q i j0 U B W Y l j a n : Nat} {m w w1 m5 wB : MS} {nb : Nat → Nat} {Hs Os : Nat → List Nat} {y : Option (Nat × Nat × Nat)} {Q : MS → α → MS → β → Prop} {K1 : MS → Option (MS × α)} {K2 : MS → Option (MS × β)}
theorem tab_cr (f1 : WFm m m5) (f2 : WFw w wB) (cr : ∃ f, CRs (A m 23) (ROs w) (w.2.2.2 34) f y (a + 2) (n + 1) (Hs j) (Os j)) : ∃ f, CRs (A m5 23) (ROs wB) (wB.2.2.2 34) f y (a + 2) (n + 1) (Hs j) (Os j) := by
  rw [show A m5 23 = A m 23 from by funext k; show (m5.2.2.1 23 k).toInt = _; rw [f1.2.2.1 23 (by simp)]; rfl, ROs_eq (w := w) (fun K h => f2.2.2.1 K (by unfold PRr at h; simp; omega)), f2.2.2.2 34 (by simp)]
  exact cr
theorem op_unwatch (hpp : p < PR) (wl : WLs (RRp p) PR Fv P Fv' P' none i j0 m w) (wt : WTs PR m w) (ru : RUs m w p j nb Hs Os y a n) (sc : SCs p m w) (hW : W + 1 ≤ 46000) (hl : F m (pq p 45) = ((l : Nat) : Int)) (hl2 : W + 1 ≤ l ∧ l ≤ 1000000) (pl : PLs b p m w1 U B (W + 1) Y) (g1 : FGw p j w w1) (h98 : A w1 98 (60 * p + j) = ((n + 1 : Nat) : Int)) (cr : ∃ f, CRs (A m 23) (ROs w) (w.2.2.2 34) f y (a + 2) (n + 1) (Hs j) (Os j))
    (c : ∀ mB wB m3 w3, (SFs Fv P Fv' P' PR m3 w3 → WLs (RRp p) PR Fv P Fv' P' none i j0 m3 w3) → WTs PR m3 w3 → PLs b p m3 w3 U B (W + 1) Y → RUs m3 w3 p j nb Hs Os y (a + 2) (n + 1) → WFm m mB → WFw w wB → FGm p mB m3 → FGw p j wB w3 → PP Q (K1 m3) (K2 w3))
    (kX : ∀ w3, PLs b p (wi m (pq p 26) ((W : Nat) : Int)) w3 U B W Y → FGw p j w w3 → (w3.2.2.2 88 = w1.2.2.2 88 ∧ w3.1 140 = w1.1 140) → PP Q (K1 (tld m 1 (-1) (mk 1 11))) (bnd (fr_M_error N w3 11) (fun u _ => K2 u))) : PP Q (bnd (hm_Ma_predefined N m p (I 5)) (fun u _ => K1 u)) (bnd (fm_M_predefinedRun N w1 (I 5)) (fun u _ => K2 u)) := by
  obtain ⟨⟨fa, -⟩, ⟨r2, -⟩, -, ⟨q9, q9w⟩, -, ⟨-, r9, -⟩, r11, -, -⟩ := id ru
  have hj : j < 60 := fa.1.2.2
  have p24 : PR ≤ 24 := wl.1.2.1.1.1.2
  have cb2 : a + 2 + 1 < 24000 := by
    obtain ⟨f9, cr9⟩ := cr
    exact (CR_b cr9).1
  obtain ⟨L, sm, sw, gw⟩ := wt
  have x33 : F w1 133 = ((p : Nat) : Int) := by rw [FR.F g1.1 (by simp)]; exact r11
  have rt := pl.2.2.1.2.2 W (by omega)
  have be : hm_Fr_below N m p 0 = some (m, m.2.2.2 (pq p 35) W) := by
    have := below_e (N := N) (x := 0) (k := 0) (W := W + 1) (l := l) pl.2.2.1.1 hl hl2.1 hl2.2 rfl (by omega)
    rw [show W + 1 - 1 - 0 = W by omega] at this
    exact this
  have pd := PLs_drop (k := 1) (W := W) pl (by omega)
  have g3 : FGw p j w (wa w1 92 p ((W : Nat) : Int)) := FGw.tr g1 FGw.w92
  have x33' : F (wa w1 92 p ((W : Nat) : Int)) 133 = ((p : Nat) : Int) := x33
  have h983 : A (wa w1 92 p ((W : Nat) : Int)) 98 (60 * p + j) = ((n + 1 : Nat) : Int) := by rw [wa_rne (by omega)]; exact h98
  have sw3 : WSw (wa w1 92 p ((W : Nat) : Int)) L := WSw_st sw (g3.1.1 125 (by simp)) (fun k hk => g3.1.2.2.1 k (by simp; omega))
  have tk := take_r (N := N) (W := W) (show p < 24 by omega) x33 pl.2.2.1.2.1 (by omega)
  rw [pm5, pr5, unr_e]
  refine l_bb (r_bb (r_bb (r_bb ?_)))
  refine r_bnd (pk_mo tk (fun w4 r e => ?_))
  obtain ⟨rfl, rfl⟩ := e
  have pdm : ∀ m5, WFm m m5 → PLs b p (wi m5 (pq p 26) ((W : Nat) : Int)) (wa w1 92 p ((W : Nat) : Int)) U B W Y := fun m5 f => PLs_drop (k := 1) (W := W) (PLs_tab pl f) (by omega)
  generalize hw3 : wa w1 92 p ((W : Nat) : Int) = w3 at pd g3 h983 sw3 x33' pdm
  generalize ht : m.2.2.2 (pq p 35) W = t at rt be
  rw [be, bnd_so, e_tag, bnd_so, sortOf_e, bnd_so, RTb_so rt, show decide (I (so t) = 2) = decide (so t = 2) from by rw [show (2 : Int32) = I 2 from rfl, decE (so_r _).1 (so_r _).2 (by omega) (by omega)]]
  by_cases e2 : so t = 2
  · have xt := RTb_n rt (by unfold isH; omega)
    have vr := va_r t
    rw [decide_eq_true e2, br_tq, br_tq, xt, valI, oI]
    refine lb_bnd (pk_mo (unw_m (N := N) (a := ((p : Nat) : Int)) (c := va t) sm ⟨by omega, by omega⟩ vr) (fun m5 _ h => ?_))
    obtain ⟨sm5, f5⟩ := h
    refine unww_lp (L1 := []) (L2 := L) (w0 := w3) (p := p) (by omega) x33' N w3 FR.rf sw3 (fun wC sC fC => ?_)
    obtain ⟨wB, fB, gB, sB⟩ := tab_sw g3 fC
    rw [show hm_Ma_atom N m5 0 = some (m5, mk 1 0) from rfl, bnd_so, truth1, bnd_so]
    unfold hm_Ma_answer hb_Ma_answer_0
    have pl5 := pdm m5 f5
    have e26 : F m5 (pq p 26) = ((W + 1 : Nat) : Int) := by
      rw [← pl.2.2.1.1]
      exact congrArg Int32.toInt ((tab_n (r := p) f5).1 26 (by omega) (by simp))
    have e45 : F m5 (pq p 45) = ((l : Nat) : Int) := by
      rw [← hl]
      exact congrArg Int32.toInt ((tab_n (r := p) f5).1 45 (by omega) (by simp))
    rw [show (1 : Int32) = I 1 from rfl, drop_e (W := W + 1) (k := 1) (x := 1) e26 rfl (by omega), bnd_so, Nat.add_sub_cancel]
    simp only [bb_e, bnd_so]
    refine pre_pp (l := l) (by omega) (RUs_tab ru f5 fB) (by omega) ⟨by omega, hl2.2⟩ (lit_b (b := b) (v := 1) (Or.inr (Or.inl rfl)) (z := 0) (fun h => by omega) ⟨by omega, by omega⟩) FGm.drop gB (PLs_tabw pl5 fC) (by rw [wi_ne (pq_inj (by omega))]; exact e45) (by rw [FR.A fC (by simp)]; exact h983) (by rw [wi_ne (pq_n (by omega)), FR.F f5 (by simp)]; exact r2) (by omega) (tab_cr f5 fB cr) (fun m8 w8 pl8 ru8 f8 g8 => ?_)
    have gL : ∀ y, y ∈ L.filter (kpW ((p : Nat) : Int) (va t)) → GWs PR y := fun y hy => gw y (List.mem_filter.mp hy).1
    have sB' : WSw wB (L.filter (kpW ((p : Nat) : Int) (va t))) := sB _ (by simpa using sC)
    have b1 : 0 ≤ F m5 950 ∧ F m5 950 ≤ 200 := by
      have := sm5.1
      have := sm5.2.1
      omega
    refine c m5 wB m8 w8 (fun s2 => WL_own (WL_t (WL_tab wl f5 b1 fB sB' gL)) hpp ?_ ?_ s2 (GGm_fg f8) (GGw_fg g8 hj) pl8 (SC_fg (SCs_tab sc f5 fB) f8 g8) ru8) (WTs_st ⟨_, sm5, sB', gL⟩ (f8.1 950 (by simp; unfold pq; omega)) (fun k _ => f8.2.2.1 k (by simp)) (g8.1.1 125 (by simp)) (fun k hk => g8.1.2.2.1 k (by simp; omega))) pl8 ru8 f5 fB f8 g8
    · rw [FR.F f5 (by simp; exact fun c => pq_n (by omega) c.symm), q9]
      omega
    · rw [FR.A fB (by simp), q9w]
      omega
  · rw [decide_eq_false e2, br_fq, br_fq]
    simp only [bb_e, bnd_so]
    rw [wrong_e9, bnd_so, pre_tl ⟨by omega, by omega⟩ (by omega), bnd_so]
    exact kX w3 pd g3 ⟨by rw [← hw3]; rfl, by rw [← hw3]; rfl⟩
end
end
section
set_option maxRecDepth 100000
section
variable {N p q : Nat} {u w : MS} {v2 t : Int64} {v7 t1 t2 : Int32}
theorem tw4 : hm_Ma_toward N u p (I 4) = bnd (hm_Ma_processAt N u p 0) (fun u65 r65 => br (decide (r65 = none)) (bnd (hm_Ma_wrong N u65 p 11) (fun u61 _ => some (u61, ()))) (br (decide ((u65.1 950) < 200)) (hb_Ma_toward_95 N () u65 p (I 4) 1 r65) (bnd (hm_Ma_wrong N u65 p 11) (fun u61 _ => some (u61, ()))))) := rfl
theorem prd4 : fm_M_predefinedRun N w (I 4) = bnd (fm_M_processRun N w (I 4)) (fun u6 _ => some (u6, ())) := rfl
theorem prs4 : fm_M_processRun N w (I 4) = bnd (fm_M_top N w 0) (fun u29 r29 => fb_M_processRun_45 N () u29 (I 4) 0 r29) := rfl
theorem prt4 : fb_M_processRun_45 N () w (I 4) 0 t = bnd (fm_M_sortOf N w t) (fun u28 r28 => br (decide (r28 = 4)) (br (decide ((u28.1 125) = 200)) (bnd (fr_M_error N u28 11) (fun u26 _ => some (u26, ()))) (bnd (fm_M_valueOf N u28 t) (fun u25 r25 => ck (inb (u25.1 133) (ln 92)) (fb_M_processRun_151 N () u25 (I 4) 0 r25 92 (u25.1 133) (u25.2.2.1 92 (u25.1 133).toNatClampNeg) 1)))) (bnd (fr_M_error N u28 11) (fun u26 _ => some (u26, ())))) := by
  have d1 : decide ((1 : Int32) = 0) = false := by decide
  have d3 : decide (I 4 = 4) = true := by decide
  have d4 : decide (I 4 = 8) = false := by decide
  have bt : ∀ (p q : Option (MS × Unit)), br true p q = p := fun p q => by rw [br_tq]
  have bf : ∀ (p q : Option (MS × Unit)), br false p q = q := fun p q => by rw [br_fq]
  unfold fb_M_processRun_45 fb_M_processRun_61 fb_M_processRun_83 fb_M_processRun_104 fb_M_processRun_108 fb_M_processRun_109
  have d5 : decide True = true := rfl
  simp only [d1, d3, d4, d5, bt, bf]
theorem tw95_4 : hb_Ma_toward_95 N () u p (I 4) 1 (some q) = bnd (hm_Ma_watch N u p q) (fun u41 r41 => hb_Ma_toward_335 N () u41 p 1 r41) := rfl
theorem wat_e : hm_Ma_watch N u p q = lt (upI u 945 ((u.1 945) + 1)) (fun w8 => br (decide ((w8.1 (pq q 9)) = 3)) (bnd (hm_Ma_atom N w8 3) (fun u24 r24 => bnd (hm_Wl_post N u24 p 5 (Int32.ofNat q) (u.1 945) r24 none) (fun u25 _ => bnd (hm_Te_make N u25 2 (u.1 945)) (fun u1 r1 => some (u1, r1))))) (br (decide ((some q) = (some p))) (bnd (hm_Te_make N w8 2 (u.1 945)) (fun u1 r1 => some (u1, r1))) (bnd (hm_Wl_addWatch N w8 (Int32.ofNat p) (Int32.ofNat q) (u.1 945)) (fun u18 _ => bnd (hm_Te_make N u18 2 (u.1 945)) (fun u1 r1 => some (u1, r1)))))) := rfl
def awR (u18 : MS) (c v7 : Int32) : Option (MS × Unit) := ck (inb (u18.1 125) (ln 122)) (lt (upA u18 122 (upd (u18.2.2.1 122) (u18.1 125).toNatClampNeg c)) (fun w19 => ck (inb (w19.1 125) (ln 123)) (lt (upA w19 123 (upd (w19.2.2.1 123) (w19.1 125).toNatClampNeg (w19.1 133))) (fun w20 => ck (inb (w20.1 125) (ln 124)) (lt (upA w20 124 (upd (w20.2.2.1 124) (w20.1 125).toNatClampNeg v7)) (fun w21 => lt (upI w21 125 ((w21.1 125) + 1)) (fun w22 => some (w22, ()))))))))
theorem prr_4 : fb_M_processRun_151 N () w (I 4) v2 v7 92 t1 t2 1 = ck (isK 92 4) (ck (inb t1 (ln 92)) (lt (upA w 92 (upd (w.2.2.1 92) t1.toNatClampNeg (t2 - 1))) (fun w3 => lt (upI w3 121 ((w3.1 121) + 1)) (fun w16 => bnd (fm_M_term N w16 2 (w3.1 121)) (fun u17 r17 => bnd (fm_M_put N u17 r17) (fun u18 _ => ck (inb v7 (ln 109)) (br (decide ((u18.2.2.1 109 v7.toNatClampNeg) = 3)) (bnd (fm_M_term N u18 1 3) (fun u23 r23 => bnd (fm_M_message N u23 (u18.1 133) 1 (w3.1 121) v7 0 v7 r23) (fun u24 _ => some (u24, ())))) (br (decide (v7 = (u18.1 133))) (some (u18, ())) (awR u18 (w3.1 121) v7))))))))) := rfl
end
section
variable {b : Int → Nat → Nat → Prop} {Fv Fv' : Int64 → Int64 → Prop} {P P' : Int64 → Prop} {N PR p q i j0 : Nat} {m w : MS} {cur : Option Nat} {RR : Nat → MS → MS → Prop} {L : List (Int × Int × Int)} {c x1 x2 : Int}
theorem la_app {γ : Type} {L : List γ} {x y : γ} {i : Nat} (h : (L ++ [x])[i]? = some y) : (i < L.length ∧ L[i]? = some y) ∨ (i = L.length ∧ y = x) := by
  rcases Nat.lt_trichotomy i L.length with c | c | c
  · rw [List.getElem?_append_left c] at h
    exact Or.inl ⟨c, h⟩
  · subst c
    simp at h
    exact Or.inr ⟨rfl, h.symm⟩
  · rw [List.getElem?_eq_none (by simp; omega)] at h
    cases h
theorem aw_m (s : WSm m L) (hL : L.length < 200) (hp : p < 1000) (hq : q < 1000) (hc : RG c) : ∃ m2, hm_Wl_addWatch N m (I ((p : Nat) : Int)) (I ((q : Nat) : Int)) (I c) = some (m2, ()) ∧ WSm m2 (L ++ [(((p : Nat) : Int), ((q : Nat) : Int), c)]) ∧ WFm m m2 := by
  refine ⟨wi (wa (wa (wa m 49 L.length ((p : Nat) : Int)) 50 L.length ((q : Nat) : Int)) 51 L.length c) 950 ((L.length + 1 : Nat) : Int), ?_, ⟨?_, by simp; omega, fun i y h => ?_⟩, FR.wi (FR.wa (FR.wa (FR.wa FR.rf (by simp)) (by simp)) (by simp)) (by simp)⟩
  · unfold hm_Wl_addWatch hb_Wl_addWatch_0 hb_Wl_addWatch_50
    have e1 : F (wa m 49 L.length ((p : Nat) : Int)) 950 = ((L.length : Nat) : Int) := s.1
    have e2 : F (wa (wa m 49 L.length ((p : Nat) : Int)) 50 L.length ((q : Nat) : Int)) 950 = ((L.length : Nat) : Int) := s.1
    have e3 : F (wa (wa (wa m 49 L.length ((p : Nat) : Int)) 50 L.length ((q : Nat) : Int)) 51 L.length c) 950 = ((L.length : Nat) : Int) := s.1
    have ib : inb (I ((L.length : Nat) : Int)) 200 = true := (I_inb (by omega) (by omega)).mpr ⟨by omega, by omega⟩
    rw [I_F' s.1, show decide (200 ≤ I ((L.length : Nat) : Int)) = false from by
      rw [show (200 : Int32) = I 200 from rfl]
      exact decide_eq_false (by rw [I_le (by omega) (by omega) (by omega) (by omega)]; omega), br_fq, ib, ck_t, tnI (n := L.length) rfl (by omega), wa_e, lt_e, I_F' e1, ib, ck_t, tnI (n := L.length) rfl (by omega), wa_e, lt_e, I_F' e2, ib, ck_t, tnI (n := L.length) rfl (by omega), wa_e, lt_e, I_F' e3, show I ((L.length : Nat) : Int) + 1 = I ((L.length + 1 : Nat) : Int) from addN, wi_e, lt_e]
  · rw [wi_sm (by omega) (by omega)]
    simp
  · show A (wa (wa (wa m 49 L.length ((p : Nat) : Int)) 50 L.length ((q : Nat) : Int)) 51 L.length c) 49 i = y.1 ∧ A (wa (wa (wa m 49 L.length ((p : Nat) : Int)) 50 L.length ((q : Nat) : Int)) 51 L.length c) 50 i = y.2.1 ∧ A (wa (wa (wa m 49 L.length ((p : Nat) : Int)) 50 L.length ((q : Nat) : Int)) 51 L.length c) 51 i = y.2.2
    rcases la_app h with ⟨h1, h2⟩ | ⟨rfl, rfl⟩
    · rw [wa_ne (by omega), wa_ne (by omega), wa_ne (by omega), wa_ne (by omega), wa_ne (by omega), wa_ne (by omega), wa_ne (by omega), wa_ne (by omega), wa_ne (by omega)]
      exact s.2.2 i y h2
    · exact ⟨by rw [wa_rne (by omega), wa_rne (by omega)]; exact wa_sm (by omega) (by omega), by rw [wa_rne (by omega)]; exact wa_sm (by omega) (by omega), wa_sm hc.1 hc.2⟩
theorem aw_w (s : WSw w L) (hL : L.length < 200) (h33 : F w 133 = ((p : Nat) : Int)) (hp : p < 1000) (hq : q < 1000) (hc : RG c) : PK (fun w2 (_ : Unit) => WSw w2 (L ++ [(((p : Nat) : Int), ((q : Nat) : Int), c)]) ∧ WFw w w2) (awR w (I c) (I ((q : Nat) : Int))) := by
  unfold awR
  have e1 : F (wa w 122 L.length c) 125 = ((L.length : Nat) : Int) := s.1
  have e1' : F (wa w 122 L.length c) 133 = ((p : Nat) : Int) := h33
  have e2 : F (wa (wa w 122 L.length c) 123 L.length ((p : Nat) : Int)) 125 = ((L.length : Nat) : Int) := s.1
  have e3 : F (wa (wa (wa w 122 L.length c) 123 L.length ((p : Nat) : Int)) 124 L.length ((q : Nat) : Int)) 125 = ((L.length : Nat) : Int) := s.1
  refine pk_ck (fun _ => ?_)
  rw [I_F' s.1, tnI (n := L.length) rfl (by omega), wa_e, lt_e]
  refine pk_ck (fun _ => ?_)
  rw [I_F' e1, I_F' e1', tnI (n := L.length) rfl (by omega), wa_e, lt_e]
  refine pk_ck (fun _ => ?_)
  rw [I_F' e2, tnI (n := L.length) rfl (by omega), wa_e, lt_e, I_F' e3, show I ((L.length : Nat) : Int) + 1 = I ((L.length + 1 : Nat) : Int) from addN, wi_e, lt_e]
  refine pk_some ⟨⟨?_, by simp; omega, fun i y h => ?_⟩, FR.wi (FR.wa (FR.wa (FR.wa FR.rf (by simp)) (by simp)) (by simp)) (by simp)⟩
  · rw [wi_sm (by omega) (by omega)]
    simp
  · show A (wa (wa (wa w 122 L.length c) 123 L.length ((p : Nat) : Int)) 124 L.length ((q : Nat) : Int)) 123 i = y.1 ∧ A (wa (wa (wa w 122 L.length c) 123 L.length ((p : Nat) : Int)) 124 L.length ((q : Nat) : Int)) 124 i = y.2.1 ∧ A (wa (wa (wa w 122 L.length c) 123 L.length ((p : Nat) : Int)) 124 L.length ((q : Nat) : Int)) 122 i = y.2.2
    rcases la_app h with ⟨h1, h2⟩ | ⟨rfl, rfl⟩
    · rw [wa_ne (by omega), wa_ne (by omega), wa_ne (by omega), wa_ne (by omega), wa_ne (by omega), wa_ne (by omega), wa_ne (by omega), wa_ne (by omega), wa_ne (by omega)]
      exact s.2.2 i y h2
    · exact ⟨by rw [wa_rne (by omega)]; exact wa_sm (by omega) (by omega), wa_sm (by omega) (by omega), by rw [wa_rne (by omega), wa_rne (by omega)]; exact wa_sm hc.1 hc.2⟩
theorem WL_gl (W0 : WLs RR PR Fv P Fv' P' cur i j0 m w) : WLs RR PR Fv P Fv' P' cur i j0 (wi m 945 x1) (wi w 121 x2) := by
  obtain ⟨⟨d, cx⟩, ⟨dw, lk, wt⟩, pb⟩ := W0.1
  have f1 : FR [945] [] [] [] m (wi m 945 x1) := FR.wi FR.rf (by simp)
  have f2 : FR [121] [] [] [] w (wi w 121 x2) := FR.wi FR.rf (by simp)
  have fc : FC 0 [945] [] [] [] [] [] [] m (wi m 945 x1) := FC.of f1 (by simp) (by simp) (by simp) (by simp)
  have d2 : DWc Fv P PR (wi m 945 x1) := DWc_gl d fc (by simp) (by simp) (fun h0 => by
    have := (d.2 0 h0).1
    unfold SMQ at this ⊢
    rw [fc.Fq (by omega) (by simp), fc.Fq (by omega) (by simp), fc.Fq (by omega) (by simp), fc.Fq (by omega) (by simp)]
    exact this) (by simp) (by rw [fc.Fg (by omega) (by simp)]; exact d.1.2.2.1) (by rw [fc.Fg (by omega) (by simp)]; exact ⟨d.1.2.2.2.1.2.1, d.1.2.2.2.1.2.2⟩) (by simp)
  have lm : ∀ d, LOCm d m (wi m 945 x1) := fun d k hk => ⟨wi_1 (fun c => pq_n (by omega) c.symm), rfl, rfl, rfl⟩
  have lw : ∀ d, LOCw d w (wi w 121 x2) := fun d => ⟨fun _ _ _ => rfl, fun _ _ => rfl, fun _ _ _ => rfl, rfl, fun _ _ _ => rfl, fun _ _ _ => rfl, fun _ _ _ => rfl, fun _ _ _ => rfl⟩
  exact WL_same W0 ⟨⟨d2, CTX_fr cx (f1.1 22 (by simp)) rfl⟩, ⟨DW_fr dw f2 (by simp) (by simp) (by simp) (by simp) (by simp) (by simp) (by simp) (by simp) (by simp) (by simp) (by simp) (by simp) (by simp) (by simp) (by simp) (by simp) (by simp), LK_fr lk f2 (by simp) (by simp), WTQ_fr wt f2 (by simp) (by simp) (by simp)⟩, pb⟩ (PGs_fr f1 f2 (by simp) (by simp) (by simp) (by simp) (by simp) (by simp)) lm lw (f1.1 955 (by simp)) rfl (f2.1 150 (by simp)) (fun _ _ => rfl) rfl
end
section
variable {α β : Type} {b : Int → Nat → Nat → Prop} {Fv Fv' : Int64 → Int64 → Prop} {P P' : Int64 → Prop} {N PR p q i j0 U B W Y l j a n : Nat} {m w w1 : MS} {nb : Nat → Nat} {Hs Os : Nat → List Nat} {y : Option (Nat × Nat × Nat)} {Q : MS → α → MS → β → Prop} {K1 : MS → Option (MS × α)} {K2 : MS → Option (MS × β)}
theorem op_watch (hpp : p < PR) (hq : q < PR) (al : F m (pq q 9) ≠ 3) (wl : WLs (RRp p) PR Fv P Fv' P' none i j0 m w) (wt : WTs PR m w) (h950 : F m 950 < 200) (hc : m.1 945 = w.1 121) (ru : RUs m w p j nb Hs Os y a n) (sc : SCs p m w) (hW : W + 1 ≤ 46000) (hl : F m (pq p 45) = ((l : Nat) : Int)) (hl2 : W + 1 ≤ l ∧ l ≤ 1000000) (pl : PLs b p m w1 U B (W + 1) Y) (g1 : FGw p j w w1) (h98 : A w1 98 (60 * p + j) = ((n + 1 : Nat) : Int)) (cr : ∃ f, CRs (A m 23) (ROs w) (w.2.2.2 34) f y (a + 2) (n + 1) (Hs j) (Os j))
    (c : ∀ mB wB m3 w3, (SFs Fv P Fv' P' PR m3 w3 → WLs (RRp p) PR Fv P Fv' P' none i j0 m3 w3) → WTs PR m3 w3 → PLs b p m3 w3 U B (W + 1) Y → RUs m3 w3 p j nb Hs Os y (a + 2) (n + 1) → WFm (wi m 945 (F m 945 + 1)) mB → WFw (wi w 121 (F m 945 + 1)) wB → FGm p mB m3 → FGw p j wB w3 → PP Q (K1 m3) (K2 w3)) : PP Q (bnd (hb_Ma_toward_95 N () m p (I 4) 1 (some q)) (fun u _ => K1 u)) (bnd (fb_M_processRun_151 N () w1 (I 4) 0 (I ((q : Nat) : Int)) 92 (I ((p : Nat) : Int)) (I ((W + 1 : Nat) : Int)) 1) (fun u _ => K2 u)) := by
  obtain ⟨⟨fa, -⟩, ⟨r2, -⟩, -, ⟨q9, q9w⟩, -, -, r11, -, -⟩ := id ru
  have hj : j < 60 := fa.1.2.2
  have p24 : PR ≤ 24 := wl.1.2.1.1.1.2
  have cb2 : a + 2 + 1 < 24000 := by
    obtain ⟨f9, cr9⟩ := cr
    exact (CR_b cr9).1
  have nd := NDs_of wl
  have alw : A w 109 q ≠ 3 := by
    rcases nd.2.2 q hq with ⟨-, h, -⟩ | ⟨h, -⟩
    · exact h
    · exact absurd h al
  obtain ⟨L, sm, sw, gL⟩ := wt
  have hL : L.length < 200 := by have := sm.1; omega
  have i1 : ∀ (u : MS) (k : Nat), u.1 k + 1 = I (F u k + 1) := fun u k => by rw [I_F (k := k), lit1q, I_add]
  have r945 := F_r m 945
  have e45 : F m 945 = F w 121 := congrArg Int32.toInt hc
  have g3 : FGw p j w (wa w1 92 p ((W : Nat) : Int)) := FGw.tr g1 FGw.w92
  have h983 : A (wa w1 92 p ((W : Nat) : Int)) 98 (60 * p + j) = ((n + 1 : Nat) : Int) := by rw [wa_rne (by omega)]; exact h98
  have x21 : (wa w1 92 p ((W : Nat) : Int)).1 121 = m.1 945 := by rw [g3.1.1 121 (by simp)]; exact hc.symm
  have f21 : F (wa w1 92 p ((W : Nat) : Int)) 121 = F m 945 := congrArg Int32.toInt x21
  have pdm : ∀ mB, WFm (wi m 945 (F m 945 + 1)) mB → PLs b p (wi mB (pq p 26) ((W : Nat) : Int)) (wi (wa w1 92 p ((W : Nat) : Int)) 121 (F m 945 + 1)) U B W Y := fun mB f => PLs_cg (PLs_drop (k := 1) (W := W) (PLs_tab (PLs_gl (x1 := F m 945 + 1) (x2 := F m 945 + 1) pl) f) (by omega)) (fun _ _ => rfl) (fun _ _ => rfl) (fun _ _ => rfl) (fun _ _ => rfl) (fun _ _ => rfl) (fun _ _ => rfl) (fun _ _ => rfl) (fun _ _ => rfl) (fun _ _ => rfl) (fun _ _ => rfl)
  have fal : decide (((wi m 945 (F m 945 + 1)).1 (pq q 9)) = I 3) = false := by
    have rr9 := F_r m (pq q 9)
    rw [wi_1 (fun c => pq_n (by omega) c.symm), I_F (w := m) (k := pq q 9), decE rr9.1 rr9.2 (by omega) (by omega)]
    exact decide_eq_false al
  rw [tw95_4, prr_4, sub1, tnI (n := p) rfl (by omega), wa_e, wat_e, i1 m 945, wi_e, lt_e, oI, oI, show (3 : Int32) = I 3 from rfl, fal, br_fq]
  refine rb_ck (fun _ => rb_ck (fun _ => ?_))
  rw [lt_e, i1 (wa w1 92 p ((W : Nat) : Int)) 121, f21, wi_e, lt_e, x21, I_F (w := m) (k := 945), show (2 : Int32) = I 2 from rfl, term_e, bnd_so]
  refine r_bb ?_
  generalize hw3 : wa w1 92 p ((W : Nat) : Int) = w3 at g3 h983 pdm
  have gA : FGw p j (wi w 121 (F m 945 + 1)) (wi w3 121 (F m 945 + 1)) := FGw_sw g3
  have rtR : RTb b (mk 2 (F m 945)) (mk 2 (F m 945)) := RTb_lit (nh_mk (by omega)) (fun c => by rw [so_mk (by omega) (by omega)] at c; omega)
  have a9 : ∀ w8, FGw p j (wi w 121 (F m 945 + 1)) w8 → decide (w8.2.2.1 109 q = I 3) = false := fun w8 g8 => by
    have rw9 := A_r w8 109 q
    rw [I_A (w := w8) (k := 109) (i := q), decE rw9.1 rw9.2 (by omega) (by omega), FR.A g8.1 (by simp)]
    exact decide_eq_false alw
  have dpq : decide (I ((q : Nat) : Int) = I ((p : Nat) : Int)) = decide (q = p) := by
    rw [decE (by omega) (by omega) (by omega) (by omega)]
    exact decide_eq_decide.mpr ⟨fun h => by omega, fun h => by omega⟩
  have fA0 : FR [] [] [] [] (wi w 121 (F m 945 + 1)) (wi w 121 (F m 945 + 1)) := FR.rf
  have ans : ∀ (mB : MS) (f : WFm (wi m 945 (F m 945 + 1)) mB) (KK : MS → Unit → Option (MS × β)), (∀ m8 w8, PLs b p m8 w8 U B (W + 1) Y → RUs m8 w8 p j nb Hs Os y (a + 2) (n + 1) → FGm p mB m8 → FGw p j (wi w 121 (F m 945 + 1)) w8 → F w8 133 = ((p : Nat) : Int) → PP Q (K1 m8) (KK w8 ())) → PP Q (bnd (hb_Ma_toward_335 N () mB p 1 (mk 2 (F m 945))) (fun u _ => K1 u)) (bnd (fm_M_put N (wi w3 121 (F m 945 + 1)) (mk 2 (F m 945))) KK) := fun mB f KK h => by
    have e26 : F mB (pq p 26) = ((W + 1 : Nat) : Int) := by
      rw [FR.F f (by simp; exact fun c => pq_n (by omega) c.symm), wi_ne (fun c => pq_n (by omega) c.symm)]
      exact pl.2.2.1.1
    have e45 : F mB (pq p 45) = ((l : Nat) : Int) := by
      rw [FR.F f (by simp; exact fun c => pq_n (by omega) c.symm), wi_ne (fun c => pq_n (by omega) c.symm)]
      exact hl
    have cr2 : ∃ f, CRs (A mB 23) (ROs (wi w 121 (F m 945 + 1))) ((wi w 121 (F m 945 + 1)).2.2.2 34) f y (a + 2) (n + 1) (Hs j) (Os j) := by
      rw [show A mB 23 = A m 23 from by funext k; show (mB.2.2.1 23 k).toInt = _; rw [f.2.2.1 23 (by simp)]; rfl]
      exact cr
    have ruB : RUs mB (wi w 121 (F m 945 + 1)) p j nb Hs Os y a n := RUs_st (RUs_gl ru) (tab_n f) EQw.rf.v (PGs_fr f fA0 (by simp) (by simp) (by simp) (by simp) (by simp) (by simp))
    unfold hb_Ma_toward_335 hm_Ma_answer hb_Ma_answer_0
    rw [show (1 : Int32) = I 1 from rfl, drop_e (W := W + 1) (k := 1) (x := 1) e26 rfl (by omega), bnd_so, Nat.add_sub_cancel]
    simp only [bb_e, bnd_so]
    exact pre_pt (K2 := fun u => KK u ()) (l := l) (by omega) ruB (by omega) ⟨by omega, hl2.2⟩ rtR FGm.drop gA (pdm mB f) (by rw [wi_ne (pq_inj (by omega))]; exact e45) h983 (by rw [wi_ne (pq_n (by omega)), FR.F f (by simp), wi_ne (by omega)]; exact r2) (by omega) cr2 h
  have fin : ∀ mB wB m8 w8 L2, WFm (wi m 945 (F m 945 + 1)) mB → WFw (wi w 121 (F m 945 + 1)) wB → WSm mB L2 → WSw wB L2 → (∀ y, y ∈ L2 → GWs PR y) → PLs b p m8 w8 U B (W + 1) Y → RUs m8 w8 p j nb Hs Os y (a + 2) (n + 1) → FGm p mB m8 → FGw p j wB w8 → PP Q (K1 m8) (K2 w8) := fun mB wB m8 w8 L2 fm fw s1 s2 gL2 pl8 ru8 f8 g8 => by
    have b1 : 0 ≤ F mB 950 ∧ F mB 950 ≤ 200 := by
      have := s1.1
      have := s1.2.1
      omega
    refine c mB wB m8 w8 (fun sf => WL_own (WL_t (WL_tab (WL_gl wl) fm b1 fw s2 gL2)) hpp ?_ ?_ sf (GGm_fg f8) (GGw_fg g8 hj) pl8 (SC_fg (SCs_tab (SCs_gl sc) fm fw) f8 g8) ru8) (WTs_st ⟨_, s1, s2, gL2⟩ (f8.1 950 (by simp; unfold pq; omega)) (fun k _ => f8.2.2.1 k (by simp)) (g8.1.1 125 (by simp)) (fun k hk => g8.1.2.2.1 k (by simp; omega))) pl8 ru8 fm fw f8 g8
    · rw [FR.F fm (by simp; exact fun c => pq_n (by omega) c.symm), wi_ne (fun c => pq_n (by omega) c.symm), q9]
      omega
    · rw [FR.A fw (by simp)]
      show A w 109 p ≠ 3
      rw [q9w]
      omega
  have smA : WSm (wi m 945 (F m 945 + 1)) L := WSm_st sm (wi_1 (by omega)) (fun _ _ => rfl)
  have swA : WSw (wi w 121 (F m 945 + 1)) L := WSw_st sw (wi_1 (by omega)) (fun _ _ => rfl)
  by_cases e : q = p
  · subst e
    rw [show decide ((some q : Option Nat) = some q) = true from decide_eq_true rfl, br_tq, e_make, bnd_so, bnd_so]
    refine ans _ FR.rf _ (fun m8 w8 pl8 ru8 f8 g8 x33 => ?_)
    refine rb_ck (fun _ => ?_)
    rw [tnI (n := q) rfl (by omega), a9 w8 g8, br_fq, I_F' x33, show decide (I ((q : Nat) : Int) = I ((q : Nat) : Int)) = true from decide_eq_true rfl, br_tq]
    exact fin _ _ m8 w8 L FR.rf FR.rf smA swA gL pl8 ru8 f8 g8
  · obtain ⟨mB, eB, sB, fB⟩ := aw_m (N := N) (p := p) (q := q) (c := F m 945) smA hL (by omega) (by omega) r945
    rw [show decide ((some q : Option Nat) = some p) = false from decide_eq_false (fun h => e (by injection h)), br_fq, eB, bnd_so, e_make, bnd_so, bnd_so]
    refine ans mB fB _ (fun m8 w8 pl8 ru8 f8 g8 x33 => ?_)
    refine rb_ck (fun _ => ?_)
    rw [tnI (n := q) rfl (by omega), a9 w8 g8, br_fq, I_F' x33, dpq, decide_eq_false e, br_fq]
    have s8 : WSw w8 L := WSw_st swA (g8.1.1 125 (by simp)) (fun k hk => g8.1.2.2.1 k (by simp; omega))
    refine r_bnd (pk_mo (aw_w (p := p) (q := q) s8 hL x33 (by omega) (by omega) r945) (fun w9 _ h => ?_))
    obtain ⟨s9, f9⟩ := h
    obtain ⟨wB, fwB, gB, sB'⟩ := tab_sw g8 f9
    refine fin mB wB m8 w9 _ fB fwB sB (sB' _ s9) (fun y hy => ?_) (PLs_tabw pl8 f9) (RUs_tab ru8 FR.rf f9) f8 gB
    rcases List.mem_append.mp hy with h | h
    · exact gL y h
    · simp at h
      subst h
      exact ⟨⟨p, rfl, hpp⟩, ⟨by simp, by simp; omega⟩, r945⟩
end
end
section
set_option maxRecDepth 100000
def PNx (m w : MS) : Prop := m.1 953 = w.1 128 ∧ ∀ l : Nat, ((l : Nat) : Int) < F m 953 → m.2.2.1 53 l = w.2.2.1 127 l ∧ ∀ i : Nat, ((i : Nat) : Int) < A m 53 l → m.2.2.1 52 (100 * l + i) = w.2.2.1 126 (100 * l + i)
def PRm (T : List Int32) (n : Nat) (m m2 : MS) : Prop := FR [1964, 865, 866, 953] [] [52, 53] [45] m m2 ∧ F m2 953 = ((n + 1 : Nat) : Int) ∧ (∀ k, m2.2.2.1 53 k = if k = n then I ((min T.length 100 : Nat) : Int) else m.2.2.1 53 k) ∧ (∀ i, i < min T.length 100 → m2.2.2.1 52 (100 * n + i) = byS8 (T.getD i 0)) ∧ ∀ i, ¬ (100 * n ≤ i ∧ i < 100 * n + 100) → m2.2.2.1 52 i = m.2.2.1 52 i
def PRw (T : List Int32) (n : Nat) (w w2 : MS) : Prop := FR [144, 128] [] [143, 126, 127] [141] w w2 ∧ F w2 128 = ((n + 1 : Nat) : Int) ∧ (∀ k, w2.2.2.1 127 k = if k = n then I ((min T.length 100 : Nat) : Int) else w.2.2.1 127 k) ∧ (∀ i, i < min T.length 100 → w2.2.2.1 126 (100 * n + i) = byS8 (T.getD i 0)) ∧ ∀ i, ¬ (100 * n ≤ i ∧ i < 100 * n + 100) → w2.2.2.1 126 i = w.2.2.1 126 i
section
variable {N p n k z h0 : Nat} {m w w0 m2 w2 : MS} {t x : Int64} {T : List Int32} {q : Nat}
theorem bl52 : bl 52 = 20000 := rfl
theorem PN_add (h : PNx m w) (hn : F m 953 = ((n : Nat) : Int)) (hn2 : n < 200) (hb : ∀ l : Nat, ((l : Nat) : Int) < F m 953 → 0 ≤ A m 53 l ∧ A m 53 l ≤ 100) (a : PRm T n m m2) (c : PRw T n w w2) : PNx m2 w2 := by
  obtain ⟨-, a2, a3, a4, a5⟩ := a
  obtain ⟨-, c2, c3, c4, c5⟩ := c
  have ai : ∀ {x y : Int32}, x.toInt = y.toInt → x = y := fun h => Int32.toInt_inj.mp h
  refine ⟨ai (a2.trans c2.symm), fun l hl => ?_⟩
  rw [a2] at hl
  rw [a3, c3]
  by_cases e : l = n
  · subst e
    rw [if_pos rfl, if_pos rfl]
    refine ⟨rfl, fun i hi => ?_⟩
    have e53 : A m2 53 l = ((min T.length 100 : Nat) : Int) := by
      show (m2.2.2.1 53 l).toInt = _
      rw [a3, if_pos rfl, I_ti (by omega) (by omega)]
    rw [e53] at hi
    rw [a4 i (by omega), c4 i (by omega)]
  · rw [if_neg e, if_neg e]
    have hl2 : ((l : Nat) : Int) < F m 953 := by rw [hn]; omega
    obtain ⟨h1, h2⟩ := h.2 l hl2
    have e53 : A m2 53 l = A m 53 l := by
      show (m2.2.2.1 53 l).toInt = _
      rw [a3, if_neg e]
      rfl
    refine ⟨h1, fun i hi => ?_⟩
    rw [e53] at hi
    have := hb l hl2
    rw [a5 _ (by omega), c5 _ (by omega)]
    exact h2 i hi
theorem print_m (hA : WDc m 1) (hn : F m 953 = ((n : Nat) : Int)) (hn2 : n < 200) (y : SZp (m.2.2.2 (pq p 2)) (LFs (F m 22)) k t z) (hz : z ≤ 1020) (eT : TXs (m.2.2.2 (pq p 2)) (ATc m) t = T) : PK (fun m2 (_ : Unit) => PRm T n m m2) (hm_Wl_print N m (pq p 2) t) := by
  unfold hm_Wl_print hb_Wl_print_0 hb_Wl_print_49
  rw [I_F' hn, show decide (200 ≤ I ((n : Nat) : Int)) = false from by
    rw [show (200 : Int32) = I 200 from rfl]
    exact decide_eq_false (by rw [I_le (by omega) (by omega) (by omega) (by omega)]; omega), br_fq, show I ((n : Nat) : Int) * 100 = I ((100 * n : Nat) : Int) from by
    rw [show (100 : Int32) = I 100 from rfl, I_mul]
    congr 1
    omega]
  refine pk_bnd (pk_mo (text_s (N := N) (j := 52) (fr := 100 * n) (b := pq p 2) hA (fun c => pq_n (by omega) c.symm) rfl y hz (Or.inl rfl) (by rw [bl52]; omega)) (fun m5 r h => ?_))
  obtain ⟨f5, rfl, h1, h2⟩ := h
  rw [eT] at h1 ⊢
  refine pk_ck (fun _ => ?_)
  rw [tnI (n := n) rfl (by omega), wa_e, lt_e]
  have e953 : F (wa m5 53 n ((min T.length 100 : Nat) : Int)) 953 = ((n : Nat) : Int) := by
    show F m5 953 = _
    rw [FR.F f5 (by simp)]
    exact hn
  rw [I_F' e953, show I ((n : Nat) : Int) + 1 = I ((n + 1 : Nat) : Int) from addN, wi_e, lt_e]
  refine pk_some ⟨FR.wi (FR.wa (FR.mo f5 (by simp) (by simp) (by simp) (by simp)) (by simp)) (by simp), wi_sm (by omega) (by omega), fun k => ?_, fun i hi => ?_, fun i hi => ?_⟩
  · show (wa m5 53 n ((min T.length 100 : Nat) : Int)).2.2.1 53 k = _
    by_cases c : k = n
    · subst c
      rw [wa_s1, if_pos rfl]
    · rw [wa_at (by omega), if_neg c, f5.2.2.1 53 (by simp)]
  · show (wa m5 53 n ((min T.length 100 : Nat) : Int)).2.2.1 52 (100 * n + i) = _
    rw [wa_21 (by omega)]
    exact h1 i hi
  · show (wa m5 53 n ((min T.length 100 : Nat) : Int)).2.2.1 52 i = _
    rw [wa_21 (by omega)]
    exact h2 i hi
theorem prc_lp (hn2 : n < 200) (h127 : w0.2.2.1 127 = w0.2.2.1 127) : ∀ (M i : Nat) (w : MS), i ≤ min T.length 100 → FR [144] [] [143, 126] [141] w0 w → F w 128 = ((n : Nat) : Int) → F w 144 = ((min T.length 100 : Nat) : Int) → (∀ k, k < min T.length 100 → w.2.2.1 143 k = byS8 (T.getD k 0)) → (∀ k, k < i → w.2.2.1 126 (100 * n + k) = byS8 (T.getD k 0)) → (∀ k, ¬ (100 * n ≤ k ∧ k < 100 * n + 100) → w.2.2.1 126 k = w0.2.2.1 126 k) → PK (fun w2 (_ : Unit) => PRw T n w0 w2) (gg_M_printRun N M w (I ((i : Nat) : Int))) := by
  intro M
  induction M with
  | zero => intro i w _ _ _ _ _ _ _; exact pk_none
  | succ M ih =>
    intro i w hi f e128 e144 h143 h126 hot
    show PK _ (fb_M_printRun_21 N (gg_M_printRun N M) w (I ((i : Nat) : Int)))
    unfold fb_M_printRun_21 fb_M_printRun_78
    rw [I_F' e144, I_F' e128, decI (by omega) (by omega) (by omega) (by omega)]
    by_cases c : min T.length 100 ≤ i
    · have ei : i = min T.length 100 := by omega
      rw [show decide (((min T.length 100 : Nat) : Int) ≤ ((i : Nat) : Int)) = true from decide_eq_true (by omega), br_tq]
      refine pk_ck (fun _ => ?_)
      rw [tnI (n := n) rfl (by omega), wa_e, lt_e]
      have e : F (wa w 127 n ((min T.length 100 : Nat) : Int)) 128 = ((n : Nat) : Int) := e128
      rw [I_F' e, show I ((n : Nat) : Int) + 1 = I ((n + 1 : Nat) : Int) from addN, wi_e, lt_e]
      refine pk_some ⟨FR.wi (FR.wa (FR.mo f (by simp) (by simp) (by simp) (by simp)) (by simp)) (by simp), wi_sm (by omega) (by omega), fun k => ?_, fun k hk => ?_, fun k hk => ?_⟩
      · show (wa w 127 n ((min T.length 100 : Nat) : Int)).2.2.1 127 k = _
        by_cases c : k = n
        · subst c
          rw [wa_s1, if_pos rfl]
        · rw [wa_at (by omega), if_neg c, f.2.2.1 127 (by simp)]
      · show (wa w 127 n ((min T.length 100 : Nat) : Int)).2.2.1 126 (100 * n + k) = _
        rw [wa_21 (by omega)]
        exact h126 k (by omega)
      · show (wa w 127 n ((min T.length 100 : Nat) : Int)).2.2.1 126 k = _
        rw [wa_21 (by omega)]
        exact hot k hk
    · rw [show decide (((min T.length 100 : Nat) : Int) ≤ ((i : Nat) : Int)) = false from decide_eq_false (by omega), br_fq]
      refine pk_ck (fun _ => pk_ck (fun _ => ?_))
      have ix : (100 * I ((n : Nat) : Int) + I ((i : Nat) : Int)).toNatClampNeg = 100 * n + i := by
        rw [show (100 : Int32) = I 100 from rfl, I_mul, I_add]
        exact tnI (n := 100 * n + i) (by omega) (by omega)
      rw [ix, tnI (n := i) rfl (by omega), h143 i (by omega), nar_by, lt_e, show I ((i : Nat) : Int) + 1 = I ((i + 1 : Nat) : Int) from addN]
      have row : ∀ k, (upA w 126 (upd (w.2.2.1 126) (100 * n + i) (byS8 (T.getD i 0)))).2.2.1 126 k = if k = 100 * n + i then byS8 (T.getD i 0) else w.2.2.1 126 k := fun k => by
        show (if (126 : Nat) = 126 then upd (w.2.2.1 126) (100 * n + i) (byS8 (T.getD i 0)) else w.2.2.1 126) k = _
        rw [if_pos rfl]
        rfl
      have r143 : (upA w 126 (upd (w.2.2.1 126) (100 * n + i) (byS8 (T.getD i 0)))).2.2.1 143 = w.2.2.1 143 := upA_no (by omega)
      refine ih (i + 1) _ (by omega) ⟨f.1, f.2.1, fun k hk => (upA_no (fun c => hk (by simp [c]))).trans (f.2.2.1 k hk), f.2.2.2⟩ e128 e144 (fun k hk => by rw [r143]; exact h143 k hk) (fun k hk => ?_) (fun k hk => ?_)
      · rw [row]
        by_cases c2 : k = i
        · subst c2; rw [if_pos rfl]
        · rw [if_neg (by omega)]; exact h126 k (by omega)
      · rw [row, if_neg (by omega)]
        exact hot k hk
theorem print_r (hp1 : p < 24) (h33 : F w 133 = ((p : Nat) : Int)) (hA : ATM w) (hn : F w 128 = ((n : Nat) : Int)) (hn2 : n < 200) (y : SZp (hp w p) (LFr (F w 14)) k x z) (hz : z ≤ 1000) (eT : TXs (hp w p) (ATr w) x = T) : PK (fun w2 (_ : Unit) => PRw T n w w2) (fm_M_printRun N w x) := by
  unfold fm_M_printRun fb_M_printRun_0 fm_M_write fb_M_write_0 fb_M_write_30
  rw [I_F' hn, show decide (200 ≤ I ((n : Nat) : Int)) = false from by
    rw [show (200 : Int32) = I 200 from rfl]
    exact decide_eq_false (by rw [I_le (by omega) (by omega) (by omega) (by omega)]; omega), br_fq, lit0q, wi_e, lt_e, I_F' h33]
  have o0 : OUr w (wi w 144 0) [] := ⟨FR.wi FR.rf (by simp), wi_sm (by omega) (by omega), fun i hi => by simp at hi⟩
  have e14 : F (wi w 144 0) 14 = F w 14 := wi_ne (by omega)
  have y2 : SZp (hp w p) (LFr (F (wi w 144 0) 14)) k x z := by rw [e14]; exact y
  have hA2 : ATM (wi w 144 0) := by
    unfold ATM at hA ⊢
    rw [e14]
    exact hA
  refine pk_bnd (pk_bnd (pk_mo (writeOn_r (N := N) (p := p) (m0 := w) (h := hp w p) (by omega) rfl hA2 (by simp) o0 y2 hz) (fun w5 _ h => ?_)))
  have eA : ATr (wi w 144 0) = ATr w := rfl
  rw [eA, eT] at h
  obtain ⟨L, ⟨f, o2, o3⟩, h1, ⟨X, hX⟩, c⟩ := h
  simp only [List.nil_append] at hX c
  have lm : min L.length 100 = min T.length 100 := by
    rcases c with c | c
    · rw [c]
    · rw [hX]; simp; omega
  have row : ∀ k, k < min T.length 100 → w5.2.2.1 143 k = byS8 (T.getD k 0) := fun k hk => by
    rw [o3 k (by omega)]
    rw [hX]
    simp only [List.getD_eq_getElem?_getD]
    rw [List.getElem?_append_left (by omega)]
  have fin : ∀ v : Int, v = ((min T.length 100 : Nat) : Int) → PK (fun w2 (_ : Unit) => PRw T n w w2) (gg_M_printRun N N (wi w5 144 v) (I ((0 : Nat) : Int))) := fun v hv => by
    subst hv
    exact prc_lp (N := N) hn2 rfl N 0 _ (by omega) (FR.wi (FR.mo f (by simp) (by simp) (by simp) (by simp)) (by simp)) (by rw [wi_ne (by omega), FR.F f (by simp)]; exact hn) (wi_sm (by omega) (by omega)) row (fun k hk => absurd hk (Nat.not_lt_zero _)) (fun k _ => by show w5.2.2.1 126 k = _; rw [f.2.2.1 126 (by simp)])
  rw [I_F' o2, show (100 : Int32) = I 100 from rfl, decI (by omega) (by omega) (by omega) (by omega)]
  by_cases e : ((L.length : Nat) : Int) ≤ 100
  · rw [decide_eq_true e, br_tq, wi_e, lt_e]
    exact pk_some (fin _ (by omega))
  · rw [decide_eq_false e, br_fq, wi_e, lt_e]
    exact pk_some (fin _ (by omega))
theorem print_m0 (h : 200 ≤ F m 953) : hm_Wl_print N m q t = some (m, ()) := by
  have r := F_r m 953
  unfold hm_Wl_print hb_Wl_print_0 hb_Wl_print_49
  rw [I_F (w := m) (k := 953), show decide (200 ≤ I (F m 953)) = true from by
    rw [show (200 : Int32) = I 200 from rfl]
    exact decide_eq_true (by rw [I_le (by omega) (by omega) r.1 r.2]; omega), br_tq]
theorem print_r0 (h : 200 ≤ F w 128) : fm_M_printRun N w x = some (w, ()) := by
  have r := F_r w 128
  unfold fm_M_printRun fb_M_printRun_0 fb_M_printRun_78
  rw [I_F (w := w) (k := 128), show decide (200 ≤ I (F w 128)) = true from by
    rw [show (200 : Int32) = I 200 from rfl]
    exact decide_eq_true (by rw [I_le (by omega) (by omega) r.1 r.2]; omega), br_tq]
theorem pm10 : hm_Ma_predefined N m p (I 10) = bnd (hm_Fr_below N m p 0) (fun u19 r19 => bnd (hm_Wl_print N u19 (pq p 2) r19) (fun u21 _ => bnd (hm_Ma_atom N u21 2) (fun u23 r23 => bnd (hm_Ma_answer N u23 p 1 r23) (fun u24 _ => hb_Ma_predefined_146 N () u24 p)))) := rfl
theorem pr11 : fm_M_predefinedRun N w (I 11) = bnd (fm_M_take N w) (fun u20 r20 => bnd (fm_M_printRun N u20 r20) (fun u21 _ => bnd (fm_M_term N u21 1 2) (fun u22 r22 => bnd (fm_M_put N u22 r22) (fun u23 _ => some (u23, ()))))) := rfl
end
def PFm (m m2 : MS) : Prop := FR [1964, 865, 866, 953] [] [52, 53] [45] m m2
def PFw (w w2 : MS) : Prop := FR [144, 128] [] [143, 126, 127] [141] w w2
section
variable {b : Int → Nat → Nat → Prop} {Fv Fv' : Int64 → Int64 → Prop} {P P' : Int64 → Prop} {N PR r p i j0 j U B W Y a n : Nat} {m w m1 w1 m2 w2 wA wC : MS} {cur : Option Nat} {RR : Nat → MS → MS → Prop} {nb : Nat → Nat} {Hs Os : Nat → List Nat} {y : Option (Nat × Nat × Nat)}
theorem prt_sw (g : FGw p j w wA) (f : PFw wA wC) : ∃ wB, PFw w wB ∧ FGw p j wB wC := by
  obtain ⟨⟨g1, g2, g3, g4⟩, g5, g6, g7, g8, g9, g10⟩ := g
  refine ⟨⟨fun k => if k = 144 ∨ k = 128 then wC.1 k else w.1 k, w.2.1, fun K => if K = 143 ∨ K = 126 ∨ K = 127 then wC.2.2.1 K else w.2.2.1 K, w.2.2.2⟩, ⟨fun k hk => if_neg (by simpa using hk), fun _ _ => rfl, fun K hK => if_neg (by simpa using hK), fun _ _ => rfl⟩, ⟨⟨fun k hk => ?_, fun k hk => ?_, fun K hK => ?_, fun K hK => ?_⟩, fun k hk => ?_, fun k hk => ?_, fun k hk => ?_, fun k hk => ?_, fun k hk => ?_, fun k hk => ?_⟩⟩
  · show wC.1 k = if k = 144 ∨ k = 128 then wC.1 k else w.1 k
    by_cases c : k = 144 ∨ k = 128
    · rw [if_pos c]
    · rw [if_neg c, f.1 k (by simpa using c)]
      exact g1 k hk
  · show wC.2.1 k = w.2.1 k
    rw [f.2.1 k (by simp)]
    exact g2 k hk
  · show wC.2.2.1 K = if K = 143 ∨ K = 126 ∨ K = 127 then wC.2.2.1 K else w.2.2.1 K
    by_cases c : K = 143 ∨ K = 126 ∨ K = 127
    · rw [if_pos c]
    · rw [if_neg c, f.2.2.1 K (by simpa using c)]
      exact g3 K hK
  · show wC.2.2.2 K = w.2.2.2 K
    rw [f.2.2.2 K (by simp at hK ⊢; omega)]
    exact g4 K hK
  · have e : ∀ K, K ≠ 143 → K ≠ 126 → K ≠ 127 → wC.2.2.1 K = wA.2.2.1 K := fun K a b c => f.2.2.1 K (by simp; omega)
    show (wC.2.2.1 89 k).toInt = (w.2.2.1 89 k).toInt ∧ wC.2.2.1 90 k = w.2.2.1 90 k ∧ (wC.2.2.1 92 k).toInt = (w.2.2.1 92 k).toInt
    rw [e 89 (by omega) (by omega) (by omega), e 90 (by omega) (by omega) (by omega), e 92 (by omega) (by omega) (by omega)]
    exact g5 k hk
  · show (wC.2.2.1 98 k).toInt = (w.2.2.1 98 k).toInt
    rw [f.2.2.1 98 (by simp)]
    exact g6 k hk
  · show wC.2.2.2 88 k = w.2.2.2 88 k
    rw [f.2.2.2 88 (by simp)]
    exact g7 k hk
  · show wC.2.2.2 91 k = w.2.2.2 91 k
    rw [f.2.2.2 91 (by simp)]
    exact g8 k hk
  · show wC.2.2.2 93 k = w.2.2.2 93 k
    rw [f.2.2.2 93 (by simp)]
    exact g9 k hk
  · show wC.2.2.2 107 k = w.2.2.2 107 k
    rw [f.2.2.2 107 (by simp)]
    exact g10 k hk
theorem prt_n (f : PFm m m1) : EQn r m m1 := ⟨fun k hk _ => f.1 _ (by simp; exact ⟨fun c => pq_n (by omega) c.symm, fun c => pq_n (by omega) c.symm, fun c => pq_n (by omega) c.symm, fun c => pq_n (by omega) c.symm⟩), fun _ _ _ => f.2.1 _ (by simp), fun k hk _ => f.2.2.1 _ (by simp; exact ⟨fun c => pq_n (by omega) c.symm, fun c => pq_n (by omega) c.symm⟩), f.2.2.1 23 (by simp)⟩
theorem prt_v (f : PFw w w1) : EQv r w w1 := ⟨fun K k h _ _ => by rw [f.2.2.1 K (by simp; rcases h with ⟨h, -⟩ | ⟨h, -⟩ | ⟨h, -⟩ | ⟨h, -⟩ <;> omega)], by rw [f.2.2.2 111 (by simp)], fun K h => f.2.2.1 K (by unfold PRr at h; simp; omega), f.2.2.2 34 (by simp)⟩
theorem prt_pg (f1 : PFm m m1) (f2 : PFw w w1) : PGs m w m1 w1 := PGs_fr f1 f2 (fun k hk => by simp at hk; omega) (by simp) (fun k hk => by simp at hk; omega) (fun k hk => by simp at hk; omega) (fun k hk => by simp at hk; unfold PRr; omega) (by simp)
theorem RUs_prt (h : RUs m w p j nb Hs Os y a n) (f1 : PFm m m1) (f2 : PFw w w1) : RUs m1 w1 p j nb Hs Os y a n := RUs_st h (prt_n f1) (prt_v f2) (prt_pg f1 f2)
theorem prt_j (f1 : PFm m m1) {k : Nat} : m1.2.2.2 (pq r k) = m.2.2.2 (pq r k) := f1.2.2.2 _ (by simp; exact fun c => pq_n (by omega) c.symm)
theorem PLs_prt (pl : PLs b r m w U B W Y) (f1 : PFm m m1) : PLs b r m1 w U B W Y := PLs_cg pl (fun k hk => f1.1 _ (by simp; exact ⟨fun c => pq_n (by omega) c.symm, fun c => pq_n (by omega) c.symm, fun c => pq_n (by omega) c.symm, fun c => pq_n (by omega) c.symm⟩)) (fun i _ => by rw [prt_j f1]) (fun i _ => by rw [prt_j f1]) (fun i _ => by rw [prt_j f1]) (fun i _ => by rw [prt_j f1]) (fun _ _ => rfl) (fun _ _ => rfl) (fun _ _ => rfl) (fun _ _ => rfl) (fun _ _ => rfl)
theorem PLs_prtw (pl : PLs b r m w U B W Y) (f2 : PFw w w1) : PLs b r m w1 U B W Y := PLs_cg pl (fun _ _ => rfl) (fun _ _ => rfl) (fun _ _ => rfl) (fun _ _ => rfl) (fun _ _ => rfl) (fun k hk => by rw [f2.2.2.1 k (by simp at hk ⊢; omega)]) (fun i _ => by rw [f2.2.2.2 88 (by simp)]) (fun i _ => by rw [f2.2.2.2 93 (by simp)]) (fun i _ => by rw [f2.2.2.2 91 (by simp)]) (fun i _ => by rw [f2.2.2.2 107 (by simp)])
theorem SCs_prt (s : SCs p m w) (f1 : PFm m m1) (f2 : PFw w w1) : SCs p m1 w1 := SC_ow s (fun k _ => f1.1 _ (by simp; exact ⟨fun c => pq_n (by omega) c.symm, fun c => pq_n (by omega) c.symm, fun c => pq_n (by omega) c.symm, fun c => pq_n (by omega) c.symm⟩)) (f1.2.2.1 _ (by simp; exact ⟨fun c => pq_n (by omega) c.symm, fun c => pq_n (by omega) c.symm⟩)) (fun K h1 h2 => f2.2.2.1 K (by simp; omega))
theorem WL_prt (W0 : WLs RR PR Fv P Fv' P' cur i j0 m w) (f1 : PFm m m1) (b1 : (0 ≤ F m1 953 ∧ F m1 953 ≤ 200) ∧ ∀ i : Nat, (i : Int) < F m1 953 → 0 ≤ A m1 53 i ∧ A m1 53 i ≤ 100) (f2 : PFw w w1) : WLs RR PR Fv P Fv' P' cur i j0 m1 w1 := by
  obtain ⟨⟨d, cx⟩, ⟨dw, lk, wt⟩, pb⟩ := W0.1
  have fr1 : FR [1964, 865, 866, 953] [] [52, 53] [45] m m1 := f1
  have nq : ∀ {q k l : Nat}, l < 2000 → pq q k ≠ l := fun h c => pq_n h c.symm
  have fc : FC 0 [1964, 865, 866, 953] [] [52, 53] [] [] [] [] m m1 := by
    refine FC.of fr1 ?_ ?_ ?_ ?_
    · intro k hk; simp at hk; simp [hk]
    · intro k hk; simp at hk; omega
    · simp
    · intro k hk; simp at hk; omega
  have d2 : DWc Fv P PR m1 := DWc_gl2 d fc (by simp) (by simp) (fun h0 => by
    have := (d.2 0 h0).1
    unfold SMQ at this ⊢
    rw [fc.Fq (by omega) (by simp), fc.Fq (by omega) (by simp), fc.Fq (by omega) (by simp), fc.Fq (by omega) (by simp)]
    exact this) (by simp) (by rw [fc.Fg (by omega) (by simp)]; exact d.1.2.2.1) (by rw [fc.Fg (by omega) (by simp)]; exact ⟨d.1.2.2.2.1.2.1, d.1.2.2.2.1.2.2⟩) (by simp) b1
  have lm : ∀ d, LOCm d m m1 := fun d k hk => ⟨f1.1 _ (by simp; exact ⟨nq (by omega), nq (by omega), nq (by omega), nq (by omega)⟩), f1.2.1 _ (by simp), f1.2.2.1 _ (by simp; exact ⟨nq (by omega), nq (by omega)⟩), prt_j f1⟩
  have lw : ∀ d, LOCw d w w1 := fun d => ⟨fun K k h => by rw [f2.2.2.1 K (by simp; rcases h with ⟨h, -⟩ | ⟨h, -⟩ | ⟨h, -⟩ | ⟨h, -⟩ <;> omega)], fun K h => by rw [f2.2.2.1 K (by simp; omega)], fun k _ _ => by rw [f2.2.2.1 131 (by simp)], by rw [f2.2.2.2 111 (by simp)], fun k _ _ => by rw [f2.2.2.2 88 (by simp)], fun k _ _ => by rw [f2.2.2.2 91 (by simp)], fun k _ _ => by rw [f2.2.2.2 93 (by simp)], fun k _ _ => by rw [f2.2.2.2 107 (by simp)]⟩
  exact WL_same W0 ⟨⟨d2, CTX_fr cx (f1.1 22 (by simp)) (f1.2.2.1 3 (by simp))⟩, ⟨DW_fr dw f2 (by simp) (by simp) (by simp) (by simp) (by simp) (by simp) (by simp) (by simp) (by simp) (by simp) (by simp) (by simp) (by simp) (by simp) (by simp) (by simp) (by simp), LK_fr lk f2 (by simp) (by simp), WTQ_fr wt f2 (by simp) (by simp) (by simp)⟩, pb⟩ (prt_pg f1 f2) lm lw (f1.1 955 (by simp)) (f1.2.2.1 54 (by simp)) (f2.1 150 (by simp)) (fun K h => f2.2.2.1 K (by simp; omega)) (f2.2.2.2 148 (by simp))
end
end
section
set_option maxRecDepth 100000
section
variable {α β : Type} {b : Int → Nat → Nat → Prop} {Fv Fv' : Int64 → Int64 → Prop} {P P' : Int64 → Prop} {ow kd ow' kd' : Nat → Nat} {N PR p i j0 U B W Y l j a n : Nat} {m w w1 m5 wB : MS} {nb : Nat → Nat} {Hs Os : Nat → List Nat} {y : Option (Nat × Nat × Nat)} {Q : MS → α → MS → β → Prop} {K1 : MS → Option (MS × α)} {K2 : MS → Option (MS × β)}
theorem prt_cr (f1 : PFm m m5) (f2 : PFw w wB) (cr : ∃ f, CRs (A m 23) (ROs w) (w.2.2.2 34) f y (a + 2) (n + 1) (Hs j) (Os j)) : ∃ f, CRs (A m5 23) (ROs wB) (wB.2.2.2 34) f y (a + 2) (n + 1) (Hs j) (Os j) := by
  rw [show A m5 23 = A m 23 from by funext k; show (m5.2.2.1 23 k).toInt = _; rw [f1.2.2.1 23 (by simp)]; rfl, ROs_eq (w := w) (fun K h => f2.2.2.1 K (by unfold PRr at h; simp; omega)), f2.2.2.2 34 (by simp)]
  exact cr
theorem op_print (hpp : p < PR) (wl : WLs (RRp p) PR Fv P Fv' P' none i j0 m w) (cn : CNq P P' m w) (pn : PNx m w) (ru : RUs m w p j nb Hs Os y a n) (sc : SCs p m w) (hW : W + 1 ≤ 46000) (hl : F m (pq p 45) = ((l : Nat) : Int)) (hl2 : W + 1 ≤ l ∧ l ≤ 1000000) (pl : PLs b p m w1 U B (W + 1) Y) (g : HPc (m.2.2.2 (pq p 2)) U ow kd Fv P) (g' : HP (hp w1 p) U ow' kd' Fv' P') (gt : GT U ow kd P (m.2.2.2 (pq p 35) W)) (gt' : GT U ow' kd' P' (w1.2.2.2 91 (46000 * p + W))) (g1 : FGw p j w w1) (h98 : A w1 98 (60 * p + j) = ((n + 1 : Nat) : Int)) (cr : ∃ f, CRs (A m 23) (ROs w) (w.2.2.2 34) f y (a + 2) (n + 1) (Hs j) (Os j))
    (c : ∀ mB wB m3 w3, (SFs Fv P Fv' P' PR m3 w3 → WLs (RRp p) PR Fv P Fv' P' none i j0 m3 w3) → PNx m3 w3 → PLs b p m3 w3 U B (W + 1) Y → RUs m3 w3 p j nb Hs Os y (a + 2) (n + 1) → PFm m mB → PFw w wB → FGm p mB m3 → FGw p j wB w3 → PP Q (K1 m3) (K2 w3)) : PP Q (bnd (hm_Ma_predefined N m p (I 10)) (fun u _ => K1 u)) (bnd (fm_M_predefinedRun N w1 (I 11)) (fun u _ => K2 u)) := by
  obtain ⟨⟨fa, -⟩, ⟨r2, -⟩, -, ⟨q9, q9w⟩, -, ⟨-, r9, -⟩, r11, -, -⟩ := id ru
  have hj : j < 60 := fa.1.2.2
  have p24 : PR ≤ 24 := wl.1.2.1.1.1.2
  have hU := pl.1.1.2.2
  have cb2 : a + 2 + 1 < 24000 := by
    obtain ⟨f9, cr9⟩ := cr
    exact (CR_b cr9).1
  have x33 : F w1 133 = ((p : Nat) : Int) := by rw [FR.F g1.1 (by simp)]; exact r11
  have rt := pl.2.2.1.2.2 W (by omega)
  have is := pl.1.2.1
  have be : hm_Fr_below N m p 0 = some (m, m.2.2.2 (pq p 35) W) := by
    have := below_e (N := N) (x := 0) (k := 0) (W := W + 1) (l := l) pl.2.2.1.1 hl hl2.1 hl2.2 rfl (by omega)
    rw [show W + 1 - 1 - 0 = W by omega] at this
    exact this
  have g3 : FGw p j w (wa w1 92 p ((W : Nat) : Int)) := FGw.tr g1 FGw.w92
  have x33' : F (wa w1 92 p ((W : Nat) : Int)) 133 = ((p : Nat) : Int) := x33
  have h983 : A (wa w1 92 p ((W : Nat) : Int)) 98 (60 * p + j) = ((n + 1 : Nat) : Int) := by rw [wa_rne (by omega)]; exact h98
  have tk := take_r (N := N) (W := W) (show p < 24 by omega) x33 pl.2.2.1.2.1 (by omega)
  have pdm : ∀ m5, PFm m m5 → PLs b p (wi m5 (pq p 26) ((W : Nat) : Int)) (wa w1 92 p ((W : Nat) : Int)) U B W Y := fun m5 f => PLs_drop (k := 1) (W := W) (PLs_prt pl f) (by omega)
  have hp3 : hp (wa w1 92 p ((W : Nat) : Int)) p = hp w1 p := rfl
  obtain ⟨cn1, cn2, cn3, cn4, cn5, cn6⟩ := cn
  obtain ⟨kf, ks, sz⟩ := HP_szc g gt
  obtain ⟨kf', ks', sz'⟩ := HP_sz g' gt'
  have z1 := SZ_max g sz
  have z2 := SZ_1000 g' (by omega) sz'
  have sp := SZp_c (R := LFs (F m 22)) (show U ≤ 1000 by omega) cn6 sz
  have sp' := SZp_m (R := LFr (F w 14)) (show U ≤ 1000 by omega) cn5 sz'
  have e14 : F (wa w1 92 p ((W : Nat) : Int)) 14 = F w 14 := FR.F g3.1 (by simp)
  have r13 : (wa w1 92 p ((W : Nat) : Int)).2.2.1 13 = w.2.2.1 13 := g3.1.2.2.1 13 (by simp)
  have r12 : (wa w1 92 p ((W : Nat) : Int)).2.2.1 12 = w.2.2.1 12 := g3.1.2.2.1 12 (by simp)
  have eAT : ATr (wa w1 92 p ((W : Nat) : Int)) = ATr w := ATr_eq r12 r13
  have atm3 : ATM (wa w1 92 p ((W : Nat) : Int)) := by
    have ea : ∀ k, A (wa w1 92 p ((W : Nat) : Int)) 13 k = A w 13 k := fun k => by show ((wa w1 92 p ((W : Nat) : Int)).2.2.1 13 k).toInt = _; rw [r13]; rfl
    obtain ⟨v1, v2, v3⟩ := cn2
    refine ⟨by rw [e14]; exact v1, by rw [e14]; exact v2, fun k hk => ?_⟩
    rw [e14] at hk
    rw [ea, ea]
    exact v3 k hk
  have eT : TXs (m.2.2.2 (pq p 2)) (ATc m) (m.2.2.2 (pq p 35) W) = TXs (hp w1 p) (ATr w) (w1.2.2.2 91 (46000 * p + W)) := TXs_isr is.w cn1 rt sp'
  have x128 : (wa w1 92 p ((W : Nat) : Int)).1 128 = m.1 953 := by rw [g3.1.1 128 (by simp)]; exact pn.1.symm
  have f128 : F (wa w1 92 p ((W : Nat) : Int)) 128 = F m 953 := congrArg Int32.toInt x128
  have pn3 : PNx m (wa w1 92 p ((W : Nat) : Int)) := ⟨x128.symm, fun l hl => by rw [g3.1.2.2.1 127 (by simp), g3.1.2.2.1 126 (by simp)]; exact pn.2 l hl⟩
  have d53 := wl.1.1.1.1.2.2.2.2.2
  generalize hw3 : wa w1 92 p ((W : Nat) : Int) = w3 at g3 h983 x33' pdm hp3 e14 eAT atm3 f128 pn3 tk
  generalize ht : m.2.2.2 (pq p 35) W = t at rt be eT sp
  generalize hx : w1.2.2.2 91 (46000 * p + W) = x at rt eT sp' tk
  have ans : ∀ (m5 wC : MS) (fm : PFm m m5) (fw : PFw w3 wC) (b1 : (0 ≤ F m5 953 ∧ F m5 953 ≤ 200) ∧ ∀ i : Nat, (i : Int) < F m5 953 → 0 ≤ A m5 53 i ∧ A m5 53 i ≤ 100) (pnC : PNx m5 wC), PP Q (bnd (bnd (hm_Ma_atom N m5 2) (fun u23 r23 => bnd (hm_Ma_answer N u23 p 1 r23) (fun u24 _ => hb_Ma_predefined_146 N () u24 p))) (fun u _ => K1 u)) (bnd (bnd (fm_M_term N wC 1 2) (fun u22 r22 => bnd (fm_M_put N u22 r22) (fun u23 _ => some (u23, ())))) (fun u _ => K2 u)) := fun m5 wC fm fw b1 pnC => by
    obtain ⟨wB, fB, gB⟩ := prt_sw g3 fw
    have e26 : F m5 (pq p 26) = ((W + 1 : Nat) : Int) := by
      rw [← pl.2.2.1.1]
      exact congrArg Int32.toInt ((prt_n (r := p) fm).1 26 (by omega) (by simp))
    have e45 : F m5 (pq p 45) = ((l : Nat) : Int) := by
      rw [← hl]
      exact congrArg Int32.toInt ((prt_n (r := p) fm).1 45 (by omega) (by simp))
    rw [show hm_Ma_atom N m5 2 = some (m5, mk 1 2) from rfl, bnd_so, show fm_M_term N wC 1 2 = some (wC, mk 1 2) from rfl, bnd_so]
    unfold hm_Ma_answer hb_Ma_answer_0
    rw [show (1 : Int32) = I 1 from rfl, drop_e (W := W + 1) (k := 1) (x := 1) e26 rfl (by omega), bnd_so, Nat.add_sub_cancel]
    simp only [bb_e, bnd_so]
    refine pre_pp (l := l) (by omega) (RUs_prt ru fm fB) (by omega) ⟨by omega, hl2.2⟩ (lit_b (b := b) (v := 1) (Or.inr (Or.inl rfl)) (z := 2) (fun h => by omega) ⟨by omega, by omega⟩) FGm.drop gB (PLs_prtw (pdm m5 fm) fw) (by rw [wi_ne (pq_inj (by omega))]; exact e45) (by rw [FR.A fw (by simp)]; exact h983) (by rw [wi_ne (pq_n (by omega)), FR.F fm (by simp)]; exact r2) (by omega) (prt_cr fm fB cr) (fun m8 w8 pl8 ru8 f8 g8 => ?_)
    have gC : FR [136, 138, 140] [139] [89, 90, 92, 98, 135, 142] [88, 91, 93, 107, 134, 137, 141] wB wC := gB.1
    have hB : ∀ k, k = 128 → w8.1 k = wC.1 k := fun k hk => by subst hk; rw [g8.1.1 128 (by simp), gC.1 128 (by simp)]
    have hR : ∀ K, K = 126 ∨ K = 127 → w8.2.2.1 K = wC.2.2.1 K := fun K hK => by rw [g8.1.2.2.1 K (by simp; omega), gC.2.2.1 K (by simp; omega)]
    have m953 : m8.1 953 = m5.1 953 := f8.1 953 (by simp; unfold pq; omega)
    have mr : ∀ K, K < 100 → m8.2.2.1 K = m5.2.2.1 K := fun K _ => f8.2.2.1 K (by simp)
    refine c m5 wB m8 w8 (fun s2 => WL_own (WL_t (WL_prt wl fm b1 fB)) hpp ?_ ?_ s2 (GGm_fg f8) (GGw_fg g8 hj) pl8 (SC_fg (SCs_prt sc fm fB) f8 g8) ru8) ⟨by rw [m953, hB 128 rfl]; exact pnC.1, fun l hl => ?_⟩ pl8 ru8 fm fB f8 g8
    · rw [FR.F fm (by simp; exact ⟨fun c => pq_n (by omega) c.symm, fun c => pq_n (by omega) c.symm, fun c => pq_n (by omega) c.symm, fun c => pq_n (by omega) c.symm⟩), q9]
      omega
    · rw [FR.A fB (by simp), q9w]
      omega
    · have h1 : ((l : Nat) : Int) < F m5 953 := by
        have : F m8 953 = F m5 953 := congrArg Int32.toInt m953
        rw [← this]
        exact hl
      have e53 : A m8 53 l = A m5 53 l := by show (m8.2.2.1 53 l).toInt = _; rw [mr 53 (by omega)]; rfl
      rw [mr 53 (by omega), mr 52 (by omega), hR 127 (by omega), hR 126 (by omega), e53]
      exact pnC.2 l h1
  rw [pm10, pr11]
  refine l_bb (r_bb ?_)
  refine r_bnd (pk_mo tk (fun w4 r e => ?_))
  obtain ⟨rfl, rfl⟩ := e
  rw [be, bnd_so]
  by_cases c2 : 200 ≤ F m 953
  · rw [print_m0 c2, bnd_so, print_r0 (by rw [f128]; exact c2), bnd_so]
    exact ans m w4 FR.rf FR.rf d53 pn3
  · obtain ⟨nn, hn⟩ : ∃ nn : Nat, F m 953 = ((nn : Nat) : Int) := ⟨(F m 953).toNat, by have := d53.1.1; omega⟩
    refine lb_bnd (pk_mo (print_m (N := N) (p := p) (n := nn) (T := TXs (m.2.2.2 (pq p 2)) (ATc m) t) wl.1.1.2.2.2.1 hn (by omega) sp (by omega) rfl) (fun m5 _ h5 => ?_))
    refine rb_bnd (pk_mo (print_r (N := N) (p := p) (n := nn) (T := TXs (m.2.2.2 (pq p 2)) (ATc m) t) (show p < 24 by omega) x33' atm3 (by rw [f128]; exact hn) (by omega) (by rw [e14, hp3]; exact sp') z2 (by rw [hp3, eAT]; exact eT.symm)) (fun w5 _ h6 => ?_))
    refine ans m5 w5 h5.1 h6.1 ⟨by rw [h5.2.1]; omega, fun k hk => ?_⟩ (PN_add pn3 hn (by omega) d53.2 h5 h6)
    have e53 : A m5 53 k = (if k = nn then I ((min (TXs (m.2.2.2 (pq p 2)) (ATc m) t).length 100 : Nat) : Int) else m.2.2.1 53 k).toInt := by
      show (m5.2.2.1 53 k).toInt = _
      rw [h5.2.2.1 k]
    rw [h5.2.1] at hk
    rw [e53]
    by_cases e : k = nn
    · rw [if_pos e, I_ti (by omega) (by omega)]
      omega
    · rw [if_neg e]
      exact d53.2 k (by rw [hn]; omega)
end
end
section
set_option maxRecDepth 100000
def toS (m : MS) (p P0 ar : Nat) : MS := wi (upJ m (pq p 35) (va_cpy (m.2.2.2 (pq p 35)) (m.2.2.2 (pq p 35)) (P0 + 1) P0 ar)) (pq p 26) ((P0 + ar : Nat) : Int)
section
variable {N p P0 ar l : Nat} {m : MS}
theorem tout_e (hW : F m (pq p 26) = ((P0 + 1 + ar : Nat) : Int)) (hl : F m (pq p 45) = ((l : Nat) : Int)) (hl2 : P0 + 1 + ar ≤ l ∧ l ≤ 1000000) : hm_Fr_takeOut N m p (I ((ar : Nat) : Int)) = some (toS m p P0 ar, ()) := by
  unfold hm_Fr_takeOut hb_Fr_takeOut_0 hb_Fr_takeOut_39 toS
  have s1 : I ((P0 + 1 + ar : Nat) : Int) - I ((ar : Nat) : Int) - 1 = I ((P0 : Nat) : Int) := by
    rw [lit1q, I_sub, I_sub]
    congr 1
    omega
  have lq : lnQ m p 45 = l := by
    unfold lnQ
    rw [I_F' hl]
    exact tnI (n := l) rfl (by omega)
  have ok : cpOk (I ((P0 + 1 : Nat) : Int)) (I ((P0 : Nat) : Int)) (I ((ar : Nat) : Int)) (lnQ m p 45) (lnQ m p 45) = true := by
    unfold cpOk
    rw [tnI (n := P0 + 1) rfl (by omega), tnI (n := P0) rfl (by omega), tnI (n := ar) rfl (by omega), lq]
    refine decide_eq_true ⟨?_, ?_, ?_, by omega, by omega⟩
    · rw [lit0q, I_lt (by omega) (by omega) (by omega) (by omega)]; omega
    · rw [lit0q, I_lt (by omega) (by omega) (by omega) (by omega)]; omega
    · rw [lit0q, I_lt (by omega) (by omega) (by omega) (by omega)]; omega
  rw [I_F' hW, s1, show decide (I ((P0 : Nat) : Int) < 0) = false from decide_eq_false (by rw [lit0q, I_lt (by omega) (by omega) (by omega) (by omega)]; omega), br_fq, show I ((P0 : Nat) : Int) + 1 = I ((P0 + 1 : Nat) : Int) from addN, ok, ck_t, tnI (n := P0 + 1) rfl (by omega), tnI (n := P0) rfl (by omega), tnI (n := ar) rfl (by omega), lt_e]
  have e26 : F (upJ m (pq p 35) (va_cpy (m.2.2.2 (pq p 35)) (m.2.2.2 (pq p 35)) (P0 + 1) P0 ar)) (pq p 26) = ((P0 + 1 + ar : Nat) : Int) := hW
  rw [I_F' e26, show I ((P0 + 1 + ar : Nat) : Int) - 1 = I ((P0 + ar : Nat) : Int) from by rw [lit1q, I_sub]; congr 1; omega, wi_e, lt_e]
theorem toS_35 {i : Nat} (h : i < P0 + ar) : (toS m p P0 ar).2.2.2 (pq p 35) i = if i < P0 then m.2.2.2 (pq p 35) i else m.2.2.2 (pq p 35) (i + 1) := by
  have e : (toS m p P0 ar).2.2.2 (pq p 35) = va_cpy (m.2.2.2 (pq p 35)) (m.2.2.2 (pq p 35)) (P0 + 1) P0 ar := by
    unfold toS wi upI upJ
    show (if pq p 35 = pq p 35 then _ else _) = _
    rw [if_pos rfl]
  rw [e]
  by_cases c : i < P0
  · rw [if_pos c, cpy_out (by omega)]
  · rw [if_neg c]
    obtain ⟨k, rfl⟩ : ∃ k, i = P0 + k := ⟨i - P0, by omega⟩
    rw [cpy_in (by omega), show P0 + 1 + k = P0 + k + 1 by omega]
end
section
variable {α β : Type} {N p jj ar P0 src nbn v L : Nat} {w0 : MS} {f : Int} {t7 : Int64} {Q : MS → α → MS → β → Prop} {D : Option (MS × α)} {K : MS → Unit → Option (MS × β)}
theorem hl_lp (hpp : p < 24) (h133 : F w0 133 = ((p : Nat) : Int)) (hj : jj < 60) (hn : nbn + L ≤ 2500) (hv : va t7 = ((v : Nat) : Int)) (hv2 : v + 2 + L ≤ 500) (h101 : A w0 101 (60 * p + jj) = ((L : Nat) : Int)) (kk : ∀ u, FR [] [] [] [93] w0 u → (∀ q, u.2.2.2 93 q = if 2500 * p + nbn ≤ q ∧ q < 2500 * p + nbn + L then hp w0 p (v + 2 + (q - (2500 * p + nbn))) else w0.2.2.2 93 q) → PP Q D (K (wa u 94 p ((nbn + L : Nat) : Int)) ())) : ∀ (d M : Nat) (u : MS) (i : Nat), i + d = L → FR [] [] [] [93] w0 u → (∀ q, u.2.2.2 93 q = if 2500 * p + nbn ≤ q ∧ q < 2500 * p + nbn + i then hp w0 p (v + 2 + (q - (2500 * p + nbn))) else w0.2.2.2 93 q) → PP Q D (bnd ((gg_M_frameOf N M).2 u t7 (I ((nbn : Nat) : Int)) (I ((60 * p + jj : Nat) : Int)) (I ((i : Nat) : Int))) K) := by
  intro d
  induction d with
  | zero =>
    intro M u i hi fr r
    have : i = L := by omega
    subst this
    cases M with
    | zero => exact pp_nr
    | succ M =>
    show PP Q D (bnd (fb_M_frameOf_285 N (gg_M_frameOf N M) u t7 (I ((nbn : Nat) : Int)) (I ((60 * p + jj : Nat) : Int)) (I ((i : Nat) : Int))) K)
    unfold fb_M_frameOf_285 fb_M_frameOf_359
    have x3 : F u 133 = ((p : Nat) : Int) := by rw [FR.F fr (by simp)]; exact h133
    have x1 : A u 101 (60 * p + jj) = ((i : Nat) : Int) := by rw [FR.A fr (by simp)]; exact h101
    refine rb_ck (fun _ => ?_)
    rw [tnI (n := 60 * p + jj) rfl (by omega), I_A' x1, show decide (I ((i : Nat) : Int) ≤ I ((i : Nat) : Int)) = true from decide_eq_true (Int32.le_refl _), br_tq]
    refine rb_ck (fun _ => rb_ck (fun _ => ?_))
    rw [I_F' x3, tnI (n := p) rfl (by omega), addN, wa_e, lt_e]
    exact kk u fr r
  | succ d ih =>
    intro M u i hi fr r
    cases M with
    | zero => exact pp_nr
    | succ M =>
    show PP Q D (bnd (fb_M_frameOf_285 N (gg_M_frameOf N M) u t7 (I ((nbn : Nat) : Int)) (I ((60 * p + jj : Nat) : Int)) (I ((i : Nat) : Int))) K)
    unfold fb_M_frameOf_285
    have x3 : F u 133 = ((p : Nat) : Int) := by rw [FR.F fr (by simp)]; exact h133
    have x1 : A u 101 (60 * p + jj) = ((L : Nat) : Int) := by rw [FR.A fr (by simp)]; exact h101
    refine rb_ck (fun _ => ?_)
    rw [tnI (n := 60 * p + jj) rfl (by omega), I_A' x1, decI (by omega) (by omega) (by omega) (by omega), show decide (((L : Nat) : Int) ≤ ((i : Nat) : Int)) = false from decide_eq_false (by omega), br_fq, valueOf_e, bnd_so, hv, I_F' x3, show I ((v : Nat) : Int) + 2 + I ((i : Nat) : Int) = I ((v + 2 + i : Nat) : Int) from by rw [show (2 : Int32) = I 2 from rfl, I_add, I_add]; congr 1, cell_e (by omega) (by omega), bnd_so]
    refine rb_ck (fun _ => ?_)
    have ix : (I ((p : Nat) : Int) * 2500 + I ((nbn : Nat) : Int) + I ((i : Nat) : Int)).toNatClampNeg = 2500 * p + nbn + i := by
      rw [show (2500 : Int32) = I 2500 from rfl, I_mul, I_add, I_add]
      exact tnI (n := 2500 * p + nbn + i) (by omega) (by omega)
    have hpu : hp u p (v + 2 + i) = hp w0 p (v + 2 + i) := by unfold hp; rw [fr.2.2.2 88 (by simp)]
    rw [ix, hpu, wj_e, lt_e, show I ((i : Nat) : Int) + 1 = I ((i + 1 : Nat) : Int) from addN]
    refine ih M _ (i + 1) (by omega) (FR.wj fr (by simp)) (fun q => ?_)
    rw [wj_row]
    by_cases c : q = 2500 * p + nbn + i
    · subst c
      rw [if_pos rfl, if_pos (by omega), show 2500 * p + nbn + i - (2500 * p + nbn) = i by omega]
    · rw [if_neg c, r q]
      by_cases c2 : 2500 * p + nbn ≤ q ∧ q < 2500 * p + nbn + i
      · rw [if_pos c2, if_pos (by omega)]
      · rw [if_neg c2, if_neg (by omega)]
theorem frH_lp (hpp : p < 24) (h133 : F w0 133 = ((p : Nat) : Int)) (h95 : A w0 95 p = ((jj + 1 : Nat) : Int)) (hj : jj < 60) (hd : P0 ≤ src) (hb : src + ar ≤ 46000) (hn : nbn + L ≤ 2500) (hv : va t7 = ((v : Nat) : Int)) (hv2 : v + 2 + L ≤ 500) (hc : va (hp w0 p (v + 1)) = ((L : Nat) : Int)) (kk : ∀ u u2, FR [] [] [] [91] w0 u → (∀ i, u.2.2.2 91 i = if 46000 * p + P0 ≤ i ∧ i < 46000 * p + P0 + ar then w0.2.2.2 91 (i + (src - P0)) else w0.2.2.2 91 i) → FR [] [] [] [93] (wa (frmW u p jj f P0 nbn (P0 + ar)) 101 (60 * p + jj) ((L : Nat) : Int)) u2 → (∀ q, u2.2.2.2 93 q = if 2500 * p + nbn ≤ q ∧ q < 2500 * p + nbn + L then hp w0 p (v + 2 + (q - (2500 * p + nbn))) else w0.2.2.2 93 q) → PP Q D (K (wa u2 94 p ((nbn + L : Nat) : Int)) ())) : ∀ (d M : Nat) (u : MS) (i : Nat), i + d = ar → FR [] [] [] [91] w0 u → (∀ q, u.2.2.2 91 q = if 46000 * p + P0 ≤ q ∧ q < 46000 * p + P0 + i then w0.2.2.2 91 (q + (src - P0)) else w0.2.2.2 91 q) → PP Q D (bnd ((gg_M_frameOf N M).1 u (I f) (I ((ar : Nat) : Int)) 1 t7 (I ((46000 * p : Nat) : Int)) (I ((P0 : Nat) : Int)) (I ((nbn : Nat) : Int)) (I ((src : Nat) : Int)) (I ((i : Nat) : Int))) K) := by
  intro d
  induction d with
  | zero =>
    intro M u i hi fr r
    have : i = ar := by omega
    subst this
    cases M with
    | zero => exact pp_nr
    | succ M =>
    show PP Q D (bnd (fb_M_frameOf_144 N (gg_M_frameOf N M) u (I f) (I ((i : Nat) : Int)) 1 t7 (I ((46000 * p : Nat) : Int)) (I ((P0 : Nat) : Int)) (I ((nbn : Nat) : Int)) (I ((src : Nat) : Int)) (I ((i : Nat) : Int))) K)
    unfold fb_M_frameOf_144 fb_M_frameOf_359
    have x3 : F u 133 = ((p : Nat) : Int) := by rw [FR.F fr (by simp)]; exact h133
    have x95 : A u 95 p = ((jj + 1 : Nat) : Int) := by rw [FR.A fr (by simp)]; exact h95
    have ix : I ((p : Nat) : Int) * 60 + I ((jj + 1 : Nat) : Int) - 1 = I ((60 * p + jj : Nat) : Int) := by
      rw [show (60 : Int32) = I 60 from rfl, lit1q, I_mul, I_add, I_sub]
      congr 1
      omega
    rw [decI (by omega) (by omega) (by omega) (by omega), decide_eq_true (by omega), br_tq]
    refine rb_ck (fun _ => ?_)
    rw [I_F' x3, tnI (n := p) rfl (by omega), addN, wa_e, lt_e]
    unfold fm_M_frame0 fb_M_frame0_0
    have y3 : F (wa u 92 p ((P0 + i : Nat) : Int)) 133 = ((p : Nat) : Int) := x3
    have y95 : A (wa u 92 p ((P0 + i : Nat) : Int)) 95 p = ((jj + 1 : Nat) : Int) := by rw [wa_rne (by omega)]; exact x95
    rw [I_F' y3, tnI (n := p) rfl (by omega), I_A' y95]
    refine rb_bnd (pk_ck (fun _ => pk_some ?_))
    refine rb_ck (fun _ => ?_)
    rw [ix, tnI (n := 60 * p + jj) rfl (by omega), wa_e, lt_e]
    refine rb_ck (fun _ => ?_)
    rw [show (-1 : Int32) = I (-1) from rfl, wa_e, lt_e]
    refine rb_ck (fun _ => ?_)
    rw [wa_e, lt_e]
    refine rb_ck (fun _ => ?_)
    rw [wa_e, lt_e]
    refine rb_ck (fun _ => ?_)
    have z3 : F (wa (wa (wa (wa (wa u 92 p ((P0 + i : Nat) : Int)) 96 (60 * p + jj) f) 97 (60 * p + jj) (-1)) 100 (60 * p + jj) ((P0 : Nat) : Int)) 99 (60 * p + jj) ((nbn : Nat) : Int)) 133 = ((p : Nat) : Int) := x3
    rw [I_F' z3, tnI (n := p) rfl (by omega), wa_e, lt_e]
    refine rb_ck (fun _ => ?_)
    rw [show decide ((1 : Int32) = 0) = false from rfl, lit0q, wa_e, lt_e, br_fq]
    show PP Q D (bnd (bnd (fm_M_valueOf N (frmW u p jj f P0 nbn (P0 + i)) t7) (fun u13 r13 => bnd (fm_M_cell N u13 ((frmW u p jj f P0 nbn (P0 + i)).1 133) (r13 + 1)) (fun u14 r14 => ck (inb (I ((60 * p + jj : Nat) : Int)) (ln 101)) (lt (upA u14 101 (upd (u14.2.2.1 101) (60 * p + jj) (r14.toInt32))) (fun w15 => (gg_M_frameOf N M).2 w15 t7 (I ((nbn : Nat) : Int)) (I ((60 * p + jj : Nat) : Int)) 0))))) K)
    have q3 : F (frmW u p jj f P0 nbn (P0 + i)) 133 = ((p : Nat) : Int) := x3
    have hpu : hp (frmW u p jj f P0 nbn (P0 + i)) p = hp w0 p := by
      funext k
      show u.2.2.2 88 (500 * p + k) = _
      rw [fr.2.2.2 88 (by simp)]
      rfl
    rw [valueOf_e, bnd_so, hv, I_F' q3, show I ((v : Nat) : Int) + 1 = I ((v + 1 : Nat) : Int) from addN, cell_e (by omega) (by omega), bnd_so, hpu, valI, hc]
    refine rb_ck (fun _ => ?_)
    rw [wa_e, lt_e, lit0q, show (0 : Int) = ((0 : Nat) : Int) from rfl]
    refine hl_lp (w0 := wa (frmW u p jj f P0 nbn (P0 + i)) 101 (60 * p + jj) ((L : Nat) : Int)) (L := L) (v := v) hpp q3 hj hn hv hv2 (wa_sm (by omega) (by omega)) (fun u2 f2 r2 => kk u u2 fr r f2 (fun q => ?_)) L M _ 0 (by omega) FR.rf (fun q => by rw [if_neg (by omega)])
    rw [r2 q]
    show (if _ then hp (frmW u p jj f P0 nbn (P0 + i)) p _ else u.2.2.2 93 q) = _
    rw [hpu, fr.2.2.2 93 (by simp)]
  | succ d ih =>
    intro M u i hi fr r
    cases M with
    | zero => exact pp_nr
    | succ M =>
    show PP Q D (bnd (fb_M_frameOf_144 N (gg_M_frameOf N M) u (I f) (I ((ar : Nat) : Int)) 1 t7 (I ((46000 * p : Nat) : Int)) (I ((P0 : Nat) : Int)) (I ((nbn : Nat) : Int)) (I ((src : Nat) : Int)) (I ((i : Nat) : Int))) K)
    unfold fb_M_frameOf_144
    rw [decI (by omega) (by omega) (by omega) (by omega), decide_eq_false (by omega), br_fq]
    refine rb_ck (fun _ => rb_ck (fun _ => ?_))
    rw [addN, addN, addN, addN, tnI (n := 46000 * p + P0 + i) rfl (by omega), tnI (n := 46000 * p + src + i) rfl (by omega), wj_e, lt_e, show I ((i : Nat) : Int) + 1 = I ((i + 1 : Nat) : Int) from addN]
    refine ih M _ (i + 1) (by omega) (FR.wj fr (by simp)) (fun q => ?_)
    rw [wj_row]
    by_cases c : q = 46000 * p + P0 + i
    · subst c
      rw [if_pos rfl, r _, if_neg (by omega), if_pos (by omega), show 46000 * p + P0 + i + (src - P0) = 46000 * p + src + i by omega]
    · rw [if_neg c, r q]
      by_cases c2 : 46000 * p + P0 ≤ q ∧ q < 46000 * p + P0 + i
      · rw [if_pos c2, if_pos (by omega)]
      · rw [if_neg c2, if_neg (by omega)]
end
section
variable {N p v B L ad uu : Nat} {m m0 : MS} {t : Int64}
theorem hold_lpy (hv : va t = ((v : Nat) : Int)) (hv2 : v + 2 + L ≤ 512) (had : ad + 1 + L < 24000) (hL : A m0 23 ad = ((L : Nat) : Int)) (hL2 : L < 100000) : ∀ (d M : Nat) (m : MS) (i : Nat), i + d = L → FIx p m0 m → m.2.2.2 44 = m0.2.2.2 44 → F m (pq p 24) = ((B + i : Nat) : Int) → (((B + i : Nat) : Int) ≤ F m (pq p 43) ∧ ((B + i : Nat) : Int) ≤ F m (pq p 42)) → (∀ k, k < B + i → m.2.2.1 (pq p 32) k = if k < B then m0.2.2.1 (pq p 32) k else I (A m0 23 (ad + 1 + (k - B)))) → (∀ k, k < B + i → m.2.2.2 (pq p 33) k = if k < B then m0.2.2.2 (pq p 33) k else m0.2.2.2 (pq p 2) (v + 2 + (k - B))) → PK (fun m2 (_ : Unit) => FIx p m0 m2 ∧ m2.2.2.2 44 = m0.2.2.2 44 ∧ F m2 (pq p 24) = ((B + L : Nat) : Int) ∧ (((B + L : Nat) : Int) ≤ F m2 (pq p 43) ∧ ((B + L : Nat) : Int) ≤ F m2 (pq p 42)) ∧ (∀ k, k < B + L → m2.2.2.1 (pq p 32) k = if k < B then m0.2.2.1 (pq p 32) k else I (A m0 23 (ad + 1 + (k - B)))) ∧ ∀ k, k < B + L → m2.2.2.2 (pq p 33) k = if k < B then m0.2.2.2 (pq p 33) k else m0.2.2.2 (pq p 2) (v + 2 + (k - B))) (hg_Ma_hold N M m p p (pq p 2) t (I ((ad : Nat) : Int)) (I ((i : Nat) : Int))) := by
  intro d
  induction d with
  | zero =>
    intro M m i hi fx h44 h24 h43 h32 h33
    have : i = L := by omega
    subst this
    cases M with
    | zero => exact pk_none
    | succ M =>
    show PK _ (hb_Ma_hold_40 N (hg_Ma_hold N M) m p p (pq p 2) t (I ((ad : Nat) : Int)) (I ((i : Nat) : Int)))
    unfold hb_Ma_hold_40
    have e23 : A m 23 ad = ((i : Nat) : Int) := by
      show (m.2.2.1 23 ad).toInt = _
      rw [fx.2.2.1 23 (by omega) (by simp)]
      exact hL
    rw [Co_e (k := ad) rfl (by omega), bnd_so, e23, show decide (I ((i : Nat) : Int) ≤ I ((i : Nat) : Int)) = true from decide_eq_true (Int32.le_refl _), br_tq]
    exact pk_some ⟨fx, h44, h24, h43, h32, h33⟩
  | succ d ih =>
    intro M m i hi fx h44 h24 h43 h32 h33
    cases M with
    | zero => exact pk_none
    | succ M =>
    show PK _ (hb_Ma_hold_40 N (hg_Ma_hold N M) m p p (pq p 2) t (I ((ad : Nat) : Int)) (I ((i : Nat) : Int)))
    unfold hb_Ma_hold_40
    have r23 : ∀ k, A m 23 k = A m0 23 k := fun k => by
      show (m.2.2.1 23 k).toInt = _
      rw [fx.2.2.1 23 (by omega) (by simp)]
      rfl
    rw [Co_e (k := ad) rfl (by omega), bnd_so, r23, hL, decI (by omega) (by omega) (by omega) (by omega), show decide (((L : Nat) : Int) ≤ ((i : Nat) : Int)) = false from decide_eq_false (by omega), br_fq, show I ((ad : Nat) : Int) + 1 + I ((i : Nat) : Int) = I ((ad + 1 + i : Nat) : Int) from by rw [lit1q, I_add, I_add]; congr 1, Co_e (k := ad + 1 + i) rfl (by omega), bnd_so, r23, valI, hv, show I ((v : Nat) : Int) + 2 + I ((i : Nat) : Int) = I ((v + 2 + i : Nat) : Int) from by rw [show (2 : Int32) = I 2 from rfl, I_add, I_add]; congr 1, tnI (n := v + 2 + i) rfl (by omega)]
    refine pk_ck (fun _ => ?_)
    refine pk_bnd (pk_mo (bindc_m (N := N) (B := B + i) h24 h43.1 h43.2) (fun m5 _ h => ?_))
    obtain ⟨f5, j44, k24, k43, k32, k33⟩ := h
    rw [show I ((i : Nat) : Int) + 1 = I ((i + 1 : Nat) : Int) from addN]
    have j2 : m.2.2.2 (pq p 2) = m0.2.2.2 (pq p 2) := fx.2.2.2.2.2.2.2 p 2 (by omega) (by simp)
    refine ih M m5 (i + 1) (by omega) (FIx.tr fx f5) (j44.trans h44) k24 k43 (fun k hk => ?_) (fun k hk => ?_)
    · rw [k32 k (by omega)]
      by_cases c : k = B + i
      · subst c
        rw [if_pos rfl, if_neg (by omega), show B + i - B = i by omega]
      · rw [if_neg c]
        exact h32 k (by omega)
    · rw [k33 k (by omega)]
      by_cases c : k = B + i
      · subst c
        rw [if_pos rfl, if_neg (by omega), show B + i - B = i by omega, j2]
      · rw [if_neg c]
        exact h33 k (by omega)
end
section
variable {N p v B L ad uu : Nat} {m : MS} {t : Int64}
theorem hold_m (hv : va t = ((v : Nat) : Int)) (hv2 : v + 2 + L ≤ 512) (hc0 : va (m.2.2.2 (pq p 2) v) = ((uu : Nat) : Int)) (h449 : ((uu : Nat) : Int) < F m 449) (hu : uu < 400) (h32 : A m 32 uu = ((ad : Nat) : Int)) (had : ad + 1 + L < 24000) (hL : A m 23 ad = ((L : Nat) : Int)) (h24 : F m (pq p 24) = ((B : Nat) : Int)) (h43 : ((B : Nat) : Int) ≤ F m (pq p 43) ∧ ((B : Nat) : Int) ≤ F m (pq p 42)) : PK (fun m2 (_ : Unit) => FIx p m m2 ∧ m2.2.2.2 44 = m.2.2.2 44 ∧ F m2 (pq p 24) = ((B + L : Nat) : Int) ∧ (((B + L : Nat) : Int) ≤ F m2 (pq p 43) ∧ ((B + L : Nat) : Int) ≤ F m2 (pq p 42)) ∧ (∀ k, k < B + L → m2.2.2.1 (pq p 32) k = if k < B then m.2.2.1 (pq p 32) k else I (A m 23 (ad + 1 + (k - B)))) ∧ ∀ k, k < B + L → m2.2.2.2 (pq p 33) k = if k < B then m.2.2.2 (pq p 33) k else m.2.2.2 (pq p 2) (v + 2 + (k - B))) (hm_Ma_hold N m p p (pq p 2) t) := by
  have r449 := F_r m 449
  unfold hm_Ma_hold hb_Ma_hold_0
  rw [valI, hv, tnI (n := v) rfl (by omega), valI, hc0]
  refine pk_ck (fun _ => ?_)
  rw [d_lt0 (by omega), br_fq, I_F (w := m) (k := 449), show decide (I ((uu : Nat) : Int) < I (F m 449)) = true from decide_eq_true (by rw [I_lt (by omega) (by omega) r449.1 r449.2]; omega), br_tq]
  refine pk_ck (fun _ => ?_)
  rw [tnI (n := uu) rfl (by omega), I_A' h32, lit0q, show (0 : Int) = ((0 : Nat) : Int) from rfl]
  exact hold_lpy (N := N) (p := p) (B := B) hv hv2 had hL (by omega) L N m 0 (by omega) FIx.rf rfl h24 h43 (fun k hk => by rw [if_pos (by omega)]) (fun k hk => by rw [if_pos (by omega)])
theorem hold_0 (hv : va t = ((v : Nat) : Int)) (hv2 : v < 512) (hc0 : va (m.2.2.2 (pq p 2) v) = ((1000000 + uu : Nat) : Int)) (hu : uu < 100000) (h449 : F m 449 ≤ 400) : PK (fun m2 (_ : Unit) => m2 = m) (hm_Ma_hold N m p p (pq p 2) t) := by
  have r449 := F_r m 449
  unfold hm_Ma_hold hb_Ma_hold_0 hb_Ma_hold_24
  rw [valI, hv, tnI (n := v) rfl (by omega), valI, hc0]
  refine pk_ck (fun _ => ?_)
  rw [show decide (I ((1000000 + uu : Nat) : Int) < 0) = false from decide_eq_false (by rw [lit0q, I_lt (by omega) (by omega) (by omega) (by omega)]; omega), br_fq, I_F (w := m) (k := 449), show decide (I ((1000000 + uu : Nat) : Int) < I (F m 449)) = false from decide_eq_false (by rw [I_lt (by omega) (by omega) r449.1 r449.2]; omega), br_fq]
  exact pk_some rfl
theorem entry_u (h449 : ((uu : Nat) : Int) < F m 449) (hu : uu < 400) : hm_Ma_entryOf N m p (I ((uu : Nat) : Int)) = some (m, I (A m 31 uu)) ∧ hm_Ma_functionOf N m (I ((uu : Nat) : Int)) = some (m, I (-1)) := by
  have r449 := F_r m 449
  have fo : hm_Ma_functionOf N m (I ((uu : Nat) : Int)) = some (m, I (-1)) := by
    unfold hm_Ma_functionOf hb_Ma_functionOf_0 hb_Ma_functionOf_14
    rw [show decide (I ((uu : Nat) : Int) < 1000000) = true from decide_eq_true (by rw [show (1000000 : Int32) = I 1000000 from rfl, I_lt (by omega) (by omega) (by omega) (by omega)]; omega), br_tq]
    rfl
  refine ⟨?_, fo⟩
  unfold hm_Ma_entryOf hb_Ma_entryOf_0 hb_Ma_entryOf_61 hb_Ma_entryOf_62
  rw [fo, bnd_so, show decide (I (-1) < 0) = true from rfl, br_tq, d_lt0 (by omega), br_fq, I_F (w := m) (k := 449), decI r449.1 r449.2 (by omega) (by omega), show decide (F m 449 ≤ ((uu : Nat) : Int)) = false from decide_eq_false (by omega), br_fq, (I_inb (by omega) (by omega)).mpr ⟨by omega, by omega⟩, ck_t, tnI (n := uu) rfl (by omega), I_A (w := m) (k := 31) (i := uu)]
theorem entry_f (h442 : ((uu : Nat) : Int) < F m 442) (hu : uu < 666) : hm_Ma_entryOf N m p (I ((1000000 + uu : Nat) : Int)) = some (m, I (A m 29 uu)) ∧ hm_Ma_functionOf N m (I ((1000000 + uu : Nat) : Int)) = some (m, I ((uu : Nat) : Int)) := by
  have r442 := F_r m 442
  have fo : hm_Ma_functionOf N m (I ((1000000 + uu : Nat) : Int)) = some (m, I ((uu : Nat) : Int)) := by
    unfold hm_Ma_functionOf hb_Ma_functionOf_0 hb_Ma_functionOf_14
    rw [show decide (I ((1000000 + uu : Nat) : Int) < 1000000) = false from decide_eq_false (by rw [show (1000000 : Int32) = I 1000000 from rfl, I_lt (by omega) (by omega) (by omega) (by omega)]; omega), br_fq, show I ((1000000 + uu : Nat) : Int) - 1000000 = I ((uu : Nat) : Int) from by rw [show (1000000 : Int32) = I 1000000 from rfl, I_sub]; congr 1; omega]
  refine ⟨?_, fo⟩
  unfold hm_Ma_entryOf hb_Ma_entryOf_0 hb_Ma_entryOf_33
  rw [fo, bnd_so, d_lt0 (by omega), br_fq, I_F (w := m) (k := 442), decI r442.1 r442.2 (by omega) (by omega), show decide (F m 442 ≤ ((uu : Nat) : Int)) = false from decide_eq_false (by omega), br_fq, (I_inb (by omega) (by omega)).mpr ⟨by omega, by omega⟩, ck_t, tnI (n := uu) rfl (by omega), I_A (w := m) (k := 29) (i := uu)]
end
end
section
set_option maxRecDepth 100000
def CFm (m m4 : MS) (p j B P0 ra e L : Nat) (f : Int) (H : List Nat) : Prop :=
  ((∀ l, l < 100 → l ≠ 13 → l ≠ 21 → l ≠ 24 → l ≠ 42 → l ≠ 43 → m4.1 (pq p l) = m.1 (pq p l)) ∧ (∀ l, l < 2000 → l ≠ 1105 → l ≠ 1106 → l ≠ 946 → m4.1 l = m.1 l) ∧ m4.1 1106 = I (F m 1106 + 1) ∧ m4.1 (pq p 13) = I (F m (pq p 13) + 1) ∧ F m4 (pq p 21) = ((j + 1 + 1 : Nat) : Int) ∧ F m4 (pq p 24) = ((B + L : Nat) : Int) ∧ F m4 1105 = ((e : Nat) : Int)) ∧
  ((∀ K, K < 2000 → m4.2.2.1 K = m.2.2.1 K) ∧ (∀ k, k < 100 → k ≠ 30 → k ≠ 32 → m4.2.2.1 (pq p k) = m.2.2.1 (pq p k)) ∧ (∀ i, i < B → A m4 (pq p 32) i = A m (pq p 32) i) ∧ (∀ i x : Nat, H[i]? = some x → A m4 (pq p 32) (B + i) = ((x : Nat) : Int)) ∧ ∀ i, A m4 (pq p 30) i = if i = 5 * (j + 1) + 4 then ((e : Nat) : Int) else if i = 5 * (j + 1) + 1 then 0 else if i = 5 * (j + 1) then f else if i = 5 * (j + 1) + 3 then ((P0 : Nat) : Int) else if i = 5 * (j + 1) + 2 then ((B : Nat) : Int) else if i = 5 * j + 4 then ((ra : Nat) : Int) else A m (pq p 30) i) ∧
  (∀ k, k < 100 → k ≠ 33 → m4.2.2.2 (pq p k) = m.2.2.2 (pq p k)) ∧ (∀ i, i < B → m4.2.2.2 (pq p 33) i = m.2.2.2 (pq p 33) i)
def CFw (w w3 : MS) (p j B P0 ar L n : Nat) (f : Int) : Prop :=
  ((∀ l, l ≠ 166 → l ≠ 165 → l ≠ 119 → w3.1 l = w.1 l) ∧ w3.1 165 = I (F w 165 + 1)) ∧
  ((∀ K, K ≠ 93 → w3.2.2.2 K = w.2.2.2 K) ∧ ∀ i, i < B → w3.2.2.2 93 (2500 * p + i) = w.2.2.2 93 (2500 * p + i)) ∧
  (∀ K, K ≠ 92 → K ≠ 94 → K ≠ 95 → K ≠ 96 → K ≠ 97 → K ≠ 98 → K ≠ 99 → K ≠ 100 → K ≠ 101 → K ≠ 114 → w3.2.2.1 K = w.2.2.1 K) ∧
  (∀ K i, 96 ≤ K → K ≤ 101 → i ≠ 60 * p + (j + 1) → ¬ (K = 98 ∧ i = 60 * p + j) → w3.2.2.1 K i = w.2.2.1 K i) ∧
  (A w3 92 p = ((P0 + ar : Nat) : Int) ∧ A w3 94 p = ((B + L : Nat) : Int) ∧ A w3 95 p = ((j + 1 + 1 : Nat) : Int) ∧ A w3 96 (60 * p + (j + 1)) = f ∧ A w3 97 (60 * p + (j + 1)) = -1 ∧ A w3 98 (60 * p + j) = ((n + 1 : Nat) : Int) ∧ A w3 99 (60 * p + (j + 1)) = ((B : Nat) : Int) ∧ A w3 100 (60 * p + (j + 1)) = ((P0 : Nat) : Int) ∧ A w3 101 (60 * p + (j + 1)) = ((L : Nat) : Int)) ∧ w3.2.2.1 114 p = I (A w 114 p + 1)
section
variable {b : Int → Nat → Nat → Prop} {N p U B Y j a n ar P0 ra e c L : Nat} {m w m4 w3 : MS} {nb : Nat → Nat} {Hs Os : Nat → List Nat} {f : Int} {H : List Nat}
theorem callH_core (pl : PLs b p m w U B (P0 + ar) Y) (ru : RUs m w p j nb Hs Os none a n) (hB2 : B + L ≤ 2500) (hj1 : j + 1 < 60) (hc : c < 2000000) (fm : CFm m m4 p j B P0 ra e L f H) (fw : CFw w w3 p j B P0 ar L n f) (hH : H.length = L) (nd : H.Nodup) (held : ∀ i, i < L → RTb b (m4.2.2.2 (pq p 33) (B + i)) (w3.2.2.2 93 (2500 * p + (B + i)))) (cr : ∃ g, CRs (A m 23) (ROs w) (w.2.2.2 34) g none ra (n + 1) (Hs j) (Os j)) (zr : ∃ g g2, ZRs (A m 23) (ROs w) (w.2.2.2 34) (CRs (A m 23) (ROs w) (w.2.2.2 34) g) 0 0 H [] g2 e ((c : Nat) : Int)) :
    TRs m4 (wi (wi (wi (wi w3 153 0) 155 ((c : Nat) : Int)) 154 ((c : Nat) : Int)) 156 ((B + L : Nat) : Int)) p (j + 1) (upf nb (j + 1) B) (upf Hs (j + 1) H) (upf Os (j + 1) []) 0 0 e ((c : Nat) : Int) ∧ PLs b p m4 (wa (wi (wi (wi (wi w3 153 0) 155 ((c : Nat) : Int)) 154 ((c : Nat) : Int)) 156 ((B + L : Nat) : Int)) 94 p ((B + L : Nat) : Int)) U (B + L) (P0 + ar) Y ∧ (SCs p m w → SCs p m4 (wi (wi (wi (wi w3 153 0) 155 ((c : Nat) : Int)) 154 ((c : Nat) : Int)) 156 ((B + L : Nat) : Int))) := by
  obtain ⟨⟨fa, ct⟩, ⟨r2, r3⟩, ⟨f0, cr0⟩, ⟨r5, r6⟩, r7, ⟨r8, r9, r10⟩, r11, r12, r13⟩ := id ru
  obtain ⟨h12, h152⟩ : F m 1112 = 0 ∧ F w 152 = 0 := by
    rcases r7 with ⟨_, c3, c4⟩ | ⟨_, _, _, c, _⟩
    · exact ⟨c3, c4⟩
    · cases c
  obtain ⟨⟨f1, f2, f3⟩, f4, f5, f6⟩ := id fa
  obtain ⟨⟨m4q, m4g, m406, m413, m421, m424, m4pc⟩, ⟨m4A, m4Aq, m432, m432', m430⟩, m4J, m433⟩ := fm
  obtain ⟨⟨w3i, i165⟩, ⟨w3J, w393⟩, w3R, w3A, ⟨v92, v94, v95, v96, v97, v98, v99, v100, v101⟩, v114⟩ := fw
  have hB : B = nb j + (Hs j ++ Os j).length := by
    have h1 := pl.2.1.1
    rw [f6] at h1
    omega
  have hBl : ∀ r, r ≤ j → nb r + (Hs r ++ Os r).length ≤ B := fun r hr => by
    have := nb_le fa (j - r) r (by omega)
    rw [List.length_append]
    rw [List.length_append] at hB
    omega
  have w3a : ∀ K i, 96 ≤ K → K ≤ 101 → i ≠ 60 * p + (j + 1) → ¬ (K = 98 ∧ i = 60 * p + j) → A w3 K i = A w K i := fun K i h1 h2 h3 h4 => congrArg Int32.toInt (w3A K i h1 h2 h3 h4)
  have pr : ∀ K, PRr K → w3.2.2.1 K = w.2.2.1 K := fun K h => by
    unfold PRr at h
    exact w3R K (by omega) (by omega) (by omega) (by omega) (by omega) (by omega) (by omega) (by omega) (by omega) (by omega)
  generalize hw4 : wi (wi (wi (wi w3 153 0) 155 ((c : Nat) : Int)) 154 ((c : Nat) : Int)) 156 ((B + L : Nat) : Int) = w4
  have w42 : w4.2 = w3.2 := by rw [← hw4]; rfl
  have w41 : ∀ l, l ≠ 153 → l ≠ 154 → l ≠ 155 → l ≠ 156 → w4.1 l = w3.1 l := fun l h1 h2 h3 h4 => by rw [← hw4, wi_1 h4, wi_1 h2, wi_1 h3, wi_1 h1]
  have w4a : ∀ K i, A w4 K i = A w3 K i := fun K i => by show (w4.2.2.1 K i).toInt = _; rw [w42]; rfl
  have w4i : ∀ l, l ≠ 153 → l ≠ 154 → l ≠ 155 → l ≠ 156 → l ≠ 166 → l ≠ 165 → l ≠ 119 → w4.1 l = w.1 l := fun l h1 h2 h3 h4 h5 h6 h7 => by rw [w41 l h1 h2 h3 h4]; exact w3i l h5 h6 h7
  have w4f : ∀ l, l ≠ 153 → l ≠ 154 → l ≠ 155 → l ≠ 156 → l ≠ 166 → l ≠ 165 → l ≠ 119 → F w4 l = F w l := fun l h1 h2 h3 h4 h5 h6 h7 => congrArg Int32.toInt (w4i l h1 h2 h3 h4 h5 h6 h7)
  have w4J : ∀ K, K ≠ 93 → w4.2.2.2 K = w.2.2.2 K := fun K h => by rw [w42]; exact w3J K h
  have pr4 : ∀ K, PRr K → w4.2.2.1 K = w.2.2.1 K := fun K h => by rw [w42]; exact pr K h
  have hP : ∀ K, PRr K → A w4 K = A w K := fun K a => by funext i; show (w4.2.2.1 K i).toInt = _; rw [pr4 K a]; rfl
  have m4f : ∀ l, l < 2000 → l ≠ 1105 → l ≠ 1106 → l ≠ 946 → F m4 l = F m l := fun l h0 h1 h2 h3 => congrArg Int32.toInt (m4g l h0 h1 h2 h3)
  have h23 : A m4 23 = A m 23 := by funext i; show (m4.2.2.1 23 i).toInt = _; rw [m4A 23 (by omega)]; rfl
  have fa4 : FAs m4 w4 p (j + 1) (upf nb (j + 1) B) (upf Hs (j + 1) H) (upf Os (j + 1) []) := by
    refine ⟨⟨m421, by rw [w4a]; exact v95, hj1⟩, fun r hr => ?_, fun r hr => ?_, ?_⟩
    · by_cases cr' : r = j + 1
      · subst cr'
        rw [upf_s, upf_s, upf_s]
        refine ⟨?_, Or.inl ⟨by rw [w4a]; exact v97, ?_⟩, ⟨?_, by rw [w4a]; exact v99⟩, ?_, by rw [w4a, v101, hH], fun i x hx => ?_⟩
        · rw [m430, if_neg (by omega), if_neg (by omega), if_pos rfl, w4a, v96]
        · rw [m430, if_neg (by omega), if_pos rfl]
        · rw [m430, if_neg (by omega), if_neg (by omega), if_neg (by omega), if_neg (by omega), if_pos rfl]
        · rw [m430, if_neg (by omega), if_neg (by omega), if_neg (by omega), if_pos rfl, w4a, v100]
        · rw [List.append_nil] at hx
          exact m432' i x hx
      · rw [upf_n cr', upf_n cr', upf_n cr']
        obtain ⟨y1, y2, ⟨y3, y4⟩, y5, y6, y7⟩ := f4 r (by omega)
        have m30 : ∀ d, d < 4 → A m4 (pq p 30) (5 * r + d) = A m (pq p 30) (5 * r + d) := fun d hd => by rw [m430, if_neg (by omega), if_neg (by omega), if_neg (by omega), if_neg (by omega), if_neg (by omega), if_neg (by omega)]
        have wr : ∀ K, 96 ≤ K → K ≤ 101 → K ≠ 98 → A w4 K (60 * p + r) = A w K (60 * p + r) := fun K h1 h2 h3 => by rw [w4a]; exact w3a K _ h1 h2 (by omega) (by omega)
        refine ⟨by rw [show 5 * r = 5 * r + 0 from rfl, m30 0 (by omega), wr 96 (by omega) (by omega) (by omega)]; exact y1, ?_, ⟨by rw [m30 2 (by omega)]; exact y3, by rw [wr 99 (by omega) (by omega) (by omega)]; exact y4⟩, by rw [m30 3 (by omega), wr 100 (by omega) (by omega) (by omega)]; exact y5, by rw [wr 101 (by omega) (by omega) (by omega)]; exact y6, fun i x hx => ?_⟩
        · rw [wr 97 (by omega) (by omega) (by omega), m30 1 (by omega)]
          rcases y2 with y2 | ⟨k2, t2, q1, q3, q4⟩
          · exact Or.inl y2
          · exact Or.inr ⟨k2, t2, q1, by rw [hP 44 (by unfold PRr; omega)]; exact q3, by rw [hP 8 (by unfold PRr; omega)]; exact q4⟩
        · have hi : i < (Hs r ++ Os r).length := by
            rcases Nat.lt_or_ge i (Hs r ++ Os r).length with h | h
            · exact h
            · rw [List.getElem?_eq_none h] at hx
              cases hx
          have := hBl r (by omega)
          rw [m432 _ (by omega)]
          exact y7 i x hx
    · by_cases cr' : r = j
      · subst cr'
        rw [upf_n (show r ≠ r + 1 by omega), upf_s, upf_n (show r ≠ r + 1 by omega), upf_n (show r ≠ r + 1 by omega)]
        obtain ⟨g, cr⟩ := cr
        refine ⟨hB, ra, n + 1, ?_, by rw [w4a]; exact v98, g, by rw [h23, ROs_eq pr4, w4J 34 (by omega)]; exact cr⟩
        rw [m430, if_neg (by omega), if_neg (by omega), if_neg (by omega), if_neg (by omega), if_neg (by omega), if_pos rfl]
      · rw [upf_n (show r ≠ j + 1 by omega), upf_n (show r + 1 ≠ j + 1 by omega), upf_n (show r ≠ j + 1 by omega), upf_n (show r ≠ j + 1 by omega)]
        obtain ⟨y1, a3, n3, y2, y3, f9, y4⟩ := f5 r (by omega)
        refine ⟨y1, a3, n3, ?_, by rw [w4a, w3a 98 _ (by omega) (by omega) (by omega) (by omega)]; exact y3, f9, by rw [h23, ROs_eq pr4, w4J 34 (by omega)]; exact y4⟩
        rw [m430, if_neg (by omega), if_neg (by omega), if_neg (by omega), if_neg (by omega), if_neg (by omega), if_neg (by omega)]
        exact y2
    · rw [upf_s, upf_s, upf_s, m424, List.append_nil, hH]
  have ct4 : CTs m4 w4 p (j + 1) (upf nb (j + 1) B) (upf Hs (j + 1) H) (upf Os (j + 1) []) := by
    obtain ⟨nC, c1, c2, c3, c5, c4⟩ := id ct
    have wc : ∀ K i, 102 ≤ K → K ≤ 106 → A w4 K i = A w K i := fun K i h1 h2 => by
      rw [w4a]
      show (w3.2.2.1 K i).toInt = _
      rw [w3R K (by omega) (by omega) (by omega) (by omega) (by omega) (by omega) (by omega) (by omega) (by omega) (by omega)]
      rfl
    have h37 : A m4 (pq p 37) = A m (pq p 37) := by funext i; show (m4.2.2.1 (pq p 37) i).toInt = _; rw [m4Aq 37 (by omega) (by omega) (by omega)]; rfl
    refine ⟨nC, (congrArg Int32.toInt (m4q 28 (by omega) (by omega) (by omega) (by omega) (by omega) (by omega))).trans c1, by rw [wc 106 _ (by omega) (by omega)]; exact c2, c3, fun c hc => by rw [wc 102 _ (by omega) (by omega), wc 102 _ (by omega) (by omega), wc 105 _ (by omega) (by omega), wc 105 _ (by omega) (by omega)]; exact c5 c hc, fun c hc => ?_⟩
    obtain ⟨r, k, a3, nd, nn, k1, k2, k3, k4, k5, k6, k7, k8, k9, k10, f9, k11⟩ := c4 c hc
    have rn : r ≠ j + 1 := by omega
    exact ⟨r, k, a3, nd, nn, by omega, by rw [h37]; exact k2, by rw [wc 102 _ (by omega) (by omega)]; exact k3, by rw [h37, upf_n rn, upf_n rn]; exact k4, by rw [wc 105 _ (by omega) (by omega), upf_n rn, upf_n rn]; exact k5, by rw [upf_n rn]; exact k6, by rw [h37, wc 104 _ (by omega) (by omega)]; exact k7, by rw [h37]; exact k8, by rw [wc 103 _ (by omega) (by omega)]; exact k9, by rw [hP 25 (by unfold PRr; omega)]; exact k10, f9, by rw [h23, ROs_eq pr4, w4J 34 (by omega), upf_n rn, upf_n rn]; exact k11⟩
  have aR : ∀ K, K = 89 ∨ K = 108 → A w4 K p = A w K p := fun K hK => by
    rw [w4a]
    show (w3.2.2.1 K p).toInt = _
    rw [w3R K (by omega) (by omega) (by omega) (by omega) (by omega) (by omega) (by omega) (by omega) (by omega) (by omega)]
    rfl
  have fq : ∀ l, l = 4 ∨ l = 26 ∨ l = 7 → F m4 (pq p l) = F m (pq p l) := fun l hl => congrArg Int32.toInt (m4q l (by omega) (by omega) (by omega) (by omega) (by omega) (by omega))
  have pl4 : PLs b p m4 w4 U (B + L) (P0 + ar) Y := by
    obtain ⟨⟨⟨p1, p2, p3⟩, p4, p5⟩, ⟨p6, p7, p8⟩, ⟨p9, p10, p11⟩, p12, p13, p14⟩ := pl
    have hpe : hp w4 p = hp w p := by
      funext k
      show w4.2.2.2 88 (500 * p + k) = _
      rw [w4J 88 (by omega)]
      rfl
    refine ⟨⟨⟨by rw [fq 4 (by omega)]; exact p1, by rw [aR 89 (by omega)]; exact p2, p3⟩, by rw [m4J 2 (by omega) (by omega), hpe]; exact p4, ?_⟩, ⟨m424, by rw [w4a]; exact v94, fun i hi => ?_⟩, ⟨by rw [fq 26 (by omega)]; exact p9, by rw [w4a]; exact v92, fun i hi => by rw [m4J 35 (by omega) (by omega), w4J 91 (by omega)]; exact p11 i hi⟩, by rw [fq 7 (by omega)]; exact p12, by rw [aR 108 (by omega)]; exact p13, fun i hi => by rw [m4J 6 (by omega) (by omega), w4J 107 (by omega)]; exact p14 i hi⟩
    · rw [m4q 5 (by omega) (by omega) (by omega) (by omega) (by omega) (by omega), w42, w3R 90 (by omega) (by omega) (by omega) (by omega) (by omega) (by omega) (by omega) (by omega) (by omega) (by omega)]
      exact p5
    · rw [w42]
      by_cases c : i < B
      · rw [m433 i c, w393 i c]
        exact p8 i c
      · obtain ⟨d, rfl⟩ : ∃ d, i = B + d := ⟨i - B, by omega⟩
        exact held d (by omega)
  have sc4 : SCs p m w → SCs p m4 w4 := fun s => by
    obtain ⟨s1, s2, s3, s4, s5, s6⟩ := s
    have rr : ∀ K, 112 ≤ K → K ≤ 117 → K ≠ 114 → w4.2.2.1 K = w.2.2.1 K := fun K h1 h2 h3 => by
      rw [w42]
      exact w3R K (by omega) (by omega) (by omega) (by omega) (by omega) (by omega) (by omega) (by omega) (by omega) h3
    have q9 : ∀ l, l = 11 ∨ l = 12 ∨ l = 15 ∨ l = 29 → m4.1 (pq p l) = m.1 (pq p l) := fun l hl => m4q l (by omega) (by omega) (by omega) (by omega) (by omega) (by omega)
    refine ⟨by rw [q9 12 (by omega), rr 113 (by omega) (by omega) (by omega)]; exact s1, ?_, by rw [q9 11 (by omega), rr 112 (by omega) (by omega) (by omega)]; exact s3, by rw [q9 15 (by omega), rr 117 (by omega) (by omega) (by omega)]; exact s4, by rw [q9 29 (by omega), rr 115 (by omega) (by omega) (by omega)]; exact s5, fun i hi => ?_⟩
    · rw [m413, w42, v114]
      congr 1
      show (m.1 (pq p 13)).toInt + 1 = (w.2.2.1 114 p).toInt + 1
      rw [s2]
    · rw [m4Aq 14 (by omega) (by omega) (by omega), rr 116 (by omega) (by omega) (by omega)]
      refine s6 i ?_
      rw [show F m (pq p 15) = F m4 (pq p 15) from (congrArg Int32.toInt (q9 15 (by omega))).symm]
      exact hi
  obtain ⟨g1, g2, zr⟩ := zr
  refine ⟨⟨⟨⟨fa4, ct4⟩, ⟨(congrArg Int32.toInt (m4q 9 (by omega) (by omega) (by omega) (by omega) (by omega) (by omega))).trans r5, ?_⟩, Or.inl ⟨rfl, (m4f 1112 (by omega) (by omega) (by omega) (by omega)).trans h12, (w4f 152 (by omega) (by omega) (by omega) (by omega) (by omega) (by omega) (by omega)).trans h152⟩, ⟨(m4f 1108 (by omega) (by omega) (by omega) (by omega)).trans r8, (m4f 1109 (by omega) (by omega) (by omega) (by omega)).trans r9, (w4f 151 (by omega) (by omega) (by omega) (by omega) (by omega) (by omega) (by omega)).trans r10⟩, (w4f 133 (by omega) (by omega) (by omega) (by omega) (by omega) (by omega) (by omega)).trans r11, ?_, ?_⟩, m4pc, ⟨?_, ?_, ?_⟩, fun c => ?_, ⟨?_, ?_⟩, g1, g2, ?_⟩, PLs_94 pl4 (by omega), sc4⟩
  · show (w4.2.2.1 109 p).toInt = 0
    rw [w42, w3R 109 (by omega) (by omega) (by omega) (by omega) (by omega) (by omega) (by omega) (by omega) (by omega) (by omega)]
    exact r6
  · rw [m406, w41 165 (by omega) (by omega) (by omega) (by omega), i165]
    congr 1
    show (m.1 1106).toInt + 1 = (w.1 165).toInt + 1
    rw [r12]
  · rw [m4g 1107 (by omega) (by omega) (by omega) (by omega), w4i 164 (by omega) (by omega) (by omega) (by omega) (by omega) (by omega) (by omega)]
    exact r13
  · rw [← hw4, wi_ne (by omega), wi_ne (by omega), wi_ne (by omega), wi_sm (by omega) (by omega)]
    rfl
  · rw [← hw4, wi_ne (by omega), wi_sm (by omega) (by omega)]
  · rw [upf_s, upf_s, upf_s, ← hw4, wi_sm (by omega) (by omega), hH]
    simp
  · omega
  · rw [upf_s]; exact List.nodup_nil
  · rw [upf_s]; exact nd
  · rw [upf_s, upf_s, h23, ROs_eq pr4, w4J 34 (by omega)]
    exact zr
end
end
section
set_option maxRecDepth 100000
section
variable {α β : Type} {N p n ar f j a B c P0 ee l v cc uu L : Nat} {m w : MS} {t x : Int64} {ff e : Int} {Q : MS → α → MS → β → Prop} {D : Option (MS × α)} {K : MS → Unit → Option (MS × β)}
theorem apl_27 : hm_Ma_flow N m p (I 27) = bnd (hm_Co_at N m ((m.1 1105) + 1)) (fun u5 r5 => bnd (hm_Ma_apply N u5 p r5 0) (fun u8 _ => some (u8, ()))) := rfl
theorem apl_28 : hm_Ma_flow N m p (I 28) = bnd (hm_Co_at N m ((m.1 1105) + 1)) (fun u5 r5 => bnd (hm_Ma_apply N u5 p r5 1) (fun u8 _ => some (u8, ()))) := rfl
theorem one_13 {z : Int} : fm_M_one N w (I z) (I 13) = bnd (fm_M_callRun N w (I z) (I 13)) (fun u6 _ => some (u6, ())) := rfl
theorem takes_u (h449 : ((uu : Nat) : Int) < F m 449) (hu : uu < 400) : hm_Co_takes N m (I ((uu : Nat) : Int)) = some (m, I (A m 30 uu)) := by
  have r449 := F_r m 449
  unfold hm_Co_takes hb_Co_takes_0 hb_Co_takes_49 hb_Co_takes_50
  rw [show I ((uu : Nat) : Int) - 1000000 = I (((uu : Nat) : Int) - 1000000) from by rw [show (1000000 : Int32) = I 1000000 from rfl, I_sub], show decide (I (((uu : Nat) : Int) - 1000000) < 0) = true from decide_eq_true (by rw [lit0q, I_lt (by omega) (by omega) (by omega) (by omega)]; omega), br_tq, d_lt0 (by omega), br_fq, I_F (w := m) (k := 449), decI r449.1 r449.2 (by omega) (by omega), show decide (F m 449 ≤ ((uu : Nat) : Int)) = false from decide_eq_false (by omega), br_fq, (I_inb (by omega) (by omega)).mpr ⟨by omega, by omega⟩, ck_t, tnI (n := uu) rfl (by omega), I_A (w := m) (k := 30) (i := uu)]
theorem takes_f (h442 : ((uu : Nat) : Int) < F m 442) (hu : uu < 666) : hm_Co_takes N m (I ((1000000 + uu : Nat) : Int)) = some (m, I (A m 25 uu)) := by
  have r442 := F_r m 442
  unfold hm_Co_takes hb_Co_takes_0 hb_Co_takes_27
  rw [show I ((1000000 + uu : Nat) : Int) - 1000000 = I ((uu : Nat) : Int) from by rw [show (1000000 : Int32) = I 1000000 from rfl, I_sub]; congr 1; omega, d_lt0 (by omega), br_fq, I_F (w := m) (k := 442), decI r442.1 r442.2 (by omega) (by omega), show decide (F m 442 ≤ ((uu : Nat) : Int)) = false from decide_eq_false (by omega), br_fq, (I_inb (by omega) (by omega)).mpr ⟨by omega, by omega⟩, ck_t, tnI (n := uu) rfl (by omega), I_A (w := m) (k := 25) (i := uu)]
theorem ent_e {ra : Nat} (g21 : F m (pq p 21) = ((j + 1 : Nat) : Int)) (hj : j + 1 < 60) (g24 : F m (pq p 24) = ((B : Nat) : Int)) (g26 : F m (pq p 26) = ((P0 + ar : Nat) : Int)) : hm_Ma_enter N m p (I ff) (I e) (I ((ar : Nat) : Int)) 0 (I ((ra : Nat) : Int)) = some (wi (opS (s30 m p (5 * j + 4) (I ((ra : Nat) : Int))) p (j + 1) B P0 (I ff) (I e)) 1105 e, ()) := by
  unfold hm_Ma_enter hb_Ma_enter_0 hb_Ma_enter_37
  rw [show decide ((0 : Int32) = 0) = true from rfl, br_tq, setPlace_e (j := j) g21 (by omega), bnd_so, open_e (m := s30 m p (5 * j + 4) (I ((ra : Nat) : Int))) (j := j + 1) (B := B) (P0 := P0) (ar := ar) g21 hj g24 g26, bnd_so, wi_e, lt_e]
theorem toS_1 {k : Nat} (h : k ≠ pq p 26) : (toS m p P0 ar).1 k = m.1 k := wi_1 h
theorem toS_26 (h : P0 + ar < 100000000) : F (toS m p P0 ar) (pq p 26) = ((P0 + ar : Nat) : Int) := wi_sm (by omega) (by omega)
theorem apN_m (hlt : F m 1106 < F m 1107) (hpc : F m 1105 = ((a : Nat) : Int)) (ha : a + 3 < 24000) (h21 : F m (pq p 21) = ((j + 1 : Nat) : Int)) (hj : j + 1 < 60) (h24 : F m (pq p 24) = ((B : Nat) : Int)) (h26 : F m (pq p 26) = ((P0 + 1 + ar : Nat) : Int)) (hl : F m (pq p 45) = ((l : Nat) : Int)) (hl2 : P0 + 1 + ar ≤ l ∧ l ≤ 1000000) (ht : m.2.2.2 (pq p 35) P0 = t) (st : so t = 3) (hv : va t = ((v : Nat) : Int)) (hv2 : v < 512) (hc0 : va (m.2.2.2 (pq p 2) v) = ((cc : Nat) : Int)) (tk : hm_Co_takes N m (I ((cc : Nat) : Int)) = some (m, I ((ar : Nat) : Int)))
    (fo : hm_Ma_functionOf N (toS (cnM m p) p P0 ar) (I ((cc : Nat) : Int)) = some (toS (cnM m p) p P0 ar, I ff)) (en : hm_Ma_entryOf N (toS (cnM m p) p P0 ar) p (I ((cc : Nat) : Int)) = some (toS (cnM m p) p P0 ar, I e)) : hm_Ma_apply N m p (I ((ar : Nat) : Int)) 0 = bnd (hm_Ma_hold N (wi (opS (s30 (toS (cnM m p) p P0 ar) p (5 * j + 4) (I ((a + 3 : Nat) : Int))) p (j + 1) B P0 (I ff) (I e)) 1105 e) p p (pq p 2) t) (fun u29 _ => some (u29, ())) := by
  have be : hm_Fr_below N m p (I ((ar : Nat) : Int)) = some (m, t) := by
    have := below_e (N := N) (x := ((ar : Nat) : Int)) (k := ar) (W := P0 + 1 + ar) (l := l) h26 hl hl2.1 hl2.2 rfl (by omega)
    rw [show P0 + 1 + ar - 1 - ar = P0 by omega, ht] at this
    exact this
  have g26 : F (cnM m p) (pq p 26) = ((P0 + 1 + ar : Nat) : Int) := (congrArg Int32.toInt (cnM_q (by omega))).trans h26
  have g45 : F (cnM m p) (pq p 45) = ((l : Nat) : Int) := (congrArg Int32.toInt (cnM_q (by omega))).trans hl
  have g5 : F (toS (cnM m p) p P0 ar) 1105 = ((a : Nat) : Int) := (congrArg Int32.toInt (toS_1 (m := cnM m p) (P0 := P0) (ar := ar) (k := 1105) (pq_n (by omega)))).trans ((congrArg Int32.toInt (cnM_1 (by omega) (by omega) (by omega))).trans hpc)
  have g21 : F (toS (cnM m p) p P0 ar) (pq p 21) = ((j + 1 : Nat) : Int) := (congrArg Int32.toInt (toS_1 (m := cnM m p) (P0 := P0) (ar := ar) (pq_inj (by omega)))).trans ((congrArg Int32.toInt (cnM_q (by omega))).trans h21)
  have g24 : F (toS (cnM m p) p P0 ar) (pq p 24) = ((B : Nat) : Int) := (congrArg Int32.toInt (toS_1 (m := cnM m p) (P0 := P0) (ar := ar) (pq_inj (by omega)))).trans ((congrArg Int32.toInt (cnM_q (by omega))).trans h24)
  have g26' : F (toS (cnM m p) p P0 ar) (pq p 26) = ((P0 + ar : Nat) : Int) := toS_26 (by omega)
  unfold hm_Ma_apply hb_Ma_apply_0
  rw [be, bnd_so, e_tag, bnd_so, st, show decide (I 3 = 3) = true from rfl, br_tq, valI, hv, tnI (n := v) rfl (by omega), (I_inb (by omega) (by omega)).mpr ⟨by omega, by omega⟩, ck_t, valI, hc0, tk, bnd_so, show decide (I ((ar : Nat) : Int) = I ((ar : Nat) : Int)) = true from decide_eq_true rfl, br_tq, I_F' hpc, show I ((a : Nat) : Int) + 2 = I ((a + 2 : Nat) : Int) from addN, Co_e (k := a + 2) rfl (by omega), bnd_so, begins_e hlt h21 (Or.inr ⟨rfl, hj⟩), bnd_so, show decide ((1 : Int32) = 0) = false from rfl, br_fq, tout_e (P0 := P0) g26 g45 hl2, bnd_so, fo, bnd_so, en, bnd_so, I_F' g5, show I ((a : Nat) : Int) + 3 = I ((a + 3 : Nat) : Int) from addN]
  rw [ent_e (P0 := P0) g21 hj g24 g26', bnd_so]
theorem call_13u (hpp : p < 24) (hn : n < 100000) (h26 : A w 26 n = ((ar : Nat) : Int)) (h133 : F w 133 = ((p : Nat) : Int)) (h92 : A w 92 p = ((P0 + 1 + ar : Nat) : Int)) (hW : P0 + 1 + ar ≤ 46000) (hx : w.2.2.2 91 (46000 * p + P0) = x) (sx : so x = 3) (hv : va x = ((v : Nat) : Int)) (hv2 : v < 500) (hd : (hp w p v).toInt = ((uu : Nat) : Int)) (hu : uu < 100000) (h53 : A w 53 uu = ((c : Nat) : Int)) (hc : c < 100000) (h41 : A w 41 c = ((ar : Nat) : Int)) (h : PP Q D (bnd (fb_M_callRun_213 N () (wi w 166 1) (I ((n : Nat) : Int)) (I ((ar : Nat) : Int)) (-1) (I ((uu : Nat) : Int))) K)) : PP Q D (bnd (fm_M_callRun N w (I ((n : Nat) : Int)) (I 13)) K) := by
  unfold fm_M_callRun fb_M_callRun_0
  refine rb_ck (fun _ => ?_)
  rw [show decide (I 13 = 12) = false from rfl, br_fq, tnI (n := n) rfl (by omega), I_A' h26]
  unfold fb_M_callRun_47 fb_M_callRun_63 fb_M_callRun_80
  rw [show decide (I 13 = 12) = false from rfl, br_fq, show decide (I 13 = 13) = true from rfl, br_tq]
  refine rb_ck (fun _ => ?_)
  rw [show upI w 166 1 = wi w 166 1 from rfl, lt_e, br_tq]
  have x33 : F (wi w 166 1) 133 = ((p : Nat) : Int) := by rw [wi_ne (by omega)]; exact h133
  refine rb_bnd (pk_mo (top_r (N := N) (k := ar) (W := P0 + 1 + ar) hpp x33 h92 hW (by omega)) (fun w4 r e => ?_))
  obtain ⟨rfl, rfl⟩ := e
  rw [show 46000 * p + (P0 + 1 + ar - 1 - ar) = 46000 * p + P0 by omega, show (wi w 166 1).2.2.2 91 (46000 * p + P0) = x from hx, sortOf_e, rb_bnd_so, sx, show decide (I 3 = 3) = true from rfl, br_tq, valueOf_e, rb_bnd_so, hv, I_F' x33, cell_e (by omega) hv2, rb_bnd_so, show hp (wi w 166 1) p v = hp w p v from rfl]
  have d0 : decide (0 ≤ lg_cmp (hp w p v) 0) = true := decide_eq_true ((lgc_ge _).mpr (by rw [hd]; omega))
  have ti : (hp w p v).toInt32 = I ((uu : Nat) : Int) := by
    apply Int32.toInt_inj.mp
    rw [Int64.toInt_toInt32, hd, I_ti (by omega) (by omega)]
    exact Int.bmod_eq_of_le (by omega) (by omega)
  unfold fb_M_callRun_147 fb_M_callRun_163 fb_M_callRun_193
  rw [d0, br_tq, br_tq, ti, show decide ((-1 : Int32) = -1) = true from rfl, br_tq, tnI (n := uu) rfl (by omega)]
  refine rb_ck (fun _ => ?_)
  have e53 : A (wi w 166 1) 53 uu = ((c : Nat) : Int) := h53
  have e41 : A (wi w 166 1) 41 c = ((ar : Nat) : Int) := h41
  rw [I_A' e53, tnI (n := c) rfl (by omega), I_A' e41, show decide (I ((ar : Nat) : Int) = I ((ar : Nat) : Int)) = true from decide_eq_true rfl, br_tq]
  exact rb_ck (fun _ => h)
theorem frNH_r (hpp : p < 24) (hu : uu < 100000) (h133 : F w 133 = ((p : Nat) : Int)) (h166 : F w 166 = 1) (h92 : A w 92 p = ((P0 + 1 + ar : Nat) : Int)) (hW : P0 + 1 + ar ≤ 46000) (h94 : A w 94 p = ((B : Nat) : Int)) (hB : B + L ≤ 2500) (h95 : A w 95 p = ((j + 1 : Nat) : Int)) (hj : j + 1 < 60) (hx : w.2.2.2 91 (46000 * p + P0) = x) (hv : va x = ((v : Nat) : Int)) (hv2 : v + 2 + L ≤ 500) (hc : va (hp w p (v + 1)) = ((L : Nat) : Int))
    (kk : ∀ u u2, FR [] [] [] [91] (wa w 95 p ((j + 1 + 1 : Nat) : Int)) u → (∀ i, u.2.2.2 91 i = if 46000 * p + P0 ≤ i ∧ i < 46000 * p + P0 + ar then w.2.2.2 91 (i + 1) else w.2.2.2 91 i) → FR [] [] [] [93] (wa (frmW u p (j + 1) (-1) P0 B (P0 + ar)) 101 (60 * p + (j + 1)) ((L : Nat) : Int)) u2 → (∀ q, u2.2.2.2 93 q = if 2500 * p + B ≤ q ∧ q < 2500 * p + B + L then hp w p (v + 2 + (q - (2500 * p + B))) else w.2.2.2 93 q) → PP Q D (K (wa u2 94 p ((B + L : Nat) : Int)) ())) : PP Q D (bnd (fm_M_frameOf N w (-1) (I ((uu : Nat) : Int)) (I ((ar : Nat) : Int)) (I 0)) K) := by
  unfold fm_M_frameOf fb_M_frameOf_0 fb_M_frameOf_10 fb_M_frameOf_24 fb_M_frameOf_46 fb_M_frameOf_128
  rw [show decide (I ((uu : Nat) : Int) = (-1 : Int32)) = false from by rw [m1I, decE (by omega) (by omega) (by omega) (by omega)]; exact decide_eq_false (by omega), br_fq, I_F' h166, show decide (I 1 = 0) = false from rfl, br_fq, show decide ((1 : Int32) = 1) = true from rfl, br_tq]
  refine rb_bnd (pk_mo (top_r (N := N) (k := ar) (W := P0 + 1 + ar) hpp h133 h92 hW (by omega)) (fun w4 r e => ?_))
  obtain ⟨rfl, rfl⟩ := e
  rw [show 46000 * p + (P0 + 1 + ar - 1 - ar) = 46000 * p + P0 by omega, hx]
  have s1 : I ((P0 + 1 + ar : Nat) : Int) - I ((ar : Nat) : Int) = I ((P0 + 1 : Nat) : Int) := by rw [I_sub]; congr 1; omega
  have s0 : I ((P0 + 1 : Nat) : Int) - 1 = I ((P0 : Nat) : Int) := by rw [lit1q, I_sub]; congr 1; omega
  have sp : I ((p : Nat) : Int) * 46000 = I ((46000 * p : Nat) : Int) := by
    rw [show (46000 : Int32) = I 46000 from rfl, I_mul]
    congr 1
    omega
  refine rb_ck (fun _ => ?_)
  rw [lt_e]
  refine rb_ck (fun _ => ?_)
  rw [lt_e, show decide (I 0 = 0) = true from rfl, br_tq]
  refine rb_ck (fun _ => rb_ck (fun _ => ?_))
  rw [I_F' h133, tnI (n := p) rfl (by omega), I_A' h95, I_A' h92, I_A' h94, s1, s0, sp, show I ((j + 1 : Nat) : Int) + 1 = I ((j + 1 + 1 : Nat) : Int) from addN, wa_e, lt_e]
  have x33 : F (wa w4 95 p ((j + 1 + 1 : Nat) : Int)) 133 = ((p : Nat) : Int) := h133
  have x92 : A (wa w4 95 p ((j + 1 + 1 : Nat) : Int)) 92 p = ((P0 + 1 + ar : Nat) : Int) := by rw [wa_rne (by omega)]; exact h92
  refine rb_ck (fun _ => ?_)
  rw [I_F' x33, tnI (n := p) rfl (by omega), I_A' x92, s1, lt_e, m1I]
  refine frH_lp (w0 := wa w4 95 p ((j + 1 + 1 : Nat) : Int)) (jj := j + 1) (src := P0 + 1) (L := L) (v := v) hpp x33 (wa_sm (by omega) (by omega)) hj (by omega) hW hB hv hv2 hc (fun u u2 fr r f2 r2 => kk u u2 fr (fun i => ?_) f2 r2) ar N _ 0 (by omega) FR.rf (fun q => by rw [if_neg (by omega)])
  rw [r i, show P0 + 1 - P0 = 1 by omega]
  rfl
end
end
section
set_option maxRecDepth 100000
def ntS (m : MS) (p j B P0 ra : Nat) (f e : Int) : MS := wi (opS (s30 m p (5 * j + 4) (I ((ra : Nat) : Int))) p (j + 1) B P0 (I f) (I e)) 1105 e
def toW (w : MS) (p P0 ar : Nat) : MS := (w.1, w.2.1, (wa w 92 p ((P0 + ar : Nat) : Int)).2.2.1, fun K => if K = 91 then (fun i => if 46000 * p + P0 ≤ i ∧ i < 46000 * p + P0 + ar then w.2.2.2 91 (i + 1) else w.2.2.2 91 i) else w.2.2.2 K)
section
variable {b : Int → Nat → Nat → Prop} {p j B P0 ra ar U Y k : Nat} {m w : MS} {f e : Int}
theorem ntS_1' (h1 : k ≠ 1105) (h2 : k ≠ pq p 21) : (ntS m p j B P0 ra f e).1 k = m.1 k := by
  unfold ntS
  rw [wi_1 h1]
  show (wi (s30 m p (5 * j + 4) (I ((ra : Nat) : Int))) (pq p 21) ((j + 1 + 1 : Nat) : Int)).1 k = _
  rw [wi_1 h2]
  rfl
theorem ntS_21 (hj : j < 60) : F (ntS m p j B P0 ra f e) (pq p 21) = ((j + 1 + 1 : Nat) : Int) := by
  unfold ntS
  rw [wi_ne (fun c => pq_n (by omega) c.symm)]
  show F (wi (s30 m p (5 * j + 4) (I ((ra : Nat) : Int))) (pq p 21) ((j + 1 + 1 : Nat) : Int)) (pq p 21) = _
  rw [wi_sm (by omega) (by omega)]
theorem ntS_05 (he : RG e) : F (ntS m p j B P0 ra f e) 1105 = e := by
  unfold ntS
  rw [wi_sm he.1 he.2]
theorem ntS_J : (ntS m p j B P0 ra f e).2.2.2 = m.2.2.2 := rfl
theorem ntS_A (h : k ≠ pq p 30) : (ntS m p j B P0 ra f e).2.2.1 k = m.2.2.1 k := by
  show (opS (s30 m p (5 * j + 4) (I ((ra : Nat) : Int))) p (j + 1) B P0 (I f) (I e)).2.2.1 k = _
  unfold opS
  exact (if_neg h).trans ((if_neg h).trans ((if_neg h).trans ((if_neg h).trans ((if_neg h).trans (if_neg h)))))
theorem ntS_30 {i : Nat} (hB : B < 2147483648) (hP : P0 < 2147483648) (hr : ra < 2147483648) (hf : RG f) (he : RG e) : A (ntS m p j B P0 ra f e) (pq p 30) i = if i = 5 * (j + 1) + 4 then e else if i = 5 * (j + 1) + 1 then 0 else if i = 5 * (j + 1) then f else if i = 5 * (j + 1) + 3 then ((P0 : Nat) : Int) else if i = 5 * (j + 1) + 2 then ((B : Nat) : Int) else if i = 5 * j + 4 then ((ra : Nat) : Int) else A m (pq p 30) i := by
  show A (opS (s30 m p (5 * j + 4) (I ((ra : Nat) : Int))) p (j + 1) B P0 (I f) (I e)) (pq p 30) i = _
  rw [opS_30 hB hP, I_ti he.1 he.2, I_ti hf.1 hf.2, s30_a, I_ti (by omega) (by omega)]
theorem GGm_ntS : GGm p m (ntS m p j B P0 ra f e) := GGm.tr (GGm.tr GGm_s30 GGm_opS) (GGm_reg (by omega))
theorem GGm_toS : GGm p m (toS m p P0 ar) := GGm.tr (GGm_j (by omega)) (GGm_own (by omega))
theorem toS_J (h : k ≠ pq p 35) : (toS m p P0 ar).2.2.2 k = m.2.2.2 k := if_neg h
theorem toS_A : (toS m p P0 ar).2.2.1 = m.2.2.1 := rfl
theorem FGm_toS : FGm p m (toS m p P0 ar) := ⟨fun k hk => toS_1 (by simp at hk; omega), fun _ _ => rfl, fun _ _ => rfl, fun k hk => toS_J (by simp at hk; omega)⟩
theorem toW_J (h : k ≠ 91) : (toW w p P0 ar).2.2.2 k = w.2.2.2 k := if_neg h
theorem toW_91 {i : Nat} : (toW w p P0 ar).2.2.2 91 i = if 46000 * p + P0 ≤ i ∧ i < 46000 * p + P0 + ar then w.2.2.2 91 (i + 1) else w.2.2.2 91 i := by
  show (if (91 : Nat) = 91 then (fun i => if 46000 * p + P0 ≤ i ∧ i < 46000 * p + P0 + ar then w.2.2.2 91 (i + 1) else w.2.2.2 91 i) else w.2.2.2 91) i = _
  rw [if_pos rfl]
theorem toW_A (h : k ≠ 92) : (toW w p P0 ar).2.2.1 k = w.2.2.1 k := wa_21 h
theorem toW_92 (h : P0 + ar < 100000000) : A (toW w p P0 ar) 92 p = ((P0 + ar : Nat) : Int) := wa_sm (u := w) (by omega) (by omega)
theorem FGw_toW (hW : P0 + 1 + ar ≤ 46000) : FGw p j w (toW w p P0 ar) := by
  have g : FGw p j w (wa w 92 p ((P0 + ar : Nat) : Int)) := FGw.w92
  obtain ⟨⟨g1, g2, g3, g4⟩, g5, g6, g7⟩ := g
  refine ⟨⟨fun _ _ => rfl, fun _ _ => rfl, g3, fun K hK => toW_J (by simp at hK; omega)⟩, g5, g6, fun i hi => by rw [toW_J (by omega)], fun i hi => ?_, fun i hi => by rw [toW_J (by omega)], fun i hi => by rw [toW_J (by omega)]⟩
  rw [toW_91, if_neg (by omega)]
theorem PLs_to (pl : PLs b p m w U B (P0 + 1 + ar) Y) (hW : P0 + 1 + ar ≤ 46000) : PLs b p (toS m p P0 ar) (toW w p P0 ar) U B (P0 + ar) Y := by
  obtain ⟨⟨⟨p1, p2, p3⟩, p4, p5⟩, ⟨p6, p7, p8⟩, ⟨p9, p10, p11⟩, p12, p13, p14⟩ := pl
  have fq : ∀ l, l ≠ 26 → F (toS m p P0 ar) (pq p l) = F m (pq p l) := fun l h => congrArg Int32.toInt (toS_1 (pq_inj h))
  have aR : ∀ K, K ≠ 92 → A (toW w p P0 ar) K p = A w K p := fun K h => by show ((toW w p P0 ar).2.2.1 K p).toInt = _; rw [toW_A h]; rfl
  have hpe : hp (toW w p P0 ar) p = hp w p := by
    funext k
    show (toW w p P0 ar).2.2.2 88 (500 * p + k) = _
    rw [toW_J (by omega)]
    rfl
  refine ⟨⟨⟨by rw [fq 4 (by omega)]; exact p1, by rw [aR 89 (by omega)]; exact p2, p3⟩, by rw [toS_J (pq_inj (by omega)), hpe]; exact p4, by rw [toS_1 (pq_inj (by omega)), toW_A (by omega)]; exact p5⟩, ⟨by rw [fq 24 (by omega)]; exact p6, by rw [aR 94 (by omega)]; exact p7, fun i hi => by rw [toS_J (pq_inj (by omega)), toW_J (by omega)]; exact p8 i hi⟩, ⟨toS_26 (by omega), toW_92 (by omega), fun i hi => ?_⟩, by rw [fq 7 (by omega)]; exact p12, by rw [aR 108 (by omega)]; exact p13, fun i hi => by rw [toS_J (pq_inj (by omega)), toW_J (by omega)]; exact p14 i hi⟩
  rw [toS_35 hi, toW_91]
  by_cases c : i < P0
  · rw [if_pos c, if_neg (by omega)]
    exact p11 i (by omega)
  · rw [if_neg c, if_pos (by omega)]
    exact p11 (i + 1) (by omega)
end
section
variable {α β : Type} {b : Int → Nat → Nat → Prop} {N p U B Y j a n ar P0 l v v' uu e ad L c : Nat} {m w : MS} {t x : Int64} {nb : Nat → Nat} {Hs Os : Nat → List Nat} {H : List Nat} {Q : MS → α → MS → β → Prop} {K1 : MS → Option (MS × α)} {K2 : MS → Option (MS × β)}
theorem op_applyN (hpp : p < 24) (pl : PLs b p m w U B (P0 + 1 + ar) Y) (ru : RUs m w p j nb Hs Os none a n) (hW : P0 + 1 + ar ≤ 46000) (hB2 : B + L ≤ 2500) (hj1 : j + 1 < 60) (hlt : F m 1106 < F m 1107) (ha : a + 3 < 24000) (hl : F m (pq p 45) = ((l : Nat) : Int)) (hl2 : P0 + 1 + ar ≤ l ∧ l ≤ 1000000) (h43 : ((B : Nat) : Int) ≤ F m (pq p 43) ∧ ((B : Nat) : Int) ≤ F m (pq p 42)) (c1 : A m 23 (a + 1) = ((ar : Nat) : Int)) (h26 : A w 26 n = ((ar : Nat) : Int)) (h30 : A w 30 n = 0)
    (ht : m.2.2.2 (pq p 35) P0 = t) (hx : w.2.2.2 91 (46000 * p + P0) = x) (st : so t = 3) (sx : so x = 3) (hv : va t = ((v : Nat) : Int)) (hv2 : v + 2 + L ≤ 500) (hv' : va x = ((v' : Nat) : Int)) (hv2' : v' + 2 + L ≤ 500) (hc0 : va (m.2.2.2 (pq p 2) v) = ((uu : Nat) : Int)) (hd : (hp w p v').toInt = ((uu : Nat) : Int)) (hL' : va (hp w p (v' + 1)) = ((L : Nat) : Int)) (hcs : ∀ i, i < L → RTb b (m.2.2.2 (pq p 2) (v + 2 + i)) (hp w p (v' + 2 + i)))
    (h449 : ((uu : Nat) : Int) < F m 449) (hu : uu < 400) (f30 : A m 30 uu = ((ar : Nat) : Int)) (f31 : A m 31 uu = ((e : Nat) : Int)) (f32 : A m 32 uu = ((ad : Nat) : Int)) (fL : A m 23 ad = ((L : Nat) : Int)) (had : ad + 1 + L < 24000) (hH : H.length = L) (nm : ∀ i x : Nat, H[i]? = some x → A m 23 (ad + 1 + i) = ((x : Nat) : Int)) (nd : H.Nodup) (h53 : A w 53 uu = ((c : Nat) : Int)) (hc : c < 100000) (h41 : A w 41 c = ((ar : Nat) : Int)) (cr : ∃ g, CRs (A m 23) (ROs w) (w.2.2.2 34) g none (a + 3) (n + 1) (Hs j) (Os j)) (zr : ∃ g g2, ZRs (A m 23) (ROs w) (w.2.2.2 34) (CRs (A m 23) (ROs w) (w.2.2.2 34) g) 0 0 H [] g2 e ((c : Nat) : Int))
    (k : ∀ m4 w4, TRs m4 w4 p (j + 1) (upf nb (j + 1) B) (upf Hs (j + 1) H) (upf Os (j + 1) []) 0 0 e ((c : Nat) : Int) → PLs b p m4 (wa w4 94 p ((B + L : Nat) : Int)) U (B + L) (P0 + ar) Y → GGm p (cbM m) m4 → GGw p (cbW w) w4 → (SCs p m w → SCs p m4 w4) → (w4.2.2.2 88 = w.2.2.2 88 ∧ w4.1 140 = w.1 140) → PP Q (K1 m4) (bnd (gg_M_choose N (rc_M_error N 19) N w4 1) (fun u _ => K2 u))) : PP Q (bnd (hm_Ma_flow N m p (I 27)) (fun u _ => K1 u)) (bnd (fm_M_one N w (I ((n : Nat) : Int)) (I 13)) (fun u _ => K2 u)) := by
  obtain ⟨⟨fa, ct⟩, ⟨r2, r3⟩, ⟨f0, cr0⟩, ⟨r5, r6⟩, r7, ⟨r8, r9, r10⟩, r11, r12, r13⟩ := id ru
  have cb := CR_b cr0
  obtain ⟨⟨f1, f2, f3⟩, f4, f5, f6⟩ := id fa
  have ebd : e + 1 < 24000 := by
    obtain ⟨g, g2, z⟩ := zr
    cases g2 with
    | zero => exact z.elim
    | succ g2 => exact z.1
  have hne : (wi w 166 1).1 165 ≠ (wi w 166 1).1 164 := by
    rw [wi_1 (by omega), wi_1 (by omega), ← r12, ← r13]
    intro c
    have := congrArg Int32.toInt c
    have h1 : F m 1106 = (m.1 1106).toInt := rfl
    have h2 : F m 1107 = (m.1 1107).toInt := rfl
    omega
  have t1 : ∀ k, k < 2000 → k ≠ 1106 → k ≠ 946 → (toS (cnM m p) p P0 ar).1 k = m.1 k := fun k h0 h1 h2 => (toS_1 (pq_n h0)).trans (cnM_1 h0 h1 h2)
  have tF : ∀ k, k < 2000 → k ≠ 1106 → k ≠ 946 → F (toS (cnM m p) p P0 ar) k = F m k := fun k h0 h1 h2 => congrArg Int32.toInt (t1 k h0 h1 h2)
  have tq : ∀ k, k ≠ 13 → k ≠ 26 → (toS (cnM m p) p P0 ar).1 (pq p k) = m.1 (pq p k) := fun k h1 h2 => (toS_1 (pq_inj h2)).trans (cnM_q h1)
  have en := entry_u (N := N) (p := p) (m := toS (cnM m p) p P0 ar) (uu := uu) (by rw [tF 449 (by omega) (by omega) (by omega)]; exact h449) hu
  have e31 : A (toS (cnM m p) p P0 ar) 31 uu = ((e : Nat) : Int) := f31
  rw [e31] at en
  have tk := takes_u (N := N) h449 hu
  rw [f30] at tk
  rw [apl_27, I_F' r2, show I ((a : Nat) : Int) + 1 = I ((a + 1 : Nat) : Int) from addN, Co_e (k := a + 1) rfl (by omega), bnd_so, c1, apN_m (cc := uu) (ff := -1) hlt r2 ha f1 hj1 pl.2.1.1 pl.2.2.1.1 hl hl2 ht st hv (by omega) hc0 tk en.2 en.1]
  refine l_bb (l_bb ?_)
  show PP Q (bnd (hm_Ma_hold N (ntS (toS (cnM m p) p P0 ar) p j B P0 (a + 3) (-1) ((e : Nat) : Int)) p p (pq p 2) t) _) _
  generalize hT : toS (cnM m p) p P0 ar = mT at t1 tF tq
  have tJ : ∀ k, k ≠ 35 → mT.2.2.2 (pq p k) = m.2.2.2 (pq p k) := fun k h => by rw [← hT, toS_J (pq_inj h)]; rfl
  have tA : mT.2.2.1 = m.2.2.1 := by rw [← hT]; rfl
  have tAa : ∀ K i, A mT K i = A m K i := fun K i => by show (mT.2.2.1 K i).toInt = _; rw [tA]; rfl
  generalize hE : ntS mT p j B P0 (a + 3) (-1) ((e : Nat) : Int) = mE
  have eA : ∀ K, K < 2000 → mE.2.2.1 K = m.2.2.1 K := fun K h => by rw [← hE, ntS_A (pq_n h), tA]
  have eAa : ∀ K i, K < 2000 → A mE K i = A m K i := fun K i h => by show (mE.2.2.1 K i).toInt = _; rw [eA K h]; rfl
  have eJ : mE.2.2.2 = mT.2.2.2 := by rw [← hE]; exact ntS_J
  have eq : ∀ k, k ≠ 13 → k ≠ 21 → k ≠ 26 → mE.1 (pq p k) = m.1 (pq p k) := fun k h1 h2 h3 => by rw [← hE, ntS_1' (fun c => pq_n (by omega) c.symm) (pq_inj h2)]; exact tq k h1 h3
  have eg : ∀ k, k < 2000 → k ≠ 1105 → mE.1 k = mT.1 k := fun k h0 h1 => by rw [← hE, ntS_1' h1 (pq_n h0)]
  have eF : ∀ k, k ≠ 13 → k ≠ 21 → k ≠ 26 → F mE (pq p k) = F m (pq p k) := fun k h1 h2 h3 => congrArg Int32.toInt (eq k h1 h2 h3)
  refine l_bnd (pk_mo (hold_m (N := N) (m := mE) (L := L) (ad := ad) (uu := uu) (B := B) hv (by omega) (by rw [eJ, tJ 2 (by omega)]; exact hc0) (by rw [show F mE 449 = F mT 449 from congrArg Int32.toInt (eg 449 (by omega) (by omega)), tF 449 (by omega) (by omega) (by omega)]; exact h449) hu ((eAa 32 uu (by omega)).trans f32) had ((eAa 23 ad (by omega)).trans fL) (by rw [eF 24 (by omega) (by omega) (by omega)]; exact pl.2.1.1) ⟨by rw [eF 43 (by omega) (by omega) (by omega)]; exact h43.1, by rw [eF 42 (by omega) (by omega) (by omega)]; exact h43.2⟩) (fun m4 _ h => ?_))
  obtain ⟨fx, q44, q24, q43, q32, q33⟩ := h
  have fm : CFm (toS m p P0 ar) m4 p j B P0 (a + 3) e L (-1) H := by
    have xq : ∀ k, k < 100 → k ≠ 24 → k ≠ 42 → k ≠ 43 → m4.1 (pq p k) = mE.1 (pq p k) := fun k h0 h1 h2 h3 => fx.2.2.2.2.1 p k h0 (fun _ => by simp; omega)
    have xg : ∀ k, k < 2000 → m4.1 k = mE.1 k := fun k h => fx.1 k h (by simp)
    have nS : ∀ k, k < 2000 → F (toS m p P0 ar) k = F m k := fun k h => congrArg Int32.toInt (toS_1 (pq_n h))
    refine ⟨⟨fun k h0 h1 h2 h3 h4 h5 => ?_, fun k h0 h1 h2 h3 => ?_, ?_, ?_, ?_, q24, ?_⟩, ⟨fun K h => ?_, fun k h0 h1 h2 => ?_, fun i hi => ?_, fun i x hx => ?_, fun i => ?_⟩, fun k h0 h1 => ?_, fun i hi => ?_⟩
    · rw [xq k h0 h3 h4 h5]
      by_cases c : k = 26
      · subst c
        rw [← hE, ntS_1' (fun c => pq_n (by omega) c.symm) (pq_inj (by omega)), ← hT]
        exact wi_s1.trans wi_s1.symm
      · rw [eq k h1 h2 c, toS_1 (pq_inj c)]
    · rw [xg k h0, eg k h0 h1, t1 k h0 h2 h3, toS_1 (pq_n h0)]
    · rw [xg 1106 (by omega), eg 1106 (by omega) (by omega), ← hT, toS_1 (pq_n (by omega)), cnM_06, nS 1106 (by omega)]
    · rw [xq 13 (by omega) (by omega) (by omega) (by omega), ← hE, ntS_1' (fun c => pq_n (by omega) c.symm) (pq_inj (by omega)), ← hT, toS_1 (pq_inj (by omega)), cnM_13, show F (toS m p P0 ar) (pq p 13) = F m (pq p 13) from congrArg Int32.toInt (toS_1 (pq_inj (by omega)))]
    · rw [show F m4 (pq p 21) = F mE (pq p 21) from congrArg Int32.toInt (xq 21 (by omega) (by omega) (by omega) (by omega)), ← hE, ntS_21 (by omega)]
    · rw [show F m4 1105 = F mE 1105 from congrArg Int32.toInt (xg 1105 (by omega)), ← hE, ntS_05 ⟨by omega, by omega⟩]
    · rw [fx.2.2.1 K h (by simp), eA K h]
      rfl
    · rw [fx.2.2.2.2.2.2.1 p k h0 (fun _ => by simp; omega), ← hE, ntS_A (pq_inj h1), tA]
      rfl
    · show (m4.2.2.1 (pq p 32) i).toInt = (m.2.2.1 (pq p 32) i).toInt
      rw [q32 i (by omega), if_pos hi, ← hE, ntS_A (pq_inj (by omega)), tA]
    · have hi : i < L := by
        rcases Nat.lt_or_ge i H.length with h | h
        · omega
        · rw [List.getElem?_eq_none h] at hx
          cases hx
      show (m4.2.2.1 (pq p 32) (B + i)).toInt = _
      rw [q32 (B + i) (by omega), if_neg (by omega), show B + i - B = i by omega, eAa 23 _ (by omega), nm i x hx]
      have := A_r m 23 (ad + 1 + i)
      rw [nm i x hx] at this
      exact I_ti this.1 this.2
    · rw [show A m4 (pq p 30) i = A mE (pq p 30) i from by show (m4.2.2.1 (pq p 30) i).toInt = _; rw [fx.2.2.2.2.2.2.1 p 30 (by omega) (fun _ => by simp)]; rfl, ← hE, ntS_30 (by omega) (by omega) (by omega) ⟨by omega, by omega⟩ ⟨by omega, by omega⟩, tAa]
      rfl
    · rw [fx.2.2.2.2.2.2.2 p k h0 (fun _ => by simp; omega), eJ, ← hT]
      by_cases c : k = 35
      · subst c
        show (if pq p 35 = pq p 35 then _ else _) = (if pq p 35 = pq p 35 then _ else _)
        rw [if_pos rfl, if_pos rfl]
        rfl
      · rw [toS_J (pq_inj c), toS_J (pq_inj c)]
        rfl
    · rw [q33 i (by omega), if_pos hi, eJ, tJ 33 (by omega), toS_J (pq_inj (by omega))]
  have gm : GGm p (cbM m) m4 := by
    refine GGm.tr (GGm.tr (GGm.tr GGm_cn (GGm_toS (P0 := P0) (ar := ar))) (m3 := mE) ?_) (GGm_fc fx (by simp) (by simp) (by simp))
    rw [hT, ← hE]
    exact GGm_ntS
  rw [one_13]
  refine r_bb ?_
  refine call_13u (P0 := P0) (c := c) hpp (by omega) h26 r11 pl.2.2.1.2.1 hW hx sx hv' (by omega) hd (by omega) h53 hc h41 ?_
  have x33 : F (wi w 166 1) 133 = ((p : Nat) : Int) := by rw [wi_ne (by omega)]; exact r11
  refine call_go (j1 := j) (tl := 0) hpp (by omega) x33 f2 f3 hne h30 (Or.inr ⟨rfl, hj1⟩) ?_
  have e165 : F (wi w 166 1) 165 = F w 165 := wi_ne (by omega)
  have e119 : F (wi w 166 1) 119 = F w 119 := wi_ne (by omega)
  rw [e165, e119, show A (wi w 166 1) 114 p = A w 114 p from rfl]
  generalize hw1 : wa (wa (wi (wi (wi w 166 1) 165 (F w 165 + 1)) 119 (F w 119 + 1)) 114 p (A w 114 p + 1)) 98 (60 * p + j) ((n + 1 : Nat) : Int) = w1
  have a1 : ∀ K i, K ≠ 114 → K ≠ 98 → A w1 K i = A w K i := fun K i h1 h2 => by rw [← hw1, wa_rne h2, wa_rne h1]; rfl
  have i1 : ∀ l, l ≠ 166 → l ≠ 165 → l ≠ 119 → w1.1 l = w.1 l := fun l h1 h2 h3 => by
    rw [← hw1]
    show (wi (wi (wi w 166 1) 165 (F w 165 + 1)) 119 (F w 119 + 1)).1 l = _
    rw [wi_1 h3, wi_1 h2, wi_1 h1]
  have i165 : w1.1 165 = I (F w 165 + 1) := by
    rw [← hw1]
    show (wi (wi (wi w 166 1) 165 (F w 165 + 1)) 119 (F w 119 + 1)).1 165 = _
    rw [wi_1 (by omega)]
    exact wi_s1
  have i119 : w1.1 119 = I (F w 119 + 1) := by
    rw [← hw1]
    show (wi (wi (wi w 166 1) 165 (F w 165 + 1)) 119 (F w 119 + 1)).1 119 = _
    exact wi_s1
  have i166 : F w1 166 = 1 := by
    rw [← hw1]
    show F (wi (wi (wi w 166 1) 165 (F w 165 + 1)) 119 (F w 119 + 1)) 166 = 1
    rw [wi_ne (by omega), wi_ne (by omega), wi_sm (by omega) (by omega)]
  have j1J : w1.2.2.2 = w.2.2.2 := by rw [← hw1]; rfl
  have hpw : hp w1 p = hp w p := by
    funext k
    show w1.2.2.2 88 (500 * p + k) = _
    rw [j1J]
    rfl
  have y33 : F w1 133 = ((p : Nat) : Int) := (congrArg Int32.toInt (i1 133 (by omega) (by omega) (by omega))).trans r11
  refine frNH_r (P0 := P0) (B := B) (j := j) (L := L) (v := v') (x := x) hpp (by omega) y33 i166 ((a1 92 p (by omega) (by omega)).trans pl.2.2.1.2.1) hW ((a1 94 p (by omega) (by omega)).trans pl.2.1.2.1) hB2 ((a1 95 p (by omega) (by omega)).trans f2) hj1 (by rw [j1J]; exact hx) hv' hv2' (by rw [hpw]; exact hL') (fun u u2 fr r f2' r2' => ?_)
  generalize hw3 : wa u2 94 p ((B + L : Nat) : Int) = w3
  have uR : ∀ K, u.2.2.1 K = (wa w1 95 p ((j + 1 + 1 : Nat) : Int)).2.2.1 K := fun K => fr.2.2.1 K (by simp)
  have u2R : ∀ K, u2.2.2.1 K = (wa (frmW u p (j + 1) (-1) P0 B (P0 + ar)) 101 (60 * p + (j + 1)) ((L : Nat) : Int)).2.2.1 K := fun K => f2'.2.2.1 K (by simp)
  have w3i : w3.1 = w1.1 := by
    rw [← hw3]
    funext l
    show u2.1 l = _
    rw [f2'.1 l (by simp)]
    show u.1 l = _
    rw [fr.1 l (by simp)]
    rfl
  have w3J : ∀ K, K ≠ 93 → K ≠ 91 → w3.2.2.2 K = w.2.2.2 K := fun K h1 h2 => by
    rw [← hw3]
    show u2.2.2.2 K = _
    rw [f2'.2.2.2 K (by simpa using h1)]
    show u.2.2.2 K = _
    rw [fr.2.2.2 K (by simpa using h2)]
    show w1.2.2.2 K = _
    rw [j1J]
  have w391 : ∀ i, w3.2.2.2 91 i = (toW w p P0 ar).2.2.2 91 i := fun i => by
    rw [← hw3, toW_91]
    show u2.2.2.2 91 i = _
    rw [f2'.2.2.2 91 (by simp)]
    show u.2.2.2 91 i = _
    rw [r i, j1J]
  have w393 : ∀ q, w3.2.2.2 93 q = if 2500 * p + B ≤ q ∧ q < 2500 * p + B + L then hp w p (v' + 2 + (q - (2500 * p + B))) else w.2.2.2 93 q := fun q => by
    rw [← hw3]
    show u2.2.2.2 93 q = _
    rw [r2' q, hpw, j1J]
  have row : ∀ K i, ¬ (K = 94 ∧ i = p) → ¬ (K = 101 ∧ i = 60 * p + (j + 1)) → ¬ (K = 99 ∧ i = 60 * p + (j + 1)) → ¬ (K = 100 ∧ i = 60 * p + (j + 1)) → ¬ (K = 97 ∧ i = 60 * p + (j + 1)) → ¬ (K = 96 ∧ i = 60 * p + (j + 1)) → ¬ (K = 92 ∧ i = p) → ¬ (K = 95 ∧ i = p) → ¬ (K = 98 ∧ i = 60 * p + j) → ¬ (K = 114 ∧ i = p) → w3.2.2.1 K i = w.2.2.1 K i := fun K i h1 h2 h3 h4 h5 h6 h7 h8 h9 h10 => by
    rw [← hw3, wa_at h1, u2R, wa_at h2]
    unfold frmW
    rw [wa_at h2, wa_at h1, wa_at h3, wa_at h4, wa_at h5, wa_at h6, wa_at h7, uR, wa_at h8, ← hw1, wa_at h9, wa_at h10]
    rfl
  have w3R : ∀ K, K ≠ 92 → K ≠ 94 → K ≠ 95 → K ≠ 96 → K ≠ 97 → K ≠ 98 → K ≠ 99 → K ≠ 100 → K ≠ 101 → K ≠ 114 → w3.2.2.1 K = w.2.2.1 K := fun K h1 h2 h3 h4 h5 h6 h7 h8 h9 h10 => by
    funext i
    exact row K i (by omega) (by omega) (by omega) (by omega) (by omega) (by omega) (by omega) (by omega) (by omega) (by omega)
  have w3A : ∀ K i, 96 ≤ K → K ≤ 101 → i ≠ 60 * p + (j + 1) → ¬ (K = 98 ∧ i = 60 * p + j) → w3.2.2.1 K i = w.2.2.1 K i := fun K i h1 h2 h3 h4 => row K i (by omega) (by omega) (by omega) (by omega) (by omega) (by omega) (by omega) (by omega) h4 (by omega)
  have o1 : ∀ K i, (K = 92 ∨ K = 94 ∨ K = 95 ∨ K = 114) → i ≠ p → w3.2.2.1 K i = w.2.2.1 K i := fun K i h1 h2 => row K i (by omega) (by omega) (by omega) (by omega) (by omega) (by omega) (by omega) (by omega) (by omega) (by omega)
  have rd : ∀ K i, K ≠ 94 → K ≠ 101 → A w3 K i = A (frmW u p (j + 1) (-1) P0 B (P0 + ar)) K i := fun K i h1 h2 => by
    rw [← hw3, wa_rne h1]
    show (u2.2.2.1 K i).toInt = _
    rw [u2R, wa_21 h2]
    rfl
  have v101 : A w3 101 (60 * p + (j + 1)) = ((L : Nat) : Int) := by
    rw [← hw3, wa_rne (by omega)]
    show (u2.2.2.1 101 (60 * p + (j + 1))).toInt = _
    rw [u2R]
    exact wa_sm (u := frmW u p (j + 1) (-1) P0 B (P0 + ar)) (by omega) (by omega)
  have v94 : A w3 94 p = ((B + L : Nat) : Int) := by rw [← hw3]; exact wa_sm (by omega) (by omega)
  have v99 : A w3 99 (60 * p + (j + 1)) = ((B : Nat) : Int) := by
    rw [rd 99 _ (by omega) (by omega)]
    unfold frmW
    rw [wa_rne (by omega), wa_rne (by omega), wa_sm (by omega) (by omega)]
  have v100 : A w3 100 (60 * p + (j + 1)) = ((P0 : Nat) : Int) := by
    rw [rd 100 _ (by omega) (by omega)]
    unfold frmW
    rw [wa_rne (by omega), wa_rne (by omega), wa_rne (by omega), wa_sm (by omega) (by omega)]
  have v97 : A w3 97 (60 * p + (j + 1)) = -1 := by
    rw [rd 97 _ (by omega) (by omega)]
    unfold frmW
    rw [wa_rne (by omega), wa_rne (by omega), wa_rne (by omega), wa_rne (by omega), wa_sm (by omega) (by omega)]
  have v96 : A w3 96 (60 * p + (j + 1)) = -1 := by
    rw [rd 96 _ (by omega) (by omega)]
    unfold frmW
    rw [wa_rne (by omega), wa_rne (by omega), wa_rne (by omega), wa_rne (by omega), wa_rne (by omega), wa_sm (by omega) (by omega)]
  have v92 : A w3 92 p = ((P0 + ar : Nat) : Int) := by
    rw [rd 92 _ (by omega) (by omega)]
    unfold frmW
    rw [wa_rne (by omega), wa_rne (by omega), wa_rne (by omega), wa_rne (by omega), wa_rne (by omega), wa_rne (by omega), wa_sm (by omega) (by omega)]
  have u95 : ∀ K i, A u K i = A (wa w1 95 p ((j + 1 + 1 : Nat) : Int)) K i := fun K i => FR.A fr (by simp)
  have v95 : A w3 95 p = ((j + 1 + 1 : Nat) : Int) := by
    rw [rd 95 _ (by omega) (by omega)]
    unfold frmW
    rw [wa_rne (by omega), wa_rne (by omega), wa_rne (by omega), wa_rne (by omega), wa_rne (by omega), wa_rne (by omega), wa_rne (by omega), u95, wa_sm (by omega) (by omega)]
  have v98 : A w3 98 (60 * p + j) = ((n + 1 : Nat) : Int) := by
    rw [rd 98 _ (by omega) (by omega)]
    unfold frmW
    rw [wa_rne (by omega), wa_rne (by omega), wa_rne (by omega), wa_rne (by omega), wa_rne (by omega), wa_rne (by omega), wa_rne (by omega), u95, wa_rne (by omega), ← hw1, wa_sm (by omega) (by omega)]
  have v114 : w3.2.2.1 114 p = I (A w 114 p + 1) := by
    rw [← hw3, wa_21 (by omega), u2R, wa_21 (by omega)]
    unfold frmW
    rw [wa_21 (by omega), wa_21 (by omega), wa_21 (by omega), wa_21 (by omega), wa_21 (by omega), wa_21 (by omega), wa_21 (by omega), uR, wa_21 (by omega), ← hw1, wa_21 (by omega), wa_s1]
  have z33 : F w3 133 = ((p : Nat) : Int) := by show (w3.1 133).toInt = _; rw [w3i]; exact y33
  have fw : CFw (toW w p P0 ar) w3 p j B P0 ar L n (-1) := by
    refine ⟨⟨fun l h1 h2 h3 => by rw [w3i]; exact i1 l h1 h2 h3, by rw [w3i]; exact i165⟩, ⟨fun K h => ?_, fun i hi => ?_⟩, fun K h1 h2 h3 h4 h5 h6 h7 h8 h9 h10 => by rw [w3R K h1 h2 h3 h4 h5 h6 h7 h8 h9 h10, toW_A h1], fun K i h1 h2 h3 h4 => by rw [w3A K i h1 h2 h3 h4, toW_A (by omega)], ⟨v92, v94, v95, v96, v97, v98, v99, v100, v101⟩, ?_⟩
    · by_cases c : K = 91
      · subst c
        funext i
        exact w391 i
      · rw [w3J K h c, toW_J c]
    · rw [w393, if_neg (by omega), toW_J (by omega)]
    · rw [v114]
      congr 2
  have pr : ∀ K, PRr K → w3.2.2.1 K = w.2.2.1 K := fun K h => by
    unfold PRr at h
    exact w3R K (by omega) (by omega) (by omega) (by omega) (by omega) (by omega) (by omega) (by omega) (by omega) (by omega)
  have prT : ∀ K, PRr K → (toW w p P0 ar).2.2.1 K = w.2.2.1 K := fun K h => toW_A (by unfold PRr at h; omega)
  have ruN : RUs (toS m p P0 ar) (toW w p P0 ar) p j nb Hs Os none a n := RUs_mv ru FGm_toS (FGw_toW hW) (by rw [show F (toS m p P0 ar) 1105 = F m 1105 from congrArg Int32.toInt (toS_1 (pq_n (by omega)))]; exact r2) (by show ((toW w p P0 ar).2.2.1 98 (60 * p + j)).toInt = _; rw [toW_A (by omega)]; exact r3) ⟨f0, cr0⟩
  rw [show decide ((-1 : Int32) = -1) = true from rfl, br_tq]
  refine rb_ck (fun _ => ?_)
  have v53 : A w3 53 uu = ((c : Nat) : Int) := by show (w3.2.2.1 53 uu).toInt = _; rw [pr 53 (by unfold PRr; omega)]; exact h53
  rw [tnI (n := uu) rfl (by omega), I_A' v53]
  refine clof_r (j := j + 1) (a := L) (nbn := B) hpp z33 v95 hj1 v99 v101 ?_
  have core := callH_core (c := c) (ra := a + 3) (e := e) (H := H) (PLs_to pl hW) ruN hB2 hj1 (by omega) fm fw hH nd (fun i hi => by
    rw [q33 (B + i) (by omega), if_neg (by omega), show B + i - B = i by omega, eJ, tJ 2 (by omega), w393, if_pos (by omega), show 2500 * p + (B + i) - (2500 * p + B) = i by omega]
    exact hcs i hi) (by rw [ROs_eq prT, toW_J (by omega)]; exact cr) (by rw [ROs_eq prT, toW_J (by omega)]; exact zr)
  obtain ⟨tr, pl4, sc4⟩ := core
  refine k _ _ tr pl4 gm ?_ (fun s => sc4 (SC_fg s FGm_toS (FGw_toW (j := j) hW))) ⟨w3J 88 (by omega) (by omega), by rw [wi_1 (by omega), wi_1 (by omega), wi_1 (by omega), wi_1 (by omega), w3i]; exact i1 140 (by omega) (by omega) (by omega)⟩
  generalize hw4 : wi (wi (wi (wi w3 153 0) 155 ((c : Nat) : Int)) 154 ((c : Nat) : Int)) 156 ((B + L : Nat) : Int) = w4
  have w42 : w4.2 = w3.2 := by rw [← hw4]; rfl
  have w41 : ∀ l, l ≠ 153 → l ≠ 154 → l ≠ 155 → l ≠ 156 → w4.1 l = w3.1 l := fun l h1 h2 h3 h4 => by rw [← hw4, wi_1 h4, wi_1 h2, wi_1 h3, wi_1 h1]
  have ow : ∀ r K i, K ≠ 92 → K ≠ 94 → K ≠ 95 → K ≠ 114 → (96 ≤ K → K ≤ 101 → r ≠ p → 60 * r ≤ i ∧ i < 60 * r + 60) → r ≠ p → w4.2.2.1 K i = w.2.2.1 K i := fun r K i h1 h2 h3 h4 h5 h6 => by
    rw [w42]
    by_cases c : 96 ≤ K ∧ K ≤ 101
    · have := h5 c.1 c.2 h6
      exact w3A K i c.1 c.2 (by omega) (by omega)
    · rw [w3R K h1 h2 h3 (by omega) (by omega) (by omega) (by omega) (by omega) (by omega) h4]
  have wi1 : ∀ l, l ≤ 132 ∨ l = 150 ∨ l = 164 ∨ l = 165 → w4.1 l = (cbW w).1 l := fun l hl => by
    rw [w41 l (by omega) (by omega) (by omega) (by omega), w3i]
    unfold cbW
    by_cases c : l = 119
    · subst c
      rw [i119, wi_1 (by omega), wi_s1]
    · by_cases c5 : l = 165
      · subst c5
        rw [i165, wi_s1]
      · rw [i1 l (by omega) c5 c, wi_1 c5, wi_1 c]
  have jx : ∀ K d i, d ≠ p → (K = 88 ∨ K = 107 ∨ K = 148 ∨ K = 34 ∨ K = 111) → w4.2.2.2 K i = w.2.2.2 K i := fun K d i _ h => by rw [w42, w3J K (by omega) (by omega)]
  refine ⟨fun d hd => ⟨fun K i h => ?_, fun K h => ?_, fun i _ _ => ?_, by rw [w42, w3J 111 (by omega) (by omega)]; rfl, fun i _ _ => by rw [w42, w3J 88 (by omega) (by omega)]; rfl, fun i h1 h2 => ?_, fun i h1 h2 => ?_, fun i _ _ => by rw [w42, w3J 107 (by omega) (by omega)]; rfl⟩, ⟨fun K h => by rw [w42]; exact pr K h, by rw [w42, w3J 34 (by omega) (by omega)]; rfl, ?_, ?_, wi1 14 (by omega)⟩, wi1 150 (by omega), fun K h => ?_, by rw [w42, w3J 148 (by omega) (by omega)]; rfl, fun K h => ?_, fun l h => wi1 l (by omega)⟩
  · show w4.2.2.1 K i = w.2.2.1 K i
    by_cases c : K = 92 ∨ K = 94 ∨ K = 95 ∨ K = 114
    · rw [w42]
      refine o1 K i c ?_
      unfold OWi at h
      omega
    · refine ow d K i (by omega) (by omega) (by omega) (by omega) (fun h1 h2 _ => ?_) hd
      unfold OWi at h
      omega
  · exact ow d K d (by omega) (by omega) (by omega) (by omega) (fun h1 h2 _ => by omega) hd
  · exact ow d 131 i (by omega) (by omega) (by omega) (by omega) (fun h1 h2 _ => by omega) hd
  · rw [w42, w391 i, toW_91, if_neg (by omega)]
    rfl
  · rw [w42, w393 i, if_neg (by omega)]
    rfl
  · show w4.2.2.1 12 = w.2.2.1 12
    rw [w42]
    exact w3R 12 (by omega) (by omega) (by omega) (by omega) (by omega) (by omega) (by omega) (by omega) (by omega) (by omega)
  · show w4.2.2.1 13 = w.2.2.1 13
    rw [w42]
    exact w3R 13 (by omega) (by omega) (by omega) (by omega) (by omega) (by omega) (by omega) (by omega) (by omega) (by omega)
  · show w4.2.2.1 K = w.2.2.1 K
    rw [w42]
    exact w3R K (by omega) (by omega) (by omega) (by omega) (by omega) (by omega) (by omega) (by omega) (by omega) (by omega)
  · show w4.2.2.1 K = w.2.2.1 K
    rw [w42]
    exact w3R K (by omega) (by omega) (by omega) (by omega) (by omega) (by omega) (by omega) (by omega) (by omega) (by omega)
end
end
section
set_option maxRecDepth 100000
section
variable {α β : Type} {N p ar a n P0 l v cc v' c uu : Nat} {m w : MS} {t x : Int64} {tl : Int} {na na' : Int} {Q : MS → α → MS → β → Prop} {K1 : MS → Option (MS × α)} {K2 : MS → Option (MS × β)}
theorem apl_e {tl : Int32} (h26 : F m (pq p 26) = ((P0 + 1 + ar : Nat) : Int)) (hl : F m (pq p 45) = ((l : Nat) : Int)) (hl2 : P0 + 1 + ar ≤ l ∧ l ≤ 1000000) (ht : m.2.2.2 (pq p 35) P0 = t) (st : so t ≠ 3) : hm_Ma_apply N m p (I ((ar : Nat) : Int)) tl = bnd (hm_Ma_tell N m p 1 17 t) (fun u32 _ => some (u32, ())) := by
  have be : hm_Fr_below N m p (I ((ar : Nat) : Int)) = some (m, t) := by
    have := below_e (N := N) (x := ((ar : Nat) : Int)) (k := ar) (W := P0 + 1 + ar) (l := l) h26 hl hl2.1 hl2.2 rfl (by omega)
    rw [show P0 + 1 + ar - 1 - ar = P0 by omega, ht] at this
    exact this
  unfold hm_Ma_apply hb_Ma_apply_0
  rw [be, bnd_so, e_tag, bnd_so, show (3 : Int32) = I 3 from rfl, decE (so_r _).1 (so_r _).2 (by omega) (by omega), decide_eq_false st, br_fq]
theorem apl_a {tl : Int32} (h26 : F m (pq p 26) = ((P0 + 1 + ar : Nat) : Int)) (hl : F m (pq p 45) = ((l : Nat) : Int)) (hl2 : P0 + 1 + ar ≤ l ∧ l ≤ 1000000) (ht : m.2.2.2 (pq p 35) P0 = t) (st : so t = 3) (hv : va t = ((v : Nat) : Int)) (hv2 : v < 512) (hc0 : va (m.2.2.2 (pq p 2) v) = ((cc : Nat) : Int)) (tk : hm_Co_takes N m (I ((cc : Nat) : Int)) = some (m, I na)) (hna : RG na) (hne : na ≠ ((ar : Nat) : Int)) : hm_Ma_apply N m p (I ((ar : Nat) : Int)) tl = bnd (hm_Ma_tell N m p 1 18 (mk 0 ((ar : Nat) : Int))) (fun u31 _ => some (u31, ())) := by
  have be : hm_Fr_below N m p (I ((ar : Nat) : Int)) = some (m, t) := by
    have := below_e (N := N) (x := ((ar : Nat) : Int)) (k := ar) (W := P0 + 1 + ar) (l := l) h26 hl hl2.1 hl2.2 rfl (by omega)
    rw [show P0 + 1 + ar - 1 - ar = P0 by omega, ht] at this
    exact this
  unfold hm_Ma_apply hb_Ma_apply_0
  rw [be, bnd_so, e_tag, bnd_so, st, show decide (I 3 = 3) = true from rfl, br_tq, valI, hv, tnI (n := v) rfl (by omega), (I_inb (by omega) (by omega)).mpr ⟨by omega, by omega⟩, ck_t, valI, hc0, tk, bnd_so, decE hna.1 hna.2 (by omega) (by omega), decide_eq_false hne, br_fq, show hm_Te_make N m 0 (I ((ar : Nat) : Int)) = some (m, mk 0 ((ar : Nat) : Int)) from rfl, bnd_so]
theorem call_13x {D : Option (MS × α)} {K : MS → Unit → Option (MS × β)} (hpp : p < 24) (hn : n < 100000) (h26 : A w 26 n = ((ar : Nat) : Int)) (h133 : F w 133 = ((p : Nat) : Int)) (h92 : A w 92 p = ((P0 + 1 + ar : Nat) : Int)) (hW : P0 + 1 + ar ≤ 46000) (hx : w.2.2.2 91 (46000 * p + P0) = x) (sx : so x ≠ 3) (h : PP Q D (bnd (bnd (fr_M_errorOf N (wi w 166 1) 17 x) (fun u18 _ => some (u18, ()))) K)) : PP Q D (bnd (fm_M_callRun N w (I ((n : Nat) : Int)) (I 13)) K) := by
  unfold fm_M_callRun fb_M_callRun_0
  refine rb_ck (fun _ => ?_)
  rw [show decide (I 13 = 12) = false from rfl, br_fq, tnI (n := n) rfl (by omega), I_A' h26]
  unfold fb_M_callRun_47 fb_M_callRun_63 fb_M_callRun_80
  rw [show decide (I 13 = 12) = false from rfl, br_fq, show decide (I 13 = 13) = true from rfl, br_tq]
  refine rb_ck (fun _ => ?_)
  rw [show upI w 166 1 = wi w 166 1 from rfl, lt_e, br_tq]
  have x33 : F (wi w 166 1) 133 = ((p : Nat) : Int) := by rw [wi_ne (by omega)]; exact h133
  refine rb_bnd (pk_mo (top_r (N := N) (k := ar) (W := P0 + 1 + ar) hpp x33 h92 hW (by omega)) (fun w4 r e => ?_))
  obtain ⟨rfl, rfl⟩ := e
  rw [show 46000 * p + (P0 + 1 + ar - 1 - ar) = 46000 * p + P0 by omega, show (wi w 166 1).2.2.2 91 (46000 * p + P0) = x from hx, sortOf_e, rb_bnd_so, show (3 : Int32) = I 3 from rfl, decE (so_r _).1 (so_r _).2 (by omega) (by omega), decide_eq_false sx, br_fq]
  exact h
theorem call_13a {D : Option (MS × α)} {K : MS → Unit → Option (MS × β)} (hpp : p < 24) (hn : n < 100000) (h26 : A w 26 n = ((ar : Nat) : Int)) (h133 : F w 133 = ((p : Nat) : Int)) (h92 : A w 92 p = ((P0 + 1 + ar : Nat) : Int)) (hW : P0 + 1 + ar ≤ 46000) (hx : w.2.2.2 91 (46000 * p + P0) = x) (sx : so x = 3) (hv : va x = ((v : Nat) : Int)) (hv2 : v < 500) (hd : (hp w p v).toInt = ((uu : Nat) : Int)) (hu : uu < 100000) (h53 : A w 53 uu = ((c : Nat) : Int)) (hc : c < 100000) (h41 : A w 41 c = na) (hne : na ≠ ((ar : Nat) : Int)) (h : PP Q D (bnd (bnd (fr_M_errorOf N (wi w 166 1) 18 (mk 0 ((ar : Nat) : Int))) (fun u18 _ => some (u18, ()))) K)) : PP Q D (bnd (fm_M_callRun N w (I ((n : Nat) : Int)) (I 13)) K) := by
  unfold fm_M_callRun fb_M_callRun_0
  refine rb_ck (fun _ => ?_)
  rw [show decide (I 13 = 12) = false from rfl, br_fq, tnI (n := n) rfl (by omega), I_A' h26]
  unfold fb_M_callRun_47 fb_M_callRun_63 fb_M_callRun_80
  rw [show decide (I 13 = 12) = false from rfl, br_fq, show decide (I 13 = 13) = true from rfl, br_tq]
  refine rb_ck (fun _ => ?_)
  rw [show upI w 166 1 = wi w 166 1 from rfl, lt_e, br_tq]
  have x33 : F (wi w 166 1) 133 = ((p : Nat) : Int) := by rw [wi_ne (by omega)]; exact h133
  refine rb_bnd (pk_mo (top_r (N := N) (k := ar) (W := P0 + 1 + ar) hpp x33 h92 hW (by omega)) (fun w4 r e => ?_))
  obtain ⟨rfl, rfl⟩ := e
  rw [show 46000 * p + (P0 + 1 + ar - 1 - ar) = 46000 * p + P0 by omega, show (wi w 166 1).2.2.2 91 (46000 * p + P0) = x from hx, sortOf_e, rb_bnd_so, sx, show decide (I 3 = 3) = true from rfl, br_tq, valueOf_e, rb_bnd_so, hv, I_F' x33, cell_e (by omega) hv2, rb_bnd_so, show hp (wi w 166 1) p v = hp w p v from rfl]
  have d0 : decide (0 ≤ lg_cmp (hp w p v) 0) = true := decide_eq_true ((lgc_ge _).mpr (by rw [hd]; omega))
  have ti : (hp w p v).toInt32 = I ((uu : Nat) : Int) := by
    apply Int32.toInt_inj.mp
    rw [Int64.toInt_toInt32, hd, I_ti (by omega) (by omega)]
    exact Int.bmod_eq_of_le (by omega) (by omega)
  have rna := A_r w 41 c
  rw [h41] at rna
  unfold fb_M_callRun_147 fb_M_callRun_163 fb_M_callRun_193
  rw [d0, br_tq, br_tq, ti, show decide ((-1 : Int32) = -1) = true from rfl, br_tq, tnI (n := uu) rfl (by omega)]
  refine rb_ck (fun _ => ?_)
  have e53 : A (wi w 166 1) 53 uu = ((c : Nat) : Int) := h53
  have e41 : A (wi w 166 1) 41 c = na := h41
  rw [I_A' e53, tnI (n := c) rfl (by omega), I_A' e41, decE rna.1 rna.2 (by omega) (by omega), decide_eq_false hne, br_fq, show fm_M_term N (wi w 166 1) 0 (I ((ar : Nat) : Int)) = some (wi w 166 1, mk 0 ((ar : Nat) : Int)) from rfl, bnd_so]
  exact rb_ck (fun _ => h)
end
end
section
set_option maxRecDepth 100000
section
variable {α β : Type} {N p n ar ff j B c P0 v : Nat} {w : MS} {x : Int64} {Q : MS → α → MS → β → Prop} {D : Option (MS × α)} {K : MS → Unit → Option (MS × β)}
theorem call_13f (hpp : p < 24) (hn : n < 100000) (h26 : A w 26 n = ((ar : Nat) : Int)) (h133 : F w 133 = ((p : Nat) : Int)) (h92 : A w 92 p = ((P0 + 1 + ar : Nat) : Int)) (hW : P0 + 1 + ar ≤ 46000) (hx : w.2.2.2 91 (46000 * p + P0) = x) (sx : so x = 3) (hv : va x = ((v : Nat) : Int)) (hv2 : v < 500) (hd : (hp w p v).toInt = -1 - ((ff : Nat) : Int)) (hu : ff < 100000) (h48 : A w 48 ff = ((ar : Nat) : Int)) (h : PP Q D (bnd (fb_M_callRun_213 N () (wi w 166 1) (I ((n : Nat) : Int)) (I ((ar : Nat) : Int)) (I ((ff : Nat) : Int)) (-1)) K)) : PP Q D (bnd (fm_M_callRun N w (I ((n : Nat) : Int)) (I 13)) K) := by
  unfold fm_M_callRun fb_M_callRun_0
  refine rb_ck (fun _ => ?_)
  rw [show decide (I 13 = 12) = false from rfl, br_fq, tnI (n := n) rfl (by omega), I_A' h26]
  unfold fb_M_callRun_47 fb_M_callRun_63 fb_M_callRun_80
  rw [show decide (I 13 = 12) = false from rfl, br_fq, show decide (I 13 = 13) = true from rfl, br_tq]
  refine rb_ck (fun _ => ?_)
  rw [show upI w 166 1 = wi w 166 1 from rfl, lt_e, br_tq]
  have x33 : F (wi w 166 1) 133 = ((p : Nat) : Int) := by rw [wi_ne (by omega)]; exact h133
  refine rb_bnd (pk_mo (top_r (N := N) (k := ar) (W := P0 + 1 + ar) hpp x33 h92 hW (by omega)) (fun w4 r e => ?_))
  obtain ⟨rfl, rfl⟩ := e
  rw [show 46000 * p + (P0 + 1 + ar - 1 - ar) = 46000 * p + P0 by omega, show (wi w 166 1).2.2.2 91 (46000 * p + P0) = x from hx, sortOf_e, rb_bnd_so, sx, show decide (I 3 = 3) = true from rfl, br_tq, valueOf_e, rb_bnd_so, hv, I_F' x33, cell_e (by omega) hv2, rb_bnd_so, show hp (wi w 166 1) p v = hp w p v from rfl]
  have d0 : decide (0 ≤ lg_cmp (hp w p v) 0) = false := decide_eq_false (fun z => by have := (lgc_ge _).mp z; rw [hd] at this; omega)
  have ti : ((-1 : Int64) - hp w p v).toInt32 = I ((ff : Nat) : Int) := by
    apply Int32.toInt_inj.mp
    rw [Int64.toInt_toInt32, I_ti (by omega) (by omega), Int64.toInt_sub, hd, show (-1 : Int64).toInt = -1 from by decide, show (-1 : Int) - (-1 - ((ff : Nat) : Int)) = ((ff : Nat) : Int) by omega, Int.bmod_eq_of_le (n := ((ff : Nat) : Int)) (m := 2 ^ 64) (by omega) (by omega)]
    exact Int.bmod_eq_of_le (by omega) (by omega)
  unfold fb_M_callRun_147 fb_M_callRun_163 fb_M_callRun_193
  rw [d0, br_fq, br_fq, ti, show decide (I ((ff : Nat) : Int) = (-1 : Int32)) = false from by rw [m1I, decE (by omega) (by omega) (by omega) (by omega)]; exact decide_eq_false (by omega), br_fq, tnI (n := ff) rfl (by omega)]
  refine rb_ck (fun _ => ?_)
  have e48 : A (wi w 166 1) 48 ff = ((ar : Nat) : Int) := h48
  rw [I_A' e48, show decide (I ((ar : Nat) : Int) = I ((ar : Nat) : Int)) = true from decide_eq_true rfl, br_tq]
  exact h
theorem frNF_r {fv : Int32} {f : Int} (hpp : p < 24) (hfv : fv = I f) (h133 : F w 133 = ((p : Nat) : Int)) (h166 : F w 166 = 1) (h92 : A w 92 p = ((P0 + 1 + ar : Nat) : Int)) (hW : P0 + 1 + ar ≤ 46000) (h94 : A w 94 p = ((B : Nat) : Int)) (hB : B ≤ 2500) (h95 : A w 95 p = ((j + 1 : Nat) : Int)) (hj : j + 1 < 60)
    (kk : ∀ u, FR [] [] [] [91] (wa w 95 p ((j + 1 + 1 : Nat) : Int)) u → (∀ i, u.2.2.2 91 i = if 46000 * p + P0 ≤ i ∧ i < 46000 * p + P0 + ar then w.2.2.2 91 (i + 1) else w.2.2.2 91 i) → PP Q D (K (frmW u p (j + 1) f P0 B (P0 + ar)) ())) : PP Q D (bnd (fm_M_frameOf N w fv (-1) (I ((ar : Nat) : Int)) (I 0)) K) := by
  unfold fm_M_frameOf fb_M_frameOf_0 fb_M_frameOf_10 fb_M_frameOf_24 fb_M_frameOf_46 fb_M_frameOf_128
  rw [show decide ((-1 : Int32) = -1) = true from rfl, br_tq, I_F' h166, show decide (I 1 = 0) = false from rfl, br_fq, show decide ((1 : Int32) = 1) = true from rfl, br_tq]
  refine rb_bnd (pk_mo (top_r (N := N) (k := ar) (W := P0 + 1 + ar) hpp h133 h92 hW (by omega)) (fun w4 r e => ?_))
  obtain ⟨rfl, rfl⟩ := e
  have s1 : I ((P0 + 1 + ar : Nat) : Int) - I ((ar : Nat) : Int) = I ((P0 + 1 : Nat) : Int) := by rw [I_sub]; congr 1; omega
  have s0 : I ((P0 + 1 : Nat) : Int) - 1 = I ((P0 : Nat) : Int) := by rw [lit1q, I_sub]; congr 1; omega
  have sp : I ((p : Nat) : Int) * 46000 = I ((46000 * p : Nat) : Int) := by
    rw [show (46000 : Int32) = I 46000 from rfl, I_mul]
    congr 1
    omega
  refine rb_ck (fun _ => ?_)
  rw [lt_e]
  refine rb_ck (fun _ => ?_)
  rw [lt_e, show decide (I 0 = 0) = true from rfl, br_tq]
  refine rb_ck (fun _ => rb_ck (fun _ => ?_))
  rw [I_F' h133, tnI (n := p) rfl (by omega), I_A' h95, I_A' h92, I_A' h94, s1, s0, sp, show I ((j + 1 : Nat) : Int) + 1 = I ((j + 1 + 1 : Nat) : Int) from addN, wa_e, lt_e]
  have x33 : F (wa w4 95 p ((j + 1 + 1 : Nat) : Int)) 133 = ((p : Nat) : Int) := h133
  have x92 : A (wa w4 95 p ((j + 1 + 1 : Nat) : Int)) 92 p = ((P0 + 1 + ar : Nat) : Int) := by rw [wa_rne (by omega)]; exact h92
  refine rb_ck (fun _ => ?_)
  rw [I_F' x33, tnI (n := p) rfl (by omega), I_A' x92, s1, lt_e, hfv]
  refine fr_lp (w0 := wa w4 95 p ((j + 1 + 1 : Nat) : Int)) (jj := j + 1) (src := P0 + 1) hpp x33 (wa_sm (by omega) (by omega)) hj (by omega) hW (by omega) (fun u fr r => kk u fr (fun i => ?_)) ar N _ 0 (by omega) FR.rf (fun q => by rw [if_neg (by omega)])
  rw [r i, show P0 + 1 - P0 = 1 by omega]
  rfl
end
section
variable {α β : Type} {b : Int → Nat → Nat → Prop} {N p U B Y j a n ar P0 l v v' ff e c : Nat} {m w : MS} {t x : Int64} {nb : Nat → Nat} {Hs Os : Nat → List Nat} {Q : MS → α → MS → β → Prop} {K1 : MS → Option (MS × α)} {K2 : MS → Option (MS × β)}
theorem op_applyF (hpp : p < 24) (pl : PLs b p m w U B (P0 + 1 + ar) Y) (ru : RUs m w p j nb Hs Os none a n) (hW : P0 + 1 + ar ≤ 46000) (hB2 : B ≤ 2500) (hj1 : j + 1 < 60) (hlt : F m 1106 < F m 1107) (ha : a + 3 < 24000) (hl : F m (pq p 45) = ((l : Nat) : Int)) (hl2 : P0 + 1 + ar ≤ l ∧ l ≤ 1000000) (c1 : A m 23 (a + 1) = ((ar : Nat) : Int)) (h26 : A w 26 n = ((ar : Nat) : Int)) (h30 : A w 30 n = 0)
    (ht : m.2.2.2 (pq p 35) P0 = t) (hx : w.2.2.2 91 (46000 * p + P0) = x) (st : so t = 3) (sx : so x = 3) (hv : va t = ((v : Nat) : Int)) (hv2 : v < 500) (hv' : va x = ((v' : Nat) : Int)) (hv2' : v' < 500) (hc0 : va (m.2.2.2 (pq p 2) v) = ((1000000 + ff : Nat) : Int)) (hd : (hp w p v').toInt = -1 - ((ff : Nat) : Int))
    (h442 : ((ff : Nat) : Int) < F m 442) (hu : ff < 666) (h449 : F m 449 ≤ 400) (f25 : A m 25 ff = ((ar : Nat) : Int)) (f29 : A m 29 ff = ((e : Nat) : Int)) (h50 : A w 50 ff = ((c : Nat) : Int)) (hc : c < 100000) (h48 : A w 48 ff = ((ar : Nat) : Int)) (cr : ∃ g, CRs (A m 23) (ROs w) (w.2.2.2 34) g none (a + 3) (n + 1) (Hs j) (Os j)) (zr : ∃ g g2, ZRs (A m 23) (ROs w) (w.2.2.2 34) (CRs (A m 23) (ROs w) (w.2.2.2 34) g) 0 0 [] [] g2 e ((c : Nat) : Int))
    (k : ∀ m4 w4, TRs m4 w4 p (j + 1) (upf nb (j + 1) B) (upf Hs (j + 1) []) (upf Os (j + 1) []) 0 0 e ((c : Nat) : Int) → PLs b p m4 (wa w4 94 p ((B + 0 : Nat) : Int)) U (B + 0) (P0 + ar) Y → GGm p (cbM m) m4 → GGw p (cbW w) w4 → (SCs p m w → SCs p m4 w4) → (w4.2.2.2 88 = w.2.2.2 88 ∧ w4.1 140 = w.1 140) → PP Q (K1 m4) (bnd (gg_M_choose N (rc_M_error N 19) N w4 1) (fun u _ => K2 u))) : PP Q (bnd (hm_Ma_flow N m p (I 27)) (fun u _ => K1 u)) (bnd (fm_M_one N w (I ((n : Nat) : Int)) (I 13)) (fun u _ => K2 u)) := by
  obtain ⟨⟨fa, ct⟩, ⟨r2, r3⟩, ⟨f0, cr0⟩, ⟨r5, r6⟩, r7, ⟨r8, r9, r10⟩, r11, r12, r13⟩ := id ru
  have cb := CR_b cr0
  obtain ⟨⟨f1, f2, f3⟩, f4, f5, f6⟩ := id fa
  have ebd : e + 1 < 24000 := by
    obtain ⟨g, g2, z⟩ := zr
    cases g2 with
    | zero => exact z.elim
    | succ g2 => exact z.1
  have hne : (wi w 166 1).1 165 ≠ (wi w 166 1).1 164 := by
    rw [wi_1 (by omega), wi_1 (by omega), ← r12, ← r13]
    intro c
    have := congrArg Int32.toInt c
    have h1 : F m 1106 = (m.1 1106).toInt := rfl
    have h2 : F m 1107 = (m.1 1107).toInt := rfl
    omega
  have t1 : ∀ k, k < 2000 → k ≠ 1106 → k ≠ 946 → (toS (cnM m p) p P0 ar).1 k = m.1 k := fun k h0 h1 h2 => (toS_1 (pq_n h0)).trans (cnM_1 h0 h1 h2)
  have tF : ∀ k, k < 2000 → k ≠ 1106 → k ≠ 946 → F (toS (cnM m p) p P0 ar) k = F m k := fun k h0 h1 h2 => congrArg Int32.toInt (t1 k h0 h1 h2)
  have tq : ∀ k, k ≠ 13 → k ≠ 26 → (toS (cnM m p) p P0 ar).1 (pq p k) = m.1 (pq p k) := fun k h1 h2 => (toS_1 (pq_inj h2)).trans (cnM_q h1)
  have en := entry_f (N := N) (p := p) (m := toS (cnM m p) p P0 ar) (uu := ff) (by rw [tF 442 (by omega) (by omega) (by omega)]; exact h442) hu
  have e31 : A (toS (cnM m p) p P0 ar) 29 ff = ((e : Nat) : Int) := f29
  rw [e31] at en
  have tk := takes_f (N := N) h442 hu
  rw [f25] at tk
  rw [apl_27, I_F' r2, show I ((a : Nat) : Int) + 1 = I ((a + 1 : Nat) : Int) from addN, Co_e (k := a + 1) rfl (by omega), bnd_so, c1, apN_m (cc := 1000000 + ff) (ff := ((ff : Nat) : Int)) hlt r2 ha f1 hj1 pl.2.1.1 pl.2.2.1.1 hl hl2 ht st hv (by omega) hc0 tk en.2 en.1]
  refine l_bb (l_bb ?_)
  show PP Q (bnd (hm_Ma_hold N (ntS (toS (cnM m p) p P0 ar) p j B P0 (a + 3) ((ff : Nat) : Int) ((e : Nat) : Int)) p p (pq p 2) t) _) _
  generalize hT : toS (cnM m p) p P0 ar = mT at t1 tF tq
  have tJ : ∀ k, k ≠ 35 → mT.2.2.2 (pq p k) = m.2.2.2 (pq p k) := fun k h => by rw [← hT, toS_J (pq_inj h)]; rfl
  have tA : mT.2.2.1 = m.2.2.1 := by rw [← hT]; rfl
  have tAa : ∀ K i, A mT K i = A m K i := fun K i => by show (mT.2.2.1 K i).toInt = _; rw [tA]; rfl
  generalize hE : ntS mT p j B P0 (a + 3) ((ff : Nat) : Int) ((e : Nat) : Int) = mE
  have eA : ∀ K, K < 2000 → mE.2.2.1 K = m.2.2.1 K := fun K h => by rw [← hE, ntS_A (pq_n h), tA]
  have eAa : ∀ K i, K < 2000 → A mE K i = A m K i := fun K i h => by show (mE.2.2.1 K i).toInt = _; rw [eA K h]; rfl
  have eJ : mE.2.2.2 = mT.2.2.2 := by rw [← hE]; exact ntS_J
  have eq : ∀ k, k ≠ 13 → k ≠ 21 → k ≠ 26 → mE.1 (pq p k) = m.1 (pq p k) := fun k h1 h2 h3 => by rw [← hE, ntS_1' (fun c => pq_n (by omega) c.symm) (pq_inj h2)]; exact tq k h1 h3
  have eg : ∀ k, k < 2000 → k ≠ 1105 → mE.1 k = mT.1 k := fun k h0 h1 => by rw [← hE, ntS_1' h1 (pq_n h0)]
  have eF : ∀ k, k ≠ 13 → k ≠ 21 → k ≠ 26 → F mE (pq p k) = F m (pq p k) := fun k h1 h2 h3 => congrArg Int32.toInt (eq k h1 h2 h3)
  refine l_bnd (pk_mo (hold_0 (N := N) (m := mE) (uu := ff) hv (by omega) (by rw [eJ, tJ 2 (by omega)]; exact hc0) (by omega) (by rw [show F mE 449 = F mT 449 from congrArg Int32.toInt (eg 449 (by omega) (by omega)), tF 449 (by omega) (by omega) (by omega)]; exact h449)) (fun m4 _ h => ?_))
  subst h
  have fm : CFm (toS m p P0 ar) m4 p j B P0 (a + 3) e 0 ((ff : Nat) : Int) [] := by
    have nS : ∀ k, k < 2000 → F (toS m p P0 ar) k = F m k := fun k h => congrArg Int32.toInt (toS_1 (pq_n h))
    refine ⟨⟨fun k h0 h1 h2 h3 h4 h5 => ?_, fun k h0 h1 h2 h3 => ?_, ?_, ?_, ?_, ?_, ?_⟩, ⟨fun K h => ?_, fun k h0 h1 h2 => ?_, fun i hi => ?_, fun i x hx => by simp at hx, fun i => ?_⟩, fun k h0 h1 => ?_, fun i hi => ?_⟩
    · by_cases c : k = 26
      · subst c
        rw [← hE, ntS_1' (fun c => pq_n (by omega) c.symm) (pq_inj (by omega)), ← hT]
        exact wi_s1.trans wi_s1.symm
      · rw [eq k h1 h2 c, toS_1 (pq_inj c)]
    · rw [eg k h0 h1, t1 k h0 h2 h3, toS_1 (pq_n h0)]
    · rw [eg 1106 (by omega) (by omega), ← hT, toS_1 (pq_n (by omega)), cnM_06, nS 1106 (by omega)]
    · rw [← hE, ntS_1' (fun c => pq_n (by omega) c.symm) (pq_inj (by omega)), ← hT, toS_1 (pq_inj (by omega)), cnM_13, show F (toS m p P0 ar) (pq p 13) = F m (pq p 13) from congrArg Int32.toInt (toS_1 (pq_inj (by omega)))]
    · rw [← hE, ntS_21 (by omega)]
    · rw [eF 24 (by omega) (by omega) (by omega)]
      exact pl.2.1.1
    · rw [← hE, ntS_05 ⟨by omega, by omega⟩]
    · rw [eA K h]
      rfl
    · rw [← hE, ntS_A (pq_inj h1), tA]
      rfl
    · show (m4.2.2.1 (pq p 32) i).toInt = (m.2.2.1 (pq p 32) i).toInt
      rw [← hE, ntS_A (pq_inj (by omega)), tA]
    · rw [← hE, ntS_30 (by omega) (by omega) (by omega) ⟨by omega, by omega⟩ ⟨by omega, by omega⟩, tAa]
      rfl
    · rw [eJ, ← hT]
      by_cases c : k = 35
      · subst c
        show (if pq p 35 = pq p 35 then _ else _) = (if pq p 35 = pq p 35 then _ else _)
        rw [if_pos rfl, if_pos rfl]
        rfl
      · rw [toS_J (pq_inj c), toS_J (pq_inj c)]
        rfl
    · rw [eJ, tJ 33 (by omega), toS_J (pq_inj (by omega))]
  have gm : GGm p (cbM m) m4 := by
    refine GGm.tr (GGm.tr GGm_cn (GGm_toS (P0 := P0) (ar := ar))) ?_
    rw [hT, ← hE]
    exact GGm_ntS
  rw [one_13]
  refine r_bb ?_
  refine call_13f (P0 := P0) (ff := ff) hpp (by omega) h26 r11 pl.2.2.1.2.1 hW hx sx hv' (by omega) hd (by omega) h48 ?_
  have x33 : F (wi w 166 1) 133 = ((p : Nat) : Int) := by rw [wi_ne (by omega)]; exact r11
  refine call_go (j1 := j) (tl := 0) hpp (by omega) x33 f2 f3 hne h30 (Or.inr ⟨rfl, hj1⟩) ?_
  have e165 : F (wi w 166 1) 165 = F w 165 := wi_ne (by omega)
  have e119 : F (wi w 166 1) 119 = F w 119 := wi_ne (by omega)
  rw [e165, e119, show A (wi w 166 1) 114 p = A w 114 p from rfl]
  generalize hw1 : wa (wa (wi (wi (wi w 166 1) 165 (F w 165 + 1)) 119 (F w 119 + 1)) 114 p (A w 114 p + 1)) 98 (60 * p + j) ((n + 1 : Nat) : Int) = w1
  have a1 : ∀ K i, K ≠ 114 → K ≠ 98 → A w1 K i = A w K i := fun K i h1 h2 => by rw [← hw1, wa_rne h2, wa_rne h1]; rfl
  have i1 : ∀ l, l ≠ 166 → l ≠ 165 → l ≠ 119 → w1.1 l = w.1 l := fun l h1 h2 h3 => by
    rw [← hw1]
    show (wi (wi (wi w 166 1) 165 (F w 165 + 1)) 119 (F w 119 + 1)).1 l = _
    rw [wi_1 h3, wi_1 h2, wi_1 h1]
  have i165 : w1.1 165 = I (F w 165 + 1) := by
    rw [← hw1]
    show (wi (wi (wi w 166 1) 165 (F w 165 + 1)) 119 (F w 119 + 1)).1 165 = _
    rw [wi_1 (by omega)]
    exact wi_s1
  have i119 : w1.1 119 = I (F w 119 + 1) := by
    rw [← hw1]
    show (wi (wi (wi w 166 1) 165 (F w 165 + 1)) 119 (F w 119 + 1)).1 119 = _
    exact wi_s1
  have i166 : F w1 166 = 1 := by
    rw [← hw1]
    show F (wi (wi (wi w 166 1) 165 (F w 165 + 1)) 119 (F w 119 + 1)) 166 = 1
    rw [wi_ne (by omega), wi_ne (by omega), wi_sm (by omega) (by omega)]
  have j1J : w1.2.2.2 = w.2.2.2 := by rw [← hw1]; rfl
  have hpw : hp w1 p = hp w p := by
    funext k
    show w1.2.2.2 88 (500 * p + k) = _
    rw [j1J]
    rfl
  have y33 : F w1 133 = ((p : Nat) : Int) := (congrArg Int32.toInt (i1 133 (by omega) (by omega) (by omega))).trans r11
  refine frNF_r (f := ((ff : Nat) : Int)) (P0 := P0) (B := B) (j := j) hpp rfl y33 i166 ((a1 92 p (by omega) (by omega)).trans pl.2.2.1.2.1) hW ((a1 94 p (by omega) (by omega)).trans pl.2.1.2.1) hB2 ((a1 95 p (by omega) (by omega)).trans f2) hj1 (fun u fr r => ?_)
  generalize hw3 : frmW u p (j + 1) ((ff : Nat) : Int) P0 B (P0 + ar) = w3
  have uR : ∀ K, u.2.2.1 K = (wa w1 95 p ((j + 1 + 1 : Nat) : Int)).2.2.1 K := fun K => fr.2.2.1 K (by simp)
  have w3i : w3.1 = w1.1 := by
    rw [← hw3]
    funext l
    show u.1 l = _
    rw [fr.1 l (by simp)]
    rfl
  have w3J : ∀ K, K ≠ 93 → K ≠ 91 → w3.2.2.2 K = w.2.2.2 K := fun K h1 h2 => by
    rw [← hw3]
    show u.2.2.2 K = _
    rw [fr.2.2.2 K (by simpa using h2)]
    show w1.2.2.2 K = _
    rw [j1J]
  have w391 : ∀ i, w3.2.2.2 91 i = (toW w p P0 ar).2.2.2 91 i := fun i => by
    rw [← hw3, toW_91]
    show u.2.2.2 91 i = _
    rw [r i, j1J]
  have w393 : w3.2.2.2 93 = w.2.2.2 93 := by
    rw [← hw3]
    show u.2.2.2 93 = _
    rw [fr.2.2.2 93 (by simp)]
    show w1.2.2.2 93 = _
    rw [j1J]
  have row : ∀ K i, ¬ (K = 94 ∧ i = p) → ¬ (K = 101 ∧ i = 60 * p + (j + 1)) → ¬ (K = 99 ∧ i = 60 * p + (j + 1)) → ¬ (K = 100 ∧ i = 60 * p + (j + 1)) → ¬ (K = 97 ∧ i = 60 * p + (j + 1)) → ¬ (K = 96 ∧ i = 60 * p + (j + 1)) → ¬ (K = 92 ∧ i = p) → ¬ (K = 95 ∧ i = p) → ¬ (K = 98 ∧ i = 60 * p + j) → ¬ (K = 114 ∧ i = p) → w3.2.2.1 K i = w.2.2.1 K i := fun K i h1 h2 h3 h4 h5 h6 h7 h8 h9 h10 => by
    rw [← hw3]
    unfold frmW
    rw [wa_at h2, wa_at h1, wa_at h3, wa_at h4, wa_at h5, wa_at h6, wa_at h7, uR, wa_at h8, ← hw1, wa_at h9, wa_at h10]
    rfl
  have w3R : ∀ K, K ≠ 92 → K ≠ 94 → K ≠ 95 → K ≠ 96 → K ≠ 97 → K ≠ 98 → K ≠ 99 → K ≠ 100 → K ≠ 101 → K ≠ 114 → w3.2.2.1 K = w.2.2.1 K := fun K h1 h2 h3 h4 h5 h6 h7 h8 h9 h10 => by
    funext i
    exact row K i (by omega) (by omega) (by omega) (by omega) (by omega) (by omega) (by omega) (by omega) (by omega) (by omega)
  have w3A : ∀ K i, 96 ≤ K → K ≤ 101 → i ≠ 60 * p + (j + 1) → ¬ (K = 98 ∧ i = 60 * p + j) → w3.2.2.1 K i = w.2.2.1 K i := fun K i h1 h2 h3 h4 => row K i (by omega) (by omega) (by omega) (by omega) (by omega) (by omega) (by omega) (by omega) h4 (by omega)
  have o1 : ∀ K i, (K = 92 ∨ K = 94 ∨ K = 95 ∨ K = 114) → i ≠ p → w3.2.2.1 K i = w.2.2.1 K i := fun K i h1 h2 => row K i (by omega) (by omega) (by omega) (by omega) (by omega) (by omega) (by omega) (by omega) (by omega) (by omega)
  have rd : ∀ K i, K ≠ 94 → K ≠ 101 → A w3 K i = A (frmW u p (j + 1) ((ff : Nat) : Int) P0 B (P0 + ar)) K i := fun K i h1 h2 => by rw [← hw3]
  have v101 : A w3 101 (60 * p + (j + 1)) = ((0 : Nat) : Int) := by rw [← hw3]; exact wa_sm (by omega) (by omega)
  have v94 : A w3 94 p = ((B + 0 : Nat) : Int) := by
    rw [← hw3]
    unfold frmW
    rw [wa_rne (by omega), wa_sm (by omega) (by omega)]
    rfl
  have v99 : A w3 99 (60 * p + (j + 1)) = ((B : Nat) : Int) := by
    rw [rd 99 _ (by omega) (by omega)]
    unfold frmW
    rw [wa_rne (by omega), wa_rne (by omega), wa_sm (by omega) (by omega)]
  have v100 : A w3 100 (60 * p + (j + 1)) = ((P0 : Nat) : Int) := by
    rw [rd 100 _ (by omega) (by omega)]
    unfold frmW
    rw [wa_rne (by omega), wa_rne (by omega), wa_rne (by omega), wa_sm (by omega) (by omega)]
  have v97 : A w3 97 (60 * p + (j + 1)) = -1 := by
    rw [rd 97 _ (by omega) (by omega)]
    unfold frmW
    rw [wa_rne (by omega), wa_rne (by omega), wa_rne (by omega), wa_rne (by omega), wa_sm (by omega) (by omega)]
  have v96 : A w3 96 (60 * p + (j + 1)) = ((ff : Nat) : Int) := by
    rw [rd 96 _ (by omega) (by omega)]
    unfold frmW
    rw [wa_rne (by omega), wa_rne (by omega), wa_rne (by omega), wa_rne (by omega), wa_rne (by omega), wa_sm (by omega) (by omega)]
  have v92 : A w3 92 p = ((P0 + ar : Nat) : Int) := by
    rw [rd 92 _ (by omega) (by omega)]
    unfold frmW
    rw [wa_rne (by omega), wa_rne (by omega), wa_rne (by omega), wa_rne (by omega), wa_rne (by omega), wa_rne (by omega), wa_sm (by omega) (by omega)]
  have u95 : ∀ K i, A u K i = A (wa w1 95 p ((j + 1 + 1 : Nat) : Int)) K i := fun K i => FR.A fr (by simp)
  have v95 : A w3 95 p = ((j + 1 + 1 : Nat) : Int) := by
    rw [rd 95 _ (by omega) (by omega)]
    unfold frmW
    rw [wa_rne (by omega), wa_rne (by omega), wa_rne (by omega), wa_rne (by omega), wa_rne (by omega), wa_rne (by omega), wa_rne (by omega), u95, wa_sm (by omega) (by omega)]
  have v98 : A w3 98 (60 * p + j) = ((n + 1 : Nat) : Int) := by
    rw [rd 98 _ (by omega) (by omega)]
    unfold frmW
    rw [wa_rne (by omega), wa_rne (by omega), wa_rne (by omega), wa_rne (by omega), wa_rne (by omega), wa_rne (by omega), wa_rne (by omega), u95, wa_rne (by omega), ← hw1, wa_sm (by omega) (by omega)]
  have v114 : w3.2.2.1 114 p = I (A w 114 p + 1) := by
    rw [← hw3]
    unfold frmW
    rw [wa_21 (by omega), wa_21 (by omega), wa_21 (by omega), wa_21 (by omega), wa_21 (by omega), wa_21 (by omega), wa_21 (by omega), uR, wa_21 (by omega), ← hw1, wa_21 (by omega), wa_s1]
  have z33 : F w3 133 = ((p : Nat) : Int) := by show (w3.1 133).toInt = _; rw [w3i]; exact y33
  have fw : CFw (toW w p P0 ar) w3 p j B P0 ar 0 n ((ff : Nat) : Int) := by
    refine ⟨⟨fun l h1 h2 h3 => by rw [w3i]; exact i1 l h1 h2 h3, by rw [w3i]; exact i165⟩, ⟨fun K h => ?_, fun i hi => ?_⟩, fun K h1 h2 h3 h4 h5 h6 h7 h8 h9 h10 => by rw [w3R K h1 h2 h3 h4 h5 h6 h7 h8 h9 h10, toW_A h1], fun K i h1 h2 h3 h4 => by rw [w3A K i h1 h2 h3 h4, toW_A (by omega)], ⟨v92, v94, v95, v96, v97, v98, v99, v100, v101⟩, ?_⟩
    · by_cases c : K = 91
      · subst c
        funext i
        exact w391 i
      · rw [w3J K h c, toW_J c]
    · rw [w393, toW_J (by omega)]
    · rw [v114]
      congr 2
  have pr : ∀ K, PRr K → w3.2.2.1 K = w.2.2.1 K := fun K h => by
    unfold PRr at h
    exact w3R K (by omega) (by omega) (by omega) (by omega) (by omega) (by omega) (by omega) (by omega) (by omega) (by omega)
  have prT : ∀ K, PRr K → (toW w p P0 ar).2.2.1 K = w.2.2.1 K := fun K h => toW_A (by unfold PRr at h; omega)
  have ruN : RUs (toS m p P0 ar) (toW w p P0 ar) p j nb Hs Os none a n := RUs_mv ru FGm_toS (FGw_toW hW) (by rw [show F (toS m p P0 ar) 1105 = F m 1105 from congrArg Int32.toInt (toS_1 (pq_n (by omega)))]; exact r2) (by show ((toW w p P0 ar).2.2.1 98 (60 * p + j)).toInt = _; rw [toW_A (by omega)]; exact r3) ⟨f0, cr0⟩
  rw [show decide (I ((ff : Nat) : Int) = (-1 : Int32)) = false from by rw [m1I, decE (by omega) (by omega) (by omega) (by omega)]; exact decide_eq_false (by omega), br_fq]
  refine rb_ck (fun _ => ?_)
  have v50 : A w3 50 ff = ((c : Nat) : Int) := by show (w3.2.2.1 50 ff).toInt = _; rw [pr 50 (by unfold PRr; omega)]; exact h50
  rw [tnI (n := ff) rfl (by omega), I_A' v50]
  refine clof_r (j := j + 1) (a := 0) (nbn := B) hpp z33 v95 hj1 v99 v101 ?_
  have core := callH_core (c := c) (ra := a + 3) (e := e) (H := []) (L := 0) (PLs_to pl hW) ruN (by omega) hj1 (by omega) fm fw rfl List.nodup_nil (fun i hi => absurd hi (Nat.not_lt_zero _)) (by rw [ROs_eq prT, toW_J (by omega)]; exact cr) (by rw [ROs_eq prT, toW_J (by omega)]; exact zr)
  obtain ⟨tr, pl4, sc4⟩ := core
  refine k _ _ tr pl4 gm ?_ (fun s => sc4 (SC_fg s FGm_toS (FGw_toW (j := j) hW))) ⟨w3J 88 (by omega) (by omega), by rw [wi_1 (by omega), wi_1 (by omega), wi_1 (by omega), wi_1 (by omega), w3i]; exact i1 140 (by omega) (by omega) (by omega)⟩
  generalize hw4 : wi (wi (wi (wi w3 153 0) 155 ((c : Nat) : Int)) 154 ((c : Nat) : Int)) 156 ((B + 0 : Nat) : Int) = w4
  have w42 : w4.2 = w3.2 := by rw [← hw4]; rfl
  have w41 : ∀ l, l ≠ 153 → l ≠ 154 → l ≠ 155 → l ≠ 156 → w4.1 l = w3.1 l := fun l h1 h2 h3 h4 => by rw [← hw4, wi_1 h4, wi_1 h2, wi_1 h3, wi_1 h1]
  have ow : ∀ r K i, K ≠ 92 → K ≠ 94 → K ≠ 95 → K ≠ 114 → (96 ≤ K → K ≤ 101 → r ≠ p → 60 * r ≤ i ∧ i < 60 * r + 60) → r ≠ p → w4.2.2.1 K i = w.2.2.1 K i := fun r K i h1 h2 h3 h4 h5 h6 => by
    rw [w42]
    by_cases c : 96 ≤ K ∧ K ≤ 101
    · have := h5 c.1 c.2 h6
      exact w3A K i c.1 c.2 (by omega) (by omega)
    · rw [w3R K h1 h2 h3 (by omega) (by omega) (by omega) (by omega) (by omega) (by omega) h4]
  have wi1 : ∀ l, l ≤ 132 ∨ l = 150 ∨ l = 164 ∨ l = 165 → w4.1 l = (cbW w).1 l := fun l hl => by
    rw [w41 l (by omega) (by omega) (by omega) (by omega), w3i]
    unfold cbW
    by_cases c : l = 119
    · subst c
      rw [i119, wi_1 (by omega), wi_s1]
    · by_cases c5 : l = 165
      · subst c5
        rw [i165, wi_s1]
      · rw [i1 l (by omega) c5 c, wi_1 c5, wi_1 c]
  have jx : ∀ K d i, d ≠ p → (K = 88 ∨ K = 107 ∨ K = 148 ∨ K = 34 ∨ K = 111) → w4.2.2.2 K i = w.2.2.2 K i := fun K d i _ h => by rw [w42, w3J K (by omega) (by omega)]
  refine ⟨fun d hd => ⟨fun K i h => ?_, fun K h => ?_, fun i _ _ => ?_, by rw [w42, w3J 111 (by omega) (by omega)]; rfl, fun i _ _ => by rw [w42, w3J 88 (by omega) (by omega)]; rfl, fun i h1 h2 => ?_, fun i h1 h2 => ?_, fun i _ _ => by rw [w42, w3J 107 (by omega) (by omega)]; rfl⟩, ⟨fun K h => by rw [w42]; exact pr K h, by rw [w42, w3J 34 (by omega) (by omega)]; rfl, ?_, ?_, wi1 14 (by omega)⟩, wi1 150 (by omega), fun K h => ?_, by rw [w42, w3J 148 (by omega) (by omega)]; rfl, fun K h => ?_, fun l h => wi1 l (by omega)⟩
  · show w4.2.2.1 K i = w.2.2.1 K i
    by_cases c : K = 92 ∨ K = 94 ∨ K = 95 ∨ K = 114
    · rw [w42]
      refine o1 K i c ?_
      unfold OWi at h
      omega
    · refine ow d K i (by omega) (by omega) (by omega) (by omega) (fun h1 h2 _ => ?_) hd
      unfold OWi at h
      omega
  · exact ow d K d (by omega) (by omega) (by omega) (by omega) (fun h1 h2 _ => by omega) hd
  · exact ow d 131 i (by omega) (by omega) (by omega) (by omega) (fun h1 h2 _ => by omega) hd
  · rw [w42, w391 i, toW_91, if_neg (by omega)]
    rfl
  · rw [w42, w393]
    rfl
  · show w4.2.2.1 12 = w.2.2.1 12
    rw [w42]
    exact w3R 12 (by omega) (by omega) (by omega) (by omega) (by omega) (by omega) (by omega) (by omega) (by omega) (by omega)
  · show w4.2.2.1 13 = w.2.2.1 13
    rw [w42]
    exact w3R 13 (by omega) (by omega) (by omega) (by omega) (by omega) (by omega) (by omega) (by omega) (by omega) (by omega)
  · show w4.2.2.1 K = w.2.2.1 K
    rw [w42]
    exact w3R K (by omega) (by omega) (by omega) (by omega) (by omega) (by omega) (by omega) (by omega) (by omega) (by omega)
  · show w4.2.2.1 K = w.2.2.1 K
    rw [w42]
    exact w3R K (by omega) (by omega) (by omega) (by omega) (by omega) (by omega) (by omega) (by omega) (by omega) (by omega)
end
end
section
set_option maxRecDepth 100000
section
variable {b : Int → Nat → Nat → Prop} {Fv Fv' : Int64 → Int64 → Prop} {P P' : Int64 → Prop} {ow kd ow' kd' : Nat → Nat} {U U' n0 n0' : Nat} {t x : Int64}
theorem TP_fun {h h' : Nat → Int64} (is : ISb b h n0 h' n0') (g : HPc h U ow kd Fv P) (g' : HP h' U' ow' kd' Fv' P') (q : TPb b U ow kd P U' ow' kd' P' t x) (e3 : so t = 3) : ∃ k : Nat, (so x = 3 ∧ va t = ((vn t : Nat) : Int) ∧ vn t + 2 + k ≤ U ∧ va x = ((vn x : Nat) : Int) ∧ vn x + 2 + k ≤ U') ∧ va (h (vn t + 1)) = ((k : Nat) : Int) ∧ va (h' (vn x + 1)) = ((k : Nat) : Int) ∧ PLR (h (vn t)) (h' (vn x)) ∧ (Fv (h (vn t)) (h (vn t + 1)) ∧ Fv' (h' (vn x)) (h' (vn x + 1))) ∧ ∀ i, i < k → RTb b (h (vn t + 2 + i)) (h' (vn x + 2 + i)) := by
  obtain ⟨r, gt, gt'⟩ := q
  have ex : so x = 3 := by rw [RTb_so r]; exact e3
  have zt : isH t := by unfold isH; omega
  have zx : isH x := by unfold isH; omega
  obtain ⟨bk, cl⟩ := HP_bkc g zt gt
  obtain ⟨bk', cl'⟩ := HP_bk g' zx gt'
  have hd := bk.2.2.1 e3
  have hd' := bk'.2.2.1 ex
  have b1 := bk.2.2.2.1
  have b1' := bk'.2.2.2.1
  have bl : blk h t = 2 + vn (h (vn t + 1)) := by unfold blk; rw [if_neg (by omega), if_neg (by omega), if_pos e3]
  have bl' : blk h' x = 2 + vn (h' (vn x + 1)) := by unfold blk; rw [if_neg (by omega), if_neg (by omega), if_pos ex]
  obtain ⟨⟨eb, -, -⟩, cs, pl⟩ := is.1 t x zt r
  have pr : prt t = 2 := by unfold prt; rw [e3]; rfl
  have hv : va (h (vn t + 1)) = ((vn (h (vn t + 1)) : Nat) : Int) := by
    have h0 := hd.1
    generalize h (vn t + 1) = z at h0 ⊢
    unfold vn; omega
  have hv' : va (h' (vn x + 1)) = ((vn (h' (vn x + 1)) : Nat) : Int) := by
    have h0 := hd'.1
    generalize h' (vn x + 1) = z at h0 ⊢
    unfold vn; omega
  have vt : va t = ((vn t : Nat) : Int) := by have := bk.1; unfold vn; omega
  have vx : va x = ((vn x : Nat) : Int) := by have := bk'.1; unfold vn; omega
  rw [bl, bl'] at eb
  rw [bl] at b1
  rw [bl'] at b1'
  rw [bl, pr] at cs
  have ek : vn (h' (vn x + 1)) = vn (h (vn t + 1)) := by omega
  refine ⟨vn (h (vn t + 1)), ⟨ex, vt, by omega, vx, by omega⟩, hv, by rw [hv', ek], pl e3, ⟨hd.2, hd'.2⟩, fun i hi => ?_⟩
  rw [show vn t + 2 + i = vn t + (2 + i) by omega, show vn x + 2 + i = vn x + (2 + i) by omega]
  exact cs (2 + i) (by omega) (by omega)
end
section
variable {α β : Type} {N p ar a n P0 l v cc j ee ee' B : Nat} {m w : MS} {t : Int64} {lne : Int} {tl : Int32} {Q : MS → α → MS → β → Prop} {D : Option (MS × α)} {K : MS → Unit → Option (MS × β)}
theorem apB_m (hpc : F m 1105 = ((a : Nat) : Int)) (ha : a + 2 < 24000) (h26 : F m (pq p 26) = ((P0 + 1 + ar : Nat) : Int)) (hl : F m (pq p 45) = ((l : Nat) : Int)) (hl2 : P0 + 1 + ar ≤ l ∧ l ≤ 1000000) (ht : m.2.2.2 (pq p 35) P0 = t) (st : so t = 3) (hv : va t = ((v : Nat) : Int)) (hv2 : v < 512) (hc0 : va (m.2.2.2 (pq p 2) v) = ((cc : Nat) : Int)) (tk : hm_Co_takes N m (I ((cc : Nat) : Int)) = some (m, I ((ar : Nat) : Int))) {m2 : MS} (be0 : hm_Ma_begins N m p tl (I (A m 23 (a + 2))) = some (m2, 0)) : hm_Ma_apply N m p (I ((ar : Nat) : Int)) tl = some (m2, ()) := by
  have be : hm_Fr_below N m p (I ((ar : Nat) : Int)) = some (m, t) := by
    have := below_e (N := N) (x := ((ar : Nat) : Int)) (k := ar) (W := P0 + 1 + ar) (l := l) h26 hl hl2.1 hl2.2 rfl (by omega)
    rw [show P0 + 1 + ar - 1 - ar = P0 by omega, ht] at this
    exact this
  unfold hm_Ma_apply hb_Ma_apply_0
  rw [be, bnd_so, e_tag, bnd_so, st, show decide (I 3 = 3) = true from rfl, br_tq, valI, hv, tnI (n := v) rfl (by omega), (I_inb (by omega) (by omega)).mpr ⟨by omega, by omega⟩, ck_t, valI, hc0, tk, bnd_so, show decide (I ((ar : Nat) : Int) = I ((ar : Nat) : Int)) = true from decide_eq_true rfl, br_tq, I_F' hpc, show I ((a : Nat) : Int) + 2 = I ((a + 2 : Nat) : Int) from addN, Co_e (k := a + 2) rfl (by omega), bnd_so, be0, bnd_so, show decide ((0 : Int32) = 0) = true from rfl, br_tq]
theorem begS_m (hge : F m 1107 ≤ F m 1106) : hm_Ma_begins N m p tl (I lne) = some (wi (wi m 1108 1) (pq p 29) lne, 0) := by
  have r6 := F_r m 1106
  have r7 := F_r m 1107
  have c0 : decide (m.1 1106 < m.1 1107) = false := decide_eq_false (by
    rw [I_F (k := 1106), I_F (k := 1107), I_lt r6.1 r6.2 r7.1 r7.2]
    omega)
  unfold hm_Ma_begins hb_Ma_begins_0
  rw [c0, br_fq]
  rfl
theorem begE_m {z : Int32} (hlt : F m 1106 < F m 1107) (h21 : F m (pq p 21) = ((59 + 1 : Nat) : Int)) (h9 : F m (pq p 9) ≠ 3) (hee : F m 955 = ((ee : Nat) : Int) ∧ ee < 24) : hm_Ma_begins N m p 0 z = some (enS m p (mk 1 21) p ee, 0) := by
  have r06 := F_r m 1106
  have r07 := F_r m 1107
  have c0 : decide (m.1 1106 < m.1 1107) = true := decide_eq_true (by
    rw [I_F (k := 1106), I_F (k := 1107), I_lt r06.1 r06.2 r07.1 r07.2]
    exact hlt)
  unfold hm_Ma_begins hb_Ma_begins_0
  rw [c0, br_tq, show decide ((0 : Int32) = 0) = true from rfl, br_tq, I_F' h21, show decide (I ((59 + 1 : Nat) : Int) < 60) = false from rfl, br_fq, show (21 : Int32) = I 21 from rfl, endsBy_e h9 hee, bnd_so]
  rfl
theorem callE_r {fv v5 : Int32} (hpp : p < 24) (hn : n < 100000) (hne : w.1 165 ≠ w.1 164) (h133 : F w 133 = ((p : Nat) : Int)) (h30 : A w 30 n = 0) (h95 : A w 95 p = ((59 + 1 : Nat) : Int)) (h109 : A w 109 p ≠ 3) (hee' : F w 150 = ((ee' : Nat) : Int) ∧ ee' < 4000) (h : PP Q D (K (wi (enR w p 0 ((p : Nat) : Int) (mk 1 21) ee') 151 1) ())) : PP Q D (bnd (fb_M_callRun_213 N () w (I ((n : Nat) : Int)) (I ((ar : Nat) : Int)) fv v5) K) := by
  unfold fb_M_callRun_213
  rw [decide_eq_false hne, br_fq]
  refine rb_ck (fun _ => ?_)
  rw [tnI (n := n) rfl (by omega), I_A' h30, show decide (I 0 = 0) = true from rfl, br_tq]
  refine rb_ck (fun _ => ?_)
  rw [I_F' h133, tnI (n := p) rfl (by omega), I_A' h95, show decide (I ((59 + 1 : Nat) : Int) = 60) = true from rfl, br_tq, show (1 : Int32) = I 1 from rfl, show (21 : Int32) = I 21 from rfl, term_e, rb_bnd_so, lit0q, ends_e hpp h133 h109 hee'.1 hee'.2, rb_bnd_so, bnd_so]
  exact h
end
end
section
set_option maxRecDepth 100000
section
variable {α β : Type} {b : Int → Nat → Nat → Prop} {N p PR U B W Y j a n ar P0 l v cc t0 ee ee' : Nat} {m w : MS} {t : Int64} {nb : Nat → Nat} {Hs Os : Nat → List Nat} {wd : Int} {Q : MS → α → MS → β → Prop} {K1 : MS → Option (MS × α)} {K2 : MS → Option (MS × β)} {Fv Fv' : Int64 → Int64 → Prop} {P P' : Int64 → Prop} {fv v5 : Int32}
theorem op_applyS (hpp : p < 24) (ru : RUs m w p j nb Hs Os none a n) (hge : F m 1107 ≤ F m 1106) (heq : m.1 1106 = m.1 1107) (ha : a + 2 < 24000) (hwd : wd = 27 ∨ wd = 28) (c1 : A m 23 (a + 1) = ((ar : Nat) : Int)) (h26 : F m (pq p 26) = ((P0 + 1 + ar : Nat) : Int)) (hl : F m (pq p 45) = ((l : Nat) : Int)) (hl2 : P0 + 1 + ar ≤ l ∧ l ≤ 1000000) (ht : m.2.2.2 (pq p 35) P0 = t) (st : so t = 3) (hv : va t = ((v : Nat) : Int)) (hv2 : v < 512) (hc0 : va (m.2.2.2 (pq p 2) v) = ((cc : Nat) : Int)) (tk : hm_Co_takes N m (I ((cc : Nat) : Int)) = some (m, I ((ar : Nat) : Int))) (h24 : A w 24 n = ((t0 : Nat) : Int)) (ht0 : t0 < 100000) (c2 : A m 23 (a + 2) = A w 8 t0)
    (kd : ∀ (D : Option (MS × α)) (K : MS → Unit → Option (MS × β)), PP Q D (bnd (fb_M_callRun_213 N () (wi w 166 1) (I ((n : Nat) : Int)) (I ((ar : Nat) : Int)) fv v5) K) → PP Q D (bnd (fm_M_callRun N w (I ((n : Nat) : Int)) (I 13)) K))
    (k : PP Q (K1 (wi (wi m 1108 1) (pq p 29) (A w 8 t0))) (K2 (wa (wi (wi w 166 1) 151 1) 115 p (A w 8 t0)))) : PP Q (bnd (hm_Ma_flow N m p (I wd)) (fun u _ => K1 u)) (bnd (fm_M_one N w (I ((n : Nat) : Int)) (I 13)) (fun u _ => K2 u)) := by
  obtain ⟨-, ⟨r2, r3⟩, ⟨f0, cr0⟩, -, -, -, r11, r12, r13⟩ := id ru
  have cb := CR_b cr0
  have bg : ∀ z : Int32, hm_Ma_apply N m p (I ((ar : Nat) : Int)) z = some (wi (wi m 1108 1) (pq p 29) (A w 8 t0), ()) := fun z => apB_m r2 ha h26 hl hl2 ht st hv hv2 hc0 tk (by rw [c2]; exact begS_m hge)
  have el : bnd (hm_Ma_flow N m p (I wd)) (fun u _ => K1 u) = K1 (wi (wi m 1108 1) (pq p 29) (A w 8 t0)) := by
    rcases hwd with rfl | rfl
    · rw [apl_27, I_F' r2, show I ((a : Nat) : Int) + 1 = I ((a + 1 : Nat) : Int) from addN, Co_e (k := a + 1) rfl (by omega), bnd_so, c1, bg, bnd_so, bnd_so]
    · rw [apl_28, I_F' r2, show I ((a : Nat) : Int) + 1 = I ((a + 1 : Nat) : Int) from addN, Co_e (k := a + 1) rfl (by omega), bnd_so, c1, bg, bnd_so, bnd_so]
  rw [el, one_13]
  refine r_bb ?_
  refine kd _ _ ?_
  refine callS_r (t := t0) (lne := A w 8 t0) hpp (by omega) ?_ (by rw [wi_ne (by omega)]; exact r11) h24 ht0 rfl k
  rw [wi_1 (by omega), wi_1 (by omega), ← r12, ← r13]
  exact heq
theorem op_applyE (hpp : p < 24) (hpr : p < PR) (pl : PLs b p m w U B (P0 + 1 + ar) Y) (ru : RUs m w p 59 nb Hs Os none a n) (hlt : F m 1106 < F m 1107) (ha : a + 2 < 24000) (c1 : A m 23 (a + 1) = ((ar : Nat) : Int)) (hl : F m (pq p 45) = ((l : Nat) : Int)) (hl2 : P0 + 1 + ar ≤ l ∧ l ≤ 1000000) (ht : m.2.2.2 (pq p 35) P0 = t) (st : so t = 3) (hv : va t = ((v : Nat) : Int)) (hv2 : v < 512) (hc0 : va (m.2.2.2 (pq p 2) v) = ((cc : Nat) : Int)) (tk : hm_Co_takes N m (I ((cc : Nat) : Int)) = some (m, I ((ar : Nat) : Int))) (h30 : A w 30 n = 0) (hee : F m 955 = ((ee : Nat) : Int) ∧ ee < 24) (hee' : F w 150 = ((ee' : Nat) : Int) ∧ ee' < 4000) (p21 : P (mk 1 21)) (p21' : P' (mk 1 21))
    (kd : ∀ (D : Option (MS × α)) (K : MS → Unit → Option (MS × β)), PP Q D (bnd (fb_M_callRun_213 N () (wi w 166 1) (I ((n : Nat) : Int)) (I ((ar : Nat) : Int)) fv v5) K) → PP Q D (bnd (fm_M_callRun N w (I ((n : Nat) : Int)) (I 13)) K))
    (ke : ∀ w3, GGw p w w3 → (SCs p m w → SCs p m w3) → m.1 (pq p 5) = w3.2.2.1 90 p → RQs Fv P Fv' P' PR (enS m p (mk 1 21) p ee) (enR w3 p 0 ((p : Nat) : Int) (mk 1 21) ee') p 0 p (mk 1 21) → PP Q (K1 (enS m p (mk 1 21) p ee)) (K2 (wi (enR w3 p 0 ((p : Nat) : Int) (mk 1 21) ee') 151 1))) : PP Q (bnd (hm_Ma_flow N m p (I 27)) (fun u _ => K1 u)) (bnd (fm_M_one N w (I ((n : Nat) : Int)) (I 13)) (fun u _ => K2 u)) := by
  obtain ⟨⟨fa, ct⟩, ⟨r2, r3⟩, ⟨f0, cr0⟩, ⟨r5, r6⟩, -, -, r11, r12, r13⟩ := id ru
  have cb := CR_b cr0
  have hne : (wi w 166 1).1 165 ≠ (wi w 166 1).1 164 := by
    rw [wi_1 (by omega), wi_1 (by omega), ← r12, ← r13]
    intro c
    have := congrArg Int32.toInt c
    have h1 : F m 1106 = (m.1 1106).toInt := rfl
    have h2 : F m 1107 = (m.1 1107).toInt := rfl
    omega
  have bg : hm_Ma_apply N m p (I ((ar : Nat) : Int)) 0 = some (enS m p (mk 1 21) p ee, ()) := apB_m r2 ha pl.2.2.1.1 hl hl2 ht st hv hv2 hc0 tk (begE_m hlt fa.1.1 (by rw [r5]; omega) hee)
  rw [apl_27, I_F' r2, show I ((a : Nat) : Int) + 1 = I ((a + 1 : Nat) : Int) from addN, Co_e (k := a + 1) rfl (by omega), bnd_so, c1, bg, bnd_so, bnd_so, one_13]
  refine r_bb ?_
  refine kd _ _ ?_
  refine callE_r (ee' := ee') hpp (by omega) hne (by rw [wi_ne (by omega)]; exact r11) h30 fa.1.2.1 (by show A w 109 p ≠ 3; rw [r6]; omega) ⟨by rw [wi_ne (by omega)]; exact hee'.1, hee'.2⟩ ?_
  exact ke (wi w 166 1) (GGw_reg (by omega) (by omega)) id pl.1.2.2 (RQ_lit hpr hpp (nh_mk (by omega)) (fun c => by rw [so_mk (by omega) (by omega)] at c; omega) p21 p21')
end
end
