/-! a message is sent, both sides -/
set_option maxRecDepth 100000
/-- the one that goes is as told, the others do not go -/
def RRx (p : Nat) (S : MS → MS → Prop) (q : Nat) (m w : MS) : Prop := (q = p ∧ S m w) ∨ (q ≠ p ∧ WTr q m w)
/-- of the one that goes: where it stands, what it holds -/
def RUw (p j : Nat) (nb : Nat → Nat) (Hs Os : Nat → List Nat) (y : Option (Nat × Nat × Nat)) (a n B W l : Nat) (m w : MS) : Prop := RUs m w p j nb Hs Os y a n ∧ F m (pq p 24) = ((B : Nat) : Int) ∧ F m (pq p 26) = ((W : Nat) : Int) ∧ F m (pq p 45) = ((l : Nat) : Int)
section
variable {b : Int → Nat → Nat → Prop} {Fv Fv' : Int64 → Int64 → Prop} {P P' : Int64 → Prop} {N PR q r p i j0 j U B W Y a n l : Nat} {m w m2 w2 : MS} {t x : Int64} {cur : Option Nat} {RR : Nat → MS → MS → Prop} {S : MS → MS → Prop} {nb : Nat → Nat} {Hs Os : Nat → List Nat} {y : Option (Nat × Nat × Nat)}
theorem RRx_stb (h : ∀ m w m2 w2, S m w → EQn p m m2 → EQv p w w2 → PGs m w m2 w2 → S m2 w2) : STBl (RRx p S) := fun q m w m2 w2 c h1 h2 pg => by
  rcases c with ⟨rfl, c⟩ | ⟨e, c⟩
  · exact Or.inl ⟨rfl, h m w m2 w2 c h1 h2 pg⟩
  · exact Or.inr ⟨e, WTr_st c h1 h2⟩
theorem RUw_st (h : RUw p j nb Hs Os y a n B W l m w) (h1 : EQn p m m2) (h2 : EQv p w w2) (pg : PGs m w m2 w2) : RUw p j nb Hs Os y a n B W l m2 w2 := by
  have f : ∀ k, k = 24 ∨ k = 26 ∨ k = 45 → F m2 (pq p k) = F m (pq p k) := fun k hk => congrArg Int32.toInt (h1.1 k (by omega) (by simp; omega))
  exact ⟨RUs_st h.1 h1 h2 pg, by rw [f 24 (by omega)]; exact h.2.1, by rw [f 26 (by omega)]; exact h.2.2.1, by rw [f 45 (by omega)]; exact h.2.2.2⟩
theorem WL_x (wl : WLs (RRp p) PR Fv P Fv' P' cur i j0 m w) (h : RUw p j nb Hs Os y a n B W l m w) : WLs (RRx p (RUw p j nb Hs Os y a n B W l)) PR Fv P Fv' P' cur i j0 m w := WL_mono wl (fun q c => by
  rcases c with ⟨e, -⟩ | c
  · exact Or.inl ⟨e, h⟩
  · exact Or.inr c) (RRx_stb (fun _ _ _ _ h h1 h2 pg => RUw_st h h1 h2 pg))
theorem WL_xp (wl : WLs (RRx p (RUw p j nb Hs Os y a n B W l)) PR Fv P Fv' P' cur i j0 m w) : WLs (RRp p) PR Fv P Fv' P' cur i j0 m w := WL_mono wl (fun q c => by
  rcases c with ⟨e, c⟩ | c
  · exact Or.inl ⟨e, j, nb, Hs, Os, y, a, n, c.1⟩
  · exact Or.inr c) RRp_stb
/-- one that has ENDED lets go of terms that wait -/
theorem WL_gone (hst : ∀ q m w m2 w2, RR q m w → EQn q m m2 → EQv q w w2 → RR q m2 w2) (wl : WLs RR PR Fv P Fv' P' cur i j0 m w) (s2 : SFs Fv P Fv' P' PR m2 w2) (h9 : F m (pq p 9) = 3) (h9w : A w 109 p = 3) (hp24 : p < 24) (f : FR [pq p 26, pq p 45, 1105] [] [] [pq p 35] m m2) (g : FR [] [] [92, 98] [91] w w2) (g92 : ∀ k, k ≠ p → A w2 92 k = A w 92 k) (g98 : ∀ k, ¬ (60 * p ≤ k ∧ k < 60 * p + 60) → A w2 98 k = A w 98 k) (g91 : ∀ k, ¬ (46000 * p ≤ k ∧ k < 46000 * p + 46000) → w2.2.2.2 91 k = w.2.2.2 91 k) : WLs RR PR Fv P Fv' P' cur i j0 m2 w2 := by
  have W0 := wl
  obtain ⟨sf, ⟨n0, q1, q2, -⟩, -, stb⟩ := id wl
  have ai : ∀ {x y : Int32}, x.toInt = y.toInt → x = y := fun h => Int32.toInt_inj.mp h
  have lm : ∀ d, d ≠ p → LOCm d m m2 := fun d hd k hk => ⟨f.1 _ (by
    simp only [List.mem_cons, List.not_mem_nil, or_false]
    intro c
    rcases c with c | c | c
    · exact hd (pq_e hk (by omega) c).1
    · exact hd (pq_e hk (by omega) c).1
    · exact pq_n (by omega) c.symm), f.2.1 _ (by simp), f.2.2.1 _ (by simp), f.2.2.2 _ (by
    simp only [List.mem_cons, List.not_mem_nil, or_false]
    intro c
    exact hd (pq_e hk (by omega) c).1)⟩
  have lw : ∀ d, d ≠ p → LOCw d w w2 := fun d hd => by
    refine ⟨fun K k h => ?_, fun K h => by rw [g.2.2.1 K (by simp; omega)], fun k _ _ => by rw [g.2.2.1 131 (by simp)], by rw [g.2.2.2 111 (by simp)], fun k _ _ => by rw [g.2.2.2 88 (by simp)], fun k h1 h2 => g91 k (by omega), fun k _ _ => by rw [g.2.2.2 93 (by simp)], fun k _ _ => by rw [g.2.2.2 107 (by simp)]⟩
    by_cases c : K = 92
    · subst c
      have ki : k = d := by
        rcases h with h | h | h | h
        · exact h.2
        · omega
        · omega
        · omega
      subst ki
      exact ai (g92 k hd)
    · by_cases c2 : K = 98
      · subst c2
        have ki : 60 * d ≤ k ∧ k < 60 * d + 60 := by
          rcases h with h | h | h | h
          · omega
          · exact h.2
          · omega
          · omega
        exact ai (g98 k (by omega))
      · rw [g.2.2.1 K (by simp; omega)]
  have own : ∀ k, k ≠ 26 → k ≠ 45 → m2.1 (pq p k) = m.1 (pq p k) := fun k h1 h2 => f.1 _ (by
    simp only [List.mem_cons, List.not_mem_nil, or_false]
    intro c
    rcases c with c | c | c
    · exact pq_inj h1 c
    · exact pq_inj h2 c
    · exact pq_n (by omega) c.symm)
  have own2 : ∀ k, k ≠ 35 → m2.2.2.2 (pq p k) = m.2.2.2 (pq p k) := fun k h => f.2.2.2 _ (by simp; exact pq_inj h)
  have pg : PG0 m w m2 w2 := PG0_fr f g (fun k hk => by simp at hk; unfold pq at hk; omega) (by simp) (by simp) (by simp [PRr]) (by simp)
  have f9 : ∀ d, F m2 (pq d 9) = F m (pq d 9) := fun d => by
    by_cases c : d = p
    · subst c; exact congrArg Int32.toInt (own 9 (by omega) (by omega))
    · exact congrArg Int32.toInt (lm d c 9 (by omega)).1
  have a9 : ∀ d, A w2 109 d = A w 109 d := fun d => FR.A g (by simp)
  have hp2 : ∀ d k, hp w2 d k = hp w d k := fun d k => by unfold hp; rw [g.2.2.2 88 (by simp)]
  have c2 : ∀ d, m2.2.2.2 (pq d 2) = m.2.2.2 (pq d 2) := fun d => by
    by_cases c : d = p
    · subst c; exact own2 2 (by omega)
    · exact (lm d c 2 (by omega)).2.2.2
  have c17 : ∀ d k, k = 5 ∨ k = 12 ∨ k = 13 ∨ k = 15 ∨ k = 17 → m2.1 (pq d k) = m.1 (pq d k) := fun d k hk => by
    by_cases c : d = p
    · subst c; exact own k (by omega) (by omega)
    · exact (lm d c k (by omega)).1
  have c16 : ∀ d, m2.2.1 (pq d 16) = m.2.1 (pq d 16) := fun d => f.2.1 _ (by simp)
  have c14 : ∀ d, m2.2.2.1 (pq d 14) = m.2.2.1 (pq d 14) := fun d => f.2.2.1 _ (by simp)
  refine WL_gen W0 s2 (fun d hd => ⟨by rw [f9]; exact hd, c2 d, c17 d 17 (by omega), c16 d⟩) (fun d _ => ⟨fun k _ => hp2 d k, FR.A g (by simp)⟩) (fun d hd => by rw [a9]; exact hd) (fun d _ _ _ h => ?_) (fun d _ _ h => ?_) (fun d hd x1 x2 x3 => Or.inl ⟨by rw [f9]; exact x1, by rw [a9]; exact x2, ?_⟩) ?_
  · obtain ⟨h1, h2, h3, L, l1, l2⟩ := h
    refine ⟨by rw [c17 d 12 (by omega), g.2.2.1 113 (by simp)]; exact h1, by rw [c17 d 13 (by omega), g.2.2.1 114 (by simp)]; exact h2, by rw [c17 d 5 (by omega), g.2.2.1 90 (by simp)]; exact h3, L, ?_, ?_⟩
    · unfold LSm at l1 ⊢
      have e15 : F m2 (pq d 15) = F m (pq d 15) := congrArg Int32.toInt (c17 d 15 (by omega))
      have e14 : ∀ k, A m2 (pq d 14) k = A m (pq d 14) k := fun k => by show (m2.2.2.1 (pq d 14) k).toInt = _; rw [c14]; rfl
      simp only [e15, e14]
      exact l1
    · unfold LSw at l2 ⊢
      have e17 : ∀ k, A w2 117 k = A w 117 k := fun k => FR.A g (by simp)
      have e16 : ∀ k, A w2 116 k = A w 116 k := fun k => FR.A g (by simp)
      simp only [e17, e16]
      exact l2
  · obtain ⟨h1, h2, h3, h4, h5, h6, h7⟩ := h
    refine ⟨by rw [f9]; exact h1, by rw [a9]; exact h2, ?_, ⟨by rw [c17 d 12 (by omega)]; exact h4.1, by rw [g.2.2.1 113 (by simp)]; exact h4.2⟩, by rw [c17 d 13 (by omega), g.2.2.1 114 (by simp)]; exact h5, by rw [c17 d 5 (by omega), g.2.2.1 90 (by simp)]; exact h6, ⟨(congrArg Int32.toInt (c17 d 15 (by omega))).trans h7.1, by rw [FR.A g (by simp)]; exact h7.2⟩⟩
    obtain ⟨hm, k, z, z1, z2, z3, z4, z5, z6, z7⟩ := h3
    have eA : ATc m2 = ATc m := pg.1.2.2
    have e22 : F m2 22 = F m 22 := congrArg Int32.toInt pg.1.2.1
    refine ⟨hm, k, z, by rw [c17 d 17 (by omega)]; exact z1, z2, by rw [f9]; exact z3, by rw [c2, c16, e22]; exact z4, z5, by rw [c2, c16, eA, FR.A g (by simp)]; exact z6, fun i2 hi2 => ?_⟩
    rw [c2, c16, eA] at hi2 ⊢
    rw [g.2.2.1 131 (by simp)]
    exact z7 i2 hi2
  · have dp : d ≠ p := fun c => x1 (by rw [c]; exact h9)
    obtain ⟨b, U, B, W, Y, pl, sc, rr⟩ := x3
    obtain ⟨-, -, ⟨b1, b2, b3⟩, b4⟩ := SF_al sf hd x1 pl
    have hU := pl.1.1.2.2
    have l1 := lm d dp
    have l2 := lw d dp
    refine ⟨b, U, B, W, Y, PLs_cg pl (fun k hk => (l1 k (by simp at hk; omega)).1) (fun i _ => by rw [(l1 2 (by omega)).2.2.2]) (fun i _ => by rw [(l1 33 (by omega)).2.2.2]) (fun i _ => by rw [(l1 35 (by omega)).2.2.2]) (fun i _ => by rw [(l1 6 (by omega)).2.2.2]) (fun k hk => ?_) (fun i hi => l2.2.2.2.2.1 _ (by omega) (by omega)) (fun i hi => l2.2.2.2.2.2.2.1 _ (by omega) (by omega)) (fun i hi => l2.2.2.2.2.2.1 _ (by omega) (by omega)) (fun i hi => l2.2.2.2.2.2.2.2 _ (by omega) (by omega)), SC_eq sc b4.2 (EQm_loc pg l1) (EQw_loc pg l2), hst d m w m2 w2 rr (EQm_loc pg l1).n (EQw_loc pg l2).v⟩
    simp only [List.mem_cons, List.not_mem_nil, or_false] at hk
    rcases hk with rfl | rfl | rfl | rfl | rfl
    · exact l2.2.1 89 (by omega)
    · exact l2.2.1 90 (by omega)
    · exact l2.1 92 d (Or.inl ⟨by omega, rfl⟩)
    · exact l2.1 94 d (Or.inl ⟨by omega, rfl⟩)
    · exact l2.2.1 108 (by omega)
  · exact ⟨i + n0, j0 + n0, q1, q2, fun k _ => FR.A f (by simp), fun k _ => ⟨fun K hK => FR.A g (by simp; omega), by rw [g.2.2.2 148 (by simp)]⟩, Or.inl ⟨by rw [FR.F f (by simp; unfold pq; omega)]; exact q1, by rw [FR.F g (by simp)]; exact q2⟩⟩
/-- processes as far as their names go -/
def NDs (PR : Nat) (m w : MS) : Prop := (F m 942 = ((PR : Nat) : Int) ∧ F w 118 = ((PR : Nat) : Int) ∧ PR ≤ 24) ∧ (∀ k, k < PR → rf (m.2.2.1 1948 k) = some k) ∧ ∀ k, k < PR → (F m (pq k 9) ≠ 3 ∧ A w 109 k ≠ 3 ∧ m.1 (pq k 12) = w.2.2.1 113 k) ∨ (F m (pq k 9) = 3 ∧ A w 109 k = 3)
theorem NDs_of (wl : WLs RR PR Fv P Fv' P' cur i j0 m w) : NDs PR m w := by
  obtain ⟨⟨⟨dwc, -⟩, ⟨dw, -⟩, -⟩, -, pr, -⟩ := id wl
  refine ⟨⟨dwc.1.1.1, dw.1.1, dw.1.2⟩, dwc.1.2.1, fun k hk => ?_⟩
  rcases pr k hk with ⟨x1, x2, b, U, B, W, Y, pl, sc, rr⟩ | ⟨x1, x2, -⟩
  · exact Or.inl ⟨x1, x2, sc.1⟩
  · exact Or.inr ⟨x1, x2⟩
theorem NDs_w (h : NDs PR m w) (h1 : w2.1 118 = w.1 118) (h2 : w2.2.2.1 109 = w.2.2.1 109) (h3 : w2.2.2.1 113 = w.2.2.1 113) : NDs PR m w2 := by
  obtain ⟨⟨a1, a2, a3⟩, a4, a5⟩ := h
  refine ⟨⟨a1, by show (w2.1 118).toInt = _; rw [h1]; exact a2, a3⟩, a4, fun k hk => ?_⟩
  have e : A w2 109 k = A w 109 k := by show (w2.2.2.1 109 k).toInt = _; rw [h2]; rfl
  rw [e, h3]
  exact a5 k hk
/-- who bears a name -/
theorem named_lp {v : Int32} (nd : NDs PR m w) : ∀ (d M M2 k : Nat), k + d = PR → PP (fun m2 o w2 r => (m2 = m ∧ w2 = w) ∧ ((o = none ∧ r = I (-1)) ∨ ∃ q : Nat, q < PR ∧ o = some q ∧ r = I ((q : Nat) : Int) ∧ F m (pq q 9) ≠ 3 ∧ m.1 (pq q 12) = v)) (hg_Wl_named N M m v (I ((k : Nat) : Int))) (gg_M_namedBy N M2 w v (I ((k : Nat) : Int))) := by
  obtain ⟨⟨h942, h118, p24⟩, d1948, pr⟩ := nd
  intro d
  induction d with
  | zero =>
    intro M M2 k hk
    have : k = PR := by omega
    subst this
    cases M with
    | zero => exact pp_nl
    | succ M =>
    cases M2 with
    | zero => exact pp_nr
    | succ M2 =>
    show PP _ (hb_Wl_named_2 N (hg_Wl_named N M) m v (I ((k : Nat) : Int))) (fb_M_namedBy_2 N (gg_M_namedBy N M2) w v (I ((k : Nat) : Int)))
    unfold hb_Wl_named_2 fb_M_namedBy_2
    rw [I_F' h942, I_F' h118, show decide (I ((k : Nat) : Int) ≤ I ((k : Nat) : Int)) = true from decide_eq_true (Int32.le_refl _), br_t, br_t]
    exact pp_end ⟨⟨rfl, rfl⟩, Or.inl ⟨rfl, rfl⟩⟩
  | succ d ih =>
    intro M M2 k hk
    cases M with
    | zero => exact pp_nl
    | succ M =>
    cases M2 with
    | zero => exact pp_nr
    | succ M2 =>
    show PP _ (hb_Wl_named_2 N (hg_Wl_named N M) m v (I ((k : Nat) : Int))) (fb_M_namedBy_2 N (gg_M_namedBy N M2) w v (I ((k : Nat) : Int)))
    unfold hb_Wl_named_2 fb_M_namedBy_2 hb_Wl_named_39 fb_M_namedBy_32
    have on := ih M M2 (k + 1) (by omega)
    rw [I_F' h942, I_F' h118, decI (by omega) (by omega) (by omega) (by omega), show decide (((PR : Nat) : Int) ≤ ((k : Nat) : Int)) = false from decide_eq_false (by omega), br_f, br_f, tnI (n := k) rfl (by omega), d1948 k (by omega), show I ((k : Nat) : Int) + 1 = I ((k + 1 : Nat) : Int) from addN]
    refine l_ck (fun _ => r_ck (fun _ => ?_))
    rw [show decide ((some k : Option Nat) = none) = false from rfl, br_f]
    show PP _ (br (decide ((m.1 (pq k 12)) = v)) (br (decide ((m.1 (pq k 9)) = 3)) (hg_Wl_named N M m v (I ((k + 1 : Nat) : Int))) (some (m, (some k)))) (hg_Wl_named N M m v (I ((k + 1 : Nat) : Int)))) _
    have r9 := F_r m (pq k 9)
    have w9 := A_r w 109 k
    rw [I_F (k := pq k 9), I_A (k := 109) (i := k), show (3 : Int32) = I 3 from rfl, decE r9.1 r9.2 (by omega) (by omega), decE w9.1 w9.2 (by omega) (by omega)]
    rcases pr k (by omega) with ⟨x1, x2, sc⟩ | ⟨x1, x2⟩
    · rw [decide_eq_false x1, decide_eq_false x2, br_f, br_f, sc]
      by_cases e : w.2.2.1 113 k = v
      · rw [decide_eq_true e, br_t, br_t]
        refine r_ck (fun _ => pp_end ⟨⟨rfl, rfl⟩, Or.inr ⟨k, by omega, rfl, rfl, x1, ?_⟩⟩)
        rw [sc]; exact e
      · rw [decide_eq_false e, br_f, br_f]
        exact on
    · rw [decide_eq_true x1, decide_eq_true x2, br_t, br_t]
      refine l_br (fun _ => ?_) (fun _ => ?_)
      · refine r_br (fun _ => r_ck (fun _ => ?_)) (fun _ => ?_)
        · exact on
        · exact on
      · refine r_br (fun _ => r_ck (fun _ => ?_)) (fun _ => ?_)
        · exact on
        · exact on
theorem named_pn {v : Int32} (nd : NDs PR m w) : PP (fun m2 o w2 r => (m2 = m ∧ w2 = w) ∧ ((o = none ∧ r = I (-1)) ∨ ∃ q : Nat, q < PR ∧ o = some q ∧ r = I ((q : Nat) : Int) ∧ F m (pq q 9) ≠ 3 ∧ m.1 (pq q 12) = v)) (hm_Wl_named N m v) (fm_M_namedBy N w v) := by
  unfold hm_Wl_named hb_Wl_named_0 fm_M_namedBy fb_M_namedBy_0
  exact named_lp (N := N) (v := v) nd PR N N 0 (by omega)
theorem named_pp {v : Int32} (wl : WLs RR PR Fv P Fv' P' cur i j0 m w) : PP (fun m2 o w2 r => (m2 = m ∧ w2 = w) ∧ ((o = none ∧ r = I (-1)) ∨ ∃ q : Nat, q < PR ∧ o = some q ∧ r = I ((q : Nat) : Int) ∧ F m (pq q 9) ≠ 3 ∧ m.1 (pq q 12) = v)) (hm_Wl_named N m v) (fm_M_namedBy N w v) := named_pn (NDs_of wl)
/-- a process by its number, there -/
theorem find_e (dwc : DWc Fv P PR m) (hq : q < PR) : hm_Wl_find N m (I ((q : Nat) : Int)) = some (m, some q) := by
  have h942 : F m 942 = ((PR : Nat) : Int) := dwc.1.1.1
  have p24 : PR ≤ 24 := dwc.1.1.2
  unfold hm_Wl_find hb_Wl_find_0 hb_Wl_find_22
  rw [d_lt0 (by omega), br_f, I_F' h942, show decide (I ((q : Nat) : Int) < I ((PR : Nat) : Int)) = true from decide_eq_true (by rw [I_lt (by omega) (by omega) (by omega) (by omega)]; omega), br_t, (I_inb (by omega) (by omega)).mpr ⟨by omega, by omega⟩, ck_t, tnI (n := q) rfl (by omega), dwc.1.2.1 q hq]
end
