/-! what is PREDEFINED: link, with one that has not ENDED -/
set_option maxRecDepth 100000
section
variable {N PR p q r : Nat} {m w u : MS} {L : List Int} {x : Int} {v2 : Int64} {v7 t1 t2 : Int32}
theorem ls_len (nd : L.Nodup) (h : ∀ z, z ∈ L → 0 ≤ z ∧ z < ((PR : Nat) : Int)) (hq : q < PR) (hn : ((q : Nat) : Int) ∉ L) : L.length + 1 ≤ PR := by
  refine pigU (V := PR) (U := L.length + 1) (r := fun c e => (L ++ [((q : Nat) : Int)])[c]? = some ((e : Nat) : Int)) (fun c hc => ?_) (fun c c2 e hc hc2 h1 h2 => ?_)
  · by_cases e : c < L.length
    · have := h L[c] (List.getElem_mem e)
      refine ⟨L[c].toNat, by omega, ?_⟩
      rw [List.getElem?_append_left e, List.getElem?_eq_getElem e]
      congr 1
      omega
    · have : c = L.length := by omega
      subst this
      exact ⟨q, hq, by simp⟩
  · have nd2 : (L ++ [((q : Nat) : Int)]).Nodup := by
      rw [List.nodup_append]
      refine ⟨nd, by simp, fun a ha b hb => ?_⟩
      simp at hb
      subst hb
      exact fun c => hn (c ▸ ha)
    have l1 : c < (L ++ [((q : Nat) : Int)]).length := by simp; omega
    have l2 : c2 < (L ++ [((q : Nat) : Int)]).length := by simp; omega
    rw [List.getElem?_eq_getElem l1] at h1
    rw [List.getElem?_eq_getElem l2] at h2
    injection h1 with h1
    injection h2 with h2
    have ne := List.pairwise_iff_getElem.mp nd2
    rcases Nat.lt_trichotomy c c2 with g | g | g
    · exact absurd (h1.trans h2.symm) (ne c c2 l1 l2 g)
    · exact g
    · exact absurd (h2.trans h1.symm) (ne c2 c l2 l1 g)
theorem ls_app {i : Nat} {y : Int} (h : (L ++ [x])[i]? = some y) : (i < L.length ∧ L[i]? = some y) ∨ (i = L.length ∧ y = x) := by
  rcases Nat.lt_trichotomy i L.length with c | c | c
  · rw [List.getElem?_append_left c] at h
    exact Or.inl ⟨c, h⟩
  · subst c
    simp at h
    exact Or.inr ⟨rfl, h.symm⟩
  · rw [List.getElem?_eq_none (by simp; omega)] at h
    cases h
/-- one link more, there -/
theorem add_m (s : LSm m p L) (hL : L.length < 24) (hx : RG x) : ∃ m2, hm_Pr_addLink N m p (I x) = some (m2, ()) ∧ LSm m2 p (L ++ [x]) ∧ FR [pq p 15] [] [pq p 14] [] m m2 := by
  refine ⟨wi (wa m (pq p 14) L.length x) (pq p 15) ((L.length + 1 : Nat) : Int), ?_, ⟨?_, by simp; omega, fun i y h => ?_⟩, FR.wi (FR.wa FR.rf (by simp)) (by simp)⟩
  · unfold hm_Pr_addLink hb_Pr_addLink_0 hb_Pr_addLink_29
    rw [I_F' s.1, show decide (24 ≤ I ((L.length : Nat) : Int)) = false from by
      rw [show (24 : Int32) = I 24 from rfl]
      exact decide_eq_false (by rw [I_le (by omega) (by omega) (by omega) (by omega)]; omega), br_f, (I_inb (by omega) (by omega)).mpr ⟨by omega, by omega⟩, ck_t, tnI (n := L.length) rfl (by omega), wa_e, lt_e]
    have e : F (wa m (pq p 14) L.length x) (pq p 15) = ((L.length : Nat) : Int) := s.1
    rw [I_F' e, show I ((L.length : Nat) : Int) + 1 = I ((L.length + 1 : Nat) : Int) from addN, wi_e, lt_e]
  · rw [wi_sm (by omega) (by omega)]
    simp
  · rcases ls_app h with ⟨h1, h2⟩ | ⟨rfl, rfl⟩
    · show A (wa m (pq p 14) L.length x) (pq p 14) i = y
      rw [wa_ne (by omega)]
      exact s.2.2 i y h2
    · show A (wa m (pq p 14) L.length y) (pq p 14) L.length = y
      exact wa_sm hx.1 hx.2
/-- and here -/
theorem add_w (s : LSw w p L) (hL : L.length < 24) (hx : RG x) : LSw (wa (wa w 116 (24 * p + L.length) x) 117 p ((L.length + 1 : Nat) : Int)) p (L ++ [x]) ∧ LFw p w (wa (wa w 116 (24 * p + L.length) x) 117 p ((L.length + 1 : Nat) : Int)) := by
  refine ⟨⟨?_, by simp; omega, fun i y h => ?_⟩, FR.wa (FR.wa FR.rf (by simp)) (by simp), fun i hi => ?_, fun i hi => ?_⟩
  · rw [wa_sm (by omega) (by omega)]
    simp
  · rw [wa_rne (by omega)]
    rcases ls_app h with ⟨h1, h2⟩ | ⟨rfl, rfl⟩
    · rw [wa_ne (by omega)]
      exact s.2.2 i y h2
    · exact wa_sm hx.1 hx.2
  · rw [wa_ne hi, wa_rne (by omega)]
  · rw [wa_rne (by omega), wa_ne (by omega)]
/-- whether it is linked, here -/
theorem isl_lp (hp1 : p < 24) (h133 : F w 133 = ((p : Nat) : Int)) (hx : RG x) (s : LSw w p L) : ∀ (M : Nat) (L1 L2 : List Int), L = L1 ++ L2 → x ∉ L1 → PK (fun w2 r => w2 = w ∧ ((r = 1 ∧ x ∈ L) ∨ (r = 0 ∧ x ∉ L))) (gg_M_isLinked N M w (I x) (I ((L1.length : Nat) : Int))) := by
  intro M
  induction M with
  | zero => intro L1 L2 _ _; exact pk_none
  | succ M ih =>
    intro L1 L2 e hn
    have hl := s.2.1
    have hl1 : L1.length ≤ L.length := by rw [e]; simp
    show PK _ (fb_M_isLinked_2 N (gg_M_isLinked N M) w (I x) (I ((L1.length : Nat) : Int)))
    unfold fb_M_isLinked_2
    refine pk_ck (fun _ => ?_)
    rw [I_F' h133, tnI (n := p) rfl (by omega), I_A' s.1]
    cases L2 with
    | nil =>
      have e2 : L = L1 := by rw [e]; simp
      subst e2
      rw [show decide (I ((L.length : Nat) : Int) ≤ I ((L.length : Nat) : Int)) = true from decide_eq_true (Int32.le_refl _), br_t]
      exact pk_ck (fun _ => pk_some ⟨rfl, Or.inr ⟨rfl, hn⟩⟩)
    | cons z L3 =>
      have hl2 : L1.length < L.length := by rw [e]; simp
      have gz : L[L1.length]? = some z := by rw [e]; exact mid_get
      have hz := s.2.2 L1.length z gz
      rw [show decide (I ((L.length : Nat) : Int) ≤ I ((L1.length : Nat) : Int)) = false from decide_eq_false (by rw [I_le (by omega) (by omega) (by omega) (by omega)]; omega), br_f]
      refine pk_ck (fun _ => ?_)
      have e24 : 24 * I ((p : Nat) : Int) + I ((L1.length : Nat) : Int) = I ((24 * p + L1.length : Nat) : Int) := by
        rw [show (24 : Int32) = I 24 from rfl, I_mul, I_add]
        congr 1
      rw [e24, tnI (n := 24 * p + L1.length) rfl (by omega), I_A' hz]
      have zr := A_r w 116 (24 * p + L1.length)
      rw [hz] at zr
      rw [decE zr.1 zr.2 hx.1 hx.2]
      by_cases c : z = x
      · rw [decide_eq_true c, br_t]
        refine pk_ck (fun _ => pk_some ⟨rfl, Or.inl ⟨rfl, ?_⟩⟩)
        rw [e, ← c]
        simp
      · rw [decide_eq_false c, br_f, show I ((L1.length : Nat) : Int) + 1 = I (((L1 ++ [z]).length : Nat) : Int) from by simp; exact addN]
        exact ih (L1 ++ [z]) L3 (by rw [e]; simp) (by simp; exact ⟨hn, fun h => c h.symm⟩)
theorem isl_r (hp1 : p < 24) (h133 : F w 133 = ((p : Nat) : Int)) (hx : RG x) (s : LSw w p L) : PK (fun w2 r => w2 = w ∧ ((r = 1 ∧ x ∈ L) ∨ (r = 0 ∧ x ∉ L))) (fm_M_isLinked N w (I x)) := by
  unfold fm_M_isLinked fb_M_isLinked_0
  exact isl_lp (N := N) hp1 h133 hx s N [] L rfl (by simp)
theorem tw95_2 : hb_Ma_toward_95 N () u p (I 2) 1 (some q) = br (decide ((u.1 (pq q 9)) = 3)) (bnd (hm_Wl_signal N u (Int32.ofNat q) p (mk 1 3) none) (fun u29 _ => hb_Ma_toward_335 N () u29 p 1 (mk 1 0))) (br (decide ((some q) = (some p))) (hb_Ma_toward_335 N () u p 1 (mk 1 0)) (bnd (hm_Pr_seekLink N u p (Int32.ofNat q)) (fun u12 r12 => br (decide (r12 = (-1))) (bnd (hm_Pr_addLink N u12 p (Int32.ofNat q)) (fun u17 _ => bnd (hm_Pr_addLink N u17 q (Int32.ofNat p)) (fun u22 _ => hb_Ma_toward_335 N () u22 p 1 (mk 1 0)))) (hb_Ma_toward_335 N () u12 p 1 (mk 1 0))))) := rfl
def adR (w : MS) (K : MS → Option (MS × Unit)) (a : MS → Int32) (c : Int32) : Option (MS × Unit) := ck (inb (a w) (ln 117)) (ck (inb ((24 * (a w)) + (w.2.2.1 117 (a w).toNatClampNeg)) (ln 116)) (lt (upA w 116 (upd (w.2.2.1 116) ((24 * (a w)) + (w.2.2.1 117 (a w).toNatClampNeg)).toNatClampNeg c)) (fun w7 => ck (inb (a w7) (ln 117)) (ck (inb (a w7) (ln 117)) (lt (upA w7 117 (upd (w7.2.2.1 117) (a w7).toNatClampNeg ((w7.2.2.1 117 (a w7).toNatClampNeg) + 1))) (fun w8 => K w8))))))
theorem prr_2 : fb_M_processRun_151 N () w (I 2) v2 v7 92 t1 t2 1 = ck (isK 92 4) (ck (inb t1 (ln 92)) (lt (upA w 92 (upd (w.2.2.1 92) t1.toNatClampNeg (t2 - 1))) (fun w3 => bnd (fm_M_truth N w3 1) (fun u4 r4 => bnd (fm_M_put N u4 r4) (fun u5 _ => ck (inb v7 (ln 109)) (br (decide ((u5.2.2.1 109 v7.toNatClampNeg) = 3)) (bnd (fm_M_term N u5 1 3) (fun u11 r11 => bnd (fm_M_signal N u11 (u5.1 133) v7 0 v7 r11) (fun u12 _ => some (u12, ())))) (br (decide (v7 = (u5.1 133))) (some (u5, ())) (bnd (fm_M_isLinked N u5 v7) (fun u6 r6 => br (decide (r6 = 0)) (adR u6 (fun w8 => adR w8 (fun w10 => some (w10, ())) (fun _ => v7) (w8.1 133)) (fun u => u.1 133) v7) (some (u6, ()))))))))))) := rfl
end
section
variable {α β : Type} {b : Int → Nat → Nat → Prop} {Fv Fv' : Int64 → Int64 → Prop} {P P' : Int64 → Prop} {N PR p q i j0 U B W Y l j a n : Nat} {m w w1 m2 w2 w3 : MS} {nb : Nat → Nat} {Hs Os : Nat → List Nat} {y : Option (Nat × Nat × Nat)} {Q : MS → α → MS → β → Prop} {K1 : MS → Option (MS × α)} {K2 : MS → Option (MS × β)} {L : List Int} {r : Nat} {z : Option (MS × α)} {x : Int}
theorem adR_e {K : MS → Option (MS × Unit)} {KK : MS → Unit → Option (MS × β)} {g : MS → Int32} (hr : r < 24) (s : LSw w r L) (hL : L.length < 24) (hg : ∀ u : MS, u.1 = w.1 → g u = I ((r : Nat) : Int)) (h : PP Q z (bnd (K (wa (wa w 116 (24 * r + L.length) x) 117 r ((L.length + 1 : Nat) : Int))) KK)) : PP Q z (bnd (adR w K g (I x)) KK) := by
  unfold adR
  refine rb_ck (fun _ => rb_ck (fun _ => ?_))
  have e24 : 24 * I ((r : Nat) : Int) + I ((L.length : Nat) : Int) = I ((24 * r + L.length : Nat) : Int) := by
    rw [show (24 : Int32) = I 24 from rfl, I_mul, I_add]
    congr 1
  rw [hg w rfl, tnI (n := r) rfl (by omega), I_A' s.1, e24, tnI (n := 24 * r + L.length) rfl (by omega), wa_e, lt_e]
  refine rb_ck (fun _ => rb_ck (fun _ => ?_))
  have e7 : A (wa w 116 (24 * r + L.length) x) 117 r = ((L.length : Nat) : Int) := by rw [wa_rne (by omega)]; exact s.1
  rw [hg (wa w 116 (24 * r + L.length) x) rfl, tnI (n := r) rfl (by omega), I_A' e7, show I ((L.length : Nat) : Int) + 1 = I ((L.length + 1 : Nat) : Int) from addN, wa_e, lt_e]
  exact h
/-- links have changed there: it answers -/
theorem lnk_ans {KK : MS → Unit → Option (MS × β)} (hp1 : p < 24) (f12 : FR [pq p 15, pq q 15] [] [pq p 14, pq q 14] [] m m2) (ru : RUs m w p j nb Hs Os y a n) (hW : W + 1 ≤ 46000) (hl : F m (pq p 45) = ((l : Nat) : Int)) (hl2 : W + 1 ≤ l ∧ l ≤ 1000000) (pl : PLs b p m w1 U B (W + 1) Y) (g1 : FGw p j w w1) (h98 : A w1 98 (60 * p + j) = ((n + 1 : Nat) : Int)) (cr : ∃ f, CRs (A m 23) (ROs w) (w.2.2.2 34) f y (a + 2) (n + 1) (Hs j) (Os j))
    (c : ∀ m8 w8, PLs b p m8 w8 U B (W + 1) Y → RUs m8 w8 p j nb Hs Os y (a + 2) (n + 1) → FGm p m2 m8 → FGw p j w w8 → F w8 133 = ((p : Nat) : Int) → PP Q (K1 m8) (KK w8 ())) : PP Q (bnd (hb_Ma_toward_335 N () m2 p 1 (mk 1 0)) (fun u _ => K1 u)) (bnd (fm_M_put N (wa w1 92 p ((W : Nat) : Int)) (mk 1 0)) KK) := by
  obtain ⟨⟨fa, -⟩, ⟨r2, -⟩, -⟩ := id ru
  have cb2 : a + 2 + 1 < 24000 := by
    obtain ⟨f9, cr9⟩ := cr
    exact (CR_b cr9).1
  have ru2 : RUs m2 w p j nb Hs Os y a n := RUs_st ru (lk_n f12) EQw.rf.v (lk_pgm f12)
  have pl2 := lk_plm pl f12
  have pd := PLs_drop (k := 1) (W := W) pl2 (by omega)
  have g3 : FGw p j w (wa w1 92 p ((W : Nat) : Int)) := FGw.tr g1 FGw.w92
  have h983 : A (wa w1 92 p ((W : Nat) : Int)) 98 (60 * p + j) = ((n + 1 : Nat) : Int) := by rw [wa_rne (by omega)]; exact h98
  have e45 : F m2 (pq p 45) = ((l : Nat) : Int) := by
    rw [← hl]
    exact congrArg Int32.toInt ((lk_n (r := p) f12).1 45 (by omega) (by simp))
  have e05 : F m2 1105 = ((a : Nat) : Int) := by
    rw [FR.F f12 (by simp [pq_n])]
    exact r2
  have cr2 : ∃ f, CRs (A m2 23) (ROs w) (w.2.2.2 34) f y (a + 2) (n + 1) (Hs j) (Os j) := by
    rw [show A m2 23 = A m 23 from by funext k; show (m2.2.2.1 23 k).toInt = _; rw [f12.2.2.1 23 (by simp [pq_n])]; rfl]
    exact cr
  unfold hb_Ma_toward_335 hm_Ma_answer hb_Ma_answer_0
  rw [show (1 : Int32) = I 1 from rfl, drop_e (W := W + 1) (k := 1) (x := 1) pl2.2.2.1.1 rfl (by omega), bnd_so, Nat.add_sub_cancel]
  simp only [bb_e, bnd_so]
  exact pre_pt (K2 := fun u => KK u ()) (l := l) hp1 ru2 (by omega) ⟨by omega, hl2.2⟩ (lit_b (b := b) (v := 1) (Or.inr (Or.inl rfl)) (z := 0) (fun h => by omega) ⟨by omega, by omega⟩) FGm.drop g3 pd (by rw [wi_ne (pq_inj (by omega))]; exact e45) h983 (by rw [wi_ne (pq_n (by omega))]; exact e05) (by omega) cr2 c
/-- a link with one that has not ENDED -/
theorem op_link (hpp : p < PR) (hq : q < PR) (al : F m (pq q 9) ≠ 3) (wl : WLs (RRp p) PR Fv P Fv' P' none i j0 m w) (ru : RUs m w p j nb Hs Os y a n) (sc : SCs p m w) (hW : W + 1 ≤ 46000) (hl : F m (pq p 45) = ((l : Nat) : Int)) (hl2 : W + 1 ≤ l ∧ l ≤ 1000000) (pl : PLs b p m w1 U B (W + 1) Y) (g1 : FGw p j w w1) (h98 : A w1 98 (60 * p + j) = ((n + 1 : Nat) : Int)) (cr : ∃ f, CRs (A m 23) (ROs w) (w.2.2.2 34) f y (a + 2) (n + 1) (Hs j) (Os j))
    (c : ∀ m3 w3, (SFs Fv P Fv' P' PR m3 w3 → WLs (RRp p) PR Fv P Fv' P' none i j0 m3 w3) → PLs b p m3 w3 U B (W + 1) Y → RUs m3 w3 p j nb Hs Os y (a + 2) (n + 1) → GLm p q m m3 → GLw p q w w3 → PP Q (K1 m3) (K2 w3)) : PP Q (bnd (hb_Ma_toward_95 N () m p (I 2) 1 (some q)) (fun u _ => K1 u)) (bnd (fb_M_processRun_151 N () w1 (I 2) 0 (I ((q : Nat) : Int)) 92 (I ((p : Nat) : Int)) (I ((W + 1 : Nat) : Int)) 1) (fun u _ => K2 u)) := by
  obtain ⟨⟨fa, -⟩, ⟨r2, -⟩, -, ⟨q9, q9w⟩, -, -, r11, -, -⟩ := id ru
  have hj : j < 60 := fa.1.2.2
  have p24 : PR ≤ 24 := wl.1.2.1.1.1.2
  have nd := NDs_of wl
  have alw : A w 109 q ≠ 3 := by
    rcases nd.2.2 q hq with ⟨-, h, -⟩ | ⟨h, -⟩
    · exact h
    · exact absurd h al
  obtain ⟨Lp, lp1, lp2, lp3, -⟩ := WL_ls0 wl hpp
  obtain ⟨Lq, lq1, lq2, lq3, lq4⟩ := WL_ls0 wl hq
  have np := LS_nd lp2 (wl.1.2.1.2.1.1 p hpp)
  have nq := LS_nd lq2 (wl.1.2.1.2.1.1 q hq)
  have rr9 := F_r m (pq q 9)
  rw [tw95_2, prr_2, sub1, tnI (n := p) rfl (by omega), wa_e, oI, oI, I_F (w := m) (k := pq q 9), show (3 : Int32) = I 3 from rfl, decE rr9.1 rr9.2 (by omega) (by omega), decide_eq_false al, br_f]
  refine rb_ck (fun _ => rb_ck (fun _ => ?_))
  rw [lt_e, truth1, bnd_so]
  refine r_bb ?_
  have f0 : FR [pq p 15, pq q 15] [] [pq p 14, pq q 14] [] m m := FR.rf
  have a9 : ∀ w8, FGw p j w w8 → decide (w8.2.2.1 109 q = I 3) = false := fun w8 g8 => by
    have rw9 := A_r w8 109 q
    rw [I_A (w := w8) (k := 109) (i := q), decE rw9.1 rw9.2 (by omega) (by omega), FR.A g8.1 (by simp)]
    exact decide_eq_false alw
  have dpq : decide (I ((q : Nat) : Int) = I ((p : Nat) : Int)) = decide (q = p) := by
    rw [decE (by omega) (by omega) (by omega) (by omega)]
    exact decide_eq_decide.mpr ⟨fun h => by omega, fun h => by omega⟩
  -- nothing has changed
  have fin : ∀ m8 w8, PLs b p m8 w8 U B (W + 1) Y → RUs m8 w8 p j nb Hs Os y (a + 2) (n + 1) → FGm p m m8 → FGw p j w w8 → PP Q (K1 m8) (K2 w8) := fun m8 w8 pl8 ru8 f8 g8 => c m8 w8 (fun s2 => WL_ownL (q := q) (WL_t wl) hpp (by rw [q9]; omega) (by rw [q9w]; omega) s2 (GLm_gg (GGm_fg f8)) (GLw_gg (GGw_fg g8 hj)) (fun e => ⟨Lq, LSm_fg lq1 f8, LSw_fg lq2 g8, lq4⟩) pl8 (SC_fg sc f8 g8) ru8) pl8 ru8 (GLm_gg (GGm_fg f8)) (GLw_gg (GGw_fg g8 hj))
  by_cases e : q = p
  · subst e
    rw [show decide ((some q : Option Nat) = some q) = true from decide_eq_true rfl, br_t]
    refine lnk_ans (q := q) (by omega) f0 ru hW hl hl2 pl g1 h98 cr (fun m8 w8 pl8 ru8 f8 g8 x33 => ?_)
    refine rb_ck (fun _ => ?_)
    rw [tnI (n := q) rfl (by omega), a9 w8 g8, br_f, I_F' x33, show decide (I ((q : Nat) : Int) = I ((q : Nat) : Int)) = true from decide_eq_true rfl, br_t]
    exact fin m8 w8 pl8 ru8 f8 g8
  · rw [show decide ((some q : Option Nat) = some p) = false from decide_eq_false (fun h => e (by injection h)), br_f]
    have sk := seek_l (N := N) (x := ((q : Nat) : Int)) lp1 ⟨by omega, by omega⟩ N [] Lp rfl (by simp)
    refine lb_bnd (pk_mo (show PK _ (hm_Pr_seekLink N m p (I ((q : Nat) : Int))) from sk) (fun m4 r h => ?_))
    obtain ⟨rfl, h⟩ := h
    have mid : ∀ w8, FGw p j w w8 → F w8 133 = ((p : Nat) : Int) → PK (fun w2 r => w2 = w8 ∧ ((r = 1 ∧ ((q : Nat) : Int) ∈ Lp) ∨ (r = 0 ∧ ((q : Nat) : Int) ∉ Lp))) (fm_M_isLinked N w8 (I ((q : Nat) : Int))) := fun w8 g8 x33 => isl_r (by omega) x33 ⟨by omega, by omega⟩ (LSw_fg lp2 g8)
    rcases h with ⟨rfl, hn⟩ | ⟨L1, L2, eL, -, rfl⟩
    · have l1 := ls_len (PR := PR) np.1 (fun z hz => ⟨(np.2 z hz).1, (np.2 z hz).2.1⟩) hq hn
      have hn2 : ((p : Nat) : Int) ∉ Lq := fun h => hn (by
        have inq : inL w q p := by
          obtain ⟨k, hk, ek⟩ := List.mem_iff_getElem.mp h
          have g := lq2.2.2 k _ (List.getElem?_eq_getElem hk)
          exact ⟨k, by rw [lq2.1]; omega, by rw [g, ek]⟩
        obtain ⟨k, hk, ek⟩ := wl.1.2.1.2.1.2 q p hq hpp inq
        rw [lp2.1] at hk
        have hk2 : k < Lp.length := by omega
        have g := lp2.2.2 k _ (List.getElem?_eq_getElem hk2)
        rw [← ek, g]
        exact List.getElem_mem hk2)
      have l2 := ls_len (PR := PR) nq.1 (fun z hz => ⟨(nq.2 z hz).1, (nq.2 z hz).2.1⟩) hpp hn2
      obtain ⟨m5, e5, lp5, f5⟩ := add_m (N := N) (x := ((q : Nat) : Int)) lp1 (by omega) ⟨by omega, by omega⟩
      obtain ⟨m6, e6, lq6, f6⟩ := add_m (N := N) (x := ((p : Nat) : Int)) (LSm_o lq1 (Ne.symm e) f5) (by omega) ⟨by omega, by omega⟩
      have f56 : FR [pq p 15, pq q 15] [] [pq p 14, pq q 14] [] m4 m6 := FR.tr (FR.mo f5 (by simp) (by simp) (by simp) (by simp)) (FR.mo f6 (by simp) (by simp) (by simp) (by simp))
      rw [show decide (I (-1) = -1) = true from rfl, br_t, e5, bnd_so, e6, bnd_so]
      refine lnk_ans (q := q) (by omega) f56 ru hW hl hl2 pl g1 h98 cr (fun m8 w8 pl8 ru8 f8 g8 x33 => ?_)
      refine rb_ck (fun _ => ?_)
      rw [tnI (n := q) rfl (by omega), a9 w8 g8, br_f, I_F' x33, dpq, decide_eq_false e, br_f]
      refine rb_bnd (pk_mo (mid w8 g8 x33) (fun w9 r h => ?_))
      obtain ⟨rfl, ⟨-, h⟩ | ⟨rfl, -⟩⟩ := h
      · exact absurd h hn
      · rw [show decide ((0 : Int32) = 0) = true from rfl, br_t]
        refine adR_e (r := p) (by omega) (LSw_fg lp2 g8) (by omega) (fun u hu => by rw [hu]; exact I_F' x33) ?_
        obtain ⟨s5, k5⟩ := add_w (x := ((q : Nat) : Int)) (LSw_fg lp2 g8) (by omega) ⟨by omega, by omega⟩
        generalize hwA : wa (wa w9 116 (24 * p + Lp.length) ((q : Nat) : Int)) 117 p ((Lp.length + 1 : Nat) : Int) = wA at s5 k5
        have xA : F wA 133 = ((p : Nat) : Int) := by rw [FR.F k5.1 (by simp)]; exact x33
        have lqA := LSw_o (LSw_fg lq2 g8) (Ne.symm e) k5
        rw [I_F' xA]
        refine adR_e (r := q) (by omega) lqA (by omega) (fun u hu => rfl) ?_
        obtain ⟨s6, k6⟩ := add_w (x := ((p : Nat) : Int)) lqA (by omega) ⟨by omega, by omega⟩
        generalize hwB : wa (wa wA 116 (24 * q + Lq.length) ((p : Nat) : Int)) 117 q ((Lq.length + 1 : Nat) : Int) = wB at s6 k6
        show PP Q (K1 m8) (K2 wB)
        have g89 : FR [] [] [116, 117] [] w9 wB := FR.tr k5.1 k6.1
        have pl10 := lk_plw pl8 g89
        have ru10 : RUs m8 wB p j nb Hs Os y (a + 2) (n + 1) := RUs_st ru8 EQm.rf.n (lk_v g89) (lk_pgw g89)
        have gm : GLm p q m4 m8 := GLm.tr (GLm.tr (GLm_lk (Or.inl rfl) f5) (GLm_lk (Or.inr rfl) f6)) (GLm_gg (GGm_fg f8))
        have gw : GLw p q w wB := GLw.tr (GLw.tr (GLw_gg (GGw_fg g8 hj)) (GLw_lk (Or.inl rfl) k5)) (GLw_lk (Or.inr rfl) k6)
        have em : ∀ k, k = 11 ∨ k = 12 ∨ k = 13 ∨ k = 29 → m8.1 (pq p k) = m4.1 (pq p k) := fun k hk => (f8.1 _ (by
          simp only [List.mem_cons, List.not_mem_nil, or_false]
          intro c
          rcases c with c | c | c | c | c
          · exact pq_ne2 (by omega) (by omega) (by omega) c
          · exact pq_ne2 (by omega) (by omega) (by omega) c
          · exact pq_ne2 (by omega) (by omega) (by omega) c
          · exact pq_ne2 (by omega) (by omega) (by omega) c
          · exact pq_n (by omega) c.symm)).trans (f56.1 _ (by
          simp only [List.mem_cons, List.not_mem_nil, or_false]
          intro c
          rcases c with c | c
          · exact pq_ne2 (by omega) (by omega) (by omega) c
          · exact pq_ne2 (by omega) (by omega) (by omega) c))
        have ew : ∀ K, K = 112 ∨ K = 113 ∨ K = 114 ∨ K = 115 → wB.2.2.1 K = w.2.2.1 K := fun K hK => (g89.2.2.1 K (by simp; omega)).trans (g8.1.2.2.1 K (by simp; omega))
        have scp : SCs p m8 wB := SC_of (LSm_fg (LSm_o lp5 e f6) f8) (LSw_o s5 e k6) (by rw [em 12 (by omega), ew 113 (by omega)]; exact sc.1) (by rw [em 13 (by omega), ew 114 (by omega)]; exact sc.2.1) (by rw [em 11 (by omega), ew 112 (by omega)]; exact sc.2.2.1) (by rw [em 29 (by omega), ew 115 (by omega)]; exact sc.2.2.2.2.1)
        exact c m8 wB (fun s2 => WL_ownL (WL_t wl) hpp (by rw [q9]; omega) (by rw [q9w]; omega) s2 gm gw (fun e => ⟨_, LSm_fg lq6 f8, s6, fun h => absurd h.1 al⟩) pl10 scp ru10) pl10 ru10 gm gw
    · have hin : ((q : Nat) : Int) ∈ Lp := by rw [eL]; simp
      have hl4 := lp1.2.1
      have hl5 : L1.length < Lp.length := by rw [eL]; simp
      rw [show decide (I ((L1.length : Nat) : Int) = -1) = false from by rw [show (-1 : Int32) = I (-1) from rfl, decE (by omega) (by omega) (by omega) (by omega)]; exact decide_eq_false (by omega), br_f]
      refine lnk_ans (q := q) (by omega) f0 ru hW hl hl2 pl g1 h98 cr (fun m8 w8 pl8 ru8 f8 g8 x33 => ?_)
      refine rb_ck (fun _ => ?_)
      rw [tnI (n := q) rfl (by omega), a9 w8 g8, br_f, I_F' x33, dpq, decide_eq_false e, br_f]
      refine rb_bnd (pk_mo (mid w8 g8 x33) (fun w9 r h => ?_))
      obtain ⟨rfl, ⟨rfl, -⟩ | ⟨-, h⟩⟩ := h
      · rw [show decide ((1 : Int32) = 0) = false from rfl, br_f]
        exact fin m8 w9 pl8 ru8 f8 g8
      · exact absurd hin h
end
