/-! patterns: one more of a row, both -/
set_option maxRecDepth 100000
/-- the class's step: s: a word ahead of it -/
def stp (s N : Nat) (S : SF_Cm_listPattern) (m : MS) (x : Int32) (g : MS → Unit → Option (MS × Unit)) : Option (MS × Unit) := if s = 0 then bnd (S.2 m x) g else bnd (jm_Co_put N m 7) (fun u _ => bnd (S.2 u x) g)
/-- levels of two stretches -/
def mrw (q : Nat) (W W2 : Nat → Nat) : Nat → Nat := fun j => if j < q then W j else W2 j
section
variable {β : Type} {m0 w0 m w mS wS m2 w2 m3 w3 : MS} {K nm Nk W W2 : Nat → Nat} {T N n lo lo0 mid hi f s a a0 cm cm0 cm2 b pi pj pn rt j first last p p2 p3 D d xa xb q r : Nat} {sc sc0 sc2 : SCT} {own : Bool} {v1 v5 : Int32} {H : List Nat} {C : Nat → Int} {R : MS → Unit → MS → β → Prop}
theorem nat_ne2 {k : Nat} (hk : k ≤ 100000) : ¬ (I (k : Nat) = (-1 : Int32)) := fun h => by
  have := (I_eq (x := ((k : Nat) : Int)) (y := -1) (by omega) (by omega) (by decide) (by decide)).mp (h.trans (show (-1 : Int32) = I (-1) from rfl))
  omega
theorem HPX_mo (h : HDo Nk K W p p2 sc sc2) (k : HPX nm sc2 H) : HPX nm sc H := by
  cases sc with
  | nil =>
    cases sc2 with
    | nil => exact k
    | cons e t => exact h.elim
  | cons e t =>
    cases sc2 with
    | nil => exact h.elim
    | cons e2 t2 =>
      refine ⟨?_, k.2⟩
      have h1 : e.2.1 <+: e2.2.1 := by rw [h.1]; exact hdc_pre _ _ _
      exact (List.IsPrefix.map nm h1).trans k.1
theorem mrw_tr (h1 : p ≤ p2) (h2 : p2 ≤ p3) (h : HDw own nm Nk K W p p2 sc0 sc) (k : HDw own nm Nk K W2 p2 p3 sc sc2) : HDw own nm Nk K (mrw p2 W W2) p p3 sc0 sc2 := HDw_tr h1 h2 (HDw_w (fun j _ b => if_pos b) h) (HDw_w (fun j a _ => if_neg (by omega)) k)
theorem mrw_wup {g : Nat → Int32} (h1 : p ≤ p2) (h2 : p2 ≤ p3) : wup (wup g K W p p2) K W2 p2 p3 = wup g K (mrw p2 W W2) p p3 := by
  rw [← wup_tr (W := mrw p2 W W2) h1 h2]
  rw [wup_w (W := W) (W2 := mrw p2 W W2) (fun j _ b => if_pos b), wup_w (W := W2) (W2 := mrw p2 W W2) (fun j a _ => if_neg (by omega))]
theorem AGC_sub (h : AGC C m2 a b) (e : ∀ j, j < p → m2.2.2.1 23 j = m.2.2.1 23 j) (h1 : p ≤ b) : AGC C m a p := fun k a1 a2 => by
  rw [h k a1 (by omega)]
  show (m2.2.2.1 23 k).toInt = _
  rw [e k a2]; rfl
/-- one more -/
theorem row_1 {F : MS → Unit → Option (MS × Unit)} {G : MS → Int32 → Option (MS × β)} (IH : HPT N m0 w0 K T nm Nk f) (ra : RWA m0 w0 K T nm Nk f s lo0 own a0 cm0 rt sc0 mS wS j first last m w lo a cm pi sc) (hs : s ≤ 1) (hrt : rt < 5000) (pa : PAcK m0 f n lo mid xa xb q r) (hxb : xb ≤ 8015) (htot : tot sc0 + (mid - lo0) ≤ 4000) (ho : decide (v1 = 0) = !own) (h5 : (j = 0 ∧ v5 = -1) ∨ (1 ≤ j ∧ v5 = I (last : Nat))) (hk : ∀ m2 w2 b cm2 pj sc2 f2 l2, RWA m0 w0 K T nm Nk f s lo0 own a0 cm0 rt sc0 mS wS (j + 1) f2 l2 m2 w2 mid b cm2 pj sc2 → PP R (F m2 ()) (G w2 (I (l2 : Nat)))) : PP R (stp s N (jrc_Cm_listPattern N D) m (I (n : Nat)) F) (bnd ((krc_M_rowPattern N d).2 w v1) (fun u10 r10 => br (decide (v5 = -1)) (ck (inb (I (rt : Nat)) (ln 36)) (lt (upA u10 36 (upd (u10.2.2.1 36) (I (rt : Nat)).toNatClampNeg r10)) (fun w12 => G w12 r10))) (ck (inb v5 (ln 37)) (lt (upA u10 37 (upd (u10.2.2.1 37) v5.toNatClampNeg r10)) (fun w11 => G w11 r10))))) := by
  obtain ⟨r1, r2, r3, r4, ⟨W, r5, r6⟩, r7, r8, r9, r10⟩ := ra
  have hd := PA_bdK _ _ _ _ _ _ _ _ pa
  unfold HDc at hd
  -- behind both
  have main : ∀ (m1 : MS) (a1 : Nat), PCS m0 nm m1 a1 cm sc own → CFP m m1 a (sc.length - 1) → m1.2.2.1 42 = m.2.2.1 42 → a1 = a + s → (s = 1 → A m1 23 a = 7) → PP R (bnd ((jrc_Cm_listPattern N D).2 m1 (I (n : Nat))) F) (bnd ((krc_M_rowPattern N d).2 w v1) (fun u10 r10 => br (decide (v5 = -1)) (ck (inb (I (rt : Nat)) (ln 36)) (lt (upA u10 36 (upd (u10.2.2.1 36) (I (rt : Nat)).toNatClampNeg r10)) (fun w12 => G w12 r10))) (ck (inb v5 (ln 37)) (lt (upA u10 37 (upd (u10.2.2.1 37) v5.toNatClampNeg r10)) (fun w11 => G w11 r10))))) := by
    intro m1 a1 c1 f1 e42 ea1 h7
    refine pp_bb (pp_mo (IH D d n lo mid xa xb q r m1 w a1 cm pi sc own v1 pa hxb c1 r2 (by omega) ho) (fun m2 z w2 rr h => ?_))
    obtain ⟨pn, b, pj, cm2, sc2, W2, e1, e2, e3, e4, e5, e6, e7, e8, e9, e10, e11⟩ := h
    subst e1
    have sl : sc.length = sc0.length := NMX_len r4.1
    have f9 : CFP mS m2 a0 (sc0.length - 1) := by
      rw [← sl]
      exact CFP_tr (by rw [sl]; exact r7) (CFP_tr f1 e9 (by omega)) (by omega)
    have hw42 : m2.2.2.1 42 = wup (mS.2.2.1 42) K (mrw lo W W2) lo0 mid := by rw [e8, e42, r6, mrw_wup r3.1 (by omega)]
    have hHD := mrw_tr r3.1 (show lo ≤ mid by omega) r5 e7
    have rtr : ∀ k, k < 59 → w2.2.2.1 k rt = w.2.2.1 k rt := fun k hk => e10.2.2.1 k rt r3.2.2 hk
    have old : ∀ k q, q < pi → k < 59 → w2.2.2.1 k q = w.2.2.1 k q := fun k q hq hk => e10.2.2.1 k q hq hk
    have m2m : ∀ q, q < a → m2.2.2.1 23 q = m.2.2.1 23 q := fun q hq => (e9.2.2.1 q (by omega)).trans (f1.2.2.1 q hq)
    -- what is made of the row
    have fin : ∀ (w3 : MS) (f2 : Nat), PRd w0 T w3 mid pj sc2 → RFP wS w3 rt → (w3.2.2.1 33 rt = wS.2.2.1 33 rt ∧ w3.2.2.1 38 rt = wS.2.2.1 38 rt ∧ w3.2.2.1 37 rt = wS.2.2.1 37 rt) → w3.2.2.1 36 rt = I (f2 : Nat) → (rt < f2 ∧ f2 < pj) → w3.2.2.1 37 pn = -1 → (∀ C R J H, AGC C m2 a0 b → GRS R w0 → AGP R J w3 (rt + 1) pj pn → HPX nm sc2 H → PTL C R J H f s (j + 1) a0 f2 (Onm nm sc0) b pn (Onm nm sc2)) → PP R (F m2 z) (G w3 (I (pn : Nat))) := fun w3 f2 p1 p2 p3 p4 p4b p5 p6 => hk m2 w3 b cm2 pj sc2 f2 pn ⟨e4, p1, ⟨by omega, by omega, by omega⟩, ⟨NMX_tr r4.1 e6.1, by have := e6.2; have := r4.2; omega⟩, ⟨_, hHD, hw42⟩, f9, p2, p3, Or.inr ⟨by omega, p4, ⟨p4b, by omega, by omega⟩, p5, p6⟩⟩
    have agp : ∀ (R : Nat → Nat → Int) (J : Nat → Int64) (w3 : MS), AGP R J w3 (rt + 1) pj pn → (∀ k q, pi ≤ q → k < 59 → w3.2.2.1 k q = w2.2.2.1 k q) → w3.2.2.2 = w2.2.2.2 → AGP R J w2 pi pj pn := fun R J w3 h hr hj q q1 q2 => by
      obtain ⟨g1, g2, g3, g4, g5, g6⟩ := h q (by omega) q2
      have ee : ∀ k, k < 59 → A w3 k q = A w2 k q := fun k hk => by show (w3.2.2.1 k q).toInt = _; rw [hr k q q1 hk]; rfl
      rw [ee 33 (by decide)] at g1
      rw [ee 35 (by decide)] at g2
      rw [ee 36 (by decide)] at g3
      rw [ee 38 (by decide)] at g4
      rw [hj] at g5
      exact ⟨g1, g2, g3, g4, g5, fun z => by rw [g6 z, ee 37 (by decide)]⟩
    have w7 : ∀ (C : Nat → Int), AGC C m2 a0 b → s = 1 → C a = 7 := fun C h z => by
      rw [h a (by omega) (by omega)]
      show (m2.2.2.1 23 a).toInt = 7
      rw [e9.2.2.1 a (by omega)]
      exact h7 z
    have sub2 : ∀ (C : Nat → Int), AGC C m2 a0 b → AGC C m2 a1 b := fun C h k k1 k2 => h k (by omega) k2
    rcases h5 with ⟨j0, v50⟩ | ⟨j1, v51⟩
    · rw [v50, show decide ((-1 : Int32) = -1) = true from rfl, br_t]
      refine r_ck (fun _ => r_lt ?_)
      rw [i_nt2 (by omega)]
      rcases r10 with ⟨y1, y2, y3, y4, y5⟩ | ⟨y1, -⟩
      · subst y2
        subst y4
        refine fin _ pn (PRS_k e5 (fun _ _ _ _ => rfl) (fun k hk => upA_no (by omega)) e5.2.1.1 e5.2.1.2 e5.2.2.2.2.2.1 e5.2.2.2.2.2.2) (RFP_A (RFP_tr r8 e10 (by omega)) (by decide) (Nat.le_refl _)) ⟨by rw [upA_no (by decide), rtr 33 (by decide)]; exact r9.1, by rw [upA_no (by decide), rtr 38 (by decide)]; exact r9.2.1, by rw [upA_no (by decide), rtr 37 (by decide)]; exact r9.2.2⟩ (by rw [upA_at, upd_at]) ⟨by omega, by omega⟩ (by rw [upA_no (by decide)]; exact e2.2.2) (fun C R J H gc gr gp gh => ?_)
        subst j0
        refine Or.inl ⟨rfl, rfl, w7 C gc, ?_⟩
        rw [← ea1]
        refine e11 C R J H (sub2 C gc) gr (agp R J _ gp (fun k q hq hk => ?_) rfl) gh
        by_cases z : k = 36
        · rw [z, upA_at, upd_no (by omega)]
        · rw [upA_no z]
      · omega
    · rcases r10 with ⟨y1, -⟩ | ⟨y1, y2, y3, y4, y5⟩
      · omega
      · have lb : last < 5000 := by have := r2.2.2.2.2.2.2; omega
        rw [v51, decide_eq_false (nat_ne2 (by omega)), br_f]
        refine r_ck (fun _ => r_lt ?_)
        rw [i_nt2 (by omega)]
        refine fin _ first (PRS_k e5 (fun _ _ _ _ => rfl) (fun k hk => upA_no (by omega)) e5.2.1.1 e5.2.1.2 e5.2.2.2.2.2.1 e5.2.2.2.2.2.2) (RFP_A (RFP_tr r8 e10 (by omega)) (by decide) (by omega)) ⟨by rw [upA_no (by decide), rtr 33 (by decide)]; exact r9.1, by rw [upA_no (by decide), rtr 38 (by decide)]; exact r9.2.1, by rw [upA_at, upd_no (by omega), rtr 37 (by decide)]; exact r9.2.2⟩ (by rw [upA_no (by decide), rtr 36 (by decide)]; exact y2) ⟨y3.1.1, by omega⟩ (by rw [upA_at, upd_no (by omega)]; exact e2.2.2) (fun C R J H gc gr gp gh => ?_)
        refine Or.inr ⟨j1, a, last, Onm nm sc, y5 C R J H (AGC_sub gc m2m (by omega)) gr (fun q q1 q2 => ?_) (HPX_mo e7.1 gh), ?_, w7 C gc, ?_⟩
        · obtain ⟨g1, g2, g3, g4, g5, g6⟩ := gp q q1 (by omega)
          have ee : ∀ k, k < 59 → k ≠ 37 → A (upA w2 37 (upd (w2.2.2.1 37) last (I (pn : Nat)))) k q = A w k q := fun k hk h37 => by
            show ((upA w2 37 _).2.2.1 k q).toInt = _
            rw [upA_no h37, old k q q2 hk]; rfl
          rw [ee 33 (by decide) (by decide)] at g1
          rw [ee 35 (by decide) (by decide)] at g2
          rw [ee 36 (by decide) (by decide)] at g3
          rw [ee 38 (by decide) (by decide)] at g4
          refine ⟨g1, g2, g3, g4, g5.trans (e10.2.2.2 34 q (Or.inl q2)), fun z => ?_⟩
          rw [g6 (by omega)]
          show ((upA w2 37 _).2.2.1 37 q).toInt = _
          rw [upA_at, upd_no z, old 37 q q2 (by decide)]; rfl
        · rw [(gp last (by omega) (by omega)).2.2.2.2.2 (by omega)]
          show ((upA w2 37 _).2.2.1 37 last).toInt = _
          rw [upA_at, upd_at]
          have := e5.2.2.2.2.2.2
          exact I_ti (by omega) (by omega)
        · rw [← ea1]
          refine e11 C R J H (sub2 C gc) gr (agp R J _ gp (fun k q hq hk => ?_) rfl) gh
          by_cases z : k = 37
          · rw [z, upA_at, upd_no (by omega)]
          · rw [upA_no z]
  unfold stp
  by_cases z : s = 0
  · rw [if_pos z]
    exact main m a r1 CFP_rf rfl (by omega) (fun y => by omega)
  · rw [if_neg z]
    refine l_put r1.2.2.1.1 r1.2.2.1.2.2 (fun ha => ?_)
    exact main _ (a + 1) (PCS_put r1 ha) (CFP_put CFP_rf (Nat.le_refl _)) (ptc_r (by decide)) (by omega) (fun _ => by rw [ptc_x]; rfl)
end
