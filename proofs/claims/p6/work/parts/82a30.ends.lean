section
variable {Fv : Int64 → Int64 → Prop} {P : Int64 → Prop} {u w w2 : MS} {PR N : Nat}
def RLo (u w : MS) : Prop := ∀ i, A w 132 i = A u 132 i ∨ (0 ≤ A w 132 i ∧ A w 132 i ≤ 100)
theorem RLo.rf : RLo u u := fun _ => Or.inl rfl
theorem RLo.tr {v : MS} (a : RLo u v) (b : RLo v w) : RLo u w := fun i => by
  rcases b i with h | h
  · rw [h]; exact a i
  · exact Or.inr h
theorem ESI_fr {is ls as js : List Nat} (s : ESI Fv P PR w) (f : FR is ls as js w w2) (i1 : 118 ∉ is) (i2 : 140 ∉ is) (i3 : 149 ∉ is) (i4 : 150 ∉ is) (i5 : 125 ∉ is) (a1 : 89 ∉ as) (a2 : 92 ∉ as) (a3 : 94 ∉ as) (a4 : 108 ∉ as) (a5 : 109 ∉ as) (a6 : 145 ∉ as) (a7 : 146 ∉ as) (a8 : 147 ∉ as) (a9 : 116 ∉ as) (a10 : 117 ∉ as) (a11 : 123 ∉ as) (a12 : 124 ∉ as) (j1 : 88 ∉ js) (j2 : 91 ∉ js) (j3 : 93 ∉ js) (j4 : 107 ∉ js) (j5 : 148 ∉ js) : ESI Fv P PR w2 :=
  ⟨DW_fr s.1 f i1 i2 i3 i4 a1 a2 a3 a4 a5 a6 a7 a8 j1 j2 j3 j4 j5, LK_fr s.2.1 f a9 a10, WT_fr s.2.2 f i5 a11 a12⟩
def EVX (u w : MS) : Prop := FR [125, 136, 138, 140, 144, 150] [139] [89, 90, 108, 109, 113, 116, 117, 122, 123, 124, 131, 132, 135, 142, 143, 145, 146, 147] [88, 91, 93, 107, 134, 137, 141, 148] u w ∧ (∀ p, A w 109 p = A u 109 p ∨ A w 109 p = 3) ∧ RLo u w
theorem EVX.rf : EVX u u := ⟨FR.rf, fun _ => Or.inl rfl, RLo.rf⟩
theorem EVX.tr {v : MS} (a : EVX u v) (b : EVX v w) : EVX u w := ⟨FR.tr a.1 b.1, fun p => by
  rcases b.2.1 p with h | h
  · rw [h]; exact a.2.1 p
  · exact Or.inr h, RLo.tr a.2.2 b.2.2⟩
theorem EVE.evx (a : EVE u w) : EVX u w := ⟨FR.mo a.1 (by decide) (by decide) (by decide) (by decide), a.2, fun i => Or.inl (FR.A a.1 (by decide))⟩
theorem EVX.fr {is ls as js : List Nat} (f : FR is ls as js u w) (h1 : ∀ k, k ∈ is → k ∈ [125, 136, 138, 140, 144, 150]) (h2 : ∀ k, k ∈ ls → k ∈ [139]) (h3 : ∀ k, k ∈ as → k ∈ [89, 90, 108, 109, 113, 116, 117, 122, 123, 124, 131, 132, 135, 142, 143, 145, 146, 147]) (h4 : ∀ k, k ∈ js → k ∈ [88, 91, 93, 107, 134, 137, 141, 148]) (h5 : 109 ∉ as) (h6 : 132 ∉ as) : EVX u w := ⟨FR.mo f h1 h2 h3 h4, fun p => Or.inl (FR.A f h5), fun i => Or.inl (FR.A f h6)⟩
def EPX (Fv : Int64 → Int64 → Prop) (P : Int64 → Prop) (PR : Nat) (u w : MS) : Prop := ESI Fv P PR w ∧ EVX u w ∧ KEEP u w PR
theorem e129r (p : Nat) {wr : Int} {o : Nat} {t : Int64} (hp1 : p < PR) (hPB : PB P PR) (hw : 0 ≤ wr ∧ wr ≤ 2) (ho : o ≤ 24) (hN : 60000 ≤ N) (m : Nat) (w : MS) (hs : ESI Fv P PR w) (te : TE Fv P w PR o t) (hm : 700 < m) : OK (fun w2 _ => EPO Fv P PR w w2) ((gg_M_end N m).2.1 w (I p) (I wr) (I o) t) :=
  e129 p hp1 hPB hw ho hN m w hs te (by have := (hs.2.1.1 p hp1).2.1; omega)
theorem e86 (p : Nat) {wr : Int} {o L : Nat} {t : Int64} (hp1 : p < PR) (hPB : PB P PR) (hw : 0 ≤ wr ∧ wr ≤ 2) (ho : o ≤ 24) (hN : 60000 ≤ N) (hL : L ≤ 100) : ∀ (m k : Nat) (w : MS), ESI Fv P PR w → TE Fv P w PR o t → A w 132 p = L → k ≤ L → (L - k) + 800 < m → OK (fun w2 _ => EPX Fv P PR w w2) ((gg_M_end N m).1 w (I p) (I wr) (I o) t (I k)) := by
  intro m
  induction m with
  | zero => intro k w _ _ _ _ z; exact absurd z (Nat.not_lt_zero _)
  | succ m ih =>
    intro k w hs te hA hk hm
    have pr := hs.1.1.2
    show OK _ (fb_M_end_86 N (gg_M_end N m) w (I p) (I wr) (I o) t (I k))
    unfold fb_M_end_86
    rw [inb_at (k := 132) (n := 24) rfl (by omega) (by omega) (by decide), ck_t, I_tn (x := (p : Int)) (by omega) (by omega), Int.toNat_natCast, I_A' hA, decI (by omega) (by omega) (by omega) (by omega)]
    by_cases e : L ≤ k
    · rw [decide_eq_true (by omega), br_tq, inb_at (k := 113) (n := 24) rfl (by omega) (by omega) (by decide), ck_t, lt_e, litm1q, wa_e]
      have f1 : FR [] [] [113] [] w (wa w 113 p (-1)) := FR.wa FR.rf (by decide)
      have hs1 : ESI Fv P PR (wa w 113 p (-1)) := ESI_fr hs f1 (by decide) (by decide) (by decide) (by decide) (by decide) (by decide) (by decide) (by decide) (by decide) (by decide) (by decide) (by decide) (by decide) (by decide) (by decide) (by decide) (by decide) (by decide) (by decide) (by decide) (by decide) (by decide)
      have k1 : KEEP w (wa w 113 p (-1)) PR := KEEP.fr f1 (by decide) (by decide) (by decide)
      exact ok_mono (e129r p hp1 hPB hw ho hN m _ hs1 (TE_keep k1 te) (by omega)) (fun w2 _ h => ⟨h.1, EVX.tr (EVX.fr f1 (by decide) (by decide) (by decide) (by decide) (by decide) (by decide)) h.2.1.evx, KEEP.tr k1 h.2.2⟩)
    · rw [decide_eq_false (by omega), br_fq, inb_at (k := 143) (n := 100) rfl (by omega) (by omega) (by decide), ck_t, lit100, I_mul, I_add, inb_at (k := 131) (n := 2400) rfl (by omega) (by omega) (by decide), ck_t, lt_e, I_tn (by omega) (by omega), I_tn (by omega) (by omega)]
      generalize vp_nar .byte (w.2.2.1 143 (k : Int).toNat) = b
      rw [I_of b, wa_e, lit1q, I_add]
      generalize hv : wa w 131 (100 * (p : Int) + (k : Int)).toNat b.toInt = v
      have f1 : FR [] [] [131] [] w v := by rw [← hv]; exact FR.wa FR.rf (by decide)
      have hs1 : ESI Fv P PR v := ESI_fr hs f1 (by decide) (by decide) (by decide) (by decide) (by decide) (by decide) (by decide) (by decide) (by decide) (by decide) (by decide) (by decide) (by decide) (by decide) (by decide) (by decide) (by decide) (by decide) (by decide) (by decide) (by decide) (by decide)
      have k1 : KEEP w v PR := KEEP.fr f1 (by decide) (by decide) (by decide)
      exact ok_mono (ih (k + 1) v hs1 (TE_keep k1 te) (by rw [FR.A f1 (by decide)]; exact hA) (by omega) (by omega)) (fun w2 _ h => ⟨h.1, EVX.tr (EVX.fr f1 (by decide) (by decide) (by decide) (by decide) (by decide) (by decide)) h.2.1, KEEP.tr k1 h.2.2⟩)
theorem writeTE {B : Int} (hB : 6000 ≤ B ∧ B ≤ 90000) {o : Nat} {t : Int64} (te : TE Fv P w PR o t) (ho : o ≤ 24) (hat : ATM w) (hP : ∀ t, P t → PA w t) (hS : PS P) (h1 : 0 ≤ F w 144) (h2 : F w 144 ≤ B) (hN : 11000000 ≤ N) : OK (fun w2 _ => FR [144] [] [143] [141] w w2 ∧ 0 ≤ F w2 144 ∧ F w2 144 ≤ B) (fm_M_writeOn N w (I o) t) := by
  rcases te with ⟨a, b⟩ | ⟨-, -, n, ow, kd, c1, c2, c3, c4⟩
  · exact writeOn_ok (Fv := Fv) (n := 0) hB (show o < 25 by omega) (by omega) HP_none hat hP hS (Or.inl ⟨a, b⟩) h1 h2 hN
  · exact writeOn_ok hB (show o < 25 by omega) c2 c3 hat hP hS c4 h1 h2 hN
def TF (w w2 : MS) : Prop := FR [144] [] [143] [141] w w2 ∧ 0 ≤ F w2 144 ∧ F w2 144 ≤ 40000
theorem e59 (p : Nat) {wr : Int} {o : Nat} {t : Int64} (hp1 : p < PR) (hPB : PB P PR) (hw : 0 ≤ wr ∧ wr ≤ 2) (ho : o ≤ 24) (hN : 11000000 ≤ N) (hs : ESI Fv P PR w) (te : TE Fv P w PR o t) (h1 : 0 ≤ F w 144) : OK (fun w2 _ => EPX Fv P PR w w2) (fb_M_end_59 N (gg_M_end N N) w (I p) (I wr) (I o) t) := by
  have pr := hs.1.1.2
  have hr := F_r w 144
  have go : ∀ x : Int, 0 ≤ x → x ≤ 100 → OK (fun w2 _ => EPX Fv P PR w w2) (fb_M_end_82 N (gg_M_end N N) w (I p) (I wr) (I o) t 132 (I p) (I x)) := by
    intro x x0 x1
    unfold fb_M_end_82
    rw [show isK 132 4 = true from by decide, ck_t, inb_at (k := 132) (n := 24) rfl (by omega) (by omega) (by decide), ck_t, lt_e, I_tn (by omega) (by omega), Int.toNat_natCast, wa_e, lit0q]
    have f1 : FR [] [] [132] [] w (wa w 132 p x) := FR.wa FR.rf (by decide)
    have hs1 : ESI Fv P PR (wa w 132 p x) := ESI_fr hs f1 (by decide) (by decide) (by decide) (by decide) (by decide) (by decide) (by decide) (by decide) (by decide) (by decide) (by decide) (by decide) (by decide) (by decide) (by decide) (by decide) (by decide) (by decide) (by decide) (by decide) (by decide) (by decide)
    have k1 : KEEP w (wa w 132 p x) PR := KEEP.fr f1 (by decide) (by decide) (by decide)
    exact ok_mono (e86 p (L := x.toNat) hp1 hPB hw ho (by omega) (by omega) N 0 _ hs1 (TE_keep k1 te) (by rw [A_eq (by omega) (by omega), if_pos rfl]; omega) (Nat.zero_le _) (by omega)) (fun w2 _ h => ⟨h.1, EVX.tr ⟨FR.mo f1 (by decide) (by decide) (by decide) (by decide), fun p => Or.inl (FR.A f1 (by decide)), fun i => by
      rw [A_eq (by omega) (by omega)]
      split
      · exact Or.inr ⟨x0, x1⟩
      · exact Or.inl rfl⟩ h.2.1, KEEP.tr k1 h.2.2⟩)
  unfold fb_M_end_59
  rw [I_F, lit100, decI (by omega) (by omega) (by omega) (by omega)]
  by_cases e : F w 144 ≤ 100
  · rw [decide_eq_true e, br_tq]; exact go _ h1 e
  · rw [decide_eq_false e, br_fq]; exact go 100 (by omega) (by omega)
theorem end_ok (p : Nat) {wr : Int} {o : Nat} {t : Int64} (hp1 : p < PR) (hPB : PB P PR) (hw : 0 ≤ wr ∧ wr ≤ 2) (ho : o ≤ 24) (hN : 11000000 ≤ N) (hs : ESI Fv P PR w) (te : TE Fv P w PR o t) (hat : ATM w) (hP : ∀ t, P t → PA w t) (hS : PS P) : OK (fun w2 _ => EPX Fv P PR w w2) (fm_M_end N w (I p) (I wr) (I o) t) := by
  have pr := hs.1.1.2
  have base : ∀ v, FR [144] [] [143] [141] w v → ESI Fv P PR v ∧ TE Fv P v PR o t ∧ ATM v ∧ (∀ t, P t → PA v t) ∧ KEEP w v PR ∧ EVX w v := fun v f => by
    have k := KEEP.fr (PR := PR) f (by decide) (by decide) (by decide)
    exact ⟨ESI_fr hs f (by decide) (by decide) (by decide) (by decide) (by decide) (by decide) (by decide) (by decide) (by decide) (by decide) (by decide) (by decide) (by decide) (by decide) (by decide) (by decide) (by decide) (by decide) (by decide) (by decide) (by decide) (by decide), TE_keep k te, ATM_fr hat f (by decide) (by decide), PA_fr hP f (by decide), k, EVX.fr f (by decide) (by decide) (by decide) (by decide) (by decide) (by decide)⟩
  have fin : ∀ v, FR [144] [] [143] [141] w v → 0 ≤ F v 144 → OK (fun w2 _ => EPX Fv P PR w w2) (fb_M_end_59 N (gg_M_end N N) v (I p) (I wr) (I o) t) := fun v f h => by
    obtain ⟨b1, b2, -, -, b5, b6⟩ := base v f
    exact ok_mono (e59 p hp1 hPB hw ho hN b1 b2 h) (fun w2 _ q => ⟨q.1, EVX.tr b6 q.2.1, KEEP.tr b5 q.2.2⟩)
  have e42 : ∀ v, FR [144] [] [143] [141] w v → 0 ≤ F v 144 → F v 144 ≤ 30000 → OK (fun w2 _ => EPX Fv P PR w w2) (fb_M_end_42 N (gg_M_end N N) v (I p) (I wr) (I o) t) := fun v f h1 h2 => by
    obtain ⟨b1, b2, b3, b4, b5, b6⟩ := base v f
    unfold fb_M_end_42
    refine ok_bnd.mpr (ok_mono (writeTE (B := 30000) (by omega) b2 ho b3 b4 hS h1 h2 hN) (fun v2 _ q => ?_))
    obtain ⟨q1, q2, q3⟩ := q
    refine ok_br.mpr ⟨fun _ => fin v2 (FR.tr f q1) q2, fun _ => ok_bnd.mpr (ok_mono (sign_ok q2 (by omega)) (fun v3 _ r => ?_))⟩
    exact fin v3 (FR.tr (FR.tr f q1) (FR.mo r.1.1 (by decide) (by decide) (by decide) (by decide))) (by have := r.2; omega)
  have e30 : ∀ v (x : Int), FR [144] [] [143] [141] w v → 0 ≤ F v 144 → F v 144 ≤ 6000 → 0 ≤ x → x < 22 → OK (fun w2 _ => EPX Fv P PR w w2) (fb_M_end_30 N (gg_M_end N N) v (I p) (I wr) (I o) t (I p) 1 (I x)) := fun v x f h1 h2 x0 x1 => by
    obtain ⟨b1, b2, b3, b4, b5, b6⟩ := base v f
    unfold fb_M_end_30
    rw [lit1q, term_e, bnd_so]
    refine ok_bnd.mpr (ok_mono (writeOn_ok (B := 6000) (Fv := Fv) (n := 0) (by omega) (show p < 25 by omega) (by omega) HP_none b3 b4 hS (Or.inl ⟨nh_mk (by omega), hPB.1 x x0 x1⟩) h1 h2 hN) (fun v2 _ q => ?_))
    obtain ⟨q1, q2, q3⟩ := q
    refine ok_bnd.mpr (ok_mono (sign_ok q2 (by omega)) (fun v3 _ r => ?_))
    exact e42 v3 (FR.tr (FR.tr f q1) (FR.mo r.1.1 (by decide) (by decide) (by decide) (by decide))) (by have := r.2; omega) (by have := r.2; omega)
  unfold fm_M_end fb_M_end_0
  rw [lit0q, lt_e, wi_e, decI (by omega) (by omega) (by omega) (by omega)]
  have f0 : FR [144] [] [143] [141] w (wi w 144 0) := FR.wi FR.rf (by decide)
  have z0 : F (wi w 144 0) 144 = 0 := by rw [F_wi (by omega) (by omega), if_pos rfl]
  by_cases e : wr ≤ 0
  · rw [decide_eq_true e, br_tq]
    exact e42 _ f0 (by omega) (by omega)
  · rw [decide_eq_false e, br_fq]
    refine ok_bnd.mpr (ok_mono (sign_ok (by omega) (by omega)) (fun v _ r => ?_))
    have fv : FR [144] [] [143] [141] w v := FR.tr f0 (FR.mo r.1.1 (by decide) (by decide) (by decide) (by decide))
    have := r.2
    exact ok_br.mpr ⟨fun _ => e30 v 7 fv (by omega) (by omega) (by omega) (by omega), fun _ => e30 v 19 fv (by omega) (by omega) (by omega) (by omega)⟩
theorem ae_loop (hPB : PB P PR) (hS : PS P) (hN : 11000000 ≤ N) : ∀ (m : Nat) (w : MS), ESI Fv P PR w → ATM w → (∀ t, P t → PA w t) → 24 - (F w 149).toNat < m → OK (fun w2 _ => ESI Fv P PR w2 ∧ FR [125, 136, 138, 140, 144, 149, 150] [139] [89, 90, 108, 109, 113, 116, 117, 122, 123, 124, 131, 132, 135, 142, 143, 145, 146, 147] [88, 91, 93, 107, 134, 137, 141, 148] w w2 ∧ (∀ p, A w2 109 p = A w 109 p ∨ A w2 109 p = 3) ∧ RLo w w2 ∧ F w2 149 = 0 ∧ F w2 150 = 0) (gg_M_allEnds N m w) := by
  intro m
  induction m with
  | zero => intro w _ _ _ z; exact absurd z (Nat.not_lt_zero _)
  | succ m ih =>
    intro w hs hat hP hm
    have pr := hs.1.1.2
    have d := hs.1
    obtain ⟨⟨d1, d1'⟩, d2, d3, d4, ⟨eF, eM, e1, e2, e3, e4, e5⟩, d6⟩ := id d
    have hc := cE_le w PR
    show OK _ (fb_M_allEnds_0 N (gg_M_allEnds N m) w)
    unfold fb_M_allEnds_0
    rw [I_F' e1, I_F' e2, decI (by omega) (by omega) (by omega) (by omega)]
    by_cases e : eM ≤ eF
    · rw [decide_eq_true (by omega), br_tq, lt_e, lit0q, wi_e, lt_e, wi_e]
      have f0 : FR [149, 150] [] [] [] w (wi (wi w 149 0) 150 0) := FR.wi (FR.wi FR.rf (by decide)) (by decide)
      have a1 : F (wi (wi w 149 0) 150 0) 149 = 0 := by rw [F_wi (by omega) (by omega), if_neg (by decide), F_wi (by omega) (by omega), if_pos rfl]
      have a2 : F (wi (wi w 149 0) 150 0) 150 = 0 := by rw [F_wi (by omega) (by omega), if_pos rfl]
      refine ok_some.mpr ⟨⟨?_, LK_fr hs.2.1 f0 (by decide) (by decide), WT_fr hs.2.2 f0 (by decide) (by decide) (by decide)⟩, FR.mo f0 (by decide) (by decide) (by decide) (by decide), fun p => Or.inl (FR.A f0 (by decide)), fun i => Or.inl (FR.A f0 (by decide)), a1, a2⟩
      have hpz : ∀ x, hp (wi (wi w 149 0) 150 0) x = hp w x := fun x => rfl
      refine ⟨⟨by rw [FR.F f0 (by decide)]; exact d1, d1'⟩, fun p hp1 => PRC_same (d2 p hp1) (FR.A f0 (by decide)) (hpz p) (FR.A f0 (by decide)) (FR.A f0 (by decide)) (FR.A f0 (by decide)) (fun _ _ => rfl) (fun _ _ => rfl) (fun _ _ => rfl) (by rw [FR.F f0 (by decide), d4]; omega), d3, by rw [FR.F f0 (by decide)]; exact d4, ⟨0, 0, a1, a2, Nat.le_refl _, Nat.zero_le _, fun i h1 h2 => absurd h2 (Nat.not_lt_zero _)⟩, fun p hp1 => by rw [FR.A f0 (by decide)]; exact d6 p hp1⟩
    · obtain ⟨q1, q2, q3, q4⟩ := e5 eF (Nat.le_refl _) (by omega)
      rw [decide_eq_false (by omega), br_fq, lt_e, lit1q, I_add, wi_e, inb_at (k := 145) (n := 4000) rfl (by omega) (by omega) (by decide), ck_t, inb_at (k := 146) (n := 4000) rfl (by omega) (by omega) (by decide), ck_t, inb_at (k := 147) (n := 4000) rfl (by omega) (by omega) (by decide), ck_t, inb_at (k := 148) (n := 4000) rfl (by omega) (by omega) (by decide), ck_t, I_tn (by omega) (by omega), Int.toNat_natCast]
      have f0 : FR [149] [] [] [] w (wi w 149 ((eF : Int) + 1)) := FR.wi FR.rf (by decide)
      have a1 : F (wi w 149 ((eF : Int) + 1)) 149 = (eF : Int) + 1 := by rw [F_wi (by omega) (by omega), if_pos rfl]
      have k0 : KEEP w (wi w 149 ((eF : Int) + 1)) PR := KEEP.fr f0 (by decide) (by decide) (by decide)
      have dv : DW Fv P PR (wi w 149 ((eF : Int) + 1)) := by
        refine ⟨⟨by rw [FR.F f0 (by decide)]; exact d1, d1'⟩, fun p hp1 => PRC_same (d2 p hp1) rfl rfl rfl rfl rfl (fun _ _ => rfl) (fun _ _ => rfl) (fun _ _ => rfl) (by rw [FR.F f0 (by decide), d4]; omega), d3, by rw [FR.F f0 (by decide)]; exact d4, ⟨eF + 1, eM, by rw [a1]; omega, by rw [FR.F f0 (by decide)]; exact e2, by omega, by rw [cE_eq (w := w) (w2 := wi w 149 ((eF : Int) + 1)) PR (fun _ _ => rfl)]; exact e4, fun i h1 h2 => ?_⟩, d6⟩
        obtain ⟨r1, r2, r3, r4⟩ := e5 i (by omega) h2
        exact ⟨r1, r2, r3, TE_keep k0 r4⟩
      have hs1 : ESI Fv P PR (wi w 149 ((eF : Int) + 1)) := ⟨dv, LK_fr hs.2.1 f0 (by decide) (by decide), WT_fr hs.2.2 f0 (by decide) (by decide) (by decide)⟩
      have r1 : (wi w 149 ((eF : Int) + 1)).2.2.1 145 eF = I (((A w 145 eF).toNat : Nat) : Int) := I_A' (show A w 145 eF = _ by omega)
      have r2 : (wi w 149 ((eF : Int) + 1)).2.2.1 146 eF = I (A w 146 eF) := I_A
      have r3 : (wi w 149 ((eF : Int) + 1)).2.2.1 147 eF = I (((A w 147 eF).toNat : Nat) : Int) := I_A' (show A w 147 eF = _ by omega)
      rw [r1, r2, r3]
      have te : TE Fv P (wi w 149 ((eF : Int) + 1)) PR (A w 147 eF).toNat ((wi w 149 ((eF : Int) + 1)).2.2.2 148 eF) := TE_keep k0 q4
      refine ok_bnd.mpr (ok_mono (end_ok (A w 145 eF).toNat (by omega) hPB q2 (by omega) hN hs1 te (ATM_fr hat f0 (by decide) (by decide)) (PA_fr hP f0 (by decide)) hS) (fun v _ hv => ?_))
      obtain ⟨v1, ⟨v2, v3, v4⟩, -⟩ := hv
      have f149 : F v 149 = (eF : Int) + 1 := by rw [FR.F v2 (by decide)]; exact a1
      have fv : FR [125, 136, 138, 140, 144, 149, 150] [139] [89, 90, 108, 109, 113, 116, 117, 122, 123, 124, 131, 132, 135, 142, 143, 145, 146, 147] [88, 91, 93, 107, 134, 137, 141, 148] w v := FR.tr (FR.mo f0 (by decide) (by decide) (by decide) (by decide)) (FR.mo v2 (by decide) (by decide) (by decide) (by decide))
      refine ok_mono (ih v v1 (ATM_fr hat fv (by decide) (by decide)) (PA_fr hP fv (by decide)) (by omega)) (fun w2 _ h => ?_)
      obtain ⟨h1, h2, h3, h4, h5⟩ := h
      refine ⟨h1, FR.tr fv h2, fun p => ?_, RLo.tr (fun i => v4 i) h4, h5⟩
      rcases h3 p with z | z
      · rw [z]; exact v3 p
      · exact Or.inr z
theorem allEnds_ok (hPB : PB P PR) (hS : PS P) (hN : 11000000 ≤ N) (hs : ESI Fv P PR w) (hat : ATM w) (hP : ∀ t, P t → PA w t) : OK (fun w2 _ => ESI Fv P PR w2 ∧ FR [125, 136, 138, 140, 144, 149, 150] [139] [89, 90, 108, 109, 113, 116, 117, 122, 123, 124, 131, 132, 135, 142, 143, 145, 146, 147] [88, 91, 93, 107, 134, 137, 141, 148] w w2 ∧ (∀ p, A w2 109 p = A w 109 p ∨ A w2 109 p = 3) ∧ RLo w w2 ∧ F w2 149 = 0 ∧ F w2 150 = 0) (fm_M_allEnds N w) := by
  have : fm_M_allEnds N w = gg_M_allEnds N (N + 1) w := rfl
  rw [this]
  exact ae_loop hPB hS hN (N + 1) w hs hat hP (by omega)
end
