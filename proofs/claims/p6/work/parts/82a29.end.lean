section
variable {Fv : Int64 → Int64 → Prop} {P : Int64 → Prop} {u w w2 : MS} {PR N : Nat}
theorem DW_fr {is ls as js : List Nat} (d : DW Fv P PR w) (f : FR is ls as js w w2) (i1 : 118 ∉ is) (i2 : 140 ∉ is) (i3 : 149 ∉ is) (i4 : 150 ∉ is) (a1 : 89 ∉ as) (a2 : 92 ∉ as) (a3 : 94 ∉ as) (a4 : 108 ∉ as) (a5 : 109 ∉ as) (a6 : 145 ∉ as) (a7 : 146 ∉ as) (a8 : 147 ∉ as) (j1 : 88 ∉ js) (j2 : 91 ∉ js) (j3 : 93 ∉ js) (j4 : 107 ∉ js) (j5 : 148 ∉ js) : DW Fv P PR w2 := by
  obtain ⟨⟨d1, d1'⟩, d2, ⟨n4, ow4, kd4, d3a, d3b, d3c⟩, d4, ⟨eF, eM, e1, e2, e3, e4, e5⟩, d6⟩ := d
  have hpz : ∀ x, hp w2 x = hp w x := fun x => by unfold hp; rw [f.2.2.2 88 j1]
  refine ⟨⟨by rw [FR.F f i1]; exact d1, d1'⟩, fun p hp1 => PRC_same (d2 p hp1) (FR.A f a1) (hpz p) (FR.A f a2) (FR.A f a3) (FR.A f a4) (fun i _ => by rw [f.2.2.2 91 j2]) (fun i _ => by rw [f.2.2.2 93 j3]) (fun i _ => by rw [f.2.2.2 107 j4]) (by rw [FR.F f i2, d4]; omega), ⟨n4, ow4, kd4, by rw [FR.A f a1]; exact d3a, d3b, by rw [hpz]; exact d3c⟩, by rw [FR.F f i2]; exact d4, ⟨eF, eM, by rw [FR.F f i3]; exact e1, by rw [FR.F f i4]; exact e2, e3, by rw [cE_eq PR (fun p _ => FR.A f a5)]; exact e4, fun i h1 h2 => ?_⟩, fun p hp1 => by rw [FR.A f a5]; exact d6 p hp1⟩
  obtain ⟨q1, q2, q3, q4⟩ := e5 i h1 h2
  rw [FR.A f a6, FR.A f a7, FR.A f a8, f.2.2.2 148 j5]
  exact ⟨q1, q2, q3, TE_keep (KEEP.fr f a1 a5 j1) q4⟩
theorem inL_same {x y : Nat} (h : LKR w PR x) (e1 : A w2 117 x = A w 117 x) (e2 : ∀ k, k < 24 → A w2 116 (24 * x + k) = A w 116 (24 * x + k)) : inL w2 x y ↔ inL w x y := by
  have h2 := h.2.1
  constructor
  · rintro ⟨k, k1, k2⟩
    rw [e1] at k1
    exact ⟨k, k1, by rw [← e2 k (by omega)]; exact k2⟩
  · rintro ⟨k, k1, k2⟩
    exact ⟨k, by rw [e1]; exact k1, by rw [e2 k (by omega)]; exact k2⟩
theorem LKR_same {x : Nat} (h : LKR w PR x) (e1 : A w2 117 x = A w 117 x) (e2 : ∀ k, k < 24 → A w2 116 (24 * x + k) = A w 116 (24 * x + k)) : LKR w2 PR x := by
  obtain ⟨h1, h2, h3, h4⟩ := h
  refine ⟨by rw [e1]; exact h1, by rw [e1]; exact h2, fun k hk => ?_, fun k j hk hj e => ?_⟩
  · rw [e1] at hk; rw [e2 k (by omega)]; exact h3 k hk
  · rw [e1] at hk hj; rw [e2 k (by omega), e2 j (by omega)] at e; exact h4 k j hk hj e
theorem LK_fr {is ls as js : List Nat} (l : LK w PR) (f : FR is ls as js w w2) (a1 : 116 ∉ as) (a2 : 117 ∉ as) : LK w2 PR := by
  refine ⟨fun p hp1 => LKR_same (l.1 p hp1) (FR.A f a2) (fun _ _ => FR.A f a1), fun p q hp1 hq h => ?_⟩
  have h' := (inL_same (l.1 p hp1) (FR.A f a2) (fun _ _ => FR.A f a1)).mp h
  exact (inL_same (l.1 q hq) (FR.A f a2) (fun _ _ => FR.A f a1)).mpr (l.2 p q hp1 hq h')
theorem WT_fr {is ls as js : List Nat} (l : WTQ w PR) (f : FR is ls as js w w2) (i1 : 125 ∉ is) (a1 : 123 ∉ as) (a2 : 124 ∉ as) : WTQ w2 PR := by
  obtain ⟨h1, h2, h3⟩ := l
  refine ⟨by rw [FR.F f i1]; exact h1, by rw [FR.F f i1]; exact h2, fun i hi => ?_⟩
  rw [FR.F f i1] at hi
  rw [FR.A f a1, FR.A f a2]
  exact h3 i hi
theorem ATM_fr {is ls as js : List Nat} (l : ATM w) (f : FR is ls as js w w2) (i1 : 14 ∉ is) (a1 : 13 ∉ as) : ATM w2 := by
  obtain ⟨h1, h2, h3⟩ := l
  refine ⟨by rw [FR.F f i1]; exact h1, by rw [FR.F f i1]; exact h2, fun k hk => ?_⟩
  rw [FR.F f i1] at hk
  rw [FR.A f a1, FR.A f a1]
  exact h3 k hk
theorem PA_fr {is ls as js : List Nat} (l : ∀ t, P t → PA w t) (f : FR is ls as js w w2) (i1 : 14 ∉ is) : ∀ t, P t → PA w2 t := fun t h => by unfold PA; rw [FR.F f i1]; exact l t h
theorem LK_two {v : MS} {p q : Nat} (pr : PR ≤ 24) (hp1 : p < PR) (hq : q < PR) (hne : p ≠ q) (l : LK w PR) (a : RML w p q v) (ka : LKR v PR p) (b : RML v q p w2) (kb : LKR w2 PR q) : LK w2 PR := by
  obtain ⟨a1, a2, a3, a4, a5, a6, a7⟩ := a
  obtain ⟨b1, b2, b3, b4, b5, b6, b7⟩ := b
  have rq : ∀ k, k < 24 → A v 116 (24 * q + k) = A w 116 (24 * q + k) := fun k hk => a3 _ (by omega)
  have rp : ∀ k, k < 24 → A w2 116 (24 * p + k) = A v 116 (24 * p + k) := fun k hk => b3 _ (by omega)
  have eP : ∀ y, inL w2 p y ↔ inL v p y := fun y => inL_same ka (b2 p hne) rp
  have eQ : ∀ y, inL v q y ↔ inL w q y := fun y => inL_same (l.1 q hq) (a2 q (Ne.symm hne)) rq
  have eX : ∀ x y, x < PR → x ≠ p → x ≠ q → (inL w2 x y ↔ inL w x y) := fun x y hx h1 h2 => inL_same (l.1 x hx) ((b2 x h2).trans (a2 x h1)) (fun k hk => (b3 _ (by omega)).trans (a3 _ (by omega)))
  have row : ∀ x, x < PR → LKR w2 PR x := fun x hx => by
    by_cases h1 : x = q
    · rw [h1]; exact kb
    · by_cases h2 : x = p
      · rw [h2]; exact LKR_same ka (b2 p hne) rp
      · exact LKR_same (l.1 x hx) ((b2 x h1).trans (a2 x h2)) (fun k hk => (b3 _ (by omega)).trans (a3 _ (by omega)))
  have old : ∀ x y, x < PR → y < PR → (inL w2 x y ↔ (inL w x y ∧ ¬ (x = p ∧ y = q) ∧ ¬ (x = q ∧ y = p))) := fun x y hx hy => by
    by_cases h1 : x = p
    · subst h1
      rw [eP]
      by_cases h2 : y = q
      · subst h2; exact ⟨fun z => absurd z a6, fun z => absurd ⟨rfl, rfl⟩ z.2.1⟩
      · rw [a7 y h2]; exact ⟨fun z => ⟨z, fun e => h2 e.2, fun e => hne e.1⟩, fun z => z.1⟩
    · by_cases h2 : x = q
      · subst h2
        by_cases h3 : y = p
        · subst h3; exact ⟨fun z => absurd z b6, fun z => absurd ⟨rfl, rfl⟩ z.2.2⟩
        · rw [b7 y h3, eQ]; exact ⟨fun z => ⟨z, fun e => h1 e.1, fun e => h3 e.2⟩, fun z => z.1⟩
      · rw [eX x y hx h1 h2]; exact ⟨fun z => ⟨z, fun e => h1 e.1, fun e => h2 e.1⟩, fun z => z.1⟩
  refine ⟨row, fun x y hx hy h => ?_⟩
  obtain ⟨z1, z2, z3⟩ := (old x y hx hy).mp h
  exact (old y x hy hx).mpr ⟨l.2 x y hx hy z1, fun e => z3 ⟨e.2, e.1⟩, fun e => z2 ⟨e.2, e.1⟩⟩
def EVE (u w : MS) : Prop := FR [125, 136, 138, 140, 150] [139] [89, 90, 108, 109, 116, 117, 122, 123, 124, 135, 142, 145, 146, 147] [88, 91, 93, 107, 134, 137, 141, 148] u w ∧ ∀ p, A w 109 p = A u 109 p ∨ A w 109 p = 3
theorem EVE.rf : EVE u u := ⟨FR.rf, fun _ => Or.inl rfl⟩
theorem EVE.tr {v : MS} (a : EVE u v) (b : EVE v w) : EVE u w := ⟨FR.tr a.1 b.1, fun p => by
  rcases b.2 p with h | h
  · rw [h]; exact a.2 p
  · exact Or.inr h⟩
theorem EVF.eve (a : EVF u w) : EVE u w := ⟨FR.mo a.1 (by decide) (by decide) (by decide) (by decide), a.2⟩
theorem EVE.fr {is ls as js : List Nat} (f : FR is ls as js u w) (h1 : ∀ k, k ∈ is → k ∈ [125, 136, 138, 140, 150]) (h2 : ∀ k, k ∈ ls → k ∈ [139]) (h3 : ∀ k, k ∈ as → k ∈ [89, 90, 108, 109, 116, 117, 122, 123, 124, 135, 142, 145, 146, 147]) (h4 : ∀ k, k ∈ js → k ∈ [88, 91, 93, 107, 134, 137, 141, 148]) (h5 : 109 ∉ as) : EVE u w := ⟨FR.mo f h1 h2 h3 h4, fun p => Or.inl (FR.A f h5)⟩
def ESI (Fv : Int64 → Int64 → Prop) (P : Int64 → Prop) (PR : Nat) (w : MS) : Prop := DW Fv P PR w ∧ LK w PR ∧ WTQ w PR
def EPO (Fv : Int64 → Int64 → Prop) (P : Int64 → Prop) (PR : Nat) (u w : MS) : Prop := ESI Fv P PR w ∧ EVE u w ∧ KEEP u w PR
theorem e250 (p : Nat) (hp1 : p < PR) (hN : 300 ≤ N) : ∀ (m k : Nat) (w : MS), ESI Fv P PR w → (k : Int) ≤ F w 125 → (F w 125).toNat - k < m → OK (fun w2 _ => EPO Fv P PR w w2) ((gg_M_end N m).2.2.2 w (I p) (I k)) := by
  intro m
  induction m with
  | zero => intro k w _ _ z; exact absurd z (Nat.not_lt_zero _)
  | succ m ih =>
    intro k w hs hk hm
    obtain ⟨s1, s2, s3⟩ := id hs
    have t1 := s3.1
    have t2 := s3.2.1
    show OK _ (fb_M_end_250 N (gg_M_end N m) w (I p) (I k))
    unfold fb_M_end_250
    rw [I_F, decI (by omega) (by omega) (by omega) (by omega)]
    by_cases e : F w 125 ≤ k
    · rw [decide_eq_true e, br_tq]
      exact ok_some.mpr ⟨hs, EVE.rf, KEEP.rf⟩
    · rw [decide_eq_false e, br_fq, inb_at (k := 123) (n := 4000) rfl (by omega) (by omega) (by decide), ck_t]
      refine ok_br.mpr ⟨fun _ => ok_bnd.mpr (ok_mono (removeWatch_ok s3 (by omega) hN) (fun v _ hv => ?_)), fun _ => ?_⟩
      · obtain ⟨v1, v2, v3⟩ := hv
        have hsv : ESI Fv P PR v := ⟨DW_fr s1 v1 (by decide) (by decide) (by decide) (by decide) (by decide) (by decide) (by decide) (by decide) (by decide) (by decide) (by decide) (by decide) (by decide) (by decide) (by decide) (by decide) (by decide), LK_fr s2 v1 (by decide) (by decide), v3⟩
        refine ok_mono (ih k v hsv (by omega) (by omega)) (fun w2 _ h => ⟨h.1, EVE.tr (EVE.fr v1 (by decide) (by decide) (by decide) (by decide) (by decide)) h.2.1, KEEP.tr (KEEP.fr v1 (by decide) (by decide) (by decide)) h.2.2⟩)
      · rw [lit1q, I_add]
        exact ih (k + 1) w hs (by omega) (by omega)
theorem e180 (p : Nat) {wr : Int} {o : Nat} {t : Int64} (hp1 : p < PR) (hPB : PB P PR) (hw : 0 ≤ wr ∧ wr ≤ 2) (ho : o ≤ 24) (hN : 60000 ≤ N) : ∀ (m k : Nat) (w : MS), ESI Fv P PR w → TE Fv P w PR o t → (k : Int) ≤ F w 125 → ((F w 125).toNat - k) + 300 < m → OK (fun w2 _ => EPO Fv P PR w w2) ((gg_M_end N m).2.2.1 w (I p) (I wr) (I o) t (I k)) := by
  intro m
  induction m with
  | zero => intro k w _ _ _ z; exact absurd z (Nat.not_lt_zero _)
  | succ m ih =>
    intro k w hs te hk hm
    obtain ⟨s1, s2, s3⟩ := id hs
    have t1 := s3.1
    have t2 := s3.2.1
    have pr := s1.1.2
    show OK _ (fb_M_end_180 N (gg_M_end N m) w (I p) (I wr) (I o) t (I k))
    unfold fb_M_end_180
    rw [I_F, decI (by omega) (by omega) (by omega) (by omega)]
    by_cases e : F w 125 ≤ k
    · rw [decide_eq_true e, br_tq, lit0q]
      exact e250 p hp1 (by omega) m 0 w hs (by omega) (by omega)
    · obtain ⟨⟨q1, q2⟩, -⟩ := s3.2.2 k (by omega)
      have hr := A_r w 122 k
      rw [decide_eq_false e, br_fq, inb_at (k := 124) (n := 4000) rfl (by omega) (by omega) (by decide), ck_t, inb_at (k := 123) (n := 4000) rfl (by omega) (by omega) (by decide), ck_t, inb_at (k := 122) (n := 4000) rfl (by omega) (by omega) (by decide), ck_t]
      refine ok_br.mpr ⟨fun _ => ok_bnd.mpr (ok_mono (removeWatch_ok s3 (by omega) (by omega)) (fun v _ hv => ?_)), fun _ => ?_⟩
      · obtain ⟨v1, v2, v3⟩ := hv
        have dv : DW Fv P PR v := DW_fr s1 v1 (by decide) (by decide) (by decide) (by decide) (by decide) (by decide) (by decide) (by decide) (by decide) (by decide) (by decide) (by decide) (by decide) (by decide) (by decide) (by decide) (by decide)
        have kv : KEEP w v PR := KEEP.fr v1 (by decide) (by decide) (by decide)
        rw [I_tn (by omega) (by omega), Int.toNat_natCast, I_A (k := 123), I_A (k := 122), show A w 123 k = (((A w 123 k).toNat : Nat) : Int) from by omega, lit1q]
        refine ok_bnd.mpr (ok_mono (message_ev (sort := 1) (r := A w 122 k) (q := (A w 123 k).toNat) dv (by omega) hPB (by omega) (fun _ => hp1) hr (by omega) hw ho (TE_keep kv te) hN) (fun v2' _ h2 => ?_))
        obtain ⟨y1, y2, y3⟩ := h2
        have f125 : F v2' 125 = F v 125 := FR.F y2.1 (by decide)
        have hs2 : ESI Fv P PR v2' := ⟨y1, LK_fr (LK_fr s2 v1 (by decide) (by decide)) y2.1 (by decide) (by decide), WT_fr v3 y2.1 (by decide) (by decide) (by decide)⟩
        have k2 := KEEP.tr kv y3
        refine ok_mono (ih k v2' hs2 (TE_keep k2 te) (by omega) (by omega)) (fun w2 _ h => ⟨h.1, EVE.tr (EVE.fr v1 (by decide) (by decide) (by decide) (by decide) (by decide)) (EVE.tr y2.eve h.2.1), KEEP.tr k2 h.2.2⟩)
      · rw [lit1q, I_add]
        exact ih (k + 1) w hs te (by omega) (by omega)
theorem e129 (p : Nat) {wr : Int} {o : Nat} {t : Int64} (hp1 : p < PR) (hPB : PB P PR) (hw : 0 ≤ wr ∧ wr ≤ 2) (ho : o ≤ 24) (hN : 60000 ≤ N) : ∀ (m : Nat) (w : MS), ESI Fv P PR w → TE Fv P w PR o t → (A w 117 p).toNat + 600 < m → OK (fun w2 _ => EPO Fv P PR w w2) ((gg_M_end N m).2.1 w (I p) (I wr) (I o) t) := by
  intro m
  induction m with
  | zero => intro w _ _ z; exact absurd z (Nat.not_lt_zero _)
  | succ m ih =>
    intro w hs te hm
    obtain ⟨s1, s2, s3⟩ := id hs
    have pr := s1.1.2
    obtain ⟨l1, l2, l3, l4⟩ := id (s2.1 p hp1)
    show OK _ (fb_M_end_129 N (gg_M_end N m) w (I p) (I wr) (I o) t)
    unfold fb_M_end_129
    rw [inb_at (k := 117) (n := 24) rfl (by omega) (by omega) (by decide), ck_t, I_tn (x := (p : Int)) (by omega) (by omega), Int.toNat_natCast, I_A (k := 117), lit0q, decI (by omega) (by omega) (by omega) (by omega)]
    by_cases e : A w 117 p ≤ 0
    · rw [decide_eq_true e, br_tq]
      exact e180 p hp1 hPB hw ho hN m 0 w hs te (by have := s3.1; omega) (by have := s3.2.1; omega)
    · obtain ⟨q1, q2, q3⟩ := l3 0 (by omega)
      rw [Nat.add_zero] at q1 q2 q3
      rw [decide_eq_false e, br_fq, show (24 : Int32) = I 24 from rfl, I_mul, inb_at (k := 116) (n := 576) rfl (by omega) (by omega) (by decide), ck_t, lt_e, I_tn (by omega) (by omega), show (24 * (p : Int)).toNat = 24 * p from by omega, I_A (k := 116), show A w 116 (24 * p) = (((A w 116 (24 * p)).toNat : Nat) : Int) from by omega]
      have hin : inL w p (A w 116 (24 * p)).toNat := ⟨0, by omega, by rw [Nat.add_zero]; omega⟩
      generalize hq : (A w 116 (24 * p)).toNat = q at hin
      have hqR : q < PR := by omega
      have hne : p ≠ q := by omega
      refine ok_bnd.mpr (ok_mono (removeLink_ok (PR := PR) (q := q) (by omega) (by omega) (s2.1 p hp1) (by omega)) (fun v _ hv => ?_))
      obtain ⟨rv, lv⟩ := hv
      have lq : LKR v PR q := LKR_same (s2.1 q hqR) (rv.2.1 q (Ne.symm hne)) (fun k hk => rv.2.2.1 _ (by omega))
      refine ok_bnd.mpr (ok_mono (removeLink_ok (PR := PR) (q := p) (by omega) (by omega) lq (by omega)) (fun v2 _ hv2 => ?_))
      obtain ⟨rv2, lv2⟩ := hv2
      have lk2 := LK_two pr hp1 hqR hne s2 rv lv rv2 lv2
      have fr2 : FR [] [] [116, 117] [] w v2 := FR.tr rv.1 rv2.1
      have d2 : DW Fv P PR v2 := DW_fr s1 fr2 (by decide) (by decide) (by decide) (by decide) (by decide) (by decide) (by decide) (by decide) (by decide) (by decide) (by decide) (by decide) (by decide) (by decide) (by decide) (by decide) (by decide)
      have k2 : KEEP w v2 PR := KEEP.fr fr2 (by decide) (by decide) (by decide)
      have dec : A v2 117 p < A w 117 p := by rw [rv2.2.1 p hne]; exact rv.2.2.2.2.1 hin
      refine ok_bnd.mpr (ok_mono (signal_ok (q := q) (p := p) d2 hqR hp1 hPB hw ho (TE_keep k2 te) hN) (fun v3 _ h3 => ?_))
      obtain ⟨y1, y2, y3⟩ := h3
      have e117 : A v3 117 p = A v2 117 p := FR.A y2.1 (by decide)
      have l0 := (lk2.1 p hp1).1
      have hs3 : ESI Fv P PR v3 := ⟨y1, LK_fr lk2 y2.1 (by decide) (by decide), WT_fr (WT_fr s3 fr2 (by decide) (by decide) (by decide)) y2.1 (by decide) (by decide) (by decide)⟩
      have k3 := KEEP.tr k2 y3
      exact ok_mono (ih v3 hs3 (TE_keep k3 te) (by omega)) (fun w2 _ h => ⟨h.1, EVE.tr (EVE.fr fr2 (by decide) (by decide) (by decide) (by decide) (by decide)) (EVE.tr y2.eve h.2.1), KEEP.tr k3 h.2.2⟩)
end
