section
section
variable {Fv : Int64 → Int64 → Prop} {P : Int64 → Prop} {u w w2 : MS} {PR N : Nat}
theorem DW_fr {is ls as js : List Nat} (d : DW Fv P PR w) (f : FR is ls as js w w2) (i1 : 118 ∉ is) (i2 : 140 ∉ is) (i3 : 149 ∉ is) (i4 : 150 ∉ is) (a1 : 89 ∉ as) (a2 : 92 ∉ as) (a3 : 94 ∉ as) (a4 : 108 ∉ as) (a5 : 109 ∉ as) (a6 : 145 ∉ as) (a7 : 146 ∉ as) (a8 : 147 ∉ as) (j1 : 88 ∉ js) (j2 : 91 ∉ js) (j3 : 93 ∉ js) (j4 : 107 ∉ js) (j5 : 148 ∉ js) : DW Fv P PR w2 := by
  obtain ⟨⟨d1, d1'⟩, d2, ⟨n4, ow4, kd4, d3a, d3b, d3c⟩, d4, ⟨eF, eM, e1, e2, e3, e4, e5⟩, d6⟩ := d
  have hpz : ∀ x, hp w2 x = hp w x := fun x => by unfold hp; rw [f.2.2.2 88 j1]
  refine ⟨⟨by rw [FR.F f i1]; exact d1, d1'⟩, fun p hp1 => PRC_same (d2 p hp1) (FR.A f a1) (hpz p) (FR.A f a2) (FR.A f a3) (FR.A f a4) (fun i _ => by rw [f.2.2.2 91 j2]) (fun i _ => by rw [f.2.2.2 93 j3]) (fun i _ => by rw [f.2.2.2 107 j4]) (by rw [FR.F f i2, d4]; omega), ⟨n4, ow4, kd4, by rw [FR.A f a1]; exact d3a, d3b, by rw [hpz]; exact d3c⟩, by rw [FR.F f i2]; exact d4, ⟨eF, eM, by rw [FR.F f i3]; exact e1, by rw [FR.F f i4]; exact e2, e3, by rw [cE_eq PR (fun p _ => FR.A f a5)]; exact e4, fun i h1 h2 => ?_⟩, fun p hp1 => by rw [FR.A f a5]; exact d6 p hp1⟩
  obtain ⟨q1, q2, q3, q4⟩ := e5 i h1 h2
  rw [FR.A f a6, FR.A f a7, FR.A f a8, f.2.2.2 148 j5]
  exact ⟨q1, q2, q3, TE_keep (KEEP.fr f a1 a5 j1) q4⟩
theorem inL_same {x y : Nat} (h : LKR w PR x) (e1 : A w2 117 x = A w 117 x) (e2 : ∀ k, k < 24 → A w2 116 (24 * x + k) = A w 116 (24 * x + k)) : inL w2 x y ↔ inL w x y := by
  have h2 := h.2.1
  constructor
  · rintro ⟨k, k1, k2⟩
    rw [e1] at k1
    exact ⟨k, k1, by rw [← e2 k (by omega)]; exact k2⟩
  · rintro ⟨k, k1, k2⟩
    exact ⟨k, by rw [e1]; exact k1, by rw [e2 k (by omega)]; exact k2⟩
theorem LKR_same {x : Nat} (h : LKR w PR x) (e1 : A w2 117 x = A w 117 x) (e2 : ∀ k, k < 24 → A w2 116 (24 * x + k) = A w 116 (24 * x + k)) : LKR w2 PR x := by
  obtain ⟨h1, h2, h3, h4⟩ := h
  refine ⟨by rw [e1]; exact h1, by rw [e1]; exact h2, fun k hk => ?_, fun k j hk hj e => ?_⟩
  · rw [e1] at hk; rw [e2 k (by omega)]; exact h3 k hk
  · rw [e1] at hk hj; rw [e2 k (by omega), e2 j (by omega)] at e; exact h4 k j hk hj e
theorem LK_fr {is ls as js : List Nat} (l : LK w PR) (f : FR is ls as js w w2) (a1 : 116 ∉ as) (a2 : 117 ∉ as) : LK w2 PR := by
  refine ⟨fun p hp1 => LKR_same (l.1 p hp1) (FR.A f a2) (fun _ _ => FR.A f a1), fun p q hp1 hq h => ?_⟩
  have h' := (inL_same (l.1 p hp1) (FR.A f a2) (fun _ _ => FR.A f a1)).mp h
  exact (inL_same (l.1 q hq) (FR.A f a2) (fun _ _ => FR.A f a1)).mpr (l.2 p q hp1 hq h')
theorem WT_fr {is ls as js : List Nat} (l : WTQ w PR) (f : FR is ls as js w w2) (i1 : 125 ∉ is) (a1 : 123 ∉ as) (a2 : 124 ∉ as) : WTQ w2 PR := by
  obtain ⟨h1, h2, h3⟩ := l
  refine ⟨by rw [FR.F f i1]; exact h1, by rw [FR.F f i1]; exact h2, fun i hi => ?_⟩
  rw [FR.F f i1] at hi
  rw [FR.A f a1, FR.A f a2]
  exact h3 i hi
theorem ATM_fr {is ls as js : List Nat} (l : ATM w) (f : FR is ls as js w w2) (i1 : 14 ∉ is) (a1 : 13 ∉ as) : ATM w2 := by
  obtain ⟨h1, h2, h3⟩ := l
  refine ⟨by rw [FR.F f i1]; exact h1, by rw [FR.F f i1]; exact h2, fun k hk => ?_⟩
  rw [FR.F f i1] at hk
  rw [FR.A f a1, FR.A f a1]
  exact h3 k hk
theorem PA_fr {is ls as js : List Nat} (l : ∀ t, P t → PA w t) (f : FR is ls as js w w2) (i1 : 14 ∉ is) : ∀ t, P t → PA w2 t := fun t h => by unfold PA; rw [FR.F f i1]; exact l t h
theorem LK_two {v : MS} {p q : Nat} (pr : PR ≤ 24) (hp1 : p < PR) (hq : q < PR) (hne : p ≠ q) (l : LK w PR) (a : RML w p q v) (ka : LKR v PR p) (b : RML v q p w2) (kb : LKR w2 PR q) : LK w2 PR := by
  obtain ⟨a1, a2, a3, a4, a5, a6, a7⟩ := a
  obtain ⟨b1, b2, b3, b4, b5, b6, b7⟩ := b
  have rq : ∀ k, k < 24 → A v 116 (24 * q + k) = A w 116 (24 * q + k) := fun k hk => a3 _ (by omega)
  have rp : ∀ k, k < 24 → A w2 116 (24 * p + k) = A v 116 (24 * p + k) := fun k hk => b3 _ (by omega)
  have eP : ∀ y, inL w2 p y ↔ inL v p y := fun y => inL_same ka (b2 p hne) rp
  have eQ : ∀ y, inL v q y ↔ inL w q y := fun y => inL_same (l.1 q hq) (a2 q (Ne.symm hne)) rq
  have eX : ∀ x y, x < PR → x ≠ p → x ≠ q → (inL w2 x y ↔ inL w x y) := fun x y hx h1 h2 => inL_same (l.1 x hx) ((b2 x h2).trans (a2 x h1)) (fun k hk => (b3 _ (by omega)).trans (a3 _ (by omega)))
  have row : ∀ x, x < PR → LKR w2 PR x := fun x hx => by
    by_cases h1 : x = q
    · rw [h1]; exact kb
    · by_cases h2 : x = p
      · rw [h2]; exact LKR_same ka (b2 p hne) rp
      · exact LKR_same (l.1 x hx) ((b2 x h1).trans (a2 x h2)) (fun k hk => (b3 _ (by omega)).trans (a3 _ (by omega)))
  have old : ∀ x y, x < PR → y < PR → (inL w2 x y ↔ (inL w x y ∧ ¬ (x = p ∧ y = q) ∧ ¬ (x = q ∧ y = p))) := fun x y hx hy => by
    by_cases h1 : x = p
    · subst h1
      rw [eP]
      by_cases h2 : y = q
      · subst h2; exact ⟨fun z => absurd z a6, fun z => absurd ⟨rfl, rfl⟩ z.2.1⟩
      · rw [a7 y h2]; exact ⟨fun z => ⟨z, fun e => h2 e.2, fun e => hne e.1⟩, fun z => z.1⟩
    · by_cases h2 : x = q
      · subst h2
        by_cases h3 : y = p
        · subst h3; exact ⟨fun z => absurd z b6, fun z => absurd ⟨rfl, rfl⟩ z.2.2⟩
        · rw [b7 y h3, eQ]; exact ⟨fun z => ⟨z, fun e => h1 e.1, fun e => h3 e.2⟩, fun z => z.1⟩
      · rw [eX x y hx h1 h2]; exact ⟨fun z => ⟨z, fun e => h1 e.1, fun e => h2 e.1⟩, fun z => z.1⟩
  refine ⟨row, fun x y hx hy h => ?_⟩
  obtain ⟨z1, z2, z3⟩ := (old x y hx hy).mp h
  exact (old y x hy hx).mpr ⟨l.2 x y hx hy z1, fun e => z3 ⟨e.2, e.1⟩, fun e => z2 ⟨e.2, e.1⟩⟩
def EVE (u w : MS) : Prop := FR [125, 136, 138, 140, 150] [139] [89, 90, 108, 109, 116, 117, 122, 123, 124, 135, 142, 145, 146, 147] [88, 91, 93, 107, 134, 137, 141, 148] u w ∧ ∀ p, A w 109 p = A u 109 p ∨ A w 109 p = 3
theorem EVE.rf : EVE u u := ⟨FR.rf, fun _ => Or.inl rfl⟩
theorem EVE.tr {v : MS} (a : EVE u v) (b : EVE v w) : EVE u w := ⟨FR.tr a.1 b.1, fun p => by
  rcases b.2 p with h | h
  · rw [h]; exact a.2 p
  · exact Or.inr h⟩
theorem EVF.eve (a : EVF u w) : EVE u w := ⟨FR.mo a.1 (by decide) (by decide) (by decide) (by decide), a.2⟩
theorem EVE.fr {is ls as js : List Nat} (f : FR is ls as js u w) (h1 : ∀ k, k ∈ is → k ∈ [125, 136, 138, 140, 150]) (h2 : ∀ k, k ∈ ls → k ∈ [139]) (h3 : ∀ k, k ∈ as → k ∈ [89, 90, 108, 109, 116, 117, 122, 123, 124, 135, 142, 145, 146, 147]) (h4 : ∀ k, k ∈ js → k ∈ [88, 91, 93, 107, 134, 137, 141, 148]) (h5 : 109 ∉ as) : EVE u w := ⟨FR.mo f h1 h2 h3 h4, fun p => Or.inl (FR.A f h5)⟩
def ESI (Fv : Int64 → Int64 → Prop) (P : Int64 → Prop) (PR : Nat) (w : MS) : Prop := DW Fv P PR w ∧ LK w PR ∧ WTQ w PR
def EPO (Fv : Int64 → Int64 → Prop) (P : Int64 → Prop) (PR : Nat) (u w : MS) : Prop := ESI Fv P PR w ∧ EVE u w ∧ KEEP u w PR
theorem e250 (p : Nat) (hp1 : p < PR) (hN : 300 ≤ N) : ∀ (m k : Nat) (w : MS), ESI Fv P PR w → (k : Int) ≤ F w 125 → (F w 125).toNat - k < m → OK (fun w2 _ => EPO Fv P PR w w2) ((gg_M_end N m).2.2.2 w (I p) (I k)) := by
  intro m
  induction m with
  | zero => intro k w _ _ z; exact absurd z (Nat.not_lt_zero _)
  | succ m ih =>
    intro k w hs hk hm
    obtain ⟨s1, s2, s3⟩ := id hs
    have t1 := s3.1
    have t2 := s3.2.1
    show OK _ (fb_M_end_250 N (gg_M_end N m) w (I p) (I k))
    unfold fb_M_end_250
    rw [I_F, decI (by omega) (by omega) (by omega) (by omega)]
    by_cases e : F w 125 ≤ k
    · rw [decide_eq_true e, br_tq]
      exact ok_some.mpr ⟨hs, EVE.rf, KEEP.rf⟩
    · rw [decide_eq_false e, br_fq, inb_at (k := 123) (n := 4000) rfl (by omega) (by omega) (by decide), ck_t]
      refine ok_br.mpr ⟨fun _ => ok_bnd.mpr (ok_mono (removeWatch_ok s3 (by omega) hN) (fun v _ hv => ?_)), fun _ => ?_⟩
      · obtain ⟨v1, v2, v3⟩ := hv
        have hsv : ESI Fv P PR v := ⟨DW_fr s1 v1 (by decide) (by decide) (by decide) (by decide) (by decide) (by decide) (by decide) (by decide) (by decide) (by decide) (by decide) (by decide) (by decide) (by decide) (by decide) (by decide) (by decide), LK_fr s2 v1 (by decide) (by decide), v3⟩
        refine ok_mono (ih k v hsv (by omega) (by omega)) (fun w2 _ h => ⟨h.1, EVE.tr (EVE.fr v1 (by decide) (by decide) (by decide) (by decide) (by decide)) h.2.1, KEEP.tr (KEEP.fr v1 (by decide) (by decide) (by decide)) h.2.2⟩)
      · rw [lit1q, I_add]
        exact ih (k + 1) w hs (by omega) (by omega)
theorem e180 (p : Nat) {wr : Int} {o : Nat} {t : Int64} (hp1 : p < PR) (hPB : PB P PR) (hw : 0 ≤ wr ∧ wr ≤ 2) (ho : o ≤ 24) (hN : 60000 ≤ N) : ∀ (m k : Nat) (w : MS), ESI Fv P PR w → TE Fv P w PR o t → (k : Int) ≤ F w 125 → ((F w 125).toNat - k) + 300 < m → OK (fun w2 _ => EPO Fv P PR w w2) ((gg_M_end N m).2.2.1 w (I p) (I wr) (I o) t (I k)) := by
  intro m
  induction m with
  | zero => intro k w _ _ _ z; exact absurd z (Nat.not_lt_zero _)
  | succ m ih =>
    intro k w hs te hk hm
    obtain ⟨s1, s2, s3⟩ := id hs
    have t1 := s3.1
    have t2 := s3.2.1
    have pr := s1.1.2
    show OK _ (fb_M_end_180 N (gg_M_end N m) w (I p) (I wr) (I o) t (I k))
    unfold fb_M_end_180
    rw [I_F, decI (by omega) (by omega) (by omega) (by omega)]
    by_cases e : F w 125 ≤ k
    · rw [decide_eq_true e, br_tq, lit0q]
      exact e250 p hp1 (by omega) m 0 w hs (by omega) (by omega)
    · obtain ⟨⟨q1, q2⟩, -⟩ := s3.2.2 k (by omega)
      have hr := A_r w 122 k
      rw [decide_eq_false e, br_fq, inb_at (k := 124) (n := 4000) rfl (by omega) (by omega) (by decide), ck_t, inb_at (k := 123) (n := 4000) rfl (by omega) (by omega) (by decide), ck_t, inb_at (k := 122) (n := 4000) rfl (by omega) (by omega) (by decide), ck_t]
      refine ok_br.mpr ⟨fun _ => ok_bnd.mpr (ok_mono (removeWatch_ok s3 (by omega) (by omega)) (fun v _ hv => ?_)), fun _ => ?_⟩
      · obtain ⟨v1, v2, v3⟩ := hv
        have dv : DW Fv P PR v := DW_fr s1 v1 (by decide) (by decide) (by decide) (by decide) (by decide) (by decide) (by decide) (by decide) (by decide) (by decide) (by decide) (by decide) (by decide) (by decide) (by decide) (by decide) (by decide)
        have kv : KEEP w v PR := KEEP.fr v1 (by decide) (by decide) (by decide)
        rw [I_tn (by omega) (by omega), Int.toNat_natCast, I_A (k := 123), I_A (k := 122), show A w 123 k = (((A w 123 k).toNat : Nat) : Int) from by omega, lit1q]
        refine ok_bnd.mpr (ok_mono (message_ev (sort := 1) (r := A w 122 k) (q := (A w 123 k).toNat) dv (by omega) hPB (by omega) (fun _ => hp1) hr (by omega) hw ho (TE_keep kv te) hN) (fun v2' _ h2 => ?_))
        obtain ⟨y1, y2, y3⟩ := h2
        have f125 : F v2' 125 = F v 125 := FR.F y2.1 (by decide)
        have hs2 : ESI Fv P PR v2' := ⟨y1, LK_fr (LK_fr s2 v1 (by decide) (by decide)) y2.1 (by decide) (by decide), WT_fr v3 y2.1 (by decide) (by decide) (by decide)⟩
        have k2 := KEEP.tr kv y3
        refine ok_mono (ih k v2' hs2 (TE_keep k2 te) (by omega) (by omega)) (fun w2 _ h => ⟨h.1, EVE.tr (EVE.fr v1 (by decide) (by decide) (by decide) (by decide) (by decide)) (EVE.tr y2.eve h.2.1), KEEP.tr k2 h.2.2⟩)
      · rw [lit1q, I_add]
        exact ih (k + 1) w hs te (by omega) (by omega)
theorem e129 (p : Nat) {wr : Int} {o : Nat} {t : Int64} (hp1 : p < PR) (hPB : PB P PR) (hw : 0 ≤ wr ∧ wr ≤ 2) (ho : o ≤ 24) (hN : 60000 ≤ N) : ∀ (m : Nat) (w : MS), ESI Fv P PR w → TE Fv P w PR o t → (A w 117 p).toNat + 600 < m → OK (fun w2 _ => EPO Fv P PR w w2) ((gg_M_end N m).2.1 w (I p) (I wr) (I o) t) := by
  intro m
  induction m with
  | zero => intro w _ _ z; exact absurd z (Nat.not_lt_zero _)
  | succ m ih =>
    intro w hs te hm
    obtain ⟨s1, s2, s3⟩ := id hs
    have pr := s1.1.2
    obtain ⟨l1, l2, l3, l4⟩ := id (s2.1 p hp1)
    show OK _ (fb_M_end_129 N (gg_M_end N m) w (I p) (I wr) (I o) t)
    unfold fb_M_end_129
    rw [inb_at (k := 117) (n := 24) rfl (by omega) (by omega) (by decide), ck_t, I_tn (x := (p : Int)) (by omega) (by omega), Int.toNat_natCast, I_A (k := 117), lit0q, decI (by omega) (by omega) (by omega) (by omega)]
    by_cases e : A w 117 p ≤ 0
    · rw [decide_eq_true e, br_tq]
      exact e180 p hp1 hPB hw ho hN m 0 w hs te (by have := s3.1; omega) (by have := s3.2.1; omega)
    · obtain ⟨q1, q2, q3⟩ := l3 0 (by omega)
      rw [Nat.add_zero] at q1 q2 q3
      rw [decide_eq_false e, br_fq, show (24 : Int32) = I 24 from rfl, I_mul, inb_at (k := 116) (n := 576) rfl (by omega) (by omega) (by decide), ck_t, lt_e, I_tn (by omega) (by omega), show (24 * (p : Int)).toNat = 24 * p from by omega, I_A (k := 116), show A w 116 (24 * p) = (((A w 116 (24 * p)).toNat : Nat) : Int) from by omega]
      have hin : inL w p (A w 116 (24 * p)).toNat := ⟨0, by omega, by rw [Nat.add_zero]; omega⟩
      generalize hq : (A w 116 (24 * p)).toNat = q at hin
      have hqR : q < PR := by omega
      have hne : p ≠ q := by omega
      refine ok_bnd.mpr (ok_mono (removeLink_ok (PR := PR) (q := q) (by omega) (by omega) (s2.1 p hp1) (by omega)) (fun v _ hv => ?_))
      obtain ⟨rv, lv⟩ := hv
      have lq : LKR v PR q := LKR_same (s2.1 q hqR) (rv.2.1 q (Ne.symm hne)) (fun k hk => rv.2.2.1 _ (by omega))
      refine ok_bnd.mpr (ok_mono (removeLink_ok (PR := PR) (q := p) (by omega) (by omega) lq (by omega)) (fun v2 _ hv2 => ?_))
      obtain ⟨rv2, lv2⟩ := hv2
      have lk2 := LK_two pr hp1 hqR hne s2 rv lv rv2 lv2
      have fr2 : FR [] [] [116, 117] [] w v2 := FR.tr rv.1 rv2.1
      have d2 : DW Fv P PR v2 := DW_fr s1 fr2 (by decide) (by decide) (by decide) (by decide) (by decide) (by decide) (by decide) (by decide) (by decide) (by decide) (by decide) (by decide) (by decide) (by decide) (by decide) (by decide) (by decide)
      have k2 : KEEP w v2 PR := KEEP.fr fr2 (by decide) (by decide) (by decide)
      have dec : A v2 117 p < A w 117 p := by rw [rv2.2.1 p hne]; exact rv.2.2.2.2.1 hin
      refine ok_bnd.mpr (ok_mono (signal_ok (q := q) (p := p) d2 hqR hp1 hPB hw ho (TE_keep k2 te) hN) (fun v3 _ h3 => ?_))
      obtain ⟨y1, y2, y3⟩ := h3
      have e117 : A v3 117 p = A v2 117 p := FR.A y2.1 (by decide)
      have l0 := (lk2.1 p hp1).1
      have hs3 : ESI Fv P PR v3 := ⟨y1, LK_fr lk2 y2.1 (by decide) (by decide), WT_fr (WT_fr s3 fr2 (by decide) (by decide) (by decide)) y2.1 (by decide) (by decide) (by decide)⟩
      have k3 := KEEP.tr k2 y3
      exact ok_mono (ih v3 hs3 (TE_keep k3 te) (by omega)) (fun w2 _ h => ⟨h.1, EVE.tr (EVE.fr fr2 (by decide) (by decide) (by decide) (by decide) (by decide)) (EVE.tr y2.eve h.2.1), KEEP.tr k3 h.2.2⟩)
end
end
section
section
variable {Fv : Int64 → Int64 → Prop} {P : Int64 → Prop} {u w w2 : MS} {PR N : Nat}
def RLo (u w : MS) : Prop := ∀ i, A w 132 i = A u 132 i ∨ (0 ≤ A w 132 i ∧ A w 132 i ≤ 100)
theorem RLo.rf : RLo u u := fun _ => Or.inl rfl
theorem RLo.tr {v : MS} (a : RLo u v) (b : RLo v w) : RLo u w := fun i => by
  rcases b i with h | h
  · rw [h]; exact a i
  · exact Or.inr h
theorem ESI_fr {is ls as js : List Nat} (s : ESI Fv P PR w) (f : FR is ls as js w w2) (i1 : 118 ∉ is) (i2 : 140 ∉ is) (i3 : 149 ∉ is) (i4 : 150 ∉ is) (i5 : 125 ∉ is) (a1 : 89 ∉ as) (a2 : 92 ∉ as) (a3 : 94 ∉ as) (a4 : 108 ∉ as) (a5 : 109 ∉ as) (a6 : 145 ∉ as) (a7 : 146 ∉ as) (a8 : 147 ∉ as) (a9 : 116 ∉ as) (a10 : 117 ∉ as) (a11 : 123 ∉ as) (a12 : 124 ∉ as) (j1 : 88 ∉ js) (j2 : 91 ∉ js) (j3 : 93 ∉ js) (j4 : 107 ∉ js) (j5 : 148 ∉ js) : ESI Fv P PR w2 :=
  ⟨DW_fr s.1 f i1 i2 i3 i4 a1 a2 a3 a4 a5 a6 a7 a8 j1 j2 j3 j4 j5, LK_fr s.2.1 f a9 a10, WT_fr s.2.2 f i5 a11 a12⟩
def EVX (u w : MS) : Prop := FR [125, 136, 138, 140, 144, 150] [139] [89, 90, 108, 109, 113, 116, 117, 122, 123, 124, 131, 132, 135, 142, 143, 145, 146, 147] [88, 91, 93, 107, 134, 137, 141, 148] u w ∧ (∀ p, A w 109 p = A u 109 p ∨ A w 109 p = 3) ∧ RLo u w
theorem EVX.rf : EVX u u := ⟨FR.rf, fun _ => Or.inl rfl, RLo.rf⟩
theorem EVX.tr {v : MS} (a : EVX u v) (b : EVX v w) : EVX u w := ⟨FR.tr a.1 b.1, fun p => by
  rcases b.2.1 p with h | h
  · rw [h]; exact a.2.1 p
  · exact Or.inr h, RLo.tr a.2.2 b.2.2⟩
theorem EVE.evx (a : EVE u w) : EVX u w := ⟨FR.mo a.1 (by decide) (by decide) (by decide) (by decide), a.2, fun i => Or.inl (FR.A a.1 (by decide))⟩
theorem EVX.fr {is ls as js : List Nat} (f : FR is ls as js u w) (h1 : ∀ k, k ∈ is → k ∈ [125, 136, 138, 140, 144, 150]) (h2 : ∀ k, k ∈ ls → k ∈ [139]) (h3 : ∀ k, k ∈ as → k ∈ [89, 90, 108, 109, 113, 116, 117, 122, 123, 124, 131, 132, 135, 142, 143, 145, 146, 147]) (h4 : ∀ k, k ∈ js → k ∈ [88, 91, 93, 107, 134, 137, 141, 148]) (h5 : 109 ∉ as) (h6 : 132 ∉ as) : EVX u w := ⟨FR.mo f h1 h2 h3 h4, fun p => Or.inl (FR.A f h5), fun i => Or.inl (FR.A f h6)⟩
def EPX (Fv : Int64 → Int64 → Prop) (P : Int64 → Prop) (PR : Nat) (u w : MS) : Prop := ESI Fv P PR w ∧ EVX u w ∧ KEEP u w PR
theorem e129r (p : Nat) {wr : Int} {o : Nat} {t : Int64} (hp1 : p < PR) (hPB : PB P PR) (hw : 0 ≤ wr ∧ wr ≤ 2) (ho : o ≤ 24) (hN : 60000 ≤ N) (m : Nat) (w : MS) (hs : ESI Fv P PR w) (te : TE Fv P w PR o t) (hm : 700 < m) : OK (fun w2 _ => EPO Fv P PR w w2) ((gg_M_end N m).2.1 w (I p) (I wr) (I o) t) :=
  e129 p hp1 hPB hw ho hN m w hs te (by have := (hs.2.1.1 p hp1).2.1; omega)
theorem e86 (p : Nat) {wr : Int} {o L : Nat} {t : Int64} (hp1 : p < PR) (hPB : PB P PR) (hw : 0 ≤ wr ∧ wr ≤ 2) (ho : o ≤ 24) (hN : 60000 ≤ N) (hL : L ≤ 100) : ∀ (m k : Nat) (w : MS), ESI Fv P PR w → TE Fv P w PR o t → A w 132 p = L → k ≤ L → (L - k) + 800 < m → OK (fun w2 _ => EPX Fv P PR w w2) ((gg_M_end N m).1 w (I p) (I wr) (I o) t (I k)) := by
  intro m
  induction m with
  | zero => intro k w _ _ _ _ z; exact absurd z (Nat.not_lt_zero _)
  | succ m ih =>
    intro k w hs te hA hk hm
    have pr := hs.1.1.2
    show OK _ (fb_M_end_86 N (gg_M_end N m) w (I p) (I wr) (I o) t (I k))
    unfold fb_M_end_86
    rw [inb_at (k := 132) (n := 24) rfl (by omega) (by omega) (by decide), ck_t, I_tn (x := (p : Int)) (by omega) (by omega), Int.toNat_natCast, I_A' hA, decI (by omega) (by omega) (by omega) (by omega)]
    by_cases e : L ≤ k
    · rw [decide_eq_true (by omega), br_tq, inb_at (k := 113) (n := 24) rfl (by omega) (by omega) (by decide), ck_t, lt_e, litm1q, wa_e]
      have f1 : FR [] [] [113] [] w (wa w 113 p (-1)) := FR.wa FR.rf (by decide)
      have hs1 : ESI Fv P PR (wa w 113 p (-1)) := ESI_fr hs f1 (by decide) (by decide) (by decide) (by decide) (by decide) (by decide) (by decide) (by decide) (by decide) (by decide) (by decide) (by decide) (by decide) (by decide) (by decide) (by decide) (by decide) (by decide) (by decide) (by decide) (by decide) (by decide)
      have k1 : KEEP w (wa w 113 p (-1)) PR := KEEP.fr f1 (by decide) (by decide) (by decide)
      exact ok_mono (e129r p hp1 hPB hw ho hN m _ hs1 (TE_keep k1 te) (by omega)) (fun w2 _ h => ⟨h.1, EVX.tr (EVX.fr f1 (by decide) (by decide) (by decide) (by decide) (by decide) (by decide)) h.2.1.evx, KEEP.tr k1 h.2.2⟩)
    · rw [decide_eq_false (by omega), br_fq, inb_at (k := 143) (n := 100) rfl (by omega) (by omega) (by decide), ck_t, lit100, I_mul, I_add, inb_at (k := 131) (n := 2400) rfl (by omega) (by omega) (by decide), ck_t, lt_e, I_tn (by omega) (by omega), I_tn (by omega) (by omega)]
      generalize vp_nar .byte (w.2.2.1 143 (k : Int).toNat) = b
      rw [I_of b, wa_e, lit1q, I_add]
      generalize hv : wa w 131 (100 * (p : Int) + (k : Int)).toNat b.toInt = v
      have f1 : FR [] [] [131] [] w v := by rw [← hv]; exact FR.wa FR.rf (by decide)
      have hs1 : ESI Fv P PR v := ESI_fr hs f1 (by decide) (by decide) (by decide) (by decide) (by decide) (by decide) (by decide) (by decide) (by decide) (by decide) (by decide) (by decide) (by decide) (by decide) (by decide) (by decide) (by decide) (by decide) (by decide) (by decide) (by decide) (by decide)
      have k1 : KEEP w v PR := KEEP.fr f1 (by decide) (by decide) (by decide)
      exact ok_mono (ih (k + 1) v hs1 (TE_keep k1 te) (by rw [FR.A f1 (by decide)]; exact hA) (by omega) (by omega)) (fun w2 _ h => ⟨h.1, EVX.tr (EVX.fr f1 (by decide) (by decide) (by decide) (by decide) (by decide) (by decide)) h.2.1, KEEP.tr k1 h.2.2⟩)
theorem writeTE {B : Int} (hB : 6000 ≤ B ∧ B ≤ 90000) {o : Nat} {t : Int64} (te : TE Fv P w PR o t) (ho : o ≤ 24) (hat : ATM w) (hP : ∀ t, P t → PA w t) (hS : PS P) (h1 : 0 ≤ F w 144) (h2 : F w 144 ≤ B) (hN : 11000000 ≤ N) : OK (fun w2 _ => FR [144] [] [143] [141] w w2 ∧ 0 ≤ F w2 144 ∧ F w2 144 ≤ B) (fm_M_writeOn N w (I o) t) := by
  rcases te with ⟨a, b⟩ | ⟨-, -, n, ow, kd, c1, c2, c3, c4⟩
  · exact writeOn_ok (Fv := Fv) (n := 0) hB (show o < 25 by omega) (by omega) HP_none hat hP hS (Or.inl ⟨a, b⟩) h1 h2 hN
  · exact writeOn_ok hB (show o < 25 by omega) c2 c3 hat hP hS c4 h1 h2 hN
def TF (w w2 : MS) : Prop := FR [144] [] [143] [141] w w2 ∧ 0 ≤ F w2 144 ∧ F w2 144 ≤ 40000
theorem e59 (p : Nat) {wr : Int} {o : Nat} {t : Int64} (hp1 : p < PR) (hPB : PB P PR) (hw : 0 ≤ wr ∧ wr ≤ 2) (ho : o ≤ 24) (hN : 11000000 ≤ N) (hs : ESI Fv P PR w) (te : TE Fv P w PR o t) (h1 : 0 ≤ F w 144) : OK (fun w2 _ => EPX Fv P PR w w2) (fb_M_end_59 N (gg_M_end N N) w (I p) (I wr) (I o) t) := by
  have pr := hs.1.1.2
  have hr := F_r w 144
  have go : ∀ x : Int, 0 ≤ x → x ≤ 100 → OK (fun w2 _ => EPX Fv P PR w w2) (fb_M_end_82 N (gg_M_end N N) w (I p) (I wr) (I o) t 132 (I p) (I x)) := by
    intro x x0 x1
    unfold fb_M_end_82
    rw [show isK 132 4 = true from by decide, ck_t, inb_at (k := 132) (n := 24) rfl (by omega) (by omega) (by decide), ck_t, lt_e, I_tn (by omega) (by omega), Int.toNat_natCast, wa_e, lit0q]
    have f1 : FR [] [] [132] [] w (wa w 132 p x) := FR.wa FR.rf (by decide)
    have hs1 : ESI Fv P PR (wa w 132 p x) := ESI_fr hs f1 (by decide) (by decide) (by decide) (by decide) (by decide) (by decide) (by decide) (by decide) (by decide) (by decide) (by decide) (by decide) (by decide) (by decide) (by decide) (by decide) (by decide) (by decide) (by decide) (by decide) (by decide) (by decide)
    have k1 : KEEP w (wa w 132 p x) PR := KEEP.fr f1 (by decide) (by decide) (by decide)
    exact ok_mono (e86 p (L := x.toNat) hp1 hPB hw ho (by omega) (by omega) N 0 _ hs1 (TE_keep k1 te) (by rw [A_eq (by omega) (by omega), if_pos rfl]; omega) (Nat.zero_le _) (by omega)) (fun w2 _ h => ⟨h.1, EVX.tr ⟨FR.mo f1 (by decide) (by decide) (by decide) (by decide), fun p => Or.inl (FR.A f1 (by decide)), fun i => by
      rw [A_eq (by omega) (by omega)]
      split
      · exact Or.inr ⟨x0, x1⟩
      · exact Or.inl rfl⟩ h.2.1, KEEP.tr k1 h.2.2⟩)
  unfold fb_M_end_59
  rw [I_F, lit100, decI (by omega) (by omega) (by omega) (by omega)]
  by_cases e : F w 144 ≤ 100
  · rw [decide_eq_true e, br_tq]; exact go _ h1 e
  · rw [decide_eq_false e, br_fq]; exact go 100 (by omega) (by omega)
theorem end_ok (p : Nat) {wr : Int} {o : Nat} {t : Int64} (hp1 : p < PR) (hPB : PB P PR) (hw : 0 ≤ wr ∧ wr ≤ 2) (ho : o ≤ 24) (hN : 11000000 ≤ N) (hs : ESI Fv P PR w) (te : TE Fv P w PR o t) (hat : ATM w) (hP : ∀ t, P t → PA w t) (hS : PS P) : OK (fun w2 _ => EPX Fv P PR w w2) (fm_M_end N w (I p) (I wr) (I o) t) := by
  have pr := hs.1.1.2
  have base : ∀ v, FR [144] [] [143] [141] w v → ESI Fv P PR v ∧ TE Fv P v PR o t ∧ ATM v ∧ (∀ t, P t → PA v t) ∧ KEEP w v PR ∧ EVX w v := fun v f => by
    have k := KEEP.fr (PR := PR) f (by decide) (by decide) (by decide)
    exact ⟨ESI_fr hs f (by decide) (by decide) (by decide) (by decide) (by decide) (by decide) (by decide) (by decide) (by decide) (by decide) (by decide) (by decide) (by decide) (by decide) (by decide) (by decide) (by decide) (by decide) (by decide) (by decide) (by decide) (by decide), TE_keep k te, ATM_fr hat f (by decide) (by decide), PA_fr hP f (by decide), k, EVX.fr f (by decide) (by decide) (by decide) (by decide) (by decide) (by decide)⟩
  have fin : ∀ v, FR [144] [] [143] [141] w v → 0 ≤ F v 144 → OK (fun w2 _ => EPX Fv P PR w w2) (fb_M_end_59 N (gg_M_end N N) v (I p) (I wr) (I o) t) := fun v f h => by
    obtain ⟨b1, b2, -, -, b5, b6⟩ := base v f
    exact ok_mono (e59 p hp1 hPB hw ho hN b1 b2 h) (fun w2 _ q => ⟨q.1, EVX.tr b6 q.2.1, KEEP.tr b5 q.2.2⟩)
  have e42 : ∀ v, FR [144] [] [143] [141] w v → 0 ≤ F v 144 → F v 144 ≤ 30000 → OK (fun w2 _ => EPX Fv P PR w w2) (fb_M_end_42 N (gg_M_end N N) v (I p) (I wr) (I o) t) := fun v f h1 h2 => by
    obtain ⟨b1, b2, b3, b4, b5, b6⟩ := base v f
    unfold fb_M_end_42
    refine ok_bnd.mpr (ok_mono (writeTE (B := 30000) (by omega) b2 ho b3 b4 hS h1 h2 hN) (fun v2 _ q => ?_))
    obtain ⟨q1, q2, q3⟩ := q
    refine ok_br.mpr ⟨fun _ => fin v2 (FR.tr f q1) q2, fun _ => ok_bnd.mpr (ok_mono (sign_ok q2 (by omega)) (fun v3 _ r => ?_))⟩
    exact fin v3 (FR.tr (FR.tr f q1) (FR.mo r.1.1 (by decide) (by decide) (by decide) (by decide))) (by have := r.2; omega)
  have e30 : ∀ v (x : Int), FR [144] [] [143] [141] w v → 0 ≤ F v 144 → F v 144 ≤ 6000 → 0 ≤ x → x < 22 → OK (fun w2 _ => EPX Fv P PR w w2) (fb_M_end_30 N (gg_M_end N N) v (I p) (I wr) (I o) t (I p) 1 (I x)) := fun v x f h1 h2 x0 x1 => by
    obtain ⟨b1, b2, b3, b4, b5, b6⟩ := base v f
    unfold fb_M_end_30
    rw [lit1q, term_e, bnd_so]
    refine ok_bnd.mpr (ok_mono (writeOn_ok (B := 6000) (Fv := Fv) (n := 0) (by omega) (show p < 25 by omega) (by omega) HP_none b3 b4 hS (Or.inl ⟨nh_mk (by omega), hPB.1 x x0 x1⟩) h1 h2 hN) (fun v2 _ q => ?_))
    obtain ⟨q1, q2, q3⟩ := q
    refine ok_bnd.mpr (ok_mono (sign_ok q2 (by omega)) (fun v3 _ r => ?_))
    exact e42 v3 (FR.tr (FR.tr f q1) (FR.mo r.1.1 (by decide) (by decide) (by decide) (by decide))) (by have := r.2; omega) (by have := r.2; omega)
  unfold fm_M_end fb_M_end_0
  rw [lit0q, lt_e, wi_e, decI (by omega) (by omega) (by omega) (by omega)]
  have f0 : FR [144] [] [143] [141] w (wi w 144 0) := FR.wi FR.rf (by decide)
  have z0 : F (wi w 144 0) 144 = 0 := by rw [F_wi (by omega) (by omega), if_pos rfl]
  by_cases e : wr ≤ 0
  · rw [decide_eq_true e, br_tq]
    exact e42 _ f0 (by omega) (by omega)
  · rw [decide_eq_false e, br_fq]
    refine ok_bnd.mpr (ok_mono (sign_ok (by omega) (by omega)) (fun v _ r => ?_))
    have fv : FR [144] [] [143] [141] w v := FR.tr f0 (FR.mo r.1.1 (by decide) (by decide) (by decide) (by decide))
    have := r.2
    exact ok_br.mpr ⟨fun _ => e30 v 7 fv (by omega) (by omega) (by omega) (by omega), fun _ => e30 v 19 fv (by omega) (by omega) (by omega) (by omega)⟩
theorem ae_loop (hPB : PB P PR) (hS : PS P) (hN : 11000000 ≤ N) : ∀ (m : Nat) (w : MS), ESI Fv P PR w → ATM w → (∀ t, P t → PA w t) → 24 - (F w 149).toNat < m → OK (fun w2 _ => ESI Fv P PR w2 ∧ FR [125, 136, 138, 140, 144, 149, 150] [139] [89, 90, 108, 109, 113, 116, 117, 122, 123, 124, 131, 132, 135, 142, 143, 145, 146, 147] [88, 91, 93, 107, 134, 137, 141, 148] w w2 ∧ (∀ p, A w2 109 p = A w 109 p ∨ A w2 109 p = 3) ∧ RLo w w2 ∧ F w2 149 = 0 ∧ F w2 150 = 0) (gg_M_allEnds N m w) := by
  intro m
  induction m with
  | zero => intro w _ _ _ z; exact absurd z (Nat.not_lt_zero _)
  | succ m ih =>
    intro w hs hat hP hm
    have pr := hs.1.1.2
    have d := hs.1
    obtain ⟨⟨d1, d1'⟩, d2, d3, d4, ⟨eF, eM, e1, e2, e3, e4, e5⟩, d6⟩ := id d
    have hc := cE_le w PR
    show OK _ (fb_M_allEnds_0 N (gg_M_allEnds N m) w)
    unfold fb_M_allEnds_0
    rw [I_F' e1, I_F' e2, decI (by omega) (by omega) (by omega) (by omega)]
    by_cases e : eM ≤ eF
    · rw [decide_eq_true (by omega), br_tq, lt_e, lit0q, wi_e, lt_e, wi_e]
      have f0 : FR [149, 150] [] [] [] w (wi (wi w 149 0) 150 0) := FR.wi (FR.wi FR.rf (by decide)) (by decide)
      have a1 : F (wi (wi w 149 0) 150 0) 149 = 0 := by rw [F_wi (by omega) (by omega), if_neg (by decide), F_wi (by omega) (by omega), if_pos rfl]
      have a2 : F (wi (wi w 149 0) 150 0) 150 = 0 := by rw [F_wi (by omega) (by omega), if_pos rfl]
      refine ok_some.mpr ⟨⟨?_, LK_fr hs.2.1 f0 (by decide) (by decide), WT_fr hs.2.2 f0 (by decide) (by decide) (by decide)⟩, FR.mo f0 (by decide) (by decide) (by decide) (by decide), fun p => Or.inl (FR.A f0 (by decide)), fun i => Or.inl (FR.A f0 (by decide)), a1, a2⟩
      have hpz : ∀ x, hp (wi (wi w 149 0) 150 0) x = hp w x := fun x => rfl
      refine ⟨⟨by rw [FR.F f0 (by decide)]; exact d1, d1'⟩, fun p hp1 => PRC_same (d2 p hp1) (FR.A f0 (by decide)) (hpz p) (FR.A f0 (by decide)) (FR.A f0 (by decide)) (FR.A f0 (by decide)) (fun _ _ => rfl) (fun _ _ => rfl) (fun _ _ => rfl) (by rw [FR.F f0 (by decide), d4]; omega), d3, by rw [FR.F f0 (by decide)]; exact d4, ⟨0, 0, a1, a2, Nat.le_refl _, Nat.zero_le _, fun i h1 h2 => absurd h2 (Nat.not_lt_zero _)⟩, fun p hp1 => by rw [FR.A f0 (by decide)]; exact d6 p hp1⟩
    · obtain ⟨q1, q2, q3, q4⟩ := e5 eF (Nat.le_refl _) (by omega)
      rw [decide_eq_false (by omega), br_fq, lt_e, lit1q, I_add, wi_e, inb_at (k := 145) (n := 4000) rfl (by omega) (by omega) (by decide), ck_t, inb_at (k := 146) (n := 4000) rfl (by omega) (by omega) (by decide), ck_t, inb_at (k := 147) (n := 4000) rfl (by omega) (by omega) (by decide), ck_t, inb_at (k := 148) (n := 4000) rfl (by omega) (by omega) (by decide), ck_t, I_tn (by omega) (by omega), Int.toNat_natCast]
      have f0 : FR [149] [] [] [] w (wi w 149 ((eF : Int) + 1)) := FR.wi FR.rf (by decide)
      have a1 : F (wi w 149 ((eF : Int) + 1)) 149 = (eF : Int) + 1 := by rw [F_wi (by omega) (by omega), if_pos rfl]
      have k0 : KEEP w (wi w 149 ((eF : Int) + 1)) PR := KEEP.fr f0 (by decide) (by decide) (by decide)
      have dv : DW Fv P PR (wi w 149 ((eF : Int) + 1)) := by
        refine ⟨⟨by rw [FR.F f0 (by decide)]; exact d1, d1'⟩, fun p hp1 => PRC_same (d2 p hp1) rfl rfl rfl rfl rfl (fun _ _ => rfl) (fun _ _ => rfl) (fun _ _ => rfl) (by rw [FR.F f0 (by decide), d4]; omega), d3, by rw [FR.F f0 (by decide)]; exact d4, ⟨eF + 1, eM, by rw [a1]; omega, by rw [FR.F f0 (by decide)]; exact e2, by omega, by rw [cE_eq (w := w) (w2 := wi w 149 ((eF : Int) + 1)) PR (fun _ _ => rfl)]; exact e4, fun i h1 h2 => ?_⟩, d6⟩
        obtain ⟨r1, r2, r3, r4⟩ := e5 i (by omega) h2
        exact ⟨r1, r2, r3, TE_keep k0 r4⟩
      have hs1 : ESI Fv P PR (wi w 149 ((eF : Int) + 1)) := ⟨dv, LK_fr hs.2.1 f0 (by decide) (by decide), WT_fr hs.2.2 f0 (by decide) (by decide) (by decide)⟩
      have r1 : (wi w 149 ((eF : Int) + 1)).2.2.1 145 eF = I (((A w 145 eF).toNat : Nat) : Int) := I_A' (show A w 145 eF = _ by omega)
      have r2 : (wi w 149 ((eF : Int) + 1)).2.2.1 146 eF = I (A w 146 eF) := I_A
      have r3 : (wi w 149 ((eF : Int) + 1)).2.2.1 147 eF = I (((A w 147 eF).toNat : Nat) : Int) := I_A' (show A w 147 eF = _ by omega)
      rw [r1, r2, r3]
      have te : TE Fv P (wi w 149 ((eF : Int) + 1)) PR (A w 147 eF).toNat ((wi w 149 ((eF : Int) + 1)).2.2.2 148 eF) := TE_keep k0 q4
      refine ok_bnd.mpr (ok_mono (end_ok (A w 145 eF).toNat (by omega) hPB q2 (by omega) hN hs1 te (ATM_fr hat f0 (by decide) (by decide)) (PA_fr hP f0 (by decide)) hS) (fun v _ hv => ?_))
      obtain ⟨v1, ⟨v2, v3, v4⟩, -⟩ := hv
      have f149 : F v 149 = (eF : Int) + 1 := by rw [FR.F v2 (by decide)]; exact a1
      have fv : FR [125, 136, 138, 140, 144, 149, 150] [139] [89, 90, 108, 109, 113, 116, 117, 122, 123, 124, 131, 132, 135, 142, 143, 145, 146, 147] [88, 91, 93, 107, 134, 137, 141, 148] w v := FR.tr (FR.mo f0 (by decide) (by decide) (by decide) (by decide)) (FR.mo v2 (by decide) (by decide) (by decide) (by decide))
      refine ok_mono (ih v v1 (ATM_fr hat fv (by decide) (by decide)) (PA_fr hP fv (by decide)) (by omega)) (fun w2 _ h => ?_)
      obtain ⟨h1, h2, h3, h4, h5⟩ := h
      refine ⟨h1, FR.tr fv h2, fun p => ?_, RLo.tr (fun i => v4 i) h4, h5⟩
      rcases h3 p with z | z
      · rw [z]; exact v3 p
      · exact Or.inr z
theorem allEnds_ok (hPB : PB P PR) (hS : PS P) (hN : 11000000 ≤ N) (hs : ESI Fv P PR w) (hat : ATM w) (hP : ∀ t, P t → PA w t) : OK (fun w2 _ => ESI Fv P PR w2 ∧ FR [125, 136, 138, 140, 144, 149, 150] [139] [89, 90, 108, 109, 113, 116, 117, 122, 123, 124, 131, 132, 135, 142, 143, 145, 146, 147] [88, 91, 93, 107, 134, 137, 141, 148] w w2 ∧ (∀ p, A w2 109 p = A w 109 p ∨ A w2 109 p = 3) ∧ RLo w w2 ∧ F w2 149 = 0 ∧ F w2 150 = 0) (fm_M_allEnds N w) := by
  have : fm_M_allEnds N w = gg_M_allEnds N (N + 1) w := rfl
  rw [this]
  exact ae_loop hPB hS hN (N + 1) w hs hat hP (by omega)
end
end
section
def MEI (Fv : Int64 → Int64 → Prop) (P : Int64 → Prop) (PR : Nat) (w : MS) (p n : Nat) (ow kd : Nat → Nat) (opM bnM bxM : Nat) : Prop :=
  DW Fv P PR w ∧ p < PR ∧ F w 133 = p ∧ A w 109 p ≠ 3 ∧ A w 89 p = ((n : Nat) : Int) ∧ CX w p (hp w p) n ow kd Fv P opM bnM bxM
section
variable {Fv : Int64 → Int64 → Prop} {P : Int64 → Prop} {w w2 : MS} {PR N p n opM bnM bxM n2 opM2 bnM2 bxM2 : Nat} {ow kd ow2 kd2 : Nat → Nat}
theorem MEI_upd (m : MEI Fv P PR w p n ow kd opM bnM bxM) (f : FR [136, 138, 140] [139] [89, 90, 92, 94, 108, 135, 142] [88, 91, 93, 107, 134, 137, 141] w w2) (f140 : F w2 140 = -1) (h89 : ∀ q, q ≠ p → A w2 89 q = A w 89 q) (h92 : ∀ q, q ≠ p → A w2 92 q = A w 92 q) (h94 : ∀ q, q ≠ p → A w2 94 q = A w 94 q) (h108 : ∀ q, q ≠ p → A w2 108 q = A w 108 q)
    (h88 : ∀ i, ¬ (500 * p ≤ i ∧ i < 500 * p + 500) → w2.2.2.2 88 i = w.2.2.2 88 i) (h91 : ∀ i, ¬ (46000 * p ≤ i ∧ i < 46000 * p + 46000) → w2.2.2.2 91 i = w.2.2.2 91 i) (h93 : ∀ i, ¬ (2500 * p ≤ i ∧ i < 2500 * p + 2500) → w2.2.2.2 93 i = w.2.2.2 93 i) (h107 : ∀ i, ¬ (30 * p ≤ i ∧ i < 30 * p + 30) → w2.2.2.2 107 i = w.2.2.2 107 i)
    (c89 : A w2 89 p = ((n2 : Nat) : Int)) (cx : CX w2 p (hp w2 p) n2 ow2 kd2 Fv P opM2 bnM2 bxM2) : MEI Fv P PR w2 p n2 ow2 kd2 opM2 bnM2 bxM2 := by
  obtain ⟨m1, m2, m3, m4, m5, m6⟩ := m
  exact ⟨DW_q m1 m2 m4 ⟨n2, ow2, kd2, opM2, bnM2, bxM2, c89, cx⟩ f f140 h89 h92 h94 h108 h88 h91 h93 h107, m2, by rw [FR.F f (by decide)]; exact m3, by rw [FR.A f (by decide)]; exact m4, c89, cx⟩
theorem MEI_p (m : MEI Fv P PR w p n ow kd opM bnM bxM) : p < 24 := m.2.2.2.2.2.2.2.2.1
theorem put_ok {t : Int64} (m : MEI Fv P PR w p n ow kd opM bnM bxM) (g : GT n ow kd P t) (ho : opM < 46000) : OK (fun w2 _ => w2 = wa (wj w 91 (46000 * p + opM) t) 92 p ((opM : Int) + 1) ∧ MEI Fv P PR w2 p n ow kd (opM + 1) bnM bxM) (fm_M_put N w t) := by
  have m' := m
  obtain ⟨m1, m2, m3, m4, m5, ⟨x1, x2, x3, x4, x5, x6, x7, x8, x9, x10, x11⟩⟩ := m
  have f140 := m1.2.2.2.1
  unfold fm_M_put fb_M_put_0
  rw [I_F' m3, inb_at (k := 92) (n := 24) rfl (by omega) (by omega) (by decide), ck_t, I_tn (x := (p : Int)) (by omega) (by omega), Int.toNat_natCast, I_A' x5.1, show (46000 : Int32) = I 46000 from rfl, I_mul, I_add, inb_at (k := 91) (n := 1104000) rfl (by omega) (by omega) (by decide), ck_t, lt_e, I_tn (by omega) (by omega), show ((p : Int) * 46000 + (opM : Int)).toNat = 46000 * p + opM from by omega, wj_e]
  rw [show (wj w 91 (46000 * p + opM) t).1 133 = I p from I_F' m3, inb_at (k := 92) (n := 24) rfl (by omega) (by omega) (by decide), ck_t, ck_t, lt_e, I_tn (by omega) (by omega), Int.toNat_natCast, show (wj w 91 (46000 * p + opM) t).2.2.1 92 p = I opM from I_A' x5.1, lit1q, I_add, wa_e]
  generalize hz : wa (wj w 91 (46000 * p + opM) t) 92 p ((opM : Int) + 1) = z
  have fz : FR [] [] [92] [91] w z := by rw [← hz]; exact FR.wa (FR.wj FR.rf (by decide)) (by decide)
  have a92 : ∀ i, A z 92 i = if i = p then (opM : Int) + 1 else A w 92 i := fun i => by rw [← hz, A_eq (by omega) (by omega)]; rfl
  have j91 : ∀ i, z.2.2.2 91 i = if i = 46000 * p + opM then t else w.2.2.2 91 i := fun i => by rw [← hz, J_wa, J_wj, if_pos rfl]
  have hpz : hp z p = hp w p := by unfold hp; rw [fz.2.2.2 88 (by decide)]
  have z140 : F z 140 = -1 := by rw [FR.F fz (by decide)]; exact f140
  refine ok_some.mpr ⟨rfl, MEI_upd m' (FR.mo fz (by decide) (by decide) (by decide) (by decide)) z140 (fun q _ => FR.A fz (by decide)) (fun q hq => by rw [a92, if_neg hq]) (fun q _ => FR.A fz (by decide)) (fun q _ => FR.A fz (by decide)) (fun i _ => by rw [fz.2.2.2 88 (by decide)]) (fun i hi => by rw [j91, if_neg (by omega)]) (fun i _ => by rw [fz.2.2.2 93 (by decide)]) (fun i _ => by rw [fz.2.2.2 107 (by decide)]) (by rw [FR.A fz (by decide)]; exact m5) ⟨rfl, by rw [hpz]; exact x2, x3, x4, ⟨by rw [a92, if_pos rfl]; omega, by omega⟩, by rw [FR.A fz (by decide)]; exact x6, by rw [FR.A fz (by decide)]; exact x7, fun i hi => ?_, fun i hi => by rw [fz.2.2.2 93 (by decide)]; exact x9 i hi, fun i hi => by rw [fz.2.2.2 107 (by decide)]; exact x10 i hi, fun e => by omega⟩⟩
  rw [j91]
  by_cases e : i = opM
  · subst e; rw [if_pos rfl]; exact g
  · rw [if_neg (by omega)]; exact x8 i (by omega)
theorem ops_less (m : MEI Fv P PR w p n ow kd opM bnM bxM) {k : Nat} (hk : k ≤ opM) : MEI Fv P PR (wa w 92 p k) p n ow kd k bnM bxM := by
  have m' := m
  obtain ⟨m1, m2, m3, m4, m5, ⟨x1, x2, x3, x4, x5, x6, x7, x8, x9, x10, x11⟩⟩ := m
  have fz : FR [] [] [92] [] w (wa w 92 p k) := FR.wa FR.rf (by decide)
  exact MEI_upd m' (FR.mo fz (by decide) (by decide) (by decide) (by decide)) m1.2.2.2.1 (fun q _ => FR.A fz (by decide)) (fun q hq => by rw [A_eq (by omega) (by omega), if_neg hq]) (fun q _ => FR.A fz (by decide)) (fun q _ => FR.A fz (by decide)) (fun _ _ => rfl) (fun _ _ => rfl) (fun _ _ => rfl) (fun _ _ => rfl) (by rw [FR.A fz (by decide)]; exact m5) ⟨rfl, x2, x3, x4, ⟨by rw [A_eq (by omega) (by omega), if_pos rfl], by omega⟩, by rw [FR.A fz (by decide)]; exact x6, by rw [FR.A fz (by decide)]; exact x7, fun i hi => x8 i (by omega), x9, x10, fun e => by have : F w 140 = p := e; have := m1.2.2.2.1; omega⟩
theorem names_less (m : MEI Fv P PR w p n ow kd opM bnM bxM) {k : Nat} (hk : k ≤ bnM) : MEI Fv P PR (wa w 94 p k) p n ow kd opM k bxM := by
  have m' := m
  obtain ⟨m1, m2, m3, m4, m5, ⟨x1, x2, x3, x4, x5, x6, x7, x8, x9, x10, x11⟩⟩ := m
  have fz : FR [] [] [94] [] w (wa w 94 p k) := FR.wa FR.rf (by decide)
  exact MEI_upd m' (FR.mo fz (by decide) (by decide) (by decide) (by decide)) m1.2.2.2.1 (fun q _ => FR.A fz (by decide)) (fun q _ => FR.A fz (by decide)) (fun q hq => by rw [A_eq (by omega) (by omega), if_neg hq]) (fun q _ => FR.A fz (by decide)) (fun _ _ => rfl) (fun _ _ => rfl) (fun _ _ => rfl) (fun _ _ => rfl) (by rw [FR.A fz (by decide)]; exact m5) ⟨rfl, x2, x3, x4, by rw [FR.A fz (by decide)]; exact x5, ⟨by rw [A_eq (by omega) (by omega), if_pos rfl], by omega⟩, by rw [FR.A fz (by decide)]; exact x7, x8, fun i hi => x9 i (by omega), x10, fun e => by have : F w 140 = p := e; have := m1.2.2.2.1; omega⟩
theorem take_ok (m : MEI Fv P PR w p n ow kd (opM + 1) bnM bxM) : OK (fun w2 r => w2 = wa w 92 p opM ∧ r = w.2.2.2 91 (46000 * p + opM) ∧ GT n ow kd P r ∧ MEI Fv P PR w2 p n ow kd opM bnM bxM) (fm_M_take N w) := by
  have m' := m
  obtain ⟨m1, m2, m3, m4, m5, ⟨x1, x2, x3, x4, x5, x6, x7, x8, x9, x10, x11⟩⟩ := m
  unfold fm_M_take fb_M_take_0
  rw [I_F' m3, inb_at (k := 92) (n := 24) rfl (by omega) (by omega) (by decide), ck_t, ck_t, lt_e, I_tn (x := (p : Int)) (by omega) (by omega), Int.toNat_natCast, I_A' x5.1, lit1q, I_sub, show ((opM + 1 : Nat) : Int) - 1 = (opM : Int) from by omega, wa_e]
  rw [show (wa w 92 p opM).1 133 = I p from I_F' m3, inb_at (k := 92) (n := 24) rfl (by omega) (by omega) (by decide), ck_t, I_tn (x := (p : Int)) (by omega) (by omega), Int.toNat_natCast, I_A' (show A (wa w 92 p opM) 92 p = opM by rw [A_eq (by omega) (by omega), if_pos rfl]), show (46000 : Int32) = I 46000 from rfl, I_mul, I_add, inb_at (k := 91) (n := 1104000) rfl (by omega) (by omega) (by decide), ck_t, I_tn (by omega) (by omega), show ((p : Int) * 46000 + (opM : Int)).toNat = 46000 * p + opM from by omega]
  exact ok_some.mpr ⟨rfl, rfl, x8 opM (by omega), ops_less m' (by omega)⟩
theorem top_ok {k : Nat} (m : MEI Fv P PR w p n ow kd opM bnM bxM) (hk : k < opM) : fm_M_top N w (I k) = some (w, w.2.2.2 91 (46000 * p + (opM - 1 - k))) ∧ GT n ow kd P (w.2.2.2 91 (46000 * p + (opM - 1 - k))) := by
  obtain ⟨m1, m2, m3, m4, m5, ⟨x1, x2, x3, x4, x5, x6, x7, x8, x9, x10, x11⟩⟩ := m
  refine ⟨?_, x8 _ (by omega)⟩
  unfold fm_M_top fb_M_top_0
  rw [I_F' m3, inb_at (k := 92) (n := 24) rfl (by omega) (by omega) (by decide), ck_t, I_tn (x := (p : Int)) (by omega) (by omega), Int.toNat_natCast, I_A' x5.1, show (46000 : Int32) = I 46000 from rfl, I_mul, I_add, lit1q, I_sub, I_sub, inb_at (k := 91) (n := 1104000) rfl (by omega) (by omega) (by decide), ck_t, I_tn (by omega) (by omega), show ((p : Int) * 46000 + (opM : Int) - 1 - (k : Int)).toNat = 46000 * p + (opM - 1 - k) from by omega]
theorem MEI_fr {is ls as js : List Nat} (m : MEI Fv P PR w p n ow kd opM bnM bxM) (f : FR is ls as js w w2) (i0 : 133 ∉ is) (i1 : 118 ∉ is) (i2 : 140 ∉ is) (i3 : 149 ∉ is) (i4 : 150 ∉ is) (a1 : 89 ∉ as) (a2 : 92 ∉ as) (a3 : 94 ∉ as) (a4 : 108 ∉ as) (a5 : 109 ∉ as) (a6 : 145 ∉ as) (a7 : 146 ∉ as) (a8 : 147 ∉ as) (j1 : 88 ∉ js) (j2 : 91 ∉ js) (j3 : 93 ∉ js) (j4 : 107 ∉ js) (j5 : 148 ∉ js) : MEI Fv P PR w2 p n ow kd opM bnM bxM := by
  obtain ⟨m1, m2, m3, m4, m5, ⟨x1, x2, x3, x4, x5, x6, x7, x8, x9, x10, x11⟩⟩ := m
  have hpz : hp w2 p = hp w p := by unfold hp; rw [f.2.2.2 88 j1]
  have f140 : F w2 140 = -1 := by rw [FR.F f i2]; exact m1.2.2.2.1
  exact ⟨DW_fr m1 f i1 i2 i3 i4 a1 a2 a3 a4 a5 a6 a7 a8 j1 j2 j3 j4 j5, m2, by rw [FR.F f i0]; exact m3, by rw [FR.A f a5]; exact m4, by rw [FR.A f a1]; exact m5, rfl, by rw [hpz]; exact x2, x3, x4, by rw [FR.A f a2]; exact x5, by rw [FR.A f a3]; exact x6, by rw [FR.A f a4]; exact x7, fun i hi => by rw [f.2.2.2 91 j2]; exact x8 i hi, fun i hi => by rw [f.2.2.2 93 j3]; exact x9 i hi, fun i hi => by rw [f.2.2.2 107 j4]; exact x10 i hi, fun e => by omega⟩
end
end
section
section
variable {Fv : Int64 → Int64 → Prop} {P : Int64 → Prop} {w w2 : MS} {PR N p n opM bnM bxM : Nat} {ow kd : Nat → Nat}
theorem MEI_alloc {m : Nat} {x : Int64} (i : MEI Fv P PR w p n ow kd opM bnM bxM) (f : FR [] [] [89] [88] w w2) (h89 : ∀ q, A w2 89 q = if q = p then ((n + m : Nat) : Int) else A w 89 q) (h5 : n + m ≤ 500) (h88 : ∀ j, ¬ (500 * p + n ≤ j ∧ j < 500 * p + n + m) → w2.2.2.2 88 j = w.2.2.2 88 j)
    (hx : isH x) (h0 : 0 ≤ va x) (hv : vn x = n) (hb : blk (hp w2 p) x = m) (b2 : so x = 5 → HDC (hp w2 p n)) (b3 : so x = 3 → 0 ≤ va (hp w2 p (n + 1)) ∧ Fv (hp w2 p n) (hp w2 p (n + 1))) (hg : ∀ j, prt x ≤ j → j < m → GT n ow kd P (hp w2 p (n + j)))
    (hs : (so x = 5 ∧ m = 3 ∧ ¬ isH (hp w2 p (n + 1))) ∨ ∀ f c, (∀ j, prt x ≤ j → j < m → SZ (hp w p) n ow kd Fv P f (hp w2 p (n + j)) (c j)) → m + smm c (prt x) (m - prt x) ≤ 500) :
    ∃ ow2 kd2, MEI Fv P PR w2 p (n + m) ow2 kd2 opM bnM bxM ∧ GT (n + m) ow2 kd2 P x ∧ (∀ t, GT n ow kd P t → GT (n + m) ow2 kd2 P t) ∧ (∀ f t s, SZ (hp w p) n ow kd Fv P f t s → SZ (hp w2 p) (n + m) ow2 kd2 Fv P f t s) := by
  have i' := i
  obtain ⟨m1, m2, m3, m4, m5, ⟨x1, x2, x3, x4, x5, x6, x7, x8, x9, x10, x11⟩⟩ := i
  have cell : ∀ j, j < n → hp w2 p j = hp w p j := fun j hj => by unfold hp; exact h88 _ (by omega)
  obtain ⟨ow2, kd2, g1, g2, g3, g4, -⟩ := HP_new x2 cell hx h0 hv hb b2 b3 hg hs
  have f140 : F w2 140 = -1 := by rw [FR.F f (by decide)]; exact m1.2.2.2.1
  refine ⟨ow2, kd2, MEI_upd i' (FR.mo f (by decide) (by decide) (by decide) (by decide)) f140 (fun q hq => by rw [h89, if_neg hq]) (fun q _ => FR.A f (by decide)) (fun q _ => FR.A f (by decide)) (fun q _ => FR.A f (by decide)) (fun j hj => h88 j (by omega)) (fun _ _ => by rw [f.2.2.2 91 (by decide)]) (fun _ _ => by rw [f.2.2.2 93 (by decide)]) (fun _ _ => by rw [f.2.2.2 107 (by decide)]) (by rw [h89, if_pos rfl]) ⟨rfl, g1, h5, x4, by rw [FR.A f (by decide)]; exact x5, by rw [FR.A f (by decide)]; exact x6, by rw [FR.A f (by decide)]; exact x7, fun j hj => by rw [f.2.2.2 91 (by decide)]; exact g3 _ (x8 j hj), fun j hj => by rw [f.2.2.2 93 (by decide)]; exact g3 _ (x9 j hj), fun j hj => by rw [f.2.2.2 107 (by decide)]; exact g3 _ (x10 j hj), fun e => by omega⟩, g2, g3, g4⟩
theorem two_ok {a : Int} {t : Int64} (i : MEI Fv P PR w p n ow kd opM bnM bxM) (hPB : PB P PR) (ha : 0 ≤ a ∧ a < 22) (g : GT n ow kd P t) (h5 : n + 3 ≤ 500) :
    OK (fun w2 r => FR [] [] [89] [88] w w2 ∧ ∃ ow2 kd2, MEI Fv P PR w2 p (n + 3) ow2 kd2 opM bnM bxM ∧ GT (n + 3) ow2 kd2 P r ∧ (∀ t, GT n ow kd P t → GT (n + 3) ow2 kd2 P t)) (fm_M_two N w (I a) t) := by
  have x4 := MEI_p i
  have m3 := i.2.2.1
  have m5 := i.2.2.2.2.1
  unfold fm_M_two fb_M_two_0
  rw [I_F' m3, inb_at (k := 89) (n := 25) rfl (by omega) (by omega) (by decide), ck_t, lt_e, I_tn (x := (p : Int)) (by omega) (by omega), Int.toNat_natCast, I_A' m5, lit500, I_mul, I_add, inb_at (k := 88) (n := 12500) rfl (by omega) (by omega) (by decide), ck_t, lt_e, I_tn (by omega) (by omega), show ((p : Int) * 500 + (n : Int)).toNat = 500 * p + n from by omega, wj_e, lit1q, term_e, bnd_so, I_add, inb_at (k := 88) (n := 12500) rfl (by omega) (by omega) (by decide), ck_t, lt_e, I_tn (by omega) (by omega), show ((p : Int) * 500 + (n : Int) + 1).toNat = 500 * p + (n + 1) from by omega, wj_e, show (2 : Int32) = I 2 from rfl, I_add, inb_at (k := 88) (n := 12500) rfl (by omega) (by omega) (by decide), ck_t, lt_e, I_tn (by omega) (by omega), show ((p : Int) * 500 + (n : Int) + 2).toNat = 500 * p + (n + 2) from by omega, wj_e]
  generalize hv : wj (wj (wj w 88 (500 * p + n) 2) 88 (500 * p + (n + 1)) (mk 1 a)) 88 (500 * p + (n + 2)) t = v
  have fv : FR [] [] [89] [88] w v := by rw [← hv]; exact FR.wj (FR.wj (FR.wj FR.rf (by decide)) (by decide)) (by decide)
  have v133 : F v 133 = p := by rw [FR.F fv (by decide)]; exact m3
  have v89 : A v 89 p = n := by rw [← hv]; exact m5
  rw [I_F' v133, inb_at (k := 89) (n := 25) rfl (by omega) (by omega) (by decide), ck_t, ck_t, lt_e, I_tn (x := (p : Int)) (by omega) (by omega), Int.toNat_natCast, I_A' v89, show (3 : Int32) = I 3 from rfl, I_add, wa_e]
  rw [show (wa v 89 p ((n : Int) + 3)).1 133 = I p from I_F' v133, inb_at (k := 89) (n := 25) rfl (by omega) (by omega) (by decide), ck_t, I_tn (x := (p : Int)) (by omega) (by omega), Int.toNat_natCast, I_A' (show A (wa v 89 p ((n : Int) + 3)) 89 p = (n : Int) + 3 by rw [A_eq (by omega) (by omega), if_pos rfl]), I_sub, show (n : Int) + 3 - 3 = (n : Int) from by omega, show (5 : Int32) = I 5 from rfl, term_e, bnd_so]
  have c : ∀ j, hp (wa v 89 p ((n : Int) + 3)) p j = if j = n + 2 then t else if j = n + 1 then mk 1 a else if j = n then 2 else hp w p j := fun j => by
    show hp v p j = _
    rw [← hv, hp_wj, hp_wj, hp_wj]
  have e5 : so (mk 5 (n : Int)) = 5 := so_mk (by omega) (by omega)
  have v5 : va (mk 5 (n : Int)) = n := va_mk (by omega) (by omega)
  have n5 : vn (mk 5 (n : Int)) = n := by unfold vn; rw [v5]; omega
  have va2 : va (2 : Int64) = 2 := by decide
  have c0 : hp (wa v 89 p ((n : Int) + 3)) p n = 2 := by rw [c, if_neg (by omega), if_neg (by omega), if_pos rfl]
  have c1 : hp (wa v 89 p ((n : Int) + 3)) p (n + 1) = mk 1 a := by rw [c, if_neg (by omega), if_pos rfl]
  have c2 : hp (wa v 89 p ((n : Int) + 3)) p (n + 2) = t := by rw [c, if_pos rfl]
  have bb : blk (hp (wa v 89 p ((n : Int) + 3)) p) (mk 5 (n : Int)) = 3 := by unfold blk; rw [e5, n5, c0]; simp; unfold vn; rw [va2]; decide
  have pp : prt (mk 5 (n : Int)) = 1 := by unfold prt; rw [e5]; rfl
  have na : ¬ isH (mk 1 a) := nh_mk (by omega)
  have fz : FR [] [] [89] [88] w (wa v 89 p ((n : Int) + 3)) := FR.wa fv (by decide)
  obtain ⟨ow2, kd2, r1, r2, r3, -⟩ := MEI_alloc (m := 3) (x := mk 5 (n : Int)) i fz (fun q => by
    rw [A_eq (by omega) (by omega)]
    by_cases e : q = p
    · rw [if_pos e, if_pos e]; omega
    · rw [if_neg e, if_neg e, ← hv]; rfl) h5 (fun j hj => by
    show v.2.2.2 88 j = _
    rw [← hv, J_wj, if_pos rfl, if_neg (by omega), J_wj, if_pos rfl, if_neg (by omega), J_wj, if_pos rfl, if_neg (by omega)]) (Or.inr (Or.inl e5)) (by omega) n5 bb (fun _ => by rw [c0]; exact HDC2) (fun e => by omega) (fun j h1 h2 => by
    rw [pp] at h1
    by_cases e : j = 1
    · rw [e, c1]; exact Or.inl ⟨na, hPB.1 a ha.1 ha.2⟩
    · have : j = 2 := by omega
      rw [this, c2]; exact g) (Or.inl ⟨e5, rfl, by rw [c1]; exact na⟩)
  exact ok_some.mpr ⟨fz, ow2, kd2, r1, r2, r3⟩
theorem pair_ok {a b : Int64} {f sa sb : Nat} (i : MEI Fv P PR w p n ow kd opM bnM bxM) (za : SZ (hp w p) n ow kd Fv P f a sa) (zb : SZ (hp w p) n ow kd Fv P f b sb) (h5 : n + 2 ≤ 500) (hs : 2 + sa + sb ≤ 500) :
    OK (fun w2 r => FR [] [] [89] [88] w w2 ∧ r = I n ∧ ∃ ow2 kd2 f2, MEI Fv P PR w2 p (n + 2) ow2 kd2 opM bnM bxM ∧ SZ (hp w2 p) (n + 2) ow2 kd2 Fv P f2 (mk 7 n) (2 + sa + sb) ∧ (∀ t, GT n ow kd P t → GT (n + 2) ow2 kd2 P t) ∧ (∀ f t s, SZ (hp w p) n ow kd Fv P f t s → SZ (hp w2 p) (n + 2) ow2 kd2 Fv P f t s)) (fm_M_pair N w a b) := by
  have x4 := MEI_p i
  have m3 := i.2.2.1
  have m5 := i.2.2.2.2.1
  have x3 := i.2.2.2.2.2.2.2.1
  unfold fm_M_pair fb_M_pair_0
  rw [I_F' m3, inb_at (k := 89) (n := 25) rfl (by omega) (by omega) (by decide), ck_t, lt_e, I_tn (x := (p : Int)) (by omega) (by omega), Int.toNat_natCast, I_A' m5, lit500, I_mul, I_add, inb_at (k := 88) (n := 12500) rfl (by omega) (by omega) (by decide), ck_t, lt_e, I_tn (by omega) (by omega), show ((p : Int) * 500 + (n : Int)).toNat = 500 * p + n from by omega, wj_e, show (wj w 88 (500 * p + n) a).1 133 = I p from I_F' m3, I_mul, I_add, lit1q, I_add, inb_at (k := 88) (n := 12500) rfl (by omega) (by omega) (by decide), ck_t, lt_e, I_tn (by omega) (by omega), show ((p : Int) * 500 + (n : Int) + 1).toNat = 500 * p + (n + 1) from by omega, wj_e]
  generalize hv : wj (wj w 88 (500 * p + n) a) 88 (500 * p + (n + 1)) b = v
  have fv : FR [] [] [89] [88] w v := by rw [← hv]; exact FR.wj (FR.wj FR.rf (by decide)) (by decide)
  have v133 : F v 133 = p := by rw [FR.F fv (by decide)]; exact m3
  have v89 : A v 89 p = n := by rw [← hv]; exact m5
  rw [I_F' v133, inb_at (k := 89) (n := 25) rfl (by omega) (by omega) (by decide), ck_t, ck_t, lt_e, I_tn (x := (p : Int)) (by omega) (by omega), Int.toNat_natCast, I_A' v89, show (2 : Int32) = I 2 from rfl, I_add, wa_e]
  have c : ∀ j, hp (wa v 89 p ((n : Int) + 2)) p j = if j = n + 1 then b else if j = n then a else hp w p j := fun j => by
    show hp v p j = _
    rw [← hv, hp_wj, hp_wj]
  have e5 : so (mk 7 (n : Int)) = 7 := so_mk (by omega) (by omega)
  have v5 : va (mk 7 (n : Int)) = n := va_mk (by omega) (by omega)
  have n5 : vn (mk 7 (n : Int)) = n := by unfold vn; rw [v5]; omega
  have c0 : hp (wa v 89 p ((n : Int) + 2)) p n = a := by rw [c, if_neg (by omega), if_pos rfl]
  have c1 : hp (wa v 89 p ((n : Int) + 2)) p (n + 1) = b := by rw [c, if_pos rfl]
  have bb : blk (hp (wa v 89 p ((n : Int) + 2)) p) (mk 7 (n : Int)) = 2 := by unfold blk; rw [e5]; rfl
  have pp : prt (mk 7 (n : Int)) = 0 := by unfold prt; rw [e5]; rfl
  have fz : FR [] [] [89] [88] w (wa v 89 p ((n : Int) + 2)) := FR.wa fv (by decide)
  have hx : isH (mk 7 (n : Int)) := Or.inr (Or.inr e5)
  have parts : ∀ (Q : Nat → Prop), Q 0 → Q 1 → ∀ j, prt (mk 7 (n : Int)) ≤ j → j < 2 → Q j := fun Q q0 q1 j h1 h2 => by
    by_cases e : j = 0
    · rw [e]; exact q0
    · have : j = 1 := by omega
      rw [this]; exact q1
  obtain ⟨ow2, kd2, r1, r2, r3, r4⟩ := MEI_alloc (m := 2) (x := mk 7 (n : Int)) i fz (fun q => by
    rw [A_eq (by omega) (by omega)]
    by_cases e : q = p
    · rw [if_pos e, if_pos e]; omega
    · rw [if_neg e, if_neg e, ← hv]; rfl) h5 (fun j hj => by
    show v.2.2.2 88 j = _
    rw [← hv, J_wj, if_pos rfl, if_neg (by omega), J_wj, if_pos rfl, if_neg (by omega)]) hx (by omega) n5 bb (fun e => by omega) (fun e => by omega) (parts _ (by rw [Nat.add_zero, c0]; exact SZ_gt za) (by rw [c1]; exact SZ_gt zb)) (Or.inr (fun f2 cc hc => by
    have q0 := hc 0 (by rw [pp]; omega) (by omega)
    have q1 := hc 1 (by rw [pp]; omega) (by omega)
    rw [Nat.add_zero, c0] at q0
    rw [c1] at q1
    rw [pp]
    show 2 + (0 + cc (0 + 0) + cc (0 + 1)) ≤ 500
    rw [show cc (0 + 0) = sa from SZ_fun q0 za, show cc (0 + 1) = sb from SZ_fun q1 zb]; omega))
  refine ok_some.mpr ⟨fz, rfl, ow2, kd2, f + 1, r1, ?_, r3, r4⟩
  have bk := (HP_bk r1.2.2.2.2.2.2.1 hx r2).1
  refine Or.inr ⟨hx, bk, fun j => if j = 0 then sa else sb, ?_, ?_⟩
  · rw [bb, n5]
    exact parts (fun j => SZ (hp (wa v 89 p ((n : Int) + 2)) p) (n + 2) ow2 kd2 Fv P f (hp (wa v 89 p ((n : Int) + 2)) p (n + j)) (if j = 0 then sa else sb)) (by show SZ _ _ _ _ _ _ _ (hp (wa v 89 p ((n : Int) + 2)) p n) sa; rw [c0]; exact r4 _ _ _ za) (by show SZ _ _ _ _ _ _ _ (hp (wa v 89 p ((n : Int) + 2)) p (n + 1)) sb; rw [c1]; exact r4 _ _ _ zb)
  · rw [bb, pp]
    show 2 + sa + sb = 2 + (0 + (if 0 + 0 = 0 then sa else sb) + (if 0 + 1 = 0 then sa else sb))
    simp; omega
end
end
section
def chi (pE : Nat → Nat) (q : Nat) : Nat → Nat
  | 0 => q
  | k + 1 => pE (chi pE q k)
def CHN (w : MS) (pE : Nat → Nat) (q m e : Nat) : Prop := chi pE q m = e ∧ (∀ k, k < m → chi pE q k < e) ∧ ∀ k, k + 1 < m → A w 37 (chi pE q k) = ((chi pE q (k + 1) : Nat) : Int)
def PW (w : MS) (pM pE : Nat → Nat) (PN SN L q : Nat) : Prop :=
  q < pE q ∧ pE q ≤ PN ∧ 0 ≤ A w 33 q ∧ A w 33 q ≤ 6 ∧
  (A w 33 q = 0 ∨ A w 33 q = 3 → pM (q + 1) = pM q ∧ pE q = q + 1) ∧
  (A w 33 q = 1 → pM (q + 1) = pM q + 1 ∧ pE q = q + 1) ∧
  (A w 33 q = 2 → pM (q + 1) = pM q ∧ pE q = q + 1 ∧ ((0 ≤ A w 35 q ∧ A w 35 q < pM q) ∨ (A w 35 q ≤ -2 ∧ -2 - A w 35 q < L))) ∧
  (A w 33 q = 4 → pM (q + 1) = pM q ∧ pE q = q + 1 ∧ 0 ≤ A w 35 q ∧ A w 35 q < SN) ∧
  (A w 33 q = 5 → pM (q + 1) = pM q ∧ ∃ m : Nat, A w 35 q = m ∧ m ≤ 8 ∧ CHN w pE (q + 1) m (pE q) ∧ ((m = 0 ∧ A w 36 q = -1) ∨ (0 < m ∧ A w 36 q = ((q + 1 : Nat) : Int) ∧ A w 37 (chi pE (q + 1) (m - 1)) = -1))) ∧
  (A w 33 q = 6 → pM (q + 1) = pM q ∧ ∃ m : Nat, A w 35 q = m ∧ m ≤ 8 ∧ (A w 38 q = 0 ∨ 0 < m) ∧ CHN w pE (q + 1) (if A w 38 q = 0 then m else m + 1) (pE q) ∧ (m = 0 ∨ A w 36 q = ((q + 1 : Nat) : Int)))
def STR (w : MS) (SN : Nat) : Prop := SN ≤ 2001 ∧ ∀ s, s < SN → 0 ≤ A w 19 s ∧ A w 19 s ≤ A w 19 (s + 1) ∧ A w 19 (s + 1) ≤ 4002
section
variable {Fv : Int64 → Int64 → Prop} {P : Int64 → Prop} {w w2 : MS} {PR N p n opM bnM bxM SN : Nat} {ow kd : Nat → Nat}
theorem is_loop {s : Nat} (i : MEI Fv P PR w p n ow kd opM bnM bxM) (hs : STR w SN) (h : s < SN) : ∀ (m k : Nat) (x : Int64), GT n ow kd P x → (k : Int) ≤ A w 19 (s + 1) → (A w 19 (s + 1)).toNat - k < m → OK (fun w2 r => w2 = w ∧ (r = I 0 ∨ r = I 1)) (gg_M_isString N m w (I s) x (I k)) := by
  have x4 := MEI_p i
  obtain ⟨s1, s2⟩ := hs
  obtain ⟨b1, b2, b3⟩ := s2 s h
  have g := i.2.2.2.2.2.2.1
  have x3 := i.2.2.2.2.2.2.2.1
  have me := i.2.2.1
  intro m
  induction m with
  | zero => intro k x _ _ z; exact absurd z (Nat.not_lt_zero _)
  | succ m ih =>
    intro k x gx hk hm
    have rx := so_r x
    show OK _ (fb_M_isString_11 N (gg_M_isString N m) w (I s) x (I k))
    unfold fb_M_isString_11 fb_M_isString_102 fb_M_isString_62
    rw [lit1q, I_add, inb_at (k := 19) (n := 2002) rfl (by omega) (by omega) (by decide), ck_t, I_tn (by omega) (by omega), show ((s : Int) + 1).toNat = s + 1 from by omega, I_A (k := 19), decI (by omega) (by omega) (by omega) (by omega), sortOf_e, bnd_so, show (6 : Int32) = I 6 from rfl, show (7 : Int32) = I 7 from rfl]
    by_cases e : A w 19 (s + 1) ≤ k
    · rw [decide_eq_true e, br_tq]
      exact ok_br.mpr ⟨fun _ => ok_ck.mpr ⟨rfl, ok_some.mpr ⟨rfl, Or.inr rfl⟩⟩, fun _ => ok_ck.mpr ⟨rfl, ok_some.mpr ⟨rfl, Or.inl rfl⟩⟩⟩
    rw [decide_eq_false e, br_fq, bnd_so, decE rx.1 rx.2 (by omega) (by omega)]
    by_cases e7 : so x = 7
    · have hx : isH x := Or.inr (Or.inr e7)
      obtain ⟨bk, pt⟩ := HP_bk g hx gx
      have bb : blk (hp w p) x = 2 := by unfold blk; rw [e7]; rfl
      have pp : prt x = 0 := by unfold prt; rw [e7]; rfl
      have bn := bk.2.2.2.1
      have vx : va x = (vn x : Int) := by have := bk.1; unfold vn; omega
      rw [decide_eq_true e7, br_tq, valueOf_e, bnd_so, I_F' me, vx, cell_e (by omega) (by omega), bnd_so, inb_at (k := 18) (n := 4002) rfl (by omega) (by omega) (by decide), ck_t, lit0q, I_A (k := 18), term_e, bnd_so]
      refine ok_br.mpr ⟨fun _ => ?_, fun _ => ok_ck.mpr ⟨rfl, ok_some.mpr ⟨rfl, Or.inl rfl⟩⟩⟩
      rw [I_F' me, valueOf_e, bnd_so, vx, I_add, show (vn x : Int) + 1 = ((vn x + 1 : Nat) : Int) from by omega, cell_e (by omega) (by omega), bnd_so, I_add]
      exact ih (k + 1) _ (pt 1 (by omega) (by omega)) (by omega) (by omega)
    · rw [decide_eq_false e7, br_fq]
      exact ok_ck.mpr ⟨rfl, ok_some.mpr ⟨rfl, Or.inl rfl⟩⟩
theorem isString_ok {s : Nat} {x : Int64} (i : MEI Fv P PR w p n ow kd opM bnM bxM) (hs : STR w SN) (h : s < SN) (gx : GT n ow kd P x) (hN : 5000 ≤ N) : OK (fun w2 r => w2 = w ∧ (r = I 0 ∨ r = I 1)) (fm_M_isString N w (I s) x) := by
  obtain ⟨b1, b2, b3⟩ := hs.2 s h
  have := hs.1
  unfold fm_M_isString fb_M_isString_0
  rw [inb_at (k := 19) (n := 2002) rfl (by omega) (by omega) (by decide), ck_t, I_tn (by omega) (by omega), Int.toNat_natCast, I_A' (show A w 19 s = (((A w 19 s).toNat : Nat) : Int) by omega)]
  exact is_loop i hs h N _ x gx (by omega) (by omega)
def FRA (w : MS) (p fr rn rh : Nat) : Prop := A w 95 p = ((fr : Nat) : Int) ∧ 1 ≤ fr ∧ fr ≤ 60 ∧ A w 99 (60 * p + (fr - 1)) = ((rn : Nat) : Int) ∧ A w 101 (60 * p + (fr - 1)) = ((rh : Nat) : Int)
theorem frame0_e {fr rn rh : Nat} (i : MEI Fv P PR w p n ow kd opM bnM bxM) (hf : FRA w p fr rn rh) : fm_M_frame0 N w = some (w, I ((60 * p + (fr - 1) : Nat) : Int)) := by
  have x4 := MEI_p i
  obtain ⟨f1, f2, f3, -⟩ := hf
  unfold fm_M_frame0 fb_M_frame0_0
  rw [I_F' i.2.2.1, inb_at (k := 95) (n := 24) rfl (by omega) (by omega) (by decide), ck_t, I_tn (by omega) (by omega), Int.toNat_natCast, I_A' f1, show (60 : Int32) = I 60 from rfl, I_mul, I_add, lit1q, I_sub, show (p : Int) * 60 + (fr : Int) - 1 = ((60 * p + (fr - 1) : Nat) : Int) from by omega]
theorem nameAt_ok {fr rn rh m : Nat} {c : Int} (i : MEI Fv P PR w p n ow kd opM bnM bxM) (hf : FRA w p fr rn rh) (hb : bnM = rn + rh + m) (hc : (0 ≤ c ∧ c < m) ∨ (c ≤ -2 ∧ -2 - c < rh)) (hc2 : -100000 ≤ c) : OK (fun w2 r => w2 = w ∧ GT n ow kd P r) (fm_M_nameAt N w (I c)) := by
  have x4 := MEI_p i
  obtain ⟨f1, f2, f3, f4, f5⟩ := id hf
  have x6 := i.2.2.2.2.2.2.2.2.2.2.1
  have x9 := i.2.2.2.2.2.2.2.2.2.2.2.2.2.1
  unfold fm_M_nameAt fb_M_nameAt_0 fb_M_nameAt_43
  rw [frame0_e i hf, bnd_so, inb_at (k := 99) (n := 1440) rfl (by omega) (by omega) (by decide), ck_t, lit0q, decI (by omega) (by omega) (by omega) (by omega), I_tn (x := ((60 * p + (fr - 1) : Nat) : Int)) (by omega) (by omega), Int.toNat_natCast, I_A' f4, I_F' i.2.2.1, show (2500 : Int32) = I 2500 from rfl, I_mul, I_add, show isK 93 5 = true from by decide, ck_t, ck_t]
  by_cases e : 0 ≤ c
  · rw [decide_eq_true e, br_tq, inb_at (k := 101) (n := 1440) rfl (by omega) (by omega) (by decide), ck_t, I_A' f5, I_add, I_add, inb_at (k := 93) (n := 60000) rfl (by omega) (by omega) (by decide), ck_t, I_tn (by omega) (by omega)]
    refine ok_some.mpr ⟨rfl, ?_⟩
    have := x9 (rn + (rh + c.toNat)) (by omega)
    rw [show ((p : Int) * 2500 + (rn : Int) + ((rh : Int) + c)).toNat = 2500 * p + (rn + (rh + c.toNat)) from by omega]
    exact this
  · rw [decide_eq_false e, br_fq, show (-2 : Int32) = I (-2) from rfl, I_sub, I_add, inb_at (k := 93) (n := 60000) rfl (by omega) (by omega) (by decide), ck_t, I_tn (by omega) (by omega)]
    refine ok_some.mpr ⟨rfl, ?_⟩
    have := x9 (rn + (-2 - c).toNat) (by omega)
    rw [show ((p : Int) * 2500 + (rn : Int) + (-2 - c)).toNat = 2500 * p + (rn + (-2 - c).toNat) from by omega]
    exact this
end
end
section
section
variable {Fv : Int64 → Int64 → Prop} {P : Int64 → Prop} {w w2 : MS} {PR N p n opM bnM bxM SN PN L : Nat} {ow kd pM pE : Nat → Nat}
def RDY (n : Nat) (ow kd : Nat → Nat) (P : Int64 → Prop) (pE : Nat → Nat) (q m : Nat) (w : MS) : Prop := ∀ k, k < m → A w 162 k = ((chi pE q k : Nat) : Int) ∧ GT n ow kd P (w.2.2.2 163 k)
def PSH (n : Nat) (ow kd : Nat → Nat) (P : Int64 → Prop) (pE : Nat → Nat) (q m many : Nat) (w w2 : MS) : Prop := FR [] [] [160, 162] [161, 163] w w2 ∧ (∀ k, k < many → A w2 160 k = A w 160 k ∧ w2.2.2.2 161 k = w.2.2.2 161 k) ∧ ∀ k, k < m → A w2 160 (many + (m - 1 - k)) = ((chi pE q k : Nat) : Int) ∧ GT n ow kd P (w2.2.2.2 161 (many + (m - 1 - k)))
theorem p266 {q m many : Nat} (hm : m ≤ 10) (hmany : many ≤ 2900) (hchi : ∀ k, k < m → chi pE q k < 5000) : ∀ (fu r : Nat) (w : MS), r ≤ m → r < fu → RDY n ow kd P pE q m w → (∀ k, r ≤ k → k < m → A w 160 (many + (m - 1 - k)) = ((chi pE q k : Nat) : Int) ∧ GT n ow kd P (w.2.2.2 161 (many + (m - 1 - k)))) → OK (fun w2 x => x = I ((many + m : Nat) : Int) ∧ PSH n ow kd P pE q m many w w2) ((gg_M_parts1 N fu).2.2 w (I many) (I m) (I ((r : Int) - 1))) := by
  intro fu
  induction fu with
  | zero => intro r w _ z; exact absurd z (Nat.not_lt_zero _)
  | succ fu ih =>
    intro r w hr hf rd done
    show OK _ (fb_M_parts1_266 N (gg_M_parts1 N fu) w (I many) (I m) (I ((r : Int) - 1)))
    unfold fb_M_parts1_266
    rw [lit0q, decL (by omega) (by omega) (by omega) (by omega)]
    cases r with
    | zero =>
      rw [decide_eq_true (by omega), br_tq, I_add]
      exact ok_some.mpr ⟨by congr 1, FR.rf, fun _ _ => ⟨rfl, rfl⟩, fun k hk => done k (Nat.zero_le _) hk⟩
    | succ r =>
      obtain ⟨r1, r2⟩ := rd r (by omega)
      have hc := hchi r (by omega)
      rw [decide_eq_false (by omega), br_fq, show ((r + 1 : Nat) : Int) - 1 = (r : Int) from by omega, inb_at (k := 162) (n := 10) rfl (by omega) (by omega) (by decide), ck_t, I_add, lit1q, I_sub, I_sub, inb_at (k := 160) (n := 3000) rfl (by omega) (by omega) (by decide), ck_t, lt_e, I_tn (by omega) (by omega), I_tn (by omega) (by omega), Int.toNat_natCast, show ((many : Int) + (m : Int) - 1 - (r : Int)).toNat = many + (m - 1 - r) from by omega, I_A' r1, wa_e, inb_at (k := 163) (n := 10) rfl (by omega) (by omega) (by decide), ck_t, inb_at (k := 161) (n := 3000) rfl (by omega) (by omega) (by decide), ck_t, lt_e, wj_e, I_neg, I_add, show (r : Int) + -1 = (r : Int) - 1 from by omega]
      generalize hz : wj (wa w 160 (many + (m - 1 - r)) ((chi pE q r : Nat) : Int)) 161 (many + (m - 1 - r)) ((wa w 160 (many + (m - 1 - r)) ((chi pE q r : Nat) : Int)).2.2.2 163 r) = z
      have fz : FR [] [] [160, 162] [161, 163] w z := by rw [← hz]; exact FR.wj (FR.wa FR.rf (by decide)) (by decide)
      have a160 : ∀ k, A z 160 k = if k = many + (m - 1 - r) then ((chi pE q r : Nat) : Int) else A w 160 k := fun k => by rw [← hz, A_wj, A_eq (by omega) (by omega)]
      have j161 : ∀ k, z.2.2.2 161 k = if k = many + (m - 1 - r) then w.2.2.2 163 r else w.2.2.2 161 k := fun k => by rw [← hz, J_wj, if_pos rfl]; rfl
      have a162 : ∀ k, A z 162 k = A w 162 k := fun k => by rw [← hz, A_wj, A_ne (by decide)]
      have j163 : ∀ k, z.2.2.2 163 k = w.2.2.2 163 k := fun k => by rw [← hz, J_wj, if_neg (by decide)]; rfl
      refine ok_mono (ih r z (by omega) (by omega) (fun k hk => by rw [a162, j163]; exact rd k hk) (fun k h1 h2 => ?_)) (fun v x hv => ⟨hv.1, FR.tr fz hv.2.1, fun k hk => ?_, hv.2.2.2⟩)
      · rw [a160, j161]
        by_cases e : k = r
        · subst e; rw [if_pos rfl, if_pos rfl]; exact ⟨rfl, r2⟩
        · rw [if_neg (by omega), if_neg (by omega)]; exact done k (by omega) h2
      · rw [(hv.2.2.1 k hk).1, (hv.2.2.1 k hk).2, a160, j161, if_neg (by omega), if_neg (by omega)]; exact ⟨rfl, rfl⟩
theorem p260 {q m many : Nat} (hm : m ≤ 10) (hmany : many ≤ 2900) (hchi : ∀ k, k < m → chi pE q k < 5000) {fu : Nat} (hf : 12 ≤ fu) (rd : RDY n ow kd P pE q m w) : OK (fun w2 x => x = I ((many + m : Nat) : Int) ∧ PSH n ow kd P pE q m many w w2) (fb_M_parts1_260 N (gg_M_parts1 N fu) w (I many) (I m)) := by
  unfold fb_M_parts1_260
  rw [lit1q, I_sub]
  exact p266 hm hmany hchi fu m w (Nat.le_refl _) (by omega) rd (fun k h1 h2 => by omega)
theorem RDY_step {q r : Nat} {x : Int64} {c : Nat} (hc : c = chi pE q r) (h5 : c < 5000) (rd : RDY n ow kd P pE q r w) (g : GT n ow kd P x) : RDY n ow kd P pE q (r + 1) (wj (wa w 162 r c) 163 r x) := by
  intro k hk
  rw [A_wj, A_eq (by omega) (by omega), J_wj, if_pos rfl]
  by_cases e : k = r
  · subst e; rw [if_pos rfl, if_pos rfl, hc]; exact ⟨rfl, g⟩
  · rw [if_neg e, if_neg e]; exact rd k (by omega)
theorem p59 {q m many : Nat} {x : Int64} (i0 : MEI Fv P PR w p n ow kd opM bnM bxM) (hm : m ≤ 8) (hmany : many ≤ 2900) (hchi : ∀ k, k < m → chi pE q k < 5000) (hnx : ∀ k, k + 1 < m → A w 37 (chi pE q k) = ((chi pE q (k + 1) : Nat) : Int)) (hlast : 0 < m → A w 37 (chi pE q (m - 1)) = -1) (hx : so x = 5) (gx : GT n ow kd P x) (hbl : blk (hp w p) x = 1 + m) : ∀ (fu r : Nat) (v : MS), r ≤ m → (m - r) + 14 < fu → FR [] [] [160, 162] [161, 163] w v → (∀ k, k < many → A v 160 k = A w 160 k ∧ v.2.2.2 161 k = w.2.2.2 161 k) → RDY n ow kd P pE q r v → OK (fun w2 y => y = I ((many + m : Nat) : Int) ∧ PSH n ow kd P pE q m many w w2) ((gg_M_parts1 N fu).1 v (I many) x (I r) (I (if r < m then ((chi pE q r : Nat) : Int) else -1))) := by
  have x4 := MEI_p i0
  have g := i0.2.2.2.2.2.2.1
  have x3 := i0.2.2.2.2.2.2.2.1
  have hxh : isH x := Or.inr (Or.inl hx)
  obtain ⟨bk, pt⟩ := HP_bk g hxh gx
  have bn := bk.2.2.2.1
  have vx : va x = (vn x : Int) := by have := bk.1; unfold vn; omega
  have pp : prt x = 1 := by unfold prt; rw [hx]; rfl
  intro fu
  induction fu with
  | zero => intro r v _ z; exact absurd z (Nat.not_lt_zero _)
  | succ fu ih =>
    intro r v hr hf fv hlow rd
    show OK _ (fb_M_parts1_59 N (gg_M_parts1 N fu) v (I many) x (I r) (I (if r < m then ((chi pE q r : Nat) : Int) else -1)))
    unfold fb_M_parts1_59
    by_cases e : r < m
    · have hc := hchi r e
      have hpv : hp v p = hp w p := by unfold hp; rw [fv.2.2.2 88 (by decide)]
      have me : F v 133 = p := by rw [FR.F fv (by decide)]; exact i0.2.2.1
      rw [if_pos e, litm1q, decE (by omega) (by omega) (by omega) (by omega), decide_eq_false (by omega), br_fq, inb_at (k := 162) (n := 10) rfl (by omega) (by omega) (by decide), ck_t, lt_e, I_tn (by omega) (by omega), Int.toNat_natCast, wa_e, valueOf_e, bnd_so, show (wa v 162 r ((chi pE q r : Nat) : Int)).1 133 = I p from I_F' me, vx, lit1q, I_add, I_add, show (vn x : Int) + 1 + (r : Int) = ((vn x + (1 + r) : Nat) : Int) from by omega, cell_e (by omega) (by omega), bnd_so, inb_at (k := 163) (n := 10) rfl (by omega) (by omega) (by decide), ck_t, lt_e, wj_e, inb_at (k := 37) (n := 5000) rfl (by omega) (by omega) (by decide), ck_t, lt_e, I_tn (by omega) (by omega), Int.toNat_natCast]
      have hcell : hp (wa v 162 r ((chi pE q r : Nat) : Int)) p = hp w p := hpv
      rw [hcell]
      have gc := pt (1 + r) (by omega) (by omega)
      generalize hz : wj (wa v 162 r ((chi pE q r : Nat) : Int)) 163 r (hp w p (vn x + (1 + r))) = z
      have fz : FR [] [] [160, 162] [161, 163] w z := by rw [← hz]; exact FR.wj (FR.wa fv (by decide)) (by decide)
      have a37 : A z 37 (chi pE q r) = (if r + 1 < m then ((chi pE q (r + 1) : Nat) : Int) else -1) := by
        rw [FR.A fz (by decide)]
        by_cases e2 : r + 1 < m
        · rw [if_pos e2]; exact hnx r e2
        · rw [if_neg e2]
          have := hlast (by omega)
          rw [show m - 1 = r from by omega] at this
          exact this
      rw [I_A' a37, I_add]
      refine ih (r + 1) z (by omega) (by omega) fz (fun k hk => ?_) ?_
      · rw [← hz, A_wj, A_ne (by decide), J_wj, if_neg (by decide), J_wa]; exact hlow k hk
      · rw [← hz]; exact RDY_step rfl hc rd gc
    · have er : r = m := by omega
      subst er
      rw [if_neg e, litm1q, decE (by omega) (by omega) (by omega) (by omega), decide_eq_true rfl, br_tq]
      exact ok_mono (p260 (by omega) hmany hchi (by omega) rd) (fun w2 y h => ⟨h.1, FR.tr fv h.2.1, fun k hk => ⟨(h.2.2.1 k hk).1.trans (hlow k hk).1, (h.2.2.1 k hk).2.trans (hlow k hk).2⟩, h.2.2.2⟩)
theorem p128 {q0 q m tl many : Nat} (i0 : MEI Fv P PR w p n ow kd opM bnM bxM) (hm : m ≤ 8) (hq0 : q0 < 5000) (h35 : A w 35 q0 = m) (htl : (A w 38 q0 = 0 ∧ tl = 0) ∨ (A w 38 q0 ≠ 0 ∧ tl = 1)) (hmany : many ≤ 2900) (hchi : ∀ k, k < m + tl → chi pE q k < 5000) (hnx : ∀ k, k + 1 < m + tl → A w 37 (chi pE q k) = ((chi pE q (k + 1) : Nat) : Int)) : ∀ (fu r : Nat) (v : MS) (x : Int64) (c : Int), r ≤ m → (m - r) + 14 < fu → FR [] [] [160, 162] [161, 163] w v → (∀ k, k < many → A v 160 k = A w 160 k ∧ v.2.2.2 161 k = w.2.2.2 161 k) → RDY n ow kd P pE q r v → GT n ow kd P x → (r < m + tl → c = ((chi pE q r : Nat) : Int)) → -2147483648 ≤ c ∧ c < 2147483648 → OK (fun w2 y => (y = I (-1) ∧ FR [] [] [160, 162] [161, 163] w w2) ∨ (y = I ((many + (m + tl) : Nat) : Int) ∧ PSH n ow kd P pE q (m + tl) many w w2)) ((gg_M_parts1 N fu).2.1 v (I q0) (I many) x (I r) (I c) (I r)) := by
  have x4 := MEI_p i0
  have g := i0.2.2.2.2.2.2.1
  have x3 := i0.2.2.2.2.2.2.2.1
  intro fu
  induction fu with
  | zero => intro r v x c _ z; exact absurd z (Nat.not_lt_zero _)
  | succ fu ih =>
    intro r v x c hr hf fv hlow rd gx hc hcr
    have rx := so_r x
    show OK _ (fb_M_parts1_128 N (gg_M_parts1 N fu) v (I q0) (I many) x (I r) (I c) (I r))
    unfold fb_M_parts1_128
    rw [inb_at (k := 35) (n := 5000) rfl (by omega) (by omega) (by decide), ck_t, I_tn (x := (q0 : Int)) (by omega) (by omega), Int.toNat_natCast, I_A' (show A v 35 q0 = m by rw [FR.A fv (by decide)]; exact h35), decI (by omega) (by omega) (by omega) (by omega), inb_at (k := 38) (n := 5000) rfl (by omega) (by omega) (by decide), ck_t, sortOf_e, bnd_so, show (6 : Int32) = I 6 from rfl, show (7 : Int32) = I 7 from rfl, lit0q, litm1q]
    have fail : OK (fun w2 y => (y = I (-1) ∧ FR [] [] [160, 162] [161, 163] w w2) ∨ (y = I ((many + (m + tl) : Nat) : Int) ∧ PSH n ow kd P pE q (m + tl) many w w2)) (some (v, I (-1))) := ok_some.mpr (Or.inl ⟨rfl, fv⟩)
    have push : ∀ v2 : MS, FR [] [] [160, 162] [161, 163] w v2 → (∀ k, k < many → A v2 160 k = A w 160 k ∧ v2.2.2.2 161 k = w.2.2.2 161 k) → RDY n ow kd P pE q (m + tl) v2 → OK (fun w2 y => (y = I (-1) ∧ FR [] [] [160, 162] [161, 163] w w2) ∨ (y = I ((many + (m + tl) : Nat) : Int) ∧ PSH n ow kd P pE q (m + tl) many w w2)) (fb_M_parts1_260 N (gg_M_parts1 N fu) v2 (I many) (I ((m + tl : Nat) : Int))) := fun v2 f2 h2 rd2 => ok_mono (p260 (by omega) hmany hchi (by omega) rd2) (fun w2 y h => Or.inr ⟨h.1, FR.tr f2 h.2.1, fun k hk => ⟨(h.2.2.1 k hk).1.trans (h2 k hk).1, (h.2.2.1 k hk).2.trans (h2 k hk).2⟩, h.2.2.2⟩)
    by_cases e : m ≤ r
    · have er : r = m := by omega
      subst er
      rw [decide_eq_true (by omega), br_tq]
      have h38 := A_r v 38 q0
      have e38 : A v 38 q0 = A w 38 q0 := FR.A fv (by decide)
      rw [I_A' e38, decE (by omega) (by omega) (by omega) (by omega)]
      rcases htl with ⟨t1, t2⟩ | ⟨t1, t2⟩
      · subst t2
        rw [decide_eq_true t1, br_tq]
        exact ok_br.mpr ⟨fun _ => push v fv hlow rd, fun _ => fail⟩
      · subst t2
        have hcc := hc (by omega)
        have hch := hchi r (by omega)
        rw [decide_eq_false t1, br_fq, inb_at (k := 162) (n := 10) rfl (by omega) (by omega) (by decide), ck_t, lt_e, I_tn (by omega) (by omega), Int.toNat_natCast, wa_e, inb_at (k := 163) (n := 10) rfl (by omega) (by omega) (by decide), ck_t, lt_e, wj_e, lit1q, I_add]
        refine push _ (FR.wj (FR.wa fv (by decide)) (by decide)) (fun k hk => ?_) ?_
        · rw [A_wj, A_ne (by decide), J_wj, if_neg (by decide), J_wa]; exact hlow k hk
        · rw [hcc]; exact RDY_step rfl hch rd gx
    · rw [decide_eq_false (by omega), br_fq, bnd_so, decE rx.1 rx.2 (by omega) (by omega)]
      by_cases e7 : so x = 7
      · have hx : isH x := Or.inr (Or.inr e7)
        obtain ⟨bk, pt⟩ := HP_bk g hx gx
        have bb : blk (hp w p) x = 2 := by unfold blk; rw [e7]; rfl
        have pp : prt x = 0 := by unfold prt; rw [e7]; rfl
        have bn := bk.2.2.2.1
        have vx : va x = (vn x : Int) := by have := bk.1; unfold vn; omega
        have hcc := hc (by omega)
        have hch := hchi r (by omega)
        have me : F v 133 = p := by rw [FR.F fv (by decide)]; exact i0.2.2.1
        have hpv : hp v p = hp w p := by unfold hp; rw [fv.2.2.2 88 (by decide)]
        rw [hcc, decide_eq_true e7, br_tq, inb_at (k := 162) (n := 10) rfl (by omega) (by omega) (by decide), ck_t, lt_e, I_tn (x := (r : Int)) (by omega) (by omega), Int.toNat_natCast, wa_e, valueOf_e, bnd_so, show (wa v 162 r ((chi pE q r : Nat) : Int)).1 133 = I p from I_F' me, vx, cell_e (by omega) (by omega), bnd_so, inb_at (k := 163) (n := 10) rfl (by omega) (by omega) (by decide), ck_t, lt_e, wj_e, valueOf_e, bnd_so]
        rw [show (wj (wa v 162 r ((chi pE q r : Nat) : Int)) 163 r (hp (wa v 162 r ((chi pE q r : Nat) : Int)) p (vn x))).1 133 = I p from I_F' me, vx, lit1q, I_add, show (vn x : Int) + 1 = ((vn x + 1 : Nat) : Int) from by omega, cell_e (by omega) (by omega), bnd_so, inb_at (k := 37) (n := 5000) rfl (by omega) (by omega) (by decide), ck_t, lt_e, I_tn (by omega) (by omega), Int.toNat_natCast, I_add]
        have hcell : hp (wa v 162 r ((chi pE q r : Nat) : Int)) p = hp w p := hpv
        rw [hcell]
        generalize hz : wj (wa v 162 r ((chi pE q r : Nat) : Int)) 163 r (hp w p (vn x)) = z
        have fz : FR [] [] [160, 162] [161, 163] w z := by rw [← hz]; exact FR.wj (FR.wa fv (by decide)) (by decide)
        have hpz : hp z p = hp w p := by unfold hp; rw [fz.2.2.2 88 (by decide)]
        rw [hpz, I_A (k := 37)]
        have h37 := A_r z 37 (chi pE q r)
        refine ih (r + 1) z (hp w p (vn x + 1)) (A z 37 (chi pE q r)) (by omega) (by omega) fz (fun k hk => ?_) ?_ (pt 1 (by omega) (by omega)) (fun h => ?_) h37
        · rw [← hz, A_wj, A_ne (by decide), J_wj, if_neg (by decide), J_wa]; exact hlow k hk
        · rw [← hz]; exact RDY_step rfl hch rd (by have := pt 0 (by omega) (by omega); exact this)
        · rw [FR.A fz (by decide)]; exact hnx r h
      · rw [decide_eq_false e7, br_fq]
        exact fail
end
end
section
section
variable {Fv : Int64 → Int64 → Prop} {P : Int64 → Prop} {w w2 : MS} {PR N p n opM bnM bxM SN PN L : Nat} {ow kd pM pE : Nat → Nat}
theorem chi_up {e q m : Nat} (h1 : ∀ k, k < m → chi pE q k < e) (hq : ∀ k, q ≤ k → k < e → k < pE k) : ∀ k, k ≤ m → q + k ≤ chi pE q k := by
  intro k
  induction k with
  | zero => intro _; exact Nat.le_refl _
  | succ k ih =>
    intro hk
    have a := ih (by omega)
    have := hq _ (by omega) (h1 k (by omega))
    show q + (k + 1) ≤ pE (chi pE q k)
    omega
theorem chi_gap {e q m : Nat} (h0 : chi pE q m = e) (h1 : ∀ k, k < m → chi pE q k < e) (hq : ∀ k, q ≤ k → k < e → k < pE k) : ∀ d k, k + d = m → chi pE q k + d ≤ e := by
  intro d
  induction d with
  | zero => intro k hk; rw [show k = m from hk, h0]; exact Nat.le_refl _
  | succ d ih =>
    intro k hk
    have a := ih (k + 1) (by omega)
    have b := chi_up h1 hq k (by omega)
    have := hq _ (by omega) (h1 k (by omega))
    have e2 : chi pE q (k + 1) = pE (chi pE q k) := rfl
    omega
theorem parts1_ok {q many : Nat} {x : Int64} (i : MEI Fv P PR w p n ow kd opM bnM bxM) (hw : PW w pM pE PN SN L q) (hPN : PN ≤ 2900) (hk : A w 33 q = 5 ∨ A w 33 q = 6) (hin : ∀ k, q < k → k < pE q → k < pE k) (hmany : many ≤ 2900) (gx : GT n ow kd P x) (hN : 100 ≤ N) :
    OK (fun w2 y => (y = I (-1) ∧ FR [] [] [160, 162] [161, 163] w w2) ∨ ∃ m, m ≤ 9 ∧ y = I ((many + m : Nat) : Int) ∧ PSH n ow kd P pE (q + 1) m many w w2 ∧ chi pE (q + 1) m = pE q ∧ ∀ k, k < m → chi pE (q + 1) k < pE q) (fm_M_parts1 N w (I q) x (I many)) := by
  have x4 := MEI_p i
  have x3 := i.2.2.2.2.2.2.2.1
  have g := i.2.2.2.2.2.2.1
  have rx := so_r x
  obtain ⟨w1, w2', w3, w4, -, -, -, -, w5, w6⟩ := hw
  unfold fm_M_parts1 fb_M_parts1_0 fb_M_parts1_49
  rw [inb_at (k := 33) (n := 5000) rfl (by omega) (by omega) (by decide), ck_t, I_tn (by omega) (by omega), Int.toNat_natCast, I_A (k := 33), show (5 : Int32) = I 5 from rfl, decE (by omega) (by omega) (by omega) (by omega), litm1q]
  by_cases e5 : A w 33 q = 5
  · obtain ⟨-, m, h35, hm, ⟨c0, c1, c2⟩, c3⟩ := w5 e5
    rw [decide_eq_true e5, br_tq, sortOf_e, bnd_so, decE rx.1 rx.2 (by omega) (by omega)]
    by_cases hx : so x = 5
    · have hxh : isH x := Or.inr (Or.inl hx)
      obtain ⟨bk, -⟩ := HP_bk g hxh gx
      have bp := blk_pos (h := hp w p) hxh
      have bn := bk.2.2.2.1
      have vx : va x = (vn x : Int) := by have := bk.1; unfold vn; omega
      rw [decide_eq_true hx, br_tq, valueOf_e, bnd_so, I_F' i.2.2.1, vx, cell_e (by omega) (by omega), bnd_so, inb_at (k := 35) (n := 5000) rfl (by omega) (by omega) (by decide), ck_t, inb_at (k := 36) (n := 5000) rfl (by omega) (by omega) (by decide), ck_t]
      refine ok_br.mpr ⟨fun h => ?_, fun _ => ok_some.mpr (Or.inl ⟨rfl, FR.rf⟩)⟩
      have hcell : hp w p (vn x) = (w.2.2.1 35 q).toInt64 := by
        have := of_decide_eq_true h
        unfold lg_cmp at this
        by_cases z1 : hp w p (vn x) > (w.2.2.1 35 q).toInt64
        · rw [if_pos z1] at this; exact absurd this (by decide)
        · rw [if_neg z1] at this
          by_cases z2 : hp w p (vn x) = (w.2.2.1 35 q).toInt64
          · exact z2
          · rw [if_neg z2] at this; exact absurd this (by decide)
      have hbl : blk (hp w p) x = 1 + m := by
        unfold blk
        rw [hx]
        simp
        rw [hcell, I_A' h35]
        unfold vn
        rw [va_nat (by omega)]
        omega
      rw [lt_e, lit0q]
      have hc0 : A w 36 q = (if 0 < m then ((chi pE (q + 1) 0 : Nat) : Int) else -1) := by
        rcases c3 with ⟨z1, z2⟩ | ⟨z1, z2, -⟩
        · rw [if_neg (by omega)]; exact z2
        · rw [if_pos z1]; exact z2
      rw [I_A' hc0]
      refine ok_mono (p59 (N := N) (pE := pE) (q := q + 1) i hm hmany (fun k hk2 => by have := c1 k hk2; omega) c2 (fun hz => by
        rcases c3 with ⟨z1, -⟩ | ⟨-, -, z3⟩
        · omega
        · exact z3) hx gx hbl N 0 w (Nat.zero_le _) (by omega) FR.rf (fun _ _ => ⟨rfl, rfl⟩) (fun k hk2 => absurd hk2 (Nat.not_lt_zero _))) (fun v y h => Or.inr ⟨m, by omega, h.1, h.2, c0, c1⟩)
    · rw [decide_eq_false hx, br_fq]
      exact ok_some.mpr (Or.inl ⟨rfl, FR.rf⟩)
  · have e6 : A w 33 q = 6 := by rcases hk with z | z; exact absurd z e5; exact z
    obtain ⟨-, m, h35, hm, ht, ⟨c0, c1, c2⟩, c3⟩ := w6 e6
    rw [decide_eq_false e5, br_fq, inb_at (k := 36) (n := 5000) rfl (by omega) (by omega) (by decide), ck_t, I_A (k := 36), lit0q]
    have h36 := A_r w 36 q
    by_cases e38 : A w 38 q = 0
    · rw [if_pos e38] at c0 c1 c2
      refine ok_mono (p128 (N := N) (pE := pE) (q0 := q) (q := q + 1) (m := m) (tl := 0) i hm (by omega) h35 (Or.inl ⟨e38, rfl⟩) hmany (fun k hk2 => by have := c1 k hk2; omega) c2 N 0 w x (A w 36 q) (Nat.zero_le _) (by omega) FR.rf (fun _ _ => ⟨rfl, rfl⟩) (fun k hk2 => absurd hk2 (Nat.not_lt_zero _)) gx (fun hz => by
        rcases c3 with z | z
        · omega
        · exact z) h36) (fun v y h => ?_)
      rcases h with h | h
      · exact Or.inl h
      · exact Or.inr ⟨m, by omega, h.1, h.2, c0, c1⟩
    · rw [if_neg e38] at c0 c1 c2
      refine ok_mono (p128 (N := N) (pE := pE) (q0 := q) (q := q + 1) (m := m) (tl := 1) i hm (by omega) h35 (Or.inr ⟨e38, rfl⟩) hmany (fun k hk2 => by have := c1 k hk2; omega) c2 N 0 w x (A w 36 q) (Nat.zero_le _) (by omega) FR.rf (fun _ _ => ⟨rfl, rfl⟩) (fun k hk2 => absurd hk2 (Nat.not_lt_zero _)) gx (fun hz => by
        rcases c3 with z | z
        · rcases ht with t | t
          · exact absurd t e38
          · omega
        · exact z) h36) (fun v y h => ?_)
      rcases h with h | h
      · exact Or.inl h
      · exact Or.inr ⟨m + 1, by omega, h.1, h.2, c0, c1⟩
def TRY (w : MS) (pE : Nat → Nat) (n : Nat) (ow kd : Nat → Nat) (P : Int64 → Prop) (p0 e many c : Nat) : Prop := (many = 0 → c = e) ∧ (0 < many → A w 160 (many - 1) = ((c : Nat) : Int)) ∧ ∀ i, i < many → ∃ q : Nat, A w 160 i = q ∧ p0 ≤ q ∧ q < e ∧ (i = 0 → pE q = e) ∧ (0 < i → A w 160 (i - 1) = ((pE q : Nat) : Int)) ∧ i + 1 + q ≤ e ∧ GT n ow kd P (w.2.2.2 161 i)
def FQ (p : Nat) (w v : MS) : Prop := FR [] [] [94, 160, 162] [93, 141, 161, 163] w v ∧ ∀ z, z ≠ p → A v 94 z = A w 94 z
theorem fits_loop {p0 e fr rn rh : Nat} (hPN : PN ≤ 2900) (heP : e ≤ PN) (hpw : ∀ q, p0 ≤ q → q < e → PW w pM pE PN SN rh q) (hF : FVH Fv) (hat : ATM w) (hP : ∀ t, P t → PA w t) (hS : STR w SN) (hfr : FRA w p fr rn rh) (hcap : ∀ q, p0 ≤ q → q ≤ e → rn + rh + pM q ≤ 2450) (hN : 6000 ≤ N) : ∀ (fu many c b : Nat) (v : MS), FQ p w v → MEI Fv P PR v p n ow kd opM b bxM → b = rn + rh + pM c → p0 ≤ c → c ≤ e → TRY v pE n ow kd P p0 e many c → e - c < fu →
    OK (fun w2 r => FQ p w w2 ∧ ((r = I 1 ∧ MEI Fv P PR w2 p n ow kd opM (rn + rh + pM e) bxM) ∨ (r = I 0 ∧ ∃ b2, MEI Fv P PR w2 p n ow kd opM b2 bxM ∧ ∃ c2, p0 ≤ c2 ∧ c2 ≤ e ∧ b2 = rn + rh + pM c2))) (gg_M_fits N fu v (I many)) := by
  intro fu
  induction fu with
  | zero => intro many c b v _ _ _ _ _ _ z; exact absurd z (Nat.not_lt_zero _)
  | succ fu ih =>
    intro many c b v fv iv hb hc1 hc2 tr hf
    have x4 := MEI_p iv
    obtain ⟨t1, t2, t3⟩ := id tr
    show OK _ (fb_M_fits_17 N (gg_M_fits N fu) v (I many))
    unfold fb_M_fits_17 fb_M_fits_198
    have hmany : many ≤ 2900 := by
      cases many with
      | zero => omega
      | succ many => obtain ⟨q, -, -, -, -, -, z, -⟩ := t3 many (by omega); omega
    rw [lit0q, decI (by omega) (by omega) (by omega) (by omega)]
    cases many with
    | zero =>
      rw [decide_eq_true (by omega), br_tq]
      have ec := t1 rfl
      subst ec
      subst hb
      exact ok_ck.mpr ⟨rfl, ok_some.mpr ⟨fv, Or.inl ⟨rfl, iv⟩⟩⟩
    | succ many =>
      obtain ⟨q, q1, q2, q3, q4, q5, q6, q7⟩ := t3 many (by omega)
      have eqc : q = c := by have := t2 (by omega); rw [show many + 1 - 1 = many from by omega, q1] at this; omega
      subst eqc
      rw [decide_eq_false (by omega), br_fq, litm1q, I_add, show ((many + 1 : Nat) : Int) + -1 = (many : Int) from by omega, inb_at (k := 160) (n := 3000) rfl (by omega) (by omega) (by decide), ck_t, lt_e, inb_at (k := 161) (n := 3000) rfl (by omega) (by omega) (by decide), ck_t, lt_e, I_tn (x := (many : Int)) (by omega) (by omega), Int.toNat_natCast, I_A' q1, inb_at (k := 33) (n := 5000) rfl (by omega) (by omega) (by decide), ck_t, I_tn (x := (q : Int)) (by omega) (by omega), Int.toNat_natCast]
      obtain ⟨w1, w2', w3, w4, k03, k1, k2, k4, -⟩ := id (hpw q q2 q3)
      have e33 : A v 33 q = A w 33 q := FR.A fv.1 (by decide)
      have e35 : A v 35 q = A w 35 q := FR.A fv.1 (by decide)
      have hr35 := A_r w 35 q
      rw [I_A' e33, lit1q, show (2 : Int32) = I 2 from rfl, show (3 : Int32) = I 3 from rfl, show (4 : Int32) = I 4 from rfl, decE (by omega) (by omega) (by omega) (by omega), decE (by omega) (by omega) (by omega) (by omega), decE (by omega) (by omega) (by omega) (by omega), decE (by omega) (by omega) (by omega) (by omega), decI (by omega) (by omega) (by omega) (by omega)]
      generalize hx : v.2.2.2 161 many = x at q7
      have no : ∀ v2 : MS, FQ p w v2 → MEI Fv P PR v2 p n ow kd opM b bxM → OK (fun w2 r => FQ p w w2 ∧ ((r = I 1 ∧ MEI Fv P PR w2 p n ow kd opM (rn + rh + pM e) bxM) ∨ (r = I 0 ∧ ∃ b2, MEI Fv P PR w2 p n ow kd opM b2 bxM ∧ ∃ c2, p0 ≤ c2 ∧ c2 ≤ e ∧ b2 = rn + rh + pM c2))) (ck (isb 0) (some (v2, I 0))) := fun v2 f2 i2 => ok_ck.mpr ⟨rfl, ok_some.mpr ⟨f2, Or.inr ⟨rfl, b, i2, q, q2, hc2, hb⟩⟩⟩
      have leaf : ∀ (v2 : MS) (b2 : Nat), pE q = q + 1 → FQ p w v2 → (∀ i, A v2 160 i = A v 160 i) → (∀ i, v2.2.2.2 161 i = v.2.2.2 161 i) → MEI Fv P PR v2 p n ow kd opM b2 bxM → b2 = rn + rh + pM (q + 1) → OK (fun w2 r => FQ p w w2 ∧ ((r = I 1 ∧ MEI Fv P PR w2 p n ow kd opM (rn + rh + pM e) bxM) ∨ (r = I 0 ∧ ∃ b2, MEI Fv P PR w2 p n ow kd opM b2 bxM ∧ ∃ c2, p0 ≤ c2 ∧ c2 ≤ e ∧ b2 = rn + rh + pM c2))) (gg_M_fits N fu v2 (I many)) := fun v2 b2 hl f2 a1 a2 i2 hb2 => by
        refine ih many (q + 1) b2 v2 f2 i2 hb2 (by omega) (by omega) ⟨fun z => ?_, fun z => ?_, fun j hj => ?_⟩ (by omega)
        · have := q4 z; omega
        · rw [a1]; have := q5 (by omega); rw [this, hl]
        · rw [a1, a1, a2]; exact t3 j (by omega)
      by_cases e1 : A w 33 q = 1
      · obtain ⟨m1, m2⟩ := k1 e1
        obtain ⟨-, -, i3, -, -, ⟨y1, y2, y3, y4, y5, y6, y7, y8, y9, y10, y11⟩⟩ := id iv
        have cap := hcap q q2 hc2
        rw [decide_eq_true e1, br_tq, I_F' i3, inb_at (k := 94) (n := 24) rfl (by omega) (by omega) (by decide), ck_t, I_tn (x := (p : Int)) (by omega) (by omega), Int.toNat_natCast, I_A' y6.1, show (2500 : Int32) = I 2500 from rfl, I_mul, I_add, inb_at (k := 93) (n := 60000) rfl (by omega) (by omega) (by decide), ck_t, lt_e, I_tn (by omega) (by omega), show ((p : Int) * 2500 + (b : Int)).toNat = 2500 * p + b from by omega, wj_e, show (wj v 93 (2500 * p + b) x).1 133 = I p from I_F' i3, inb_at (k := 94) (n := 24) rfl (by omega) (by omega) (by decide), ck_t, ck_t, lt_e, I_tn (x := (p : Int)) (by omega) (by omega), Int.toNat_natCast, show (wj v 93 (2500 * p + b) x).2.2.1 94 p = I b from I_A' y6.1, I_add, wa_e]
        generalize hz : wa (wj v 93 (2500 * p + b) x) 94 p ((b : Int) + 1) = z
        have fz : FR [] [] [94] [93] v z := by rw [← hz]; exact FR.wa (FR.wj FR.rf (by decide)) (by decide)
        have a94 : ∀ i, A z 94 i = if i = p then (b : Int) + 1 else A v 94 i := fun i => by rw [← hz, A_eq (by omega) (by omega)]; rfl
        have j93 : ∀ i, z.2.2.2 93 i = if i = 2500 * p + b then x else v.2.2.2 93 i := fun i => by rw [← hz, J_wa, J_wj, if_pos rfl]
        have hpz : hp z p = hp v p := by unfold hp; rw [fz.2.2.2 88 (by decide)]
        have z140 : F z 140 = -1 := by rw [FR.F fz (by decide)]; exact iv.1.2.2.2.1
        have iz : MEI Fv P PR z p n ow kd opM (b + 1) bxM := MEI_upd iv (FR.mo fz (by decide) (by decide) (by decide) (by decide)) z140 (fun q _ => FR.A fz (by decide)) (fun q _ => FR.A fz (by decide)) (fun q hq => by rw [a94, if_neg hq]) (fun q _ => FR.A fz (by decide)) (fun i _ => by rw [fz.2.2.2 88 (by decide)]) (fun i _ => by rw [fz.2.2.2 91 (by decide)]) (fun i hi => by rw [j93, if_neg (by omega)]) (fun i _ => by rw [fz.2.2.2 107 (by decide)]) (by rw [FR.A fz (by decide)]; exact iv.2.2.2.2.1) ⟨rfl, by rw [hpz]; exact y2, y3, y4, by rw [FR.A fz (by decide)]; exact y5, ⟨by rw [a94, if_pos rfl]; omega, by omega⟩, by rw [FR.A fz (by decide)]; exact y7, fun i hi => by rw [fz.2.2.2 91 (by decide)]; exact y8 i hi, fun i hi => by
          rw [j93]
          by_cases e : i = b
          · subst e; rw [if_pos rfl]; exact q7
          · rw [if_neg (by omega)]; exact y9 i (by omega), fun i hi => by rw [fz.2.2.2 107 (by decide)]; exact y10 i hi, fun e => by omega⟩
        exact leaf z (b + 1) m2 ⟨FR.tr fv.1 (FR.mo fz (by decide) (by decide) (by decide) (by decide)), fun y hy => by rw [a94, if_neg hy]; exact fv.2 y hy⟩ (fun i => FR.A fz (by decide)) (fun i => by rw [fz.2.2.2 161 (by decide)]) iz (by omega)
      rw [decide_eq_false e1, br_fq]
      by_cases e2 : A w 33 q = 2
      · obtain ⟨m1, m2, m3⟩ := k2 e2
        have hfv : FRA v p fr rn rh := by
          obtain ⟨f1, f2, f3, f4, f5⟩ := hfr
          exact ⟨by rw [FR.A fv.1 (by decide)]; exact f1, f2, f3, by rw [FR.A fv.1 (by decide)]; exact f4, by rw [FR.A fv.1 (by decide)]; exact f5⟩
        have cap := hcap q q2 hc2
        rw [decide_eq_true e2, br_tq, inb_at (k := 35) (n := 5000) rfl (by omega) (by omega) (by decide), ck_t, I_A' e35]
        refine ok_bnd.mpr (ok_mono (nameAt_ok (N := N) iv hfv hb m3 (by omega)) (fun v1 r1 h1 => ?_))
        obtain ⟨z1, z2⟩ := h1
        subst z1
        obtain ⟨-, -, i3, -, -, ⟨y1, y2, y3, -⟩⟩ := id iv
        refine ok_bnd.mpr (ok_mono (order_ok (N := N) (p := p) (n := n) (ow := ow) (kd := kd) y3 x4 hF (ATM_fr hat fv.1 (by decide) (by decide)) (PA_fr hP fv.1 (by decide)) i3 y2 z2 q7 (by omega)) (fun v2 r2 h2 => ?_))
        have i2 : MEI Fv P PR v2 p n ow kd opM b bxM := MEI_fr iv h2 (by decide) (by decide) (by decide) (by decide) (by decide) (by decide) (by decide) (by decide) (by decide) (by decide) (by decide) (by decide) (by decide) (by decide) (by decide) (by decide) (by decide) (by decide)
        have f2 : FQ p w _ := ⟨FR.tr fv.1 (FR.mo h2 (is2 := []) (ls2 := []) (as2 := [94, 160, 162]) (js2 := [93, 141, 161, 163]) (by decide) (by decide) (by decide) (by decide)), fun y hy => by rw [FR.A h2 (by decide)]; exact fv.2 y hy⟩
        exact ok_br.mpr ⟨fun _ => leaf v2 b m2 f2 (fun i => FR.A h2 (by decide)) (fun i => by rw [h2.2.2.2 161 (by decide)]) i2 (by omega), fun _ => no v2 f2 i2⟩
      rw [decide_eq_false e2, br_fq]
      by_cases e3 : A w 33 q = 3
      · obtain ⟨m1, m2⟩ := k03 (Or.inr e3)
        rw [decide_eq_true e3, br_tq, inb_at (k := 34) (n := 5000) rfl (by omega) (by omega) (by decide), ck_t]
        exact ok_br.mpr ⟨fun _ => leaf v b m2 fv (fun _ => rfl) (fun _ => rfl) iv (by omega), fun _ => no v fv iv⟩
      rw [decide_eq_false e3, br_fq]
      by_cases e4 : A w 33 q = 4
      · obtain ⟨m1, m2, m3, m4⟩ := k4 e4
        have hSv : STR v SN := ⟨hS.1, fun s hs => by rw [FR.A fv.1 (by decide), FR.A fv.1 (by decide)]; exact hS.2 s hs⟩
        rw [decide_eq_true e4, br_tq, inb_at (k := 35) (n := 5000) rfl (by omega) (by omega) (by decide), ck_t, I_A' e35, show A w 35 q = (((A w 35 q).toNat : Nat) : Int) from by omega]
        refine ok_bnd.mpr (ok_mono (isString_ok (N := N) iv hSv (by omega) q7 (by omega)) (fun v1 r1 h1 => ?_))
        obtain ⟨z1, -⟩ := h1
        subst z1
        exact ok_br.mpr ⟨fun _ => no v1 fv iv, fun _ => leaf v1 b m2 fv (fun _ => rfl) (fun _ => rfl) iv (by omega)⟩
      rw [decide_eq_false e4, br_fq]
      by_cases e0 : A w 33 q ≤ 4
      · have e00 : A w 33 q = 0 := by
          clear k03 k1 k2 k4
          omega
        obtain ⟨m1, m2⟩ := k03 (Or.inl e00)
        rw [decide_eq_true e0, br_tq]
        exact leaf v b m2 fv (fun _ => rfl) (fun _ => rfl) iv (by omega)
      rw [decide_eq_false e0, br_fq]
      have e56 : A w 33 q = 5 ∨ A w 33 q = 6 := by
        clear k03 k1 k2 k4
        omega
      have mq : pM (q + 1) = pM q := by
        rcases e56 with z | z
        · exact ((hpw q q2 q3).2.2.2.2.2.2.2.2.1 z).1
        · exact ((hpw q q2 q3).2.2.2.2.2.2.2.2.2 z).1
      have pEe : pE q ≤ e := by
        cases many with
        | zero => have := q4 rfl; omega
        | succ k =>
          obtain ⟨q', r1, r2, r3, -⟩ := t3 k (by omega)
          have := q5 (by omega)
          rw [show k + 1 - 1 = k from by omega, r1] at this
          omega
      have pwv : PW v pM pE PN SN rh q := by
        obtain ⟨a1, a2, a3, a4, b03, b1, b2, b4, b5, b6⟩ := hpw q q2 q3
        have e36 : A v 36 q = A w 36 q := FR.A fv.1 (by decide)
        have e38 : A v 38 q = A w 38 q := FR.A fv.1 (by decide)
        have e37 : ∀ k, A v 37 k = A w 37 k := fun k => FR.A fv.1 (by decide)
        unfold PW CHN
        rw [e33, e35, e36, e38]
        simp only [e37]
        exact ⟨a1, a2, a3, a4, b03, b1, b2, b4, b5, b6⟩
      have hin : ∀ k, q < k → k < pE q → k < pE k := fun k h1 h2 => (hpw k (by omega) (by omega)).1
      refine ok_bnd.mpr (ok_mono (parts1_ok (N := N) (many := many) iv pwv hPN (by rw [e33]; exact e56) hin (by omega) q7 (by omega)) (fun v1 r1 h1 => ?_))
      rcases h1 with ⟨z1, z2⟩ | ⟨m, z1, z2, ⟨z3, z4, z5⟩, z6, z7⟩
      · subst z1
        have f2 : FQ p w _ := ⟨FR.tr fv.1 (FR.mo z2 (is2 := []) (ls2 := []) (as2 := [94, 160, 162]) (js2 := [93, 141, 161, 163]) (by decide) (by decide) (by decide) (by decide)), fun y hy => by rw [FR.A z2 (by decide)]; exact fv.2 y hy⟩
        have i2 : MEI Fv P PR v1 p n ow kd opM b bxM := MEI_fr iv z2 (by decide) (by decide) (by decide) (by decide) (by decide) (by decide) (by decide) (by decide) (by decide) (by decide) (by decide) (by decide) (by decide) (by decide) (by decide) (by decide) (by decide) (by decide)
        rw [decE (by omega) (by omega) (by omega) (by omega), decide_eq_true rfl, br_tq]
        exact no v1 f2 i2
      · subst z2
        have f2 : FQ p w _ := ⟨FR.tr fv.1 (FR.mo z3 (is2 := []) (ls2 := []) (as2 := [94, 160, 162]) (js2 := [93, 141, 161, 163]) (by decide) (by decide) (by decide) (by decide)), fun y hy => by rw [FR.A z3 (by decide)]; exact fv.2 y hy⟩
        have i2 : MEI Fv P PR v1 p n ow kd opM b bxM := MEI_fr iv z3 (by decide) (by decide) (by decide) (by decide) (by decide) (by decide) (by decide) (by decide) (by decide) (by decide) (by decide) (by decide) (by decide) (by decide) (by decide) (by decide) (by decide) (by decide)
        rw [decE (by omega) (by omega) (by omega) (by omega), decide_eq_false (by omega), br_fq]
        have hin2 : ∀ k, q + 1 ≤ k → k < pE q → k < pE k := fun k h1 h2 => hin k (by omega) h2
        refine ih (many + m) (q + 1) b v1 f2 i2 (by omega) (by omega) (by omega) ⟨fun hz => ?_, fun hz => ?_, fun j hj => ?_⟩ (by omega)
        · have m0 : m = 0 := by omega
          have n0 : many = 0 := by omega
          subst m0
          have := q4 n0
          have z6' : q + 1 = pE q := z6
          omega
        · cases m with
          | zero =>
            have z6' : q + 1 = pE q := z6
            rw [show many + 0 - 1 = many - 1 from by omega, (z4 (many - 1) (by omega)).1, q5 (by omega), z6']
          | succ m =>
            have := (z5 0 (by omega)).1
            rw [show many + (m + 1 - 1 - 0) = many + (m + 1) - 1 from by omega] at this
            exact this
        · by_cases hjm : j < many
          · obtain ⟨q', r1, r2, r3, r4, r5, r6, r7⟩ := t3 j (by omega)
            obtain ⟨l1, l2⟩ := z4 j hjm
            refine ⟨q', by rw [l1]; exact r1, r2, r3, r4, fun h => ?_, r6, by rw [l2]; exact r7⟩
            rw [(z4 (j - 1) (by omega)).1]; exact r5 h
          · obtain ⟨k, hk, ej⟩ : ∃ k, k < m ∧ j = many + (m - 1 - k) := ⟨m - 1 - (j - many), by omega, by omega⟩
            obtain ⟨s1, s2⟩ := z5 k hk
            have up := chi_up z7 hin2 k (by omega)
            have lo := z7 k hk
            have gap := chi_gap z6 z7 hin2 (m - k) k (by omega)
            rw [ej]
            refine ⟨chi pE (q + 1) k, s1, by omega, by omega, fun hz => ?_, fun hz => ?_, ?_, s2⟩
            · have n0 : many = 0 := by omega
              have k1' : k + 1 = m := by omega
              have : pE (chi pE (q + 1) k) = chi pE (q + 1) m := by rw [← k1']; rfl
              rw [this, z6]; exact q4 n0
            · by_cases e9 : k + 1 < m
              · have := (z5 (k + 1) e9).1
                rw [show many + (m - 1 - k) - 1 = many + (m - 1 - (k + 1)) from by omega, this]; rfl
              · have k1' : k + 1 = m := by omega
                have hpe : pE (chi pE (q + 1) k) = pE q := by
                  have : pE (chi pE (q + 1) k) = chi pE (q + 1) m := by rw [← k1']; rfl
                  rw [this, z6]
                rw [hpe, show many + (m - 1 - k) - 1 = many - 1 from by omega, (z4 (many - 1) (by omega)).1]
                exact q5 (by omega)
            · cases many with
              | zero => have := q4 rfl; omega
              | succ k' =>
                obtain ⟨q', r1, r2, r3, -, -, r6, -⟩ := t3 k' (by omega)
                have := q5 (by omega)
                rw [show k' + 1 - 1 = k' from by omega, r1] at this
                omega
theorem fits_ok {q e fr rn rh : Nat} {x : Int64} (i : MEI Fv P PR w p n ow kd opM bnM bxM) (hPN : PN ≤ 2900) (heP : e ≤ PN) (hpe : pE q = e) (hqe : q < e) (hpw : ∀ k, q ≤ k → k < e → PW w pM pE PN SN rh k) (hF : FVH Fv) (hat : ATM w) (hP : ∀ t, P t → PA w t) (hS : STR w SN) (hfr : FRA w p fr rn rh) (hcap : ∀ k, q ≤ k → k ≤ e → rn + rh + pM k ≤ 2450) (hb : bnM = rn + rh + pM q) (gx : GT n ow kd P x) (hN : 6000 ≤ N) :
    OK (fun w2 r => FQ p w w2 ∧ ((r = I 1 ∧ MEI Fv P PR w2 p n ow kd opM (rn + rh + pM e) bxM) ∨ (r = I 0 ∧ ∃ b2, MEI Fv P PR w2 p n ow kd opM b2 bxM ∧ ∃ c2, q ≤ c2 ∧ c2 ≤ e ∧ b2 = rn + rh + pM c2))) (fm_M_fits N w (I q) x) := by
  unfold fm_M_fits fb_M_fits_0
  rw [lit0q, lit1q, inb_at (k := 160) (n := 3000) rfl (by omega) (by omega) (by decide), ck_t, lt_e, I_tn (by omega) (by omega), wa_e, inb_at (k := 161) (n := 3000) rfl (by omega) (by omega) (by decide), ck_t, lt_e, wj_e]
  have fz : FQ p w (wj (wa w 160 (Int.toNat 0) q) 161 (Int.toNat 0) x) := ⟨FR.wj (FR.wa FR.rf (by decide)) (by decide), fun y _ => by rw [A_wj, A_ne (by omega)]⟩
  have fz2 : FR [] [] [160] [161] w (wj (wa w 160 (Int.toNat 0) q) 161 (Int.toNat 0) x) := FR.wj (FR.wa FR.rf (by decide)) (by decide)
  have iz : MEI Fv P PR (wj (wa w 160 (Int.toNat 0) q) 161 (Int.toNat 0) x) p n ow kd opM bnM bxM := MEI_fr i fz2 (by decide) (by decide) (by decide) (by decide) (by decide) (by decide) (by decide) (by decide) (by decide) (by decide) (by decide) (by decide) (by decide) (by decide) (by decide) (by decide) (by decide) (by decide)
  have a0 : A (wj (wa w 160 (Int.toNat 0) q) 161 (Int.toNat 0) x) 160 0 = ((q : Nat) : Int) := by rw [A_wj, A_eq (by omega) (by omega)]; rfl
  refine fits_loop hPN heP hpw hF hat hP hS hfr hcap hN N 1 q bnM _ fz iz hb (Nat.le_refl _) (by omega) ⟨fun z => by omega, fun _ => a0, fun j hj => ?_⟩ (by omega)
  have e0 : j = 0 := by omega
  subst e0
  exact ⟨q, a0, Nat.le_refl _, hqe, fun _ => hpe, fun z => by omega, by omega, by rw [J_wj, if_pos rfl]; exact gx⟩
end
end
section
abbrev TY : Type := Nat → Nat → Nat
def tH (T : TY) (n : Nat) : Nat := T 0 n
def tM (T : TY) (n : Nat) : Nat := T 1 n
def tL (T : TY) (n : Nat) : Nat := T 2 n
def tK (T : TY) (n : Nat) : Nat := T 3 n
def tG (T : TY) (n : Nat) : Nat := T 4 n
def tB (T : TY) (n : Nat) : Nat := T 5 n
def tD (T : TY) (n : Nat) : Nat := T 6 n
def tC (T : TY) (n : Nat) : Nat := T 7 n
def tR (T : TY) (n : Nat) : Nat := T 8 n
abbrev CY : Type := Nat → Nat → Nat
def cH (C : CY) (c : Nat) : Nat := C 0 c
def cB (C : CY) (c : Nat) : Nat := C 1 c
def cM (C : CY) (c : Nat) : Nat := C 2 c
def cN (C : CY) (c : Nat) : Nat := C 3 c
def cL (C : CY) (c : Nat) : Nat := C 4 c
def cK (C : CY) (c : Nat) : Nat := C 5 c
def cC (C : CY) (c : Nat) : Nat := C 6 c
def cR (C : CY) (c : Nat) : Nat := C 7 c
def cT (C : CY) (c : Nat) : Nat := C 8 c
def NX (T : TY) (n m h mm : Nat) : Prop := tH T m = h ∧ tM T m = mm ∧ tL T m = tL T n ∧ tK T m = tK T n ∧ tG T m = tG T n ∧ tB T m = tB T n ∧ tD T m = tD T n ∧ tC T m = tC T n ∧ tR T m < tR T n
def NCO (a : Int) (m l : Nat) : Prop := (0 ≤ a ∧ a < m) ∨ (a ≤ -2 ∧ -2 - a < l)
def npre (k : Nat) : Nat := [0, 1, 1, 1, 1, 1, 1, 1, 2, 1, 1, 1, 0, 2, 1, 1, 1, 0, 1, 1, 1, 1, 1, 1, 1, 1, 1, 1, 2, 1].getD k 0
def PAT (w : MS) (_ _ : Nat → Nat) (PN SN L m m2 : Nat) (a : Int) : Prop := ∃ (q : Nat) (pM pE : Nat → Nat), a = q ∧ q < pE q ∧ pE q ≤ PN ∧ pM q = m ∧ pM (pE q) = m2 ∧ (∀ k, q ≤ k → k ≤ pE q → pM k ≤ m2) ∧ ∀ k, q ≤ k → k < pE q → PW w pM pE PN SN L k
def PATS (w : MS) (_ _ : Nat → Nat) (PN SN L m m2 many : Nat) (a : Int) : Prop := (many = 0 ∧ m2 = m) ∨ (0 < many ∧ ∃ (q : Nat) (pM pE : Nat → Nat), a = q ∧ CHN w pE q many (chi pE q many) ∧ q < chi pE q many ∧ chi pE q many ≤ PN ∧ pM q = m ∧ pM (chi pE q many) = m2 ∧ (∀ k, q ≤ k → k ≤ chi pE q many → pM k ≤ m2) ∧ ∀ k, q ≤ k → k < chi pE q many → PW w pM pE PN SN L k)
def CLS (C : CY) (w : MS) (CN many hg hb m l k cc r : Nat) (a : Int) : Prop := ∃ c : Nat, a = c ∧ c < CN ∧ A w 41 c = many ∧ cH C c = hg ∧ cB C c = hb ∧ cM C c = m ∧ cL C c = l ∧ cK C c = k ∧ cC C c = cc ∧ cR C c = r
def WNa (w : MS) (T : TY) (C : CY) (pM pE : Nat → Nat) (ND CN PN SN UN FN n : Nat) : Prop :=
  (A w 23 n = 11 → tG T n = 0 ∧ tB T n + 2 ≤ tH T n ∧ NX T n (n + 1) (tH T n - 1) (tM T n)) ∧
  (A w 23 n = 13 → tG T n = 0 ∧ (∃ b : Nat, A w 26 n = b ∧ b ≤ 6 ∧ tB T n + (b + 1) ≤ tH T n ∧ NX T n (n + 1) (tH T n - b) (tM T n)) ∧ (A w 30 n ≠ 0 → tK T n = 0)) ∧
  (A w 23 n = 14 → tG T n = 0 ∧ (∃ u : Nat, A w 25 n = u ∧ u < UN ∧ ∀ i : Nat, (i : Int) < A w 54 u → NCO (A w 57 ((A w 55 u).toNat + i)) (tM T n) (tL T n)) ∧ NX T n (n + 1) (tH T n + 1) (tM T n)) ∧
  (A w 23 n = 15 → tG T n = 0 ∧ 0 ≤ A w 27 n ∧ A w 27 n < FN ∧ NX T n (n + 1) (tH T n + 1) (tM T n)) ∧
  (A w 23 n = 16 → tG T n = 0 ∧ tB T n + 1 ≤ tH T n ∧ ∃ m2, PAT w pM pE PN SN (tL T n) (tM T n) m2 (A w 25 n) ∧ NX T n (n + 1) (tH T n) m2) ∧
  (A w 23 n = 17 → tG T n = 0 ∧ tB T n + 1 ≤ tH T n ∧ NX T n (n + 1) (tH T n - 1) (tM T n)) ∧
  (A w 23 n = 18 → tG T n = 0 ∧ ∃ a : Nat, A w 25 n = a ∧ tD T n ≤ a ∧ a ≤ tM T n ∧ NX T n (n + 1) (tH T n) a) ∧
  (A w 23 n = 19 → tG T n = 0 ∧ tH T (n + 1) = tH T n ∧ tM T (n + 1) = tM T n ∧ tL T (n + 1) = tL T n ∧ tK T (n + 1) = tK T n + 1 ∧ tG T (n + 1) = 0 ∧ tB T (n + 1) = tH T n ∧ tD T (n + 1) = tM T n ∧ tC T (n + 1) = n ∧ tR T (n + 1) < tR T n ∧ ∃ a : Nat, A w 25 n = a ∧ a < ND ∧ NX T n a (tH T n + 1) (tM T n)) ∧
  (A w 23 n = 20 → tG T n = 0 ∧ 1 ≤ tK T n ∧ tH T (n + 1) = tH T n ∧ tM T (n + 1) = tM T n ∧ tL T (n + 1) = tL T n ∧ tK T (n + 1) = tK T n - 1 ∧ tG T (n + 1) = 0 ∧ tB T (n + 1) + 1 ≤ tH T n ∧ tD T (n + 1) ≤ tM T n ∧ (1 < tK T n → tC T (n + 1) = tC T (tC T n)) ∧ tR T (n + 1) < tR T n) ∧
  (A w 23 n = 21 → tG T n = 0 ∧ tB T n + 1 ≤ tH T n ∧ A w 27 n = tM T n ∧ ∃ r, r < tR T n ∧ CLS C w CN 1 (tH T n) (tH T n - 1) (tM T n) (tL T n) (tK T n) (tC T n) r (A w 25 n)) ∧
  (A w 23 n = 31 → tG T n = 0 ∧ A w 27 n = tM T n ∧ ∃ r, r < tR T n ∧ CLS C w CN 0 (tH T n) (tH T n) (tM T n) (tL T n) (tK T n) (tC T n) r (A w 25 n)) ∧
  (A w 23 n = 27 → tG T n = 0 ∧ A w 27 n = tM T n ∧ (A w 25 n = -1 ∨ ∃ r, r + 1 = tR T n ∧ CLS C w CN 1 (tH T n) (tH T n) (tM T n) (tL T n) (tK T n) (tC T n) r (A w 25 n)) ∧ (A w 31 n = -1 ∨ ∃ f : Nat, A w 31 n = f ∧ f < ND ∧ ∃ b : Nat, A w 26 f = b ∧ b < ND ∧ NX T n b (tH T n) (tM T n))) ∧
  (A w 23 n = 28 → tG T n = 0 ∧ tB T n + 1 ≤ tH T n ∧ (∃ c : Nat, A w 27 n = c ∧ tD T n ≤ c ∧ c ≤ tM T n ∧ ∃ a : Nat, A w 25 n = a ∧ a < ND ∧ A w 23 a = 27 ∧ A w 31 a ≠ -1 ∧ NX T n a (tH T n - 1) c)) ∧
  (A w 23 n = 29 → tG T n = 0 ∧ 1 ≤ tH T n ∧ tK T n = 0 ∧ 1 ≤ tR T n) ∧
  (A w 23 n = 30 → tG T n = 0 ∧ NX T n (n + 1) (tH T n) (tM T n)) ∧
  (A w 23 n = 26 → tG T n = 0 ∧ ((∃ a : Nat, A w 25 n = a ∧ a < ND ∧ NX T n a (tH T n) (tM T n)) ∨ (A w 25 n = -2 ∧ ∃ r : Nat, A w 26 n = r ∧ r < ND ∧ ∃ b : Nat, A w 26 r = b ∧ b < ND ∧ NX T n b (tH T n) (tM T n))))
def WNb (w : MS) (T : TY) (C : CY) (ND SN FN n : Nat) : Prop :=
  (A w 23 n = 1 → (A w 25 n = 0 ∨ (A w 25 n = 1 ∧ 0 ≤ A w 26 n ∧ A w 26 n < F w 14)) ∧ NX T n (n + 1) (tH T n + 1) (tM T n)) ∧
  (A w 23 n = 2 → 0 ≤ A w 25 n ∧ A w 25 n < SN ∧ NX T n (n + 1) (tH T n + 1) (tM T n)) ∧
  (A w 23 n = 3 → NCO (A w 25 n) (tM T n) (tL T n) ∧ NX T n (n + 1) (tH T n + 1) (tM T n)) ∧
  (A w 23 n = 4 → ∃ a : Nat, A w 25 n = a ∧ a ≤ 8 ∧ tB T n + a ≤ tH T n ∧ NX T n (n + 1) (tH T n + 1 - a) (tM T n)) ∧
  (A w 23 n = 5 → ∃ a b : Nat, A w 25 n = a ∧ A w 26 n = b ∧ a ≤ 8 ∧ b ≤ 1 ∧ tB T n + (a + b) ≤ tH T n ∧ NX T n (n + 1) (tH T n + 1 - (a + b)) (tM T n)) ∧
  (A w 23 n = 6 → tB T n + 2 ≤ tH T n ∧ NX T n (n + 1) (tH T n - 1) (tM T n) ∧ (100 ≤ A w 25 n ∨ (12 ≤ A w 25 n ∧ A w 25 n ≤ 20) ∨ A w 25 n = 22 ∨ A w 25 n = 23)) ∧
  (A w 23 n = 7 ∨ A w 23 n = 8 → tB T n + 1 ≤ tH T n ∧ NX T n (n + 1) (tH T n) (tM T n)) ∧
  (A w 23 n = 9 ∨ A w 23 n = 10 → tB T n + 1 ≤ tH T n ∧ NX T n (n + 1) (tH T n - 1) (tM T n) ∧ ∃ a : Nat, A w 25 n = a ∧ a < ND ∧ NX T n a (tH T n) (tM T n)) ∧
  (A w 23 n = 12 → (∃ b : Nat, A w 26 n = b ∧ b ≤ 6 ∧ tB T n + b ≤ tH T n ∧ NX T n (n + 1) (tH T n + 1 - b) (tM T n) ∧ ((∃ k : Nat, A w 27 n = 2000 + k ∧ k < 30 ∧ b = npre k ∧ (tG T n ≠ 0 → 18 ≤ k)) ∨ (tG T n = 0 ∧ 0 ≤ A w 27 n ∧ A w 27 n < FN ∧ A w 48 (A w 27 n).toNat = b))) ∧ (A w 30 n ≠ 0 → tK T n = 0)) ∧
  (A w 23 n = 22 → tG T n ≠ 0 ∧ tB T n + 1 ≤ tH T n ∧ NX T n (n + 1) (tH T n - 1) (tM T n)) ∧
  (A w 23 n = 23 → tG T n ≠ 0 ∧ tH T n = cH C (tG T n - 1))
def CWD (w : MS) (T : TY) (C : CY) (pM pE : Nat → Nat) (ND CN PN SN c : Nat) : Prop :=
  (∃ many : Nat, A w 41 c = many ∧ many ≤ 6 ∧ PATS w pM pE PN SN (cL C c) (cM C c) (cN C c) many (A w 40 c)) ∧ (cM C c ≤ cN C c ∧ cN C c + cL C c ≤ 40 ∧ cR C c < 16000 ∧ cT C c ≤ 16000) ∧
  (A w 42 c = -1 ∨ ∃ g : Nat, A w 42 c = g ∧ g < ND ∧ tH T g = cH C c ∧ tG T g = c + 1 ∧ tR T g ≤ cT C c) ∧
  (∃ b : Nat, A w 43 c = b ∧ b < ND ∧ tH T b = cB C c ∧ tM T b = cN C c ∧ tL T b = cL C c ∧ tK T b = cK C c ∧ tG T b = 0 ∧ tC T b = cC C c ∧ tR T b ≤ cR C c) ∧
  (A w 45 c = -1 ∨ ∃ d : Nat, A w 45 c = d ∧ c < d ∧ d < CN ∧ A w 41 d = A w 41 c ∧ cH C d = cH C c ∧ cB C d = cB C c ∧ cM C d = cM C c ∧ cL C d = cL C c ∧ cK C d = cK C c ∧ cC C d = cC C c ∧ cR C d = cR C c ∧ cT C d ≤ cT C c)
def NW (w : MS) (T : TY) (C : CY) (ND CN n : Nat) : Prop :=
  tH T n ≤ 760 ∧ tM T n + tL T n ≤ 40 ∧ tK T n ≤ 26 ∧ tB T n ≤ tH T n ∧ tD T n ≤ tM T n ∧ (1 ≤ tR T n ∧ tR T n ≤ 16000) ∧
  (0 < tK T n → tC T n < ND ∧ A w 23 (tC T n) = 19 ∧ tK T (tC T n) + 1 = tK T n ∧ tL T (tC T n) = tL T n ∧ tH T (tC T n) ≤ tB T n ∧ tM T (tC T n) ≤ tD T n ∧ ∃ a : Nat, A w 25 (tC T n) = a ∧ tR T a < tR T n) ∧
  (tG T n ≠ 0 → ∃ c, tG T n = c + 1 ∧ c < CN ∧ tM T n = cN C c ∧ tL T n = cL C c ∧ tK T n = cK C c ∧ tC T n = cC C c ∧ tB T n = cH C c ∧ ∀ d : Nat, A w 45 c = d → cT C d < tR T n) ∧
  1 ≤ A w 23 n ∧ A w 23 n ≤ 31 ∧ A w 23 n ≠ 24 ∧ A w 23 n ≠ 25 ∧ (A w 23 n ≠ 29 → n + 1 < ND) ∧ 0 ≤ A w 24 n ∧ A w 24 n < 4002
def PRG (w : MS) (T : TY) (C : CY) (pM pE : Nat → Nat) (ND CN PN SN UN FN : Nat) : Prop :=
  (ND ≤ 16000 ∧ CN ≤ 1400 ∧ PN ≤ 2900 ∧ UN ≤ 1400 ∧ FN ≤ 1000 ∧ F w 52 = FN ∧ F w 56 = UN) ∧ STR w SN ∧
  (∀ n, n < ND → NW w T C ND CN n ∧ WNa w T C pM pE ND CN PN SN UN FN n ∧ WNb w T C ND SN FN n) ∧
  (∀ c, c < CN → CWD w T C pM pE ND CN PN SN c) ∧
  (∀ f, f < FN → ∃ a r : Nat, A w 48 f = a ∧ a ≤ 6 ∧ CLS C w CN a a 0 0 0 0 0 r (A w 50 f)) ∧
  (∀ u, u < UN → ∃ a h r : Nat, A w 54 u = h ∧ h ≤ 40 ∧ 0 ≤ A w 55 u ∧ A w 55 u + h ≤ 24000 ∧ a ≤ 6 ∧ CLS C w CN a a 0 0 h 0 0 r (A w 53 u))
end
section
def LST (h : Nat → Int64) : Nat → Int64 → Int64 → Prop
  | 0, x, t => x = t
  | k + 1, x, t => so x = 7 ∧ LST h k (h (vn x + 1)) t
section
variable {Fv : Int64 → Int64 → Prop} {P : Int64 → Prop} {w w2 : MS} {PR N p n opM bnM bxM : Nat} {ow kd : Nat → Nat}
theorem LST_gt {h : Nat → Int64} (g : HP h n ow kd Fv P) : ∀ (k : Nat) (x t : Int64), GT n ow kd P x → LST h k x t → GT n ow kd P t
  | 0, x, t, gx, l => by rw [← show x = t from l]; exact gx
  | k + 1, x, t, gx, l => by
    obtain ⟨l1, l2⟩ := l
    have hx : isH x := Or.inr (Or.inr l1)
    have bb : blk h x = 2 := by unfold blk; rw [l1]; rfl
    have pp : prt x = 0 := by unfold prt; rw [l1]; rfl
    exact LST_gt g k _ t ((HP_bk g hx gx).2 1 (by omega) (by omega)) l2
theorem LST_hom {h h2 : Nat → Int64} {n2 : Nat} {ow2 kd2 : Nat → Nat} {fd : Int64 → Int64} {R : Int64 → Prop} (m : HOM h n ow kd h2 n2 ow2 kd2 P fd R) : ∀ (k : Nat) (x t : Int64), (isH x → R x) → LST h k x t → LST h2 k (fd x) (fd t)
  | 0, x, t, _, l => by show fd x = fd t; rw [show x = t from l]
  | k + 1, x, t, r, l => by
    obtain ⟨l1, l2⟩ := l
    have hx : isH x := Or.inr (Or.inr l1)
    have bb : blk h x = 2 := by unfold blk; rw [l1]; rfl
    have pp : prt x = 0 := by unfold prt; rw [l1]; rfl
    obtain ⟨-, a2, -, -, -, a6⟩ := m.2 x hx (r hx)
    obtain ⟨e1, e2⟩ := a6 1 (by omega) (by omega)
    exact ⟨by rw [a2]; exact l1, by rw [e1]; exact LST_hom m k _ t e2 l2⟩
theorem len_loop (i : MEI Fv P PR w p n ow kd opM bnM bxM) {x0 : Int64} : ∀ (s f : Nat) (m k : Nat) (x : Int64), SZ (hp w p) n ow kd Fv P f x s → s < m → 2 * k + s ≤ 1000 → (∀ j t, LST (hp w p) j x t → LST (hp w p) (k + j) x0 t) → OK (fun w2 r => w2 = w ∧ (r = I (-1) ∨ ∃ (c : Nat) (t : Int64), r = I c ∧ LST (hp w p) c x0 t ∧ so t = 6 ∧ c ≤ 500)) (gg_M_lengthOf N m w x (I k)) := by
  have x4 := MEI_p i
  have x3 := i.2.2.2.2.2.2.2.1
  intro s
  induction s using Nat.strongRecOn with
  | _ s ih =>
    intro f m k x z hm hk hl
    obtain ⟨m', rfl⟩ : ∃ m', m = m' + 1 := ⟨m - 1, by omega⟩
    have rx := so_r x
    show OK _ (fb_M_lengthOf_5 N (gg_M_lengthOf N m') w x (I k))
    unfold fb_M_lengthOf_5 fb_M_lengthOf_50
    rw [sortOf_e, bnd_so, show (7 : Int32) = I 7 from rfl, show (6 : Int32) = I 6 from rfl, decE rx.1 rx.2 (by omega) (by omega)]
    by_cases e7 : so x = 7
    · have hx : isH x := Or.inr (Or.inr e7)
      obtain ⟨f', hf'⟩ : ∃ f', f = f' + 1 := by cases f with | zero => exact z.elim | succ f' => exact ⟨f', rfl⟩
      subst hf'
      rcases z with ⟨z1, -⟩ | ⟨-, b, c, z3, z4⟩
      · exact absurd hx z1
      have bb : blk (hp w p) x = 2 := by unfold blk; rw [e7]; rfl
      have pp : prt x = 0 := by unfold prt; rw [e7]; rfl
      rw [bb, pp] at z3 z4
      have zs : s = 2 + (c 0 + c 1) := by rw [z4]; show 2 + (0 + c (0 + 0) + c (0 + 1)) = _; simp
      have bn := b.2.2.2.1
      have vx : va x = (vn x : Int) := by have := b.1; unfold vn; omega
      rw [decide_eq_true e7, br_tq, valueOf_e, bnd_so, I_F' i.2.2.1, vx, lit1q, I_add, I_add, show (vn x : Int) + 1 = ((vn x + 1 : Nat) : Int) from by omega, cell_e (by omega) (by omega), bnd_so]
      exact ih (c 1) (by omega) f' m' (k + 1) _ (z3 1 (by omega) (by omega)) (by omega) (by omega) (fun j t l => by
        have := hl (j + 1) t ⟨e7, l⟩
        rw [show k + 1 + j = k + (j + 1) from by omega]; exact this)
    · rw [decide_eq_false e7, br_fq, sortOf_e, bnd_so, decE rx.1 rx.2 (by omega) (by omega)]
      by_cases e6 : so x = 6
      · rw [decide_eq_true e6, br_tq]
        exact ok_some.mpr ⟨rfl, Or.inr ⟨k, x, rfl, by have := hl 0 x rfl; exact this, e6, by omega⟩⟩
      · rw [decide_eq_false e6, br_fq]
        exact ok_some.mpr ⟨rfl, Or.inl rfl⟩
theorem lengthOf_ok {x : Int64} (i : MEI Fv P PR w p n ow kd opM bnM bxM) (gx : GT n ow kd P x) (hN : 2000 ≤ N) : OK (fun w2 r => w2 = w ∧ (r = I (-1) ∨ ∃ (c : Nat) (t : Int64), r = I c ∧ LST (hp w p) c x t ∧ so t = 6 ∧ c ≤ 500)) (fm_M_lengthOf N w x) := by
  have g := i.2.2.2.2.2.2.1
  have x3 := i.2.2.2.2.2.2.2.1
  obtain ⟨f, s, z⟩ := HP_sz g gx
  have hs := SZ_1000 g x3 z
  unfold fm_M_lengthOf fb_M_lengthOf_0
  rw [lit0q]
  exact len_loop i s f N 0 x z (by omega) (by omega) (fun j t l => by rw [Nat.zero_add]; exact l)
theorem write_ok {o : Nat} {t : Int64} {m : Nat} {ow2 kd2 : Nat → Nat} (ho : o < 25) (hm : m ≤ 500) (g : HP (hp w o) m ow2 kd2 Fv P) (hat : ATM w) (hP : ∀ t, P t → PA w t) (hS : PS P) (ht : GT m ow2 kd2 P t) (hN : 11000000 ≤ N) : OK (fun w2 _ => FR [144] [] [143] [141] w w2 ∧ 0 ≤ F w2 144 ∧ F w2 144 ≤ 100) (fm_M_write N w (I o) t) := by
  unfold fm_M_write fb_M_write_0 fb_M_write_30
  rw [lit0q, lt_e, wi_e]
  have f0 : FR [144] [] [143] [141] w (wi w 144 0) := FR.wi FR.rf (by decide)
  have z0 : F (wi w 144 0) 144 = 0 := by rw [F_wi (by omega) (by omega), if_pos rfl]
  refine ok_bnd.mpr (ok_mono (writeOn_ok (B := 6000) (u0 := wi w 144 0) (by omega) ho hm g (ATM_fr hat f0 (by decide) (by decide)) (PA_fr hP f0 (by decide)) hS ht (by omega) (by omega) hN) (fun v _ h => ?_))
  obtain ⟨h1, h2, h3⟩ := h
  rw [I_F, lit100, decI (by omega) (by omega) (by omega) (by omega)]
  by_cases e : F v 144 ≤ 100
  · rw [decide_eq_true e, br_tq, lt_e, wi_e]
    exact ok_some.mpr ⟨FR.wi (FR.tr f0 h1) (by decide), by rw [F_wi (by omega) (by omega), if_pos rfl]; exact h2, by rw [F_wi (by omega) (by omega), if_pos rfl]; exact e⟩
  · rw [decide_eq_false e, br_fq, lt_e, wi_e]
    exact ok_some.mpr ⟨FR.wi (FR.tr f0 h1) (by decide), by rw [F_wi (by omega) (by omega), if_pos rfl]; omega, by rw [F_wi (by omega) (by omega), if_pos rfl]; omega⟩
theorem pr_loop {L O : Nat} (hL : L ≤ 100) (hO : O < 200) : ∀ (m k : Nat) (w : MS), k ≤ L → L - k < m → F w 144 = L → F w 128 = O → OK (fun w2 _ => FR [128] [] [126, 127] [] w w2 ∧ F w2 128 = (O : Int) + 1 ∧ ∀ i, A w2 127 i = if i = O then (L : Int) else A w 127 i) (gg_M_printRun N m w (I k)) := by
  intro m
  induction m with
  | zero => intro k w _ z; exact absurd z (Nat.not_lt_zero _)
  | succ m ih =>
    intro k w hk hm f1 f2
    show OK _ (fb_M_printRun_21 N (gg_M_printRun N m) w (I k))
    unfold fb_M_printRun_21 fb_M_printRun_78
    rw [I_F' f1, decI (by omega) (by omega) (by omega) (by omega), I_F' f2]
    by_cases e : L ≤ k
    · rw [decide_eq_true (by omega), br_tq, inb_at (k := 127) (n := 200) rfl (by omega) (by omega) (by decide), ck_t, lt_e, I_tn (by omega) (by omega), Int.toNat_natCast, wa_e, lt_e, show (wa w 127 O L).1 128 = I O from I_F' f2, lit1q, I_add, wi_e]
      exact ok_some.mpr ⟨FR.wi (FR.wa FR.rf (by decide)) (by decide), by rw [F_wi (by omega) (by omega), if_pos rfl], fun i => by rw [A_wi, A_eq (by omega) (by omega)]⟩
    · rw [decide_eq_false (by omega), br_fq, inb_at (k := 143) (n := 100) rfl (by omega) (by omega) (by decide), ck_t, lit100, I_mul, I_add, inb_at (k := 126) (n := 20000) rfl (by omega) (by omega) (by decide), ck_t, lt_e]
      generalize vp_nar .byte (w.2.2.1 143 (I (k : Int)).toNatClampNeg) = b
      rw [I_of b, I_tn (by omega) (by omega), wa_e, lit1q, I_add]
      refine ok_mono (ih (k + 1) _ (by omega) (by omega) f1 f2) (fun w2 _ h => ⟨FR.tr (FR.wa FR.rf (by decide)) h.1, h.2.1, fun i => ?_⟩)
      rw [h.2.2 i, A_ne (by decide)]
theorem printRun_ok {t : Int64} (i : MEI Fv P PR w p n ow kd opM bnM bxM) (hat : ATM w) (hP : ∀ t, P t → PA w t) (hS : PS P) (gt : GT n ow kd P t) (hO : 0 ≤ F w 128 ∧ F w 128 ≤ 200) (hN : 11000000 ≤ N) : OK (fun w2 _ => FR [128, 144] [] [126, 127, 143] [141] w w2 ∧ 0 ≤ F w2 128 ∧ F w2 128 ≤ 200 ∧ (∀ j, A w2 127 j = A w 127 j ∨ (0 ≤ A w2 127 j ∧ A w2 127 j ≤ 100))) (fm_M_printRun N w t) := by
  have x4 := MEI_p i
  have g := i.2.2.2.2.2.2.1
  have x3 := i.2.2.2.2.2.2.2.1
  unfold fm_M_printRun fb_M_printRun_0 fb_M_printRun_78
  rw [I_F (k := 128), show (200 : Int32) = I 200 from rfl, decI (by omega) (by omega) (by omega) (by omega)]
  by_cases e : 200 ≤ F w 128
  · rw [decide_eq_true e, br_tq]
    exact ok_some.mpr ⟨FR.rf, hO.1, hO.2, fun _ => Or.inl rfl⟩
  · rw [decide_eq_false e, br_fq, I_F' i.2.2.1]
    refine ok_bnd.mpr (ok_mono (write_ok (N := N) (show p < 25 by omega) x3 g hat hP hS gt hN) (fun v _ h => ?_))
    obtain ⟨h1, h2, h3⟩ := h
    have e128 : F v 128 = F w 128 := FR.F h1 (by decide)
    rw [lit0q]
    refine ok_mono (pr_loop (L := (F v 144).toNat) (O := (F w 128).toNat) (by omega) (by omega) N 0 v (Nat.zero_le _) (by omega) (by omega) (by omega)) (fun w2 _ q => ⟨FR.tr (FR.mo h1 (by decide) (by decide) (by decide) (by decide)) (FR.mo q.1 (by decide) (by decide) (by decide) (by decide)), by have := q.2.1; omega, by have := q.2.1; omega, fun j => ?_⟩)
    rw [q.2.2 j]
    split
    · exact Or.inr ⟨by omega, by omega⟩
    · exact Or.inl (FR.A h1 (by decide))
end
end
section
def ESZ (Fv : Int64 → Int64 → Prop) (P : Int64 → Prop) (PR : Nat) (w : MS) : Prop := ESI Fv P PR w ∧ F w 149 = 0 ∧ F w 150 = 0
section
variable {Fv : Int64 → Int64 → Prop} {P : Int64 → Prop} {w w2 w0 : MS} {PR N p n opM bnM bxM q : Nat} {ow kd : Nat → Nat}
theorem MQ_wnt {n2 : Nat} {ow2 kd2 : Nat → Nat} {fd : Int64 → Int64} {R : Int64 → Prop} (d : DW Fv P PR w0) (cx : CX w0 q (hp w0 q) n ow kd Fv P opM bnM bxM) (h : WNT w0 q n ow kd Fv P opM bnM bxM w n2 ow2 kd2 fd R) : MQq Fv P w0 w q n2 ow2 kd2 opM bnM bxM := by
  obtain ⟨t1, t2, t3, t4, t5, t6, t7, t8, t9, t10, t11, t12⟩ := h
  obtain ⟨-, -, -, -, x5, x6, x7, -⟩ := cx
  refine ⟨by have := t5 q; rw [if_pos rfl] at this; exact this, t3, FR.mo t6 (by decide) (by decide) (by decide) (by decide), by rw [FR.F t6 (by decide)]; exact d.2.2.2.1, fun p hp3 => by rw [t5, if_neg hp3], t7, fun i hi => RTS_out t8 x5.2 hi, fun i hi => RTS_out t9 x6.2 hi, fun i hi => RTS_out t10 x7.2 hi⟩
def CALLF (u w : MS) : Prop := FR [3, 125, 136, 138, 140, 144, 149, 150] [139] [89, 90, 108, 109, 113, 116, 117, 122, 123, 124, 131, 132, 135, 142, 143, 145, 146, 147] [88, 91, 93, 107, 134, 137, 141, 148] u w ∧ (∀ p, A w 109 p = A u 109 p ∨ A w 109 p = 3) ∧ RLo u w
theorem CALLF.tr {u v : MS} (a : CALLF u v) (b : CALLF v w) : CALLF u w := ⟨FR.tr a.1 b.1, fun p => by
  rcases b.2.1 p with h | h
  · rw [h]; exact a.2.1 p
  · exact Or.inr h, RLo.tr a.2.2 b.2.2⟩
theorem EVF.callf {u : MS} (a : EVF u w) : CALLF u w := ⟨FR.mo a.1 (by decide) (by decide) (by decide) (by decide), a.2, fun i => Or.inl (FR.A a.1 (by decide))⟩
theorem s238 {u : MS} (hPB : PB P PR) (hS : PS P) (hN : 11000000 ≤ N) (hs : ESI Fv P PR w) (hat : ATM w) (hP : ∀ t, P t → PA w t) (hc : CALLF u w) : OK (fun w2 _ => ESZ Fv P PR w2 ∧ CALLF u w2) (fb_M_send_238 N () w) := by
  unfold fb_M_send_238
  exact ok_bnd.mpr (ok_mono (allEnds_ok hPB hS hN hs hat hP) (fun w2 _ h => ok_some.mpr ⟨⟨h.1, h.2.2.2.2⟩, CALLF.tr hc ⟨FR.mo h.2.1 (by decide) (by decide) (by decide) (by decide), h.2.2.1, h.2.2.2.1⟩⟩))
theorem s44_box {y v0 : MS} {n2 n3 opM bnM bxM : Nat} {ow3 kd3 : Nat → Nat} (d0 : DW Fv P PR v0) (lk0 : LK v0 PR) (wt0 : WTQ v0 PR) (hat0 : ATM v0) (hP0 : ∀ t, P t → PA v0 t) (hS : PS P) (hPB : PB P PR) (c0 : CALLF w v0) (hq : q < PR) (e9 : ¬ A v0 109 q = 3) (hb : bxM < 30) (m4 : MQq Fv P v0 y q n3 ow3 kd3 opM bnM bxM) (p5 : GT n3 ow3 kd3 P (mk 5 (n2 : Int))) (hN : 11000000 ≤ N) : OK (fun w2 _ => ESZ Fv P PR w2 ∧ CALLF w w2) (ck (inb (I (q : Int)) (ln 108)) (bnd (fm_M_term N y 5 (I (n2 : Int))) (fun u14 r14 => ck (inb (((I (q : Int)) * 30) + (y.2.2.1 108 (I (q : Int)).toNatClampNeg)) (ln 107)) (lt (upJ u14 107 (vp_updL (u14.2.2.2 107) (((I (q : Int)) * 30) + (y.2.2.1 108 (I (q : Int)).toNatClampNeg)).toNatClampNeg r14)) (fun w15 => ck (inb (I (q : Int)) (ln 108)) (ck (inb (I (q : Int)) (ln 108)) (lt (upA w15 108 (upd (w15.2.2.1 108) (I (q : Int)).toNatClampNeg ((w15.2.2.1 108 (I (q : Int)).toNatClampNeg) + 1))) (fun w16 => fb_M_send_238 N () w16)))))))) := by
  have pr := d0.1.2
  have x4 := m4.2.1.2.2.2.1
  have bx := box_ok (N := N) m4 d0 hq e9 hb p5
  unfold fb_M_message_406 at bx
  have y108 := m4.2.1.2.2.2.2.2.2.1.1
  rw [inb_at (k := 108) (n := 24) rfl (by omega) (by omega) (by decide), ck_t, I_tn (x := (q : Int)) (by omega) (by omega), Int.toNat_natCast, I_A' y108, show (30 : Int32) = I 30 from rfl, I_mul, I_add, inb_at (k := 107) (n := 720) rfl (by omega) (by omega) (by decide), ck_t, lt_e, I_tn (by omega) (by omega), show ((q : Int) * 30 + (bxM : Int)).toNat = 30 * q + bxM from by omega, wj_e, ck_t, ck_t, lt_e, show (wj y 107 (30 * q + bxM) (mk 5 (n2 : Int))).2.2.1 108 q = I bxM from I_A' y108, lit1q, I_add, wa_e] at bx
  have hz := ok_some.mp bx
  rw [inb_at (k := 108) (n := 24) rfl (by omega) (by omega) (by decide), ck_t, show (5 : Int32) = I 5 from rfl, term_e, bnd_so, I_tn (x := (q : Int)) (by omega) (by omega), Int.toNat_natCast, I_A' y108, show (30 : Int32) = I 30 from rfl, I_mul, I_add, inb_at (k := 107) (n := 720) rfl (by omega) (by omega) (by decide), ck_t, lt_e, I_tn (by omega) (by omega), show ((q : Int) * 30 + (bxM : Int)).toNat = 30 * q + bxM from by omega, wj_e, ck_t, ck_t, lt_e, show (wj y 107 (30 * q + bxM) (mk 5 (n2 : Int))).2.2.1 108 q = I bxM from I_A' y108, lit1q, I_add, wa_e]
  exact s238 (N := N) (u := w) hPB hS hN ⟨hz.1, LK_fr lk0 (MSG_evf hz).1 (by decide) (by decide), WT_fr wt0 (MSG_evf hz).1 (by decide) (by decide) (by decide)⟩ (ATM_fr hat0 (MSG_evf hz).1 (by decide) (by decide)) (PA_fr hP0 (MSG_evf hz).1 (by decide)) (CALLF.tr c0 (MSG_evf hz).callf)
theorem s44_pair {v : Int} {v0 v1 : MS} {n2 opM bnM bxM : Nat} {ow2 kd2 : Nat → Nat} (d0 : DW Fv P PR v0) (lk0 : LK v0 PR) (wt0 : WTQ v0 PR) (hat0 : ATM v0) (hP0 : ∀ t, P t → PA v0 t) (hS : PS P) (hPB : PB P PR) (c0 : CALLF w v0) (hq : q < PR) (e9 : ¬ A v0 109 q = 3) (hb : bxM < 30) (hv : -2147483648 ≤ v ∧ v < 2147483648) (mq : MQq Fv P v0 v1 q n2 ow2 kd2 opM bnM bxM) (hroom : n2 + 3 ≤ 500) (hN : 11000000 ≤ N) : OK (fun w2 _ => ESZ Fv P PR w2 ∧ CALLF w w2) (ck (inb (I (q : Int)) (ln 89)) (ck (inb (I (q : Int)) (ln 89)) (ck (inb (I (q : Int)) (ln 89)) (lt (upA v1 89 (upd (v1.2.2.1 89) (I (q : Int)).toNatClampNeg ((v1.2.2.1 89 (I (q : Int)).toNatClampNeg) + 3))) (fun w8 => ck (inb (((I (q : Int)) * 500) + (v1.2.2.1 89 (I (q : Int)).toNatClampNeg)) (ln 88)) (lt (upJ w8 88 (vp_updL (w8.2.2.2 88) (((I (q : Int)) * 500) + (v1.2.2.1 89 (I (q : Int)).toNatClampNeg)).toNatClampNeg 2)) (fun w9 => bnd (fm_M_term N w9 0 (I v)) (fun u10 r10 => ck (inb ((((I (q : Int)) * 500) + (v1.2.2.1 89 (I (q : Int)).toNatClampNeg)) + 1) (ln 88)) (lt (upJ u10 88 (vp_updL (u10.2.2.2 88) ((((I (q : Int)) * 500) + (v1.2.2.1 89 (I (q : Int)).toNatClampNeg)) + 1).toNatClampNeg r10)) (fun w11 => bnd (fm_M_term N w11 4 (I (q : Int))) (fun u12 r12 => ck (inb ((((I (q : Int)) * 500) + (v1.2.2.1 89 (I (q : Int)).toNatClampNeg)) + 2) (ln 88)) (lt (upJ u12 88 (vp_updL (u12.2.2.2 88) ((((I (q : Int)) * 500) + (v1.2.2.1 89 (I (q : Int)).toNatClampNeg)) + 2).toNatClampNeg r12)) (fun w13 => ck (inb (I (q : Int)) (ln 108)) (bnd (fm_M_term N w13 5 (v1.2.2.1 89 (I (q : Int)).toNatClampNeg)) (fun u14 r14 => ck (inb (((I (q : Int)) * 30) + (w13.2.2.1 108 (I (q : Int)).toNatClampNeg)) (ln 107)) (lt (upJ u14 107 (vp_updL (u14.2.2.2 107) (((I (q : Int)) * 30) + (w13.2.2.1 108 (I (q : Int)).toNatClampNeg)).toNatClampNeg r14)) (fun w15 => ck (inb (I (q : Int)) (ln 108)) (ck (inb (I (q : Int)) (ln 108)) (lt (upA w15 108 (upd (w15.2.2.1 108) (I (q : Int)).toNatClampNeg ((w15.2.2.1 108 (I (q : Int)).toNatClampNeg) + 1))) (fun w16 => fb_M_send_238 N () w16)))))))))))))))))))) := by
  have pr := d0.1.2
  have x4 := mq.2.1.2.2.2.1
  have m1 := mq.1
  rw [inb_at (k := 89) (n := 25) rfl (by omega) (by omega) (by decide), ck_t, ck_t, ck_t, lt_e, I_tn (x := (q : Int)) (by omega) (by omega), Int.toNat_natCast, I_A' m1, show (3 : Int32) = I 3 from rfl, I_add, wa_e, lit500, I_mul, I_add, inb_at (k := 88) (n := 12500) rfl (by omega) (by omega) (by decide), ck_t, lt_e, I_tn (by omega) (by omega), show ((q : Int) * 500 + (n2 : Int)).toNat = 500 * q + n2 from by omega, wj_e, lit0q, term_e, bnd_so, lit1q, I_add, inb_at (k := 88) (n := 12500) rfl (by omega) (by omega) (by decide), ck_t, lt_e, I_tn (by omega) (by omega), show ((q : Int) * 500 + (n2 : Int) + 1).toNat = 500 * q + (n2 + 1) from by omega, wj_e, show (4 : Int32) = I 4 from rfl, term_e, bnd_so, show (2 : Int32) = I 2 from rfl, I_add, inb_at (k := 88) (n := 12500) rfl (by omega) (by omega) (by decide), ck_t, lt_e, I_tn (by omega) (by omega), show ((q : Int) * 500 + (n2 : Int) + 2).toNat = 500 * q + (n2 + 2) from by omega, wj_e]
  have un : ∀ j, n2 + j < owH n2 ow2 (n2 + j) := fun j => by unfold owH; rw [if_pos (by omega)]; omega
  have mh := MQ_hole mq 3 (by omega)
  have mc := MQ_cell (t := mk 4 q) (MQ_cell (t := mk 0 v) (MQ_cell (t := 2) mh (i := n2) (by omega) (un 0)) (i := n2 + 1) (by omega) (un 1)) (i := n2 + 2) (by omega) (un 2)
  rw [show (n2 : Int) + ((3 : Nat) : Int) = (n2 : Int) + 3 from by omega] at mc
  have k0 : hp (wj (wj (wj (wa v1 89 q ((n2 : Int) + 3)) 88 (500 * q + n2) 2) 88 (500 * q + (n2 + 1)) (mk 0 v)) 88 (500 * q + (n2 + 2)) (mk 4 q)) q n2 = 2 := by rw [hp_wj, if_neg (by omega), hp_wj, if_neg (by omega), hp_wj, if_pos rfl]
  have k1 : hp (wj (wj (wj (wa v1 89 q ((n2 : Int) + 3)) 88 (500 * q + n2) 2) 88 (500 * q + (n2 + 1)) (mk 0 v)) 88 (500 * q + (n2 + 2)) (mk 4 q)) q (n2 + 1) = mk 0 v := by rw [hp_wj, if_neg (by omega), hp_wj, if_pos rfl]
  have k2 : hp (wj (wj (wj (wa v1 89 q ((n2 : Int) + 3)) 88 (500 * q + n2) 2) 88 (500 * q + (n2 + 1)) (mk 0 v)) 88 (500 * q + (n2 + 2)) (mk 4 q)) q (n2 + 2) = mk 4 q := by rw [hp_wj, if_pos rfl]
  generalize wj (wj (wj (wa v1 89 q ((n2 : Int) + 3)) 88 (500 * q + n2) 2) 88 (500 * q + (n2 + 1)) (mk 0 v)) 88 (500 * q + (n2 + 2)) (mk 4 q) = y at *
  have e5 : so (mk 5 (n2 : Int)) = 5 := so_mk (by omega) (by omega)
  have v5 : va (mk 5 (n2 : Int)) = n2 := va_mk (by omega) (by omega)
  have n5 : vn (mk 5 (n2 : Int)) = n2 := by unfold vn; rw [v5]; omega
  have va2 : va (2 : Int64) = 2 := by decide
  have bb : blk (hp y q) (mk 5 (n2 : Int)) = 3 := by unfold blk; rw [e5, n5, k0]; simp; unfold vn; rw [va2]; decide
  have pp : prt (mk 5 (n2 : Int)) = 1 := by unfold prt; rw [e5]; rfl
  have na : ¬ isH (mk 0 v) := nh_mk (by omega)
  obtain ⟨ow3, kd3, p1, p2, p3, p4, p5, p6, -⟩ := HP_put mc.2.1.2.1 (h2 := hp y q) (m := 3) (k := n2) (x := mk 5 (n2 : Int)) (fun _ _ => rfl) (by omega) (fun j _ => un j) (Or.inr (Or.inl e5)) (by omega) n5 bb (fun _ => by rw [k0]; exact HDC2) (fun e => by omega) (fun j h1 h2 => by
    rw [pp] at h1
    by_cases e : j = 1
    · rw [e, k1]; exact Or.inl ⟨na, hPB.2.2.2.1 v hv.1 hv.2⟩
    · have : j = 2 := by omega
      rw [this, k2]; exact Or.inl ⟨nh_mk (by omega), hPB.2.1 q hq⟩) (Or.inl ⟨e5, rfl, by rw [k1]; exact na⟩)
  have m4 : MQq Fv P v0 y q (n2 + 3) ow3 kd3 opM bnM bxM := MQ_heap mc FR.rf mc.1 (by omega) (fun _ _ => rfl) (fun _ _ => rfl) p4 (fun t g => GT_own g (Nat.le_refl _) p1 p2)
  have := s44_box (N := N) (n2 := n2) d0 lk0 wt0 hat0 hP0 hS hPB c0 hq e9 hb m4 p5 hN
  rw [I_tn (x := (q : Int)) (by omega) (by omega), Int.toNat_natCast, lit1q] at this
  exact this
theorem s44_ok {sort v : Int} (hs : ESI Fv P PR w) (hat : ATM w) (hP : ∀ t, P t → PA w t) (hS : PS P) (hPB : PB P PR) (hPa : ∀ a : Int, 0 ≤ a → a < F w 14 → P (mk 1 a)) (hq : q < PR) (hso : 0 ≤ sort ∧ sort ≤ 2) (hv : -2147483648 ≤ v ∧ v < 2147483648) (hsv : sort = 1 → 0 ≤ v ∧ v < F w 14) (hN : 11000000 ≤ N) : OK (fun w2 _ => ESZ Fv P PR w2 ∧ CALLF w w2) (fb_M_send_44 N () w (I q) (I sort) (I v) 0) := by
  have pr := hs.1.1.2
  unfold fb_M_send_44
  refine ok_lt.mpr ?_
  have f0 : FR [3] [] [] [] w (upI w 3 0) := FR.wi (x := 0) FR.rf (by decide)
  have z3 : (upI w 3 0).1 3 = 0 := rfl
  have hs0 : ESI Fv P PR (upI w 3 0) := ESI_fr hs f0 (by decide) (by decide) (by decide) (by decide) (by decide) (by decide) (by decide) (by decide) (by decide) (by decide) (by decide) (by decide) (by decide) (by decide) (by decide) (by decide) (by decide) (by decide) (by decide) (by decide) (by decide) (by decide)
  have hat0 := ATM_fr hat f0 (by decide) (by decide)
  have hP0 := PA_fr hP f0 (by decide)
  have c0 : CALLF w (upI w 3 0) := ⟨FR.mo f0 (by decide) (by decide) (by decide) (by decide), fun p => Or.inl (FR.A f0 (by decide)), fun i => Or.inl (FR.A f0 (by decide))⟩
  generalize upI w 3 0 = v0 at *
  obtain ⟨d0, lk0, wt0⟩ := id hs0
  have tell : ∀ so' : Int, (so' = 0 ∨ (so' = 1 ∧ 0 ≤ v ∧ v < F w 14)) → OK (fun w2 _ => ESZ Fv P PR w2 ∧ CALLF w w2) (fb_M_send_76 N () v0 (I v) (I q) 2 0 0 0 (I q) (I so')) := by
    intro so' hso'
    unfold fb_M_send_76
    rw [term_e, bnd_so, show (2 : Int32) = I ((2 : Nat) : Int) from rfl]
    have nh : ¬ isH (mk so' v) := nh_mk (by omega)
    have hPt : P (mk so' v) := by
      rcases hso' with h | ⟨h, h2, h3⟩
      · subst h; exact hPB.2.2.2.1 v hv.1 hv.2
      · subst h; exact hPa v h2 h3
    have hm := message_ev (N := N) (sort := 2) (p := 0) (r := 0) (wr := 0) (o := q) d0 hq hPB (by omega) (fun z => by omega) (by omega) (by omega) (by omega) (by omega) (Or.inl ⟨nh, hPt⟩) (by omega)
    rw [show I (((0 : Nat) : Nat) : Int) = (0 : Int32) from rfl, show I (0 : Int) = (0 : Int32) from rfl] at hm
    refine ok_bnd.mpr (ok_mono hm (fun v1 _ h => ?_))
    obtain ⟨h1, h2, h3⟩ := h
    exact s238 hPB hS hN ⟨h1, LK_fr lk0 h2.1 (by decide) (by decide), WT_fr wt0 h2.1 (by decide) (by decide) (by decide)⟩ (ATM_fr hat0 h2.1 (by decide) (by decide)) (PA_fr hP0 h2.1 (by decide)) (CALLF.tr c0 h2.callf)
  have stop := s238 (N := N) hPB hS hN hs0 hat0 hP0 c0
  have eq9 : v0.2.2.1 109 (I (q : Int)).toNatClampNeg = I (A v0 109 q) := by rw [I_tn (by omega) (by omega), Int.toNat_natCast]; exact I_A
  have eq8 : v0.2.2.1 108 (I (q : Int)).toNatClampNeg = I (A v0 108 q) := by rw [I_tn (by omega) (by omega), Int.toNat_natCast]; exact I_A
  have h9 := A_r v0 109 q
  have h8 := A_r v0 108 q
  refine ok_br.mpr ⟨fun _ => ok_br.mpr ⟨fun _ => ok_ck.mpr ⟨inb_at (k := 109) (n := 24) rfl (by omega) (by omega) (by decide), ok_br.mpr ⟨fun _ => stop, fun h3 => ok_ck.mpr ⟨inb_at (k := 108) (n := 24) rfl (by omega) (by omega) (by decide), ok_br.mpr ⟨fun _ => stop, fun h30 => ?_⟩⟩⟩⟩, fun h2 => ?_⟩, fun h => absurd z3 (of_decide_eq_false h)⟩
  · have e9 : ¬ A v0 109 q = 3 := fun z => of_decide_eq_false h3 (by rw [eq9, z]; rfl)
    have e8 : A v0 108 q < 30 := by
      have := of_decide_eq_false h30
      rw [eq8, show (30 : Int32) = I 30 from rfl, I_le (by omega) (by omega) h8.1 h8.2] at this
      omega
    obtain ⟨n, ow, kd, opM, bnM, bxM, hn, cx⟩ : PRC Fv P v0 q := d0.2.1 q hq
    have hw := wants_ok (N := N) cx hn (k := 3) (by omega) (by omega)
    rw [show I ((3 : Nat) : Int) = (3 : Int32) from rfl] at hw
    refine ok_bnd.mpr (ok_mono hw (fun v1 r hw => ?_))
    obtain ⟨n2, ow2, kd2, fd, R, h1, h2⟩ := hw
    have mq := MQ_wnt d0 cx h1
    have hb : bxM < 30 := by have := cx.2.2.2.2.2.2.1.1; omega
    refine ok_br.mpr ⟨fun hr => ?_, fun hr => ?_⟩
    · have dw := MQ_dw mq d0 hq e9
      have fr := mq.2.2.1
      rw [lit1q, show (20 : Int32) = I 20 from rfl, term_e, bnd_so, lit0q]
      refine ok_bnd.mpr (ok_mono (willEnd_ev (N := N) (wr := 0) dw hq (by omega) (show q ≤ 24 by omega) (Or.inl ⟨nh_mk (by omega), hPB.1 20 (by omega) (by omega)⟩)) (fun v2 _ h => ?_))
      obtain ⟨g1, g2, -⟩ := h
      have ev1 : CALLF v0 v1 := ⟨FR.mo fr (by decide) (by decide) (by decide) (by decide), fun p => Or.inl (FR.A fr (by decide)), fun i => Or.inl (FR.A fr (by decide))⟩
      exact s238 hPB hS hN ⟨g1, LK_fr (LK_fr lk0 fr (by decide) (by decide)) g2.1 (by decide) (by decide), WT_fr (WT_fr wt0 fr (by decide) (by decide) (by decide)) g2.1 (by decide) (by decide) (by decide)⟩ (ATM_fr (ATM_fr hat0 fr (by decide) (by decide)) g2.1 (by decide) (by decide)) (PA_fr (PA_fr hP0 fr (by decide)) g2.1 (by decide)) (CALLF.tr c0 (CALLF.tr ev1 g2.callf))
    · have hroom : n2 + 3 ≤ 500 := by
        rcases h2 with ⟨-, z⟩ | ⟨z, -⟩
        · exact z
        · exact absurd (show r = 0 by rw [z]; rfl) (of_decide_eq_false hr)
      exact s44_pair d0 lk0 wt0 hat0 hP0 hS hPB c0 hq e9 hb hv mq hroom hN
  · have s2 : ¬ 2 ≤ sort := fun z => of_decide_eq_false h2 (by rw [show (2 : Int32) = I 2 from rfl, I_le (by omega) (by omega) (by omega) (by omega)]; exact z)
    refine ok_br.mpr ⟨fun _ => tell 0 (Or.inl rfl), fun h0 => tell 1 (Or.inr ⟨rfl, hsv ?_⟩)⟩
    have : sort ≠ 0 := fun z => of_decide_eq_false h0 (by rw [z]; rfl)
    omega
theorem send_ok {a b c : Int32} (h : F w 87 = 0 ∨ (ESI Fv P PR w ∧ ATM w ∧ (∀ t, P t → PA w t) ∧ PS P ∧ PB P PR ∧ (∀ a : Int, 0 ≤ a → a < F w 14 → P (mk 1 a)))) (hN : 11000000 ≤ N) : OK (fun w2 _ => CALLF w w2 ∧ (F w 87 ≠ 0 → ESI Fv P PR w2 ∧ (F w 149 = 0 ∧ F w 150 = 0 → F w2 149 = 0 ∧ F w2 150 = 0)) ∧ (F w 87 = 0 → FR [3] [] [] [] w w2)) (fm_M_send N w a b c) := by
  have ra := ti_rng a
  have rb := ti_rng b
  have rc := ti_rng c
  rw [I_of a, I_of b, I_of c]
  generalize a.toInt = a at *
  generalize b.toInt = b at *
  generalize c.toInt = c at *
  have r87 := F_r w 87
  have r118 := F_r w 118
  have r14 := F_r w 14
  have bad : ∀ t : Int, t ≠ 0 → 0 ≤ t → t ≤ 3 → (F w 87 ≠ 0 → ESI Fv P PR w) → OK (fun w2 _ => CALLF w w2 ∧ (F w 87 ≠ 0 → ESI Fv P PR w2 ∧ (F w 149 = 0 ∧ F w 150 = 0 → F w2 149 = 0 ∧ F w2 150 = 0)) ∧ (F w 87 = 0 → FR [3] [] [] [] w w2)) (fb_M_send_44 N () w (I a) (I b) (I c) (I t)) := fun t t0 t1 t2 he => by
    unfold fb_M_send_44
    rw [lt_e, wi_e, show (wi w 3 t).1 3 = I t from I_F' (by rw [F_wi (by omega) (by omega), if_pos rfl]), lit0q, decE (by omega) (by omega) (by omega) (by omega), decide_eq_false t0, br_fq]
    have f0 : FR [3] [] [] [] w (wi w 3 t) := FR.wi FR.rf (by decide)
    exact ok_some.mpr ⟨⟨FR.mo f0 (by decide) (by decide) (by decide) (by decide), fun p => Or.inl (FR.A f0 (by decide)), fun i => Or.inl (FR.A f0 (by decide))⟩, fun z => ⟨ESI_fr (he z) f0 (by decide) (by decide) (by decide) (by decide) (by decide) (by decide) (by decide) (by decide) (by decide) (by decide) (by decide) (by decide) (by decide) (by decide) (by decide) (by decide) (by decide) (by decide) (by decide) (by decide) (by decide) (by decide), fun q => ⟨(FR.F f0 (by decide)).trans q.1, (FR.F f0 (by decide)).trans q.2⟩⟩, fun _ => f0⟩
  have he : F w 87 ≠ 0 → ESI Fv P PR w := fun z => by rcases h with h | h; exact absurd h z; exact h.1
  unfold fm_M_send fb_M_send_0 fb_M_send_26 fb_M_send_30 fb_M_send_39 fm_M_isProcess fb_M_isProcess_0 fb_M_isProcess_23 fb_M_isProcess_24
  rw [I_F (k := 87), lit0q, decE r87.1 r87.2 (by omega) (by omega), decL (by omega) (by omega) (by omega) (by omega), I_F (k := 118), decI r118.1 r118.2 (by omega) (by omega)]
  have b1 := bad 1 (by omega) (by omega) (by omega) he
  have b2 := bad 2 (by omega) (by omega) (by omega) he
  have no : OK (fun u17 r17 => OK (fun w2 _ => CALLF w w2 ∧ (F w 87 ≠ 0 → ESI Fv P PR w2 ∧ (F w 149 = 0 ∧ F w 150 = 0 → F w2 149 = 0 ∧ F w2 150 = 0)) ∧ (F w 87 = 0 → FR [3] [] [] [] w w2)) (br (decide (r17 = I 0)) (fb_M_send_44 N () u17 (I a) (I b) (I c) 1) (br (decide (I b = 1)) (br (decide (I c < I 0)) (fb_M_send_44 N () u17 (I a) (I b) (I c) 1) (br (decide (I c < (u17.1 14))) (br (decide (I b < I 0)) (fb_M_send_44 N () u17 (I a) (I b) (I c) 2) (br (decide (I b ≤ 2)) (fb_M_send_44 N () u17 (I a) (I b) (I c) (I 0)) (fb_M_send_44 N () u17 (I a) (I b) (I c) 2))) (fb_M_send_44 N () u17 (I a) (I b) (I c) 1))) (br (decide (I b < I 0)) (fb_M_send_44 N () u17 (I a) (I b) (I c) 2) (br (decide (I b ≤ 2)) (fb_M_send_44 N () u17 (I a) (I b) (I c) (I 0)) (fb_M_send_44 N () u17 (I a) (I b) (I c) 2)))))) (ck (isb (I 0)) (some (w, I 0))) := by
    refine ok_ck.mpr ⟨rfl, ok_some.mpr ?_⟩
    rw [decE (by omega) (by omega) (by omega) (by omega), decide_eq_true rfl, br_tq]
    exact b1
  refine ok_bnd.mpr (ok_br.mpr ⟨fun _ => no, fun h87 => ok_br.mpr ⟨fun _ => no, fun ha => ok_br.mpr ⟨fun _ => no, fun hp => ?_⟩⟩⟩)
  have h87' : F w 87 ≠ 0 := of_decide_eq_false h87
  have ha' : ¬ a < 0 := of_decide_eq_false ha
  have hp' : ¬ F w 118 ≤ a := of_decide_eq_false hp
  rcases h with h | ⟨hs, hat, hP, hS, hPB, hPa⟩
  · exact absurd h h87'
  have pr := hs.1.1
  have good : (b = 1 → 0 ≤ c ∧ c < F w 14) → OK (fun w2 _ => CALLF w w2 ∧ (F w 87 ≠ 0 → ESI Fv P PR w2 ∧ (F w 149 = 0 ∧ F w 150 = 0 → F w2 149 = 0 ∧ F w2 150 = 0)) ∧ (F w 87 = 0 → FR [3] [] [] [] w w2)) (br (decide (I b < I 0)) (fb_M_send_44 N () w (I a) (I b) (I c) 2) (br (decide (I b ≤ 2)) (fb_M_send_44 N () w (I a) (I b) (I c) (I 0)) (fb_M_send_44 N () w (I a) (I b) (I c) 2))) := fun hb1 => by
    rw [show (2 : Int32) = I 2 from rfl, decL (by omega) (by omega) (by omega) (by omega), decI (by omega) (by omega) (by omega) (by omega)]
    refine ok_br.mpr ⟨fun _ => b2, fun z1 => ok_br.mpr ⟨fun z2 => ?_, fun _ => b2⟩⟩
    have z1' : ¬ b < 0 := of_decide_eq_false z1
    have z2' : b ≤ 2 := of_decide_eq_true z2
    have := s44_ok (N := N) (q := a.toNat) (sort := b) (v := c) hs hat hP hS hPB hPa (by omega) (by omega) rc hb1 hN
    rw [show ((a.toNat : Nat) : Int) = a from by omega] at this
    exact ok_mono this (fun w2 _ q => ⟨q.2, fun _ => ⟨q.1.1, fun _ => q.1.2⟩, fun z => absurd z h87'⟩)
  refine ok_ck.mpr ⟨rfl, ok_some.mpr ?_⟩
  rw [lit1q, decE (by omega) (by omega) (by omega) (by omega), decide_eq_false (by omega), br_fq, decE (by omega) (by omega) (by omega) (by omega), decL (by omega) (by omega) (by omega) (by omega), I_F (k := 14), decL (by omega) (by omega) (by omega) (by omega)]
  refine ok_br.mpr ⟨fun _ => ok_br.mpr ⟨fun _ => b1, fun z1 => ok_br.mpr ⟨fun z2 => ?_, fun _ => b1⟩⟩, fun z => good (fun zz => absurd zz (of_decide_eq_false z))⟩
  exact good (fun _ => ⟨by have := of_decide_eq_false z1; omega, of_decide_eq_true z2⟩)
end
end
section
def CTI (w : MS) (T : TY) (ND p : Nat) (ct : Nat → Nat) (i c0 k tp ro rn rh : Nat) : Prop :=
  ∀ j, j < k → A w 102 (1600 * p + (c0 + j)) = ((i : Nat) : Int) ∧ A w 103 (1600 * p + (c0 + j)) = ((ct (c0 + j) : Nat) : Int) ∧ ct (c0 + j) < ND ∧ A w 23 (ct (c0 + j)) = 19 ∧ tK T (ct (c0 + j)) = j ∧ tL T (ct (c0 + j)) = rh ∧ A w 104 (1600 * p + (c0 + j)) = ((ro + tH T (ct (c0 + j)) : Nat) : Int) ∧ A w 105 (1600 * p + (c0 + j)) = ((rn + rh + tM T (ct (c0 + j)) : Nat) : Int) ∧ (j + 1 = k → ct (c0 + j) = tp) ∧ ∀ m, m + 1 = j → ct (c0 + m) = tC T (ct (c0 + j))
def FRS (w : MS) (T : TY) (ND p fr : Nat) (ro rn rh cb pc ct : Nat → Nat) (k tp : Nat) : Prop :=
  (1 ≤ fr ∧ fr ≤ 60 ∧ A w 95 p = ((fr : Nat) : Int)) ∧ (ro 0 = 0 ∧ rn 0 = 0 ∧ cb 0 = 0) ∧
  (∀ i, i < fr → A w 100 (60 * p + i) = ((ro i : Nat) : Int) ∧ A w 99 (60 * p + i) = ((rn i : Nat) : Int) ∧ A w 101 (60 * p + i) = ((rh i : Nat) : Int) ∧ rh i ≤ 40 ∧ ro i ≤ 760 * i ∧ rn i ≤ 40 * i ∧ cb i ≤ 26 * i) ∧
  (∀ i, i + 1 < fr → A w 98 (60 * p + i) = ((pc i : Nat) : Int) ∧ pc i < ND ∧ tG T (pc i) = 0 ∧ tB T (pc i) + 1 ≤ tH T (pc i) ∧ ro (i + 1) + 1 = ro i + tH T (pc i) ∧ rh i = tL T (pc i) ∧ rn (i + 1) = rn i + rh i + tM T (pc i) ∧ cb (i + 1) = cb i + tK T (pc i) ∧ CTI w T ND p ct i (cb i) (tK T (pc i)) (tC T (pc i)) (ro i) (rn i) (rh i)) ∧
  CTI w T ND p ct (fr - 1) (cb (fr - 1)) k tp (ro (fr - 1)) (rn (fr - 1)) (rh (fr - 1))
def sR (T : TY) (pc : Nat → Nat) : Nat → Nat
  | 0 => 0
  | m + 1 => sR T pc m + tR T (pc m)
section
variable {Fv : Int64 → Int64 → Prop} {P : Int64 → Prop} {w w2 : MS} {PR N p n opM bnM bxM ND fr k tp mu CN PN SN UN FN : Nat} {ow kd ro rn rh cb pc ct pM pE : Nat → Nat} {T : TY} {C : CY}
theorem CTI_fr {is ls as js : List Nat} {i c0 roi rni rhi : Nat} (c : CTI w T ND p ct i c0 k tp roi rni rhi) (f : FR is ls as js w w2) (a1 : 23 ∉ as) (a2 : 102 ∉ as) (a3 : 103 ∉ as) (a4 : 104 ∉ as) (a5 : 105 ∉ as) : CTI w2 T ND p ct i c0 k tp roi rni rhi := fun j hj => by
  rw [FR.A f a1, FR.A f a2, FR.A f a3, FR.A f a4, FR.A f a5]; exact c j hj
theorem FRS_fr {is ls as js : List Nat} (h : FRS w T ND p fr ro rn rh cb pc ct k tp) (f : FR is ls as js w w2) (a1 : 23 ∉ as) (a2 : 102 ∉ as) (a3 : 103 ∉ as) (a4 : 104 ∉ as) (a5 : 105 ∉ as) (a6 : 95 ∉ as) (a7 : 98 ∉ as) (a8 : 99 ∉ as) (a9 : 100 ∉ as) (a10 : 101 ∉ as) : FRS w2 T ND p fr ro rn rh cb pc ct k tp := by
  obtain ⟨⟨h1, h2, h3⟩, h4, h5, h6, h7⟩ := h
  refine ⟨⟨h1, h2, by rw [FR.A f a6]; exact h3⟩, h4, fun i hi => by rw [FR.A f a9, FR.A f a8, FR.A f a10]; exact h5 i hi, fun i hi => ?_, CTI_fr h7 f a1 a2 a3 a4 a5⟩
  obtain ⟨q1, q2, q3, q4, q6, q7, q8, q9, q10⟩ := h6 i hi
  exact ⟨by rw [FR.A f a7]; exact q1, q2, q3, q4, q6, q7, q8, q9, CTI_fr q10 f a1 a2 a3 a4 a5⟩
theorem ro_mono (h : FRS w T ND p fr ro rn rh cb pc ct k tp) : ∀ e i, i + e < fr → ro i ≤ ro (i + e) ∧ rn i ≤ rn (i + e) ∧ cb i ≤ cb (i + e) := by
  intro e
  induction e with
  | zero => intro i _; exact ⟨Nat.le_refl _, Nat.le_refl _, Nat.le_refl _⟩
  | succ e ih =>
    intro i hi
    obtain ⟨a, b', c⟩ := ih i (by omega)
    obtain ⟨-, -, -, q4, q6, -, q8, q9, -⟩ := h.2.2.2.1 (i + e) (by omega)
    rw [show i + (e + 1) = i + e + 1 from by omega]
    omega
theorem sR_mono {m e : Nat} : sR T pc m ≤ sR T pc (m + e) := by
  induction e with
  | zero => exact Nat.le_refl _
  | succ e ih => exact Nat.le_trans ih (Nat.le_add_right _ _)
theorem CT_top (hg : PRG w T C pM pE ND CN PN SN UN FN) (h : FRS w T ND p fr ro rn rh cb pc ct k tp) {rq : Nat} (h1 : 0 < k → ro (fr - 1) + tH T tp ≤ opM ∧ rn (fr - 1) + rh (fr - 1) + tM T tp ≤ bnM ∧ ∃ a : Nat, A w 25 tp = a ∧ tR T a < rq) (h2 : ro (fr - 1) ≤ opM ∧ rn (fr - 1) ≤ bnM) (hk : 0 < cb (fr - 1) + k) : ∃ i kk tt, i < fr ∧ 0 < kk ∧ cb i + kk = cb (fr - 1) + k ∧ CTI w T ND p ct i (cb i) kk tt (ro i) (rn i) (rh i) ∧ ro i + tH T tt ≤ opM ∧ rn i + rh i + tM T tt ≤ bnM ∧ ∀ a : Nat, A w 25 tt = a → sR T pc i + tR T a < sR T pc (fr - 1) + rq := by
  obtain ⟨⟨q1, q2, q3⟩, ⟨z1, z2, z3⟩, h5, h6, h7⟩ := id h
  by_cases k0 : 0 < k
  · obtain ⟨a1, a2, a, a3, a4⟩ := h1 k0
    exact ⟨fr - 1, k, tp, by omega, k0, rfl, h7, a1, a2, fun a' ha' => by obtain rfl : a' = a := (by omega); omega⟩
  have ek : k = 0 := by omega
  subst ek
  have key : ∀ m, m < fr → 0 < cb m → ∃ i kk tt, i < m ∧ 0 < kk ∧ cb i + kk = cb m ∧ CTI w T ND p ct i (cb i) kk tt (ro i) (rn i) (rh i) ∧ ro i + tH T tt ≤ ro m ∧ rn i + rh i + tM T tt ≤ rn m ∧ ∀ a : Nat, A w 25 tt = a → sR T pc i + tR T a < sR T pc m := by
    intro m
    induction m with
    | zero => intro _ z; omega
    | succ m ih =>
      intro hm hc
      obtain ⟨-, r2, -, r4, r6, -, r8, r9, r10⟩ := h6 m hm
      by_cases e : 0 < tK T (pc m)
      · obtain ⟨-, -, -, -, n5, -, n7, -⟩ := (hg.2.2.1 (pc m) r2).1
        obtain ⟨-, -, -, -, s5, s6, a, s7, s8⟩ := n7 e
        exact ⟨m, _, _, by omega, e, r9.symm, r10, by omega, by omega, fun a' ha' => by obtain rfl : a' = a := (by omega); show _ < sR T pc m + tR T (pc m); omega⟩
      · obtain ⟨i, kk, tt, s1, s2, s3, s4, s5, s6, s7⟩ := ih (by omega) (by omega)
        exact ⟨i, kk, tt, by omega, s2, by omega, s4, by omega, by omega, fun a ha => by have := s7 a ha; show _ < sR T pc m + tR T (pc m); omega⟩
  obtain ⟨i, kk, tt, s1, s2, s3, s4, s5, s6, s7⟩ := key (fr - 1) (by omega) (by omega)
  exact ⟨i, kk, tt, by omega, s2, by omega, s4, by omega, by omega, fun a ha => by have := s7 a ha; omega⟩
def CLK (w : MS) (r : Nat) (mu : Nat) : Prop := 0 ≤ F w 165 ∧ F w 165 ≤ F w 164 ∧ F w 164 ≤ 500 ∧ (F w 164 - F w 165) * 1000000000000 + 500000 * (r : Int) ≤ mu
def ATN (Fv : Int64 → Int64 → Prop) (P : Int64 → Prop) (PR : Nat) (T : TY) (ND p mu : Nat) (w : MS) : Prop := ∃ fr ro rn rh cb pc ct q n ow kd bxM, MEI Fv P PR w p n ow kd (ro (fr - 1) + tH T q) (rn (fr - 1) + rh (fr - 1) + tM T q) bxM ∧ FRS w T ND p fr ro rn rh cb pc ct (tK T q) (tC T q) ∧ A w 98 (60 * p + (fr - 1)) = ((q : Nat) : Int) ∧ q < ND ∧ rh (fr - 1) = tL T q ∧ A w 106 p = ((cb (fr - 1) + tK T q : Nat) : Int) ∧ tG T q = 0 ∧ A w 109 p = 0 ∧ F w 152 = 0 ∧ CLK w (sR T pc (fr - 1) + tR T q) mu
def ENDD (Fv : Int64 → Int64 → Prop) (P : Int64 → Prop) (PR p : Nat) (w : MS) : Prop := DW Fv P PR w ∧ A w 109 p = 3
def STF (u w : MS) : Prop := FR [119, 136, 138, 140, 150, 151, 152, 153, 154, 155, 156, 157, 158, 159, 165, 166, 169] [139] [89, 90, 92, 94, 95, 96, 97, 98, 99, 100, 101, 102, 103, 104, 105, 106, 108, 109, 110, 114, 115, 135, 142, 145, 146, 147, 160, 162, 168] [88, 91, 93, 107, 111, 134, 137, 141, 148, 161, 163, 167] u w
def STF0 (u w : MS) : Prop := FR [119, 136, 138, 140, 152, 153, 154, 155, 156, 157, 158, 159, 165, 166, 169] [139] [89, 90, 92, 94, 95, 96, 97, 98, 99, 100, 101, 102, 103, 104, 105, 106, 108, 109, 110, 114, 115, 135, 142, 145, 146, 147, 160, 162, 168] [88, 91, 93, 107, 111, 134, 137, 141, 148, 161, 163, 167] u w
def STG (p : Nat) (u w : MS) : Prop := STF0 u w ∨ (STF u w ∧ A w 109 p = 3)
theorem STF0.st {u w : MS} (a : STF0 u w) : STF u w := FR.mo a (by decide) (by decide) (by decide) (by decide)
theorem STG.tr {p : Nat} {u v w : MS} (a : STF0 u v) (b : STG p v w) : STG p u w := by
  rcases b with b | ⟨b, c⟩
  · exact Or.inl (FR.tr a b)
  · exact Or.inr ⟨FR.tr a.st b, c⟩
theorem STG.st {p : Nat} {u w : MS} (a : STG p u w) : STF u w := by
  rcases a with a | a
  · exact a.st
  · exact a.1
theorem ends_ok {t : Int64} {wr : Int} (i : MEI Fv P PR w p n ow kd opM bnM bxM) (g : GT n ow kd P t) (hw : 0 ≤ wr ∧ wr ≤ 2) : OK (fun w2 _ => ENDD Fv P PR p w2 ∧ FR [150, 151] [] [109, 145, 146, 147] [148] w w2 ∧ ∀ z, z ≠ p → A w2 109 z = A w 109 z) (fm_M_ends N w (I wr) t) := by
  have x4 := MEI_p i
  obtain ⟨m1, m2, m3, m4, m5, ⟨x1, x2, x3, -⟩⟩ := id i
  unfold fm_M_ends fb_M_ends_0
  rw [I_F' m3]
  have ht : (¬ isH t ∧ P t) ∨ (isH t ∧ (p = 24 ∨ (p < PR ∧ (A w 109 p = 3 ∨ p = p))) ∧ GTP Fv P w p t) := by
    by_cases hh : isH t
    · exact Or.inr ⟨hh, Or.inr ⟨m2, Or.inr rfl⟩, n, ow, kd, m5, x3, x2, g⟩
    · rcases g with z | ⟨z, -⟩
      · exact Or.inl z
      · exact absurd z hh
  refine ok_bnd.mpr (ok_mono (willEnd_ok (N := N) m1 m2 hw (show p ≤ 24 by omega) ht) (fun v _ h => ?_))
  obtain ⟨h1, h2, h3, h4⟩ := h
  rw [lt_e, lit1q, wi_e]
  have f0 : FR [151] [] [] [] v (wi v 151 1) := FR.wi FR.rf (by decide)
  refine ok_some.mpr ⟨⟨DW_fr h1 f0 (by decide) (by decide) (by decide) (by decide) (by decide) (by decide) (by decide) (by decide) (by decide) (by decide) (by decide) (by decide) (by decide) (by decide) (by decide) (by decide) (by decide), h3⟩, FR.wi (FR.mo h2 (by decide) (by decide) (by decide) (by decide)) (by decide), h4⟩
theorem noRoom_ok (i : MEI Fv P PR w p n ow kd opM bnM bxM) (hPB : PB P PR) : OK (fun w2 _ => ENDD Fv P PR p w2 ∧ FR [150, 151] [] [109, 145, 146, 147] [148] w w2 ∧ ∀ z, z ≠ p → A w2 109 z = A w 109 z) (fm_M_noRoom N w) := by
  unfold fm_M_noRoom fb_M_noRoom_0
  rw [lit1q, show (20 : Int32) = I 20 from rfl, term_e, bnd_so, lit0q]
  exact ok_bnd.mpr (ok_mono (ends_ok i (Or.inl ⟨nh_mk (by omega), hPB.1 20 (by omega) (by omega)⟩) (by omega)) (fun v _ h => ok_some.mpr h))
end
end
section
section
variable {Fv : Int64 → Int64 → Prop} {P : Int64 → Prop} {w w2 : MS} {PR N p n opM bnM bxM ND fr k b d CN PN SN UN FN : Nat} {ow kd ro rn rh cb pc ct pM pE : Nat → Nat} {T : TY} {C : CY}
theorem goTo_ok {q fr2 : Nat} (i : MEI Fv P PR w p n ow kd opM bnM bxM) (h1 : A w 95 p = ((fr2 : Nat) : Int)) (h2 : 1 ≤ fr2 ∧ fr2 ≤ 60) (hq : q < 100000) : fm_M_goTo N w (I q) = some (wa w 98 (60 * p + (fr2 - 1)) q, ()) := by
  have x4 := MEI_p i
  unfold fm_M_goTo fb_M_goTo_0 fm_M_frame0 fb_M_frame0_0
  rw [I_F' i.2.2.1, inb_at (k := 95) (n := 24) rfl (by omega) (by omega) (by decide), ck_t, I_tn (by omega) (by omega), Int.toNat_natCast, I_A' h1, show (60 : Int32) = I 60 from rfl, I_mul, I_add, lit1q, I_sub, bnd_so, show (p : Int) * 60 + (fr2 : Int) - 1 = ((60 * p + (fr2 - 1) : Nat) : Int) from by omega, inb_at (k := 98) (n := 1440) rfl (by omega) (by omega) (by decide), ck_t, lt_e, I_tn (by omega) (by omega), Int.toNat_natCast, wa_e]
theorem wants_h {t : Int64} {m : Nat} (i : MEI Fv P PR w p n ow kd opM bnM bxM) (g : GT n ow kd P t) (hm : m ≤ 1000) (hN : 60000 ≤ N) : OK (fun v r => ∃ n2 ow2 kd2, MEI Fv P PR (wl (wi v 140 (-1)) 139 (mk 6 0)) p n2 ow2 kd2 opM bnM bxM ∧ GT n2 ow2 kd2 P (v.2.1 139) ∧ FR [136, 138, 140] [139] [89, 90, 135] [88, 91, 93, 107, 134, 137] w (wl (wi v 140 (-1)) 139 (mk 6 0)) ∧ F v 133 = p ∧ ((r = I 1 ∧ n2 + m ≤ 500) ∨ r = I 0)) (fm_M_wants N (wl (wi w 140 p) 139 t) (I p) (I m)) := by
  have x4 := MEI_p i
  obtain ⟨m1, m2, m3, m4, m5, ⟨x1, x2, x3, -, x5, x6, x7, x8, x9, x10, x11⟩⟩ := id i
  have e140 : F (wl (wi w 140 p) 139 t) 140 = p := by rw [F_wl, F_wi (by omega) (by omega), if_pos rfl]
  have e139 : (wl (wi w 140 p) 139 t).2.1 139 = t := by rw [L_wl, if_pos rfl]
  have f1 : FR [140] [139] [] [] w (wl (wi w 140 p) 139 t) := FR.wl (FR.wi FR.rf (by decide)) (by decide)
  have cx : CX (wl (wi w 140 p) 139 t) p (hp (wl (wi w 140 p) 139 t) p) n ow kd Fv P opM bnM bxM := ⟨rfl, x2, x3, x4, x5, x6, x7, x8, x9, x10, fun _ => by rw [e139]; exact g⟩
  refine ok_mono (wants_ok (N := N) cx m5 (k := m) (by omega) hN) (fun v r h => ?_)
  obtain ⟨n2, ow2, kd2, fd, R, ⟨t1, t2, t3, t4, t5, t6, t7, t8, t9, t10, t11, t12⟩, h2⟩ := h
  have f2 : FR [136, 138, 140] [139] [89, 90, 135] [88, 91, 93, 107, 134, 137] w (wl (wi v 140 (-1)) 139 (mk 6 0)) := FR.wl (FR.wi (FR.tr (FR.mo f1 (by decide) (by decide) (by decide) (by decide)) (FR.mo t6 (by decide) (by decide) (by decide) (by decide))) (by decide)) (by decide)
  obtain ⟨y1, y2, y3, y4, y5, y6, y7, y8, y9, y10, y11⟩ := t3
  have z140 : F (wl (wi v 140 (-1)) 139 (mk 6 0)) 140 = -1 := by rw [F_wl, F_wi (by omega) (by omega), if_pos rfl]
  refine ⟨n2, ow2, kd2, MEI_upd i (FR.mo f2 (by decide) (by decide) (by decide) (by decide)) z140 (fun q hq => by show A v 89 q = _; rw [t5, if_neg hq]; rfl) (fun q _ => FR.A f2 (by decide)) (fun q _ => FR.A f2 (by decide)) (fun q _ => FR.A f2 (by decide)) (fun j hj => t7 j hj) (fun j hj => RTS_out t8 x5.2 hj) (fun j hj => RTS_out t9 x6.2 hj) (fun j hj => RTS_out t10 x7.2 hj) (by show A v 89 p = _; rw [t5, if_pos rfl]) ⟨rfl, y2, y3, y4, y5, y6, y7, y8, y9, y10, fun e => by omega⟩, ?_, f2, by rw [FR.F t6 (by decide)]; exact m3, ?_⟩
  · rw [(t11 e140).1, e139]
    exact HOM_gt t1 g (by have := (t11 e140).2; rw [e139] at this; exact this)
  · rcases h2 with h2 | h2
    · exact Or.inl h2
    · exact Or.inr h2.1
theorem hand_e {t : Int64} {q : Int} : fm_M_hand N w (I q) t = some (wl (wi w 140 q) 139 t, ()) := rfl
theorem handNone_e : fm_M_handNone N w = some (wl (wi w 140 (-1)) 139 (mk 6 0), ()) := rfl
theorem gU9 {S : SG_M_error} {v : MS} {t : Int64} {kn : Int} {c i0 cn a ho hn : Nat} (i : MEI Fv P PR v p n ow kd ho hn bxM) (hPB : PB P PR) (g : GT n ow kd P t) (hk : 0 ≤ kn ∧ kn ≤ 2) (hc : c < 1600) (h103 : A v 103 (1600 * p + c) = ((cn : Nat) : Int)) (hcn : cn < 16000) (h25 : A v 25 cn = ((a : Nat) : Int)) (ha : a < 16000) (h95 : A v 95 p = ((i0 + 1 : Nat) : Int)) (hi : i0 < 60) (hop : ho < 46000) (hN : 60000 ≤ N) :
    OK (fun w2 _ => (ENDD Fv P PR p w2 ∧ FR [136, 138, 140, 150, 151] [139] [89, 90, 109, 135, 145, 146, 147] [88, 91, 93, 107, 134, 137, 148] v w2 ∧ ∀ z, z ≠ p → A w2 109 z = A v 109 z) ∨ (∃ n2 ow2 kd2, MEI Fv P PR w2 p n2 ow2 kd2 (ho + 1) hn bxM ∧ FR [136, 138, 140] [139] [89, 90, 92, 98, 135] [88, 91, 93, 107, 134, 137] v w2 ∧ (∀ j, A w2 98 j = if j = 60 * p + i0 then ((a : Nat) : Int) else A v 98 j) ∧ ∀ z, z ≠ p → A w2 92 z = A v 92 z)) (br (decide ((I kn) = 2)) (bnd (fm_M_put N v t) (fun u15 _ => fb_M_goesUp_205 N S () u15 ((I ((1600 * p + c : Nat) : Int))))) (bnd (fm_M_hand N v (v.1 133) t) (fun u10 _ => bnd (fm_M_wants N u10 (u10.1 133) 3) (fun u11 r11 => br (decide (r11 = 0)) (bnd (fm_M_handNone N u11) (fun u13 _ => bnd (fm_M_noRoom N u13) (fun u14 _ => some (u14, ())))) (bnd (fm_M_handNone N u11) (fun u12 _ => br (decide ((I kn) = 0)) (fb_M_goesUp_197 N S () u12 ((I ((1600 * p + c : Nat) : Int))) ((u11.2.1 139)) (7)) (fb_M_goesUp_197 N S () u12 ((I ((1600 * p + c : Nat) : Int))) ((u11.2.1 139)) (8)))))))) := by
  have x4 := MEI_p i
  have fin : ∀ (u : MS) (n2 : Nat) (ow2 kd2 : Nat → Nat), MEI Fv P PR u p n2 ow2 kd2 (ho + 1) hn bxM → FR [136, 138, 140] [139] [89, 90, 92, 135] [88, 91, 93, 107, 134, 137] v u → (∀ z, z ≠ p → A u 92 z = A v 92 z) → OK (fun w2 _ => (ENDD Fv P PR p w2 ∧ FR [136, 138, 140, 150, 151] [139] [89, 90, 109, 135, 145, 146, 147] [88, 91, 93, 107, 134, 137, 148] v w2 ∧ ∀ z, z ≠ p → A w2 109 z = A v 109 z) ∨ (∃ n2 ow2 kd2, MEI Fv P PR w2 p n2 ow2 kd2 (ho + 1) hn bxM ∧ FR [136, 138, 140] [139] [89, 90, 92, 98, 135] [88, 91, 93, 107, 134, 137] v w2 ∧ (∀ j, A w2 98 j = if j = 60 * p + i0 then ((a : Nat) : Int) else A v 98 j) ∧ ∀ z, z ≠ p → A w2 92 z = A v 92 z)) (fb_M_goesUp_205 N S () u (I ((1600 * p + c : Nat) : Int))) := fun u n2 ow2 kd2 iu fu hu => by
    unfold fb_M_goesUp_205
    rw [inb_at (k := 103) (n := 38400) rfl (by omega) (by omega) (by decide), ck_t, I_tn (x := ((1600 * p + c : Nat) : Int)) (by omega) (by omega), Int.toNat_natCast, I_A' (show A u 103 (1600 * p + c) = cn by rw [FR.A fu (by decide)]; exact h103), inb_at (k := 25) (n := 16000) rfl (by omega) (by omega) (by decide), ck_t, I_tn (by omega) (by omega), Int.toNat_natCast, I_A' (show A u 25 cn = a by rw [FR.A fu (by decide)]; exact h25), goTo_ok iu (by rw [FR.A fu (by decide)]; exact h95) (by omega) (by omega), bnd_so]
    have f98 : FR [] [] [98] [] u (wa u 98 (60 * p + (i0 + 1 - 1)) a) := FR.wa FR.rf (by decide)
    refine ok_some.mpr (Or.inr ⟨n2, ow2, kd2, MEI_fr iu f98 (by decide) (by decide) (by decide) (by decide) (by decide) (by decide) (by decide) (by decide) (by decide) (by decide) (by decide) (by decide) (by decide) (by decide) (by decide) (by decide) (by decide) (by decide), FR.tr (FR.mo fu (by decide) (by decide) (by decide) (by decide)) (FR.mo f98 (by decide) (by decide) (by decide) (by decide)), fun j => ?_, fun z hz => by rw [FR.A f98 (by decide)]; exact hu z hz⟩)
    rw [A_eq (by omega) (by omega), show 60 * p + (i0 + 1 - 1) = 60 * p + i0 from by omega, FR.A fu (by decide)]
  refine ok_br.mpr ⟨fun _ => ?_, fun h2 => ?_⟩
  · refine ok_bnd.mpr (ok_mono (put_ok (N := N) i g hop) (fun u _ h => ?_))
    obtain ⟨h1, h2⟩ := h
    exact fin u n ow kd h2 (by rw [h1]; exact FR.wa (FR.wj FR.rf (by decide)) (by decide)) (fun z hz => by rw [h1, A_eq (by omega) (by omega), if_neg hz, A_wj])
  · rw [I_F' i.2.2.1, hand_e, bnd_so, show (wl (wi v 140 p) 139 t).1 133 = I p from I_F' (by rw [F_wl, F_wi (by omega) (by omega), if_neg (by decide)]; exact i.2.2.1)]
    have hw := wants_h (m := 3) i g (by omega) hN
    rw [show I ((3 : Nat) : Int) = (3 : Int32) from rfl] at hw
    refine ok_bnd.mpr (ok_mono hw (fun u r h => ?_))
    obtain ⟨n2, ow2, kd2, q1, q2, q3, -, q4⟩ := h
    rw [handNone_e, bnd_so]
    refine ok_br.mpr ⟨fun _ => ?_, fun hr => ?_⟩
    · refine ok_bnd.mpr (ok_mono (noRoom_ok (N := N) q1 hPB) (fun u2 _ h => ok_some.mpr (Or.inl ⟨h.1, FR.tr (FR.mo q3 (by decide) (by decide) (by decide) (by decide)) (FR.mo h.2.1 (by decide) (by decide) (by decide) (by decide)), fun z hz => by rw [h.2.2 z hz, FR.A q3 (by decide)]⟩)))
    · have room : n2 + 3 ≤ 500 := by
        rcases q4 with ⟨-, z⟩ | z
        · exact z
        · exact absurd (show r = 0 by rw [z]; rfl) (of_decide_eq_false hr)
      have tail : ∀ x : Int, 0 ≤ x → x < 22 → OK (fun w2 _ => (ENDD Fv P PR p w2 ∧ FR [136, 138, 140, 150, 151] [139] [89, 90, 109, 135, 145, 146, 147] [88, 91, 93, 107, 134, 137, 148] v w2 ∧ ∀ z, z ≠ p → A w2 109 z = A v 109 z) ∨ (∃ n2 ow2 kd2, MEI Fv P PR w2 p n2 ow2 kd2 (ho + 1) hn bxM ∧ FR [136, 138, 140] [139] [89, 90, 92, 98, 135] [88, 91, 93, 107, 134, 137] v w2 ∧ (∀ j, A w2 98 j = if j = 60 * p + i0 then ((a : Nat) : Int) else A v 98 j) ∧ ∀ z, z ≠ p → A w2 92 z = A v 92 z)) (fb_M_goesUp_197 N S () (wl (wi u 140 (-1)) 139 (mk 6 0)) (I ((1600 * p + c : Nat) : Int)) (u.2.1 139) (I x)) := fun x x0 x1 => by
        unfold fb_M_goesUp_197
        refine ok_bnd.mpr (ok_mono (two_ok (N := N) q1 hPB ⟨x0, x1⟩ q2 room) (fun u2 r2 h => ?_))
        obtain ⟨s1, ow3, kd3, s2, s3, -⟩ := h
        refine ok_bnd.mpr (ok_mono (put_ok (N := N) s2 s3 hop) (fun u3 _ h3 => ?_))
        obtain ⟨h31, h32⟩ := h3
        refine fin u3 _ ow3 kd3 h32 (FR.tr (FR.mo q3 (by decide) (by decide) (by decide) (by decide)) (FR.tr (FR.mo s1 (by decide) (by decide) (by decide) (by decide)) ?_)) (fun z hz => ?_)
        · rw [h31]; exact FR.wa (FR.wj FR.rf (by decide)) (by decide)
        · rw [h31, A_eq (by omega) (by omega), if_neg hz, A_wj, FR.A s1 (by decide), FR.A q3 (by decide)]
      exact ok_br.mpr ⟨fun _ => tail 7 (by omega) (by omega), fun _ => tail 8 (by omega) (by omega)⟩
end
end
section
def OTF (p : Nat) (u w : MS) : Prop := (∀ z, z ≠ p → A w 92 z = A u 92 z ∧ A w 94 z = A u 94 z ∧ A w 95 z = A u 95 z ∧ A w 106 z = A u 106 z) ∧ (∀ i, ¬ (60 * p ≤ i ∧ i < 60 * p + 60) → A w 98 i = A u 98 i ∧ A w 99 i = A u 99 i ∧ A w 100 i = A u 100 i ∧ A w 101 i = A u 101 i) ∧ (∀ i, ¬ (1600 * p ≤ i ∧ i < 1600 * p + 1600) → A w 102 i = A u 102 i ∧ A w 103 i = A u 103 i ∧ A w 104 i = A u 104 i ∧ A w 105 i = A u 105 i) ∧ (∀ i, A w 97 i = A u 97 i ∨ (-1 ≤ A w 97 i ∧ A w 97 i < 1400)) ∧ (∀ i, ¬ (60 * p ≤ i ∧ i < 60 * p + 60) → A w 96 i = A u 96 i) ∧ ∀ z, z ≠ p → A w 170 z = A u 170 z ∧ A w 110 z = A u 110 z ∧ w.2.2.2 111 z = u.2.2.2 111 z
theorem OTF.tr {p : Nat} {u v w : MS} (a : OTF p u v) (b : OTF p v w) : OTF p u w := by
  refine ⟨fun z hz => ?_, fun i hi => ?_, fun i hi => ?_, fun i => ?_, fun i hi => (b.2.2.2.2.1 i hi).trans (a.2.2.2.2.1 i hi), fun z hz => ⟨(b.2.2.2.2.2 z hz).1.trans (a.2.2.2.2.2 z hz).1, (b.2.2.2.2.2 z hz).2.1.trans (a.2.2.2.2.2 z hz).2.1, (b.2.2.2.2.2 z hz).2.2.trans (a.2.2.2.2.2 z hz).2.2⟩⟩
  · have h1 := a.1 z hz; have h2 := b.1 z hz; exact ⟨h2.1.trans h1.1, h2.2.1.trans h1.2.1, h2.2.2.1.trans h1.2.2.1, h2.2.2.2.trans h1.2.2.2⟩
  · have h1 := a.2.1 i hi; have h2 := b.2.1 i hi; exact ⟨h2.1.trans h1.1, h2.2.1.trans h1.2.1, h2.2.2.1.trans h1.2.2.1, h2.2.2.2.trans h1.2.2.2⟩
  · have h1 := a.2.2.1 i hi; have h2 := b.2.2.1 i hi; exact ⟨h2.1.trans h1.1, h2.2.1.trans h1.2.1, h2.2.2.1.trans h1.2.2.1, h2.2.2.2.trans h1.2.2.2⟩
  · rcases b.2.2.2.1 i with h | h
    · rw [h]; exact a.2.2.2.1 i
    · exact Or.inr h
theorem OTF_fr {p : Nat} {u w : MS} {is ls as js : List Nat} (f : FR is ls as js u w) (h : ∀ k, k ∈ [92, 94, 95, 96, 97, 98, 99, 100, 101, 102, 103, 104, 105, 106, 110, 170] → k ∉ as) (hj : 111 ∉ js := by decide) : OTF p u w :=
  ⟨fun z _ => ⟨FR.A f (h _ (by decide)), FR.A f (h _ (by decide)), FR.A f (h _ (by decide)), FR.A f (h _ (by decide))⟩, fun i _ => ⟨FR.A f (h _ (by decide)), FR.A f (h _ (by decide)), FR.A f (h _ (by decide)), FR.A f (h _ (by decide))⟩, fun i _ => ⟨FR.A f (h _ (by decide)), FR.A f (h _ (by decide)), FR.A f (h _ (by decide)), FR.A f (h _ (by decide))⟩, fun i => Or.inl (FR.A f (h _ (by decide))), fun i _ => FR.A f (h _ (by decide)), fun z _ => ⟨FR.A f (h _ (by decide)), FR.A f (h _ (by decide)), by rw [f.2.2.2 111 hj]⟩⟩
theorem OTF_9 {p : Nat} {u w : MS} {is ls as js : List Nat} (f : FR is ls as js u w) (h : ∀ k, k ∈ [96, 97, 110, 170] → k ∉ as) (hj : 111 ∉ js := by decide) : (∀ i, A w 97 i = A u 97 i ∨ (-1 ≤ A w 97 i ∧ A w 97 i < 1400)) ∧ (∀ i, ¬ (60 * p ≤ i ∧ i < 60 * p + 60) → A w 96 i = A u 96 i) ∧ ∀ z, z ≠ p → A w 170 z = A u 170 z ∧ A w 110 z = A u 110 z ∧ w.2.2.2 111 z = u.2.2.2 111 z := ⟨fun i => Or.inl (FR.A f (h _ (by decide))), fun i _ => FR.A f (h _ (by decide)), fun z _ => ⟨FR.A f (h _ (by decide)), FR.A f (h _ (by decide)), by rw [f.2.2.2 111 hj]⟩⟩
theorem OTF_at {p : Nat} {u w : MS} {is ls js : List Nat} {k0 i0 : Nat} (f : FR is ls [k0] js u w) (h : ∀ i, i ≠ i0 → A w k0 i = A u k0 i) (hk : (k0 ∈ [92, 94, 95, 106] ∧ i0 = p) ∨ (k0 ∈ [98, 99, 100, 101] ∧ 60 * p ≤ i0 ∧ i0 < 60 * p + 60) ∨ (k0 ∈ [102, 103, 104, 105] ∧ 1600 * p ≤ i0 ∧ i0 < 1600 * p + 1600)) (hj : 111 ∉ js := by decide) : OTF p u w := by
  have key : ∀ k i, (k = k0 → i ≠ i0) → A w k i = A u k i := fun k i e => by
    by_cases z : k = k0
    · subst z; exact h i (e rfl)
    · exact FR.A f (by simpa using z)
  refine ⟨fun z hz => ?_, fun i hi => ?_, fun i hi => ?_, OTF_9 f (fun k hk' => ?_) hj⟩
  · have : ∀ k, k ∈ [92, 94, 95, 106] → A w k z = A u k z := fun k hk' => key k z (fun e => by
      subst e
      rcases hk with ⟨-, y⟩ | ⟨y, -⟩ | ⟨y, -⟩
      · omega
      · simp at hk' y; omega
      · simp at hk' y; omega)
    exact ⟨this _ (by decide), this _ (by decide), this _ (by decide), this _ (by decide)⟩
  · have : ∀ k, k ∈ [98, 99, 100, 101] → A w k i = A u k i := fun k hk' => key k i (fun e => by
      subst e
      rcases hk with ⟨y, -⟩ | ⟨-, y⟩ | ⟨y, -⟩
      · simp at hk' y; omega
      · omega
      · simp at hk' y; omega)
    exact ⟨this _ (by decide), this _ (by decide), this _ (by decide), this _ (by decide)⟩
  · have : ∀ k, k ∈ [102, 103, 104, 105] → A w k i = A u k i := fun k hk' => key k i (fun e => by
      subst e
      rcases hk with ⟨y, -⟩ | ⟨y, -⟩ | ⟨-, y⟩
      · simp at hk' y; omega
      · simp at hk' y; omega
      · omega)
    exact ⟨this _ (by decide), this _ (by decide), this _ (by decide), this _ (by decide)⟩
  · rcases hk with ⟨y, -⟩ | ⟨y, -⟩ | ⟨y, -⟩ <;> (simp at hk' y ⊢; omega)
theorem OTF_97 {p i0 : Nat} {u : MS} {c : Int} (hc : -1 ≤ c ∧ c < 1400) : OTF p u (wa u 97 i0 c) := by
  have f : FR [] [] [97] [] u (wa u 97 i0 c) := FR.wa FR.rf (by decide)
  refine ⟨fun z _ => ⟨FR.A f (by decide), FR.A f (by decide), FR.A f (by decide), FR.A f (by decide)⟩, fun i _ => ⟨FR.A f (by decide), FR.A f (by decide), FR.A f (by decide), FR.A f (by decide)⟩, fun i _ => ⟨FR.A f (by decide), FR.A f (by decide), FR.A f (by decide), FR.A f (by decide)⟩, fun i => ?_, fun i _ => FR.A f (by decide), fun z _ => ⟨FR.A f (by decide), FR.A f (by decide), rfl⟩⟩
  rw [A_eq (by omega) (by omega)]
  by_cases e : i = i0
  · rw [if_pos e]; exact Or.inr hc
  · rw [if_neg e]; exact Or.inl rfl
theorem OTF_110 {p : Nat} {u : MS} {x : Int} (h1 : -2147483648 ≤ x) (h2 : x < 2147483648) : OTF p u (wa u 110 p x) := by
  have f : FR [] [] [110] [] u (wa u 110 p x) := FR.wa FR.rf (by decide)
  refine ⟨fun z _ => ⟨FR.A f (by decide), FR.A f (by decide), FR.A f (by decide), FR.A f (by decide)⟩, fun i _ => ⟨FR.A f (by decide), FR.A f (by decide), FR.A f (by decide), FR.A f (by decide)⟩, fun i _ => ⟨FR.A f (by decide), FR.A f (by decide), FR.A f (by decide), FR.A f (by decide)⟩, fun i => Or.inl (FR.A f (by decide)), fun i _ => FR.A f (by decide), fun z hz => ⟨FR.A f (by decide), by rw [A_eq h1 h2, if_neg hz], rfl⟩⟩
theorem OTF_111 {p : Nat} {u : MS} {x : Int64} : OTF p u (wj u 111 p x) := by
  have f : FR [] [] [] [111] u (wj u 111 p x) := FR.wj FR.rf (by decide)
  refine ⟨fun z _ => ⟨FR.A f (by decide), FR.A f (by decide), FR.A f (by decide), FR.A f (by decide)⟩, fun i _ => ⟨FR.A f (by decide), FR.A f (by decide), FR.A f (by decide), FR.A f (by decide)⟩, fun i _ => ⟨FR.A f (by decide), FR.A f (by decide), FR.A f (by decide), FR.A f (by decide)⟩, fun i => Or.inl (FR.A f (by decide)), fun i _ => FR.A f (by decide), fun z hz => ⟨FR.A f (by decide), FR.A f (by decide), by rw [J_wj, if_pos rfl, if_neg hz]⟩⟩
section
variable {Fv : Int64 → Int64 → Prop} {P : Int64 → Prop} {w w2 : MS} {PR N p n opM bnM bxM ND fr k tp mu CN PN SN UN FN : Nat} {ow kd ro rn rh cb pc ct pM pE : Nat → Nat} {T : TY} {C : CY}
def STP (Fv : Int64 → Int64 → Prop) (P : Int64 → Prop) (PR : Nat) (T : TY) (ND p mu : Nat) (u w : MS) : Prop := (ENDD Fv P PR p w ∨ ∃ m, m < mu ∧ ATN Fv P PR T ND p m w) ∧ STG p u w ∧ OTF p u w ∧ ∀ z, z ≠ p → A w 109 z = A u 109 z
theorem PRG_19 (hg : PRG w T C pM pE ND CN PN SN UN FN) (hn : n < ND) (h : A w 23 n = 19) : tG T n = 0 ∧ tH T (n + 1) = tH T n ∧ tM T (n + 1) = tM T n ∧ tL T (n + 1) = tL T n ∧ tK T (n + 1) = tK T n + 1 ∧ tG T (n + 1) = 0 ∧ tB T (n + 1) = tH T n ∧ tD T (n + 1) = tM T n ∧ tC T (n + 1) = n ∧ tR T (n + 1) < tR T n ∧ ∃ a : Nat, A w 25 n = a ∧ a < ND ∧ NX T n a (tH T n + 1) (tM T n) := by
  obtain ⟨-, ha, -⟩ := hg.2.2.1 n hn
  obtain ⟨-, -, -, -, -, -, -, h8, -⟩ := ha
  exact h8 h
theorem FRS_fall {i0 kk a : Nat} (h : FRS w T ND p fr ro rn rh cb pc ct k tp) (hi : i0 < fr) (hk : 0 < kk) (hc : CTI w T ND p ct i0 (cb i0) kk n (ro i0) (rn i0) (rh i0)) (hp : p < 24) (f : FR [136, 138, 140] [139] [89, 90, 92, 94, 95, 98, 106, 135] [88, 91, 93, 107, 134, 137] w w2) (h95 : A w2 95 p = ((i0 + 1 : Nat) : Int)) (h98 : ∀ j, A w2 98 j = if j = 60 * p + i0 then ((a : Nat) : Int) else A w 98 j) (hx : NX T n a (tH T n + 1) (tM T n)) : FRS w2 T ND p (i0 + 1) ro rn rh cb pc ct (tK T a) (tC T a) := by
  obtain ⟨⟨q1, q2, q3⟩, z, h5, h6, h7⟩ := h
  obtain ⟨n1, n2, n3, n4, n5, n6, n7, n8, n9⟩ := hx
  obtain ⟨t1, t2, t3, t4, t5, t6, t8, t9, t10, t11⟩ := hc (kk - 1) (by omega)
  have t10' := t10 (by omega)
  refine ⟨⟨by omega, by omega, h95⟩, z, fun i hi' => by rw [FR.A f (by decide), FR.A f (by decide), FR.A f (by decide)]; exact h5 i (by omega), fun i hi' => ?_, ?_⟩
  · obtain ⟨r1, r2⟩ := h6 i (by omega)
    obtain ⟨s1, s2, s3, s5, s6, s7, s8, s9⟩ := r2
    exact ⟨by rw [h98, if_neg (by omega)]; exact r1, s1, s2, s3, s5, s6, s7, s8, CTI_fr s9 f (by decide) (by decide) (by decide) (by decide) (by decide)⟩
  · rw [n4, n8, ← t10', t5, show i0 + 1 - 1 = i0 from by omega]
    have hc2 := CTI_fr hc f (by decide) (by decide) (by decide) (by decide) (by decide)
    intro j hj
    obtain ⟨y1, y2, y3, y4, y5, y6, y8, y9, y10, y11⟩ := hc2 j (by omega)
    exact ⟨y1, y2, y3, y4, y5, y6, y8, y9, fun e => t11 j (by omega), y11⟩
theorem goesUp_ok {S : SG_M_error} {t : Int64} {kn : Int} {rq : Nat} (i : MEI Fv P PR w p n ow kd opM bnM bxM) (h : FRS w T ND p fr ro rn rh cb pc ct k tp) (hg : PRG w T C pM pE ND CN PN SN UN FN) (hPB : PB P PR) (g : GT n ow kd P t) (hk : 0 ≤ kn ∧ kn ≤ 2) (h1 : 0 < k → ro (fr - 1) + tH T tp ≤ opM ∧ rn (fr - 1) + rh (fr - 1) + tM T tp ≤ bnM ∧ ∃ a : Nat, A w 25 tp = a ∧ tR T a < rq) (h2 : ro (fr - 1) ≤ opM ∧ rn (fr - 1) ≤ bnM) (h106 : A w 106 p = ((cb (fr - 1) + k : Nat) : Int)) (hk26 : k ≤ 26) (h109 : A w 109 p = 0) (h152 : F w 152 = 0) (hcl : CLK w (sR T pc (fr - 1) + rq) mu) (hN : 60000 ≤ N) : OK (fun w2 _ => STP Fv P PR T ND p mu w w2) (fm_M_goesUp N S w (I kn) t) := by
  have x4 := MEI_p i
  have m3 := i.2.2.1
  have hf := h.1
  have cbb := (h.2.2.1 (fr - 1) (by omega)).2.2.2.2.2.2
  unfold fm_M_goesUp fb_M_goesUp_0
  rw [I_F' m3, I_F' h152, lit0q, decE (by omega) (by omega) (by omega) (by omega), decide_eq_true rfl, br_tq, inb_at (k := 106) (n := 24) rfl (by omega) (by omega) (by decide), ck_t, I_tn (x := (p : Int)) (by omega) (by omega), Int.toNat_natCast, I_A' h106, decE (by omega) (by omega) (by omega) (by omega)]
  have en : ∀ x : Int, 0 ≤ x → x ≤ 2 → OK (fun w2 _ => STP Fv P PR T ND p mu w w2) (fb_M_goesUp_43 N S () w t (I x)) := fun x x0 x1 => by
    unfold fb_M_goesUp_43
    refine ok_bnd.mpr (ok_mono (ends_ok (N := N) i g ⟨x0, x1⟩) (fun v _ q => ok_some.mpr ⟨Or.inl q.1, Or.inr ⟨FR.mo q.2.1 (by decide) (by decide) (by decide) (by decide), q.1.2⟩, OTF_fr q.2.1 (by decide), q.2.2⟩))
  refine ok_br.mpr ⟨fun _ => ok_br.mpr ⟨fun _ => en 1 (by omega) (by omega), fun _ => ok_br.mpr ⟨fun _ => en 0 (by omega) (by omega), fun _ => en 2 (by omega) (by omega)⟩⟩, fun z => ?_⟩
  have z' : 0 < cb (fr - 1) + k := by have := of_decide_eq_false z; omega
  obtain ⟨i0, kk, tt, s1, s2, s3, s4, s5, s6, s7⟩ := CT_top hg h h1 h2 z'
  obtain ⟨t1, t2, t3, t4, t5, t6, t8, t9, t10, -⟩ := s4 (kk - 1) (by omega)
  have t10' := t10 (by omega)
  clear t10
  rw [t10'] at t2 t3 t4 t5 t6 t8 t9
  obtain ⟨-, -, -, -, -, -, -, -, -, -, a, pa1, pa2, pa3⟩ := PRG_19 hg t3 t4
  have t7 := (PRG_19 hg t3 t4).1
  have s7' := s7 a pa1
  clear s7
  have nd := hg.1.1
  have hro := (h.2.2.1 i0 (by omega))
  have hH := (hg.2.2.1 _ t3).1.1
  have hMM := (hg.2.2.1 _ t3).1.2.1
  rw [ck_t, ck_t, lt_e, lit1q, I_sub, show ((cb (fr - 1) + k : Nat) : Int) - 1 = ((cb i0 + (kk - 1) : Nat) : Int) from by omega, wa_e]
  have f5 : FR [] [] [106] [] w (wa w 106 p ((cb i0 + (kk - 1) : Nat) : Int)) := FR.wa FR.rf (by decide)
  have e5 : ∀ j, A (wa w 106 p ((cb i0 + (kk - 1) : Nat) : Int)) 106 j = if j = p then ((cb i0 + (kk - 1) : Nat) : Int) else A w 106 j := fun j => A_eq (by omega) (by omega)
  have i5 := MEI_fr i f5 (by decide) (by decide) (by decide) (by decide) (by decide) (by decide) (by decide) (by decide) (by decide) (by decide) (by decide) (by decide) (by decide) (by decide) (by decide) (by decide) (by decide) (by decide)
  generalize wa w 106 p ((cb i0 + (kk - 1) : Nat) : Int) = w5 at *
  rw [I_F' i5.2.2.1, inb_at (k := 106) (n := 24) rfl (by omega) (by omega) (by decide), ck_t, I_tn (x := (p : Int)) (by omega) (by omega), Int.toNat_natCast, I_A' (show A w5 106 p = _ by rw [e5, if_pos rfl]), lt_e, show (1600 : Int32) = I 1600 from rfl, I_mul, I_add, show (p : Int) * 1600 + ((cb i0 + (kk - 1) : Nat) : Int) = ((1600 * p + (cb i0 + (kk - 1)) : Nat) : Int) from by omega]
  have hc : cb i0 + (kk - 1) < 1600 := by omega
  generalize hcc : cb i0 + (kk - 1) = c at *
  rw [inb_at (k := 102) (n := 38400) rfl (by omega) (by omega) (by decide), ck_t, inb_at (k := 95) (n := 24) rfl (by omega) (by omega) (by decide), ck_t, lt_e, I_tn (x := ((1600 * p + c : Nat) : Int)) (by omega) (by omega), Int.toNat_natCast, I_A' (show A w5 102 (1600 * p + c) = ((i0 : Nat) : Int) by rw [FR.A f5 (by decide)]; exact t1), I_add, wa_e]
  have f7 : FR [] [] [95] [] w5 (wa w5 95 p ((i0 : Int) + 1)) := FR.wa FR.rf (by decide)
  have e7 : ∀ j, A (wa w5 95 p ((i0 : Int) + 1)) 95 j = if j = p then (i0 : Int) + 1 else A w5 95 j := fun j => A_eq (by omega) (by omega)
  have i7 := MEI_fr i5 f7 (by decide) (by decide) (by decide) (by decide) (by decide) (by decide) (by decide) (by decide) (by decide) (by decide) (by decide) (by decide) (by decide) (by decide) (by decide) (by decide) (by decide) (by decide)
  generalize wa w5 95 p ((i0 : Int) + 1) = w7 at *
  rw [I_F' i7.2.2.1, inb_at (k := 104) (n := 38400) rfl (by omega) (by omega) (by decide), ck_t, inb_at (k := 92) (n := 24) rfl (by omega) (by omega) (by decide), ck_t, lt_e, I_tn (x := (p : Int)) (by omega) (by omega), Int.toNat_natCast, I_A' (show A w7 104 (1600 * p + c) = ((ro i0 + tH T tt : Nat) : Int) by rw [FR.A f7 (by decide), FR.A f5 (by decide)]; exact t8), wa_e]
  have f8 : FR [] [] [92] [] w7 (wa w7 92 p ((ro i0 + tH T tt : Nat) : Int)) := FR.wa FR.rf (by decide)
  have e8 : ∀ j, j ≠ p → A (wa w7 92 p ((ro i0 + tH T tt : Nat) : Int)) 92 j = A w7 92 j := fun j hj => by rw [A_eq (by omega) (by omega), if_neg hj]
  have i8 := ops_less i7 (k := ro i0 + tH T tt) (by omega)
  generalize wa w7 92 p ((ro i0 + tH T tt : Nat) : Int) = w8 at *
  rw [I_F' i8.2.2.1, inb_at (k := 105) (n := 38400) rfl (by omega) (by omega) (by decide), ck_t, inb_at (k := 94) (n := 24) rfl (by omega) (by omega) (by decide), ck_t, lt_e, I_tn (x := (p : Int)) (by omega) (by omega), Int.toNat_natCast, I_A' (show A w8 105 (1600 * p + c) = ((rn i0 + rh i0 + tM T tt : Nat) : Int) by rw [FR.A f8 (by decide), FR.A f7 (by decide), FR.A f5 (by decide)]; exact t9), wa_e]
  have f9 : FR [] [] [94] [] w8 (wa w8 94 p ((rn i0 + rh i0 + tM T tt : Nat) : Int)) := FR.wa FR.rf (by decide)
  have e9 : ∀ j, j ≠ p → A (wa w8 94 p ((rn i0 + rh i0 + tM T tt : Nat) : Int)) 94 j = A w8 94 j := fun j hj => by rw [A_eq (by omega) (by omega), if_neg hj]
  have i9 := names_less i8 (k := rn i0 + rh i0 + tM T tt) (by omega)
  generalize wa w8 94 p ((rn i0 + rh i0 + tM T tt : Nat) : Int) = w9 at *
  have f59 : FR [] [] [92, 94, 95, 106] [] w w9 := FR.tr (FR.tr (FR.mo f5 (by decide) (by decide) (by decide) (by decide)) (FR.mo f7 (by decide) (by decide) (by decide) (by decide))) (FR.tr (FR.mo f8 (by decide) (by decide) (by decide) (by decide)) (FR.mo f9 (by decide) (by decide) (by decide) (by decide)))
  have o9 : OTF p w w9 := OTF.tr (OTF.tr (OTF_at f5 (i0 := p) (fun j hj => by rw [e5, if_neg hj]) (Or.inl ⟨by decide, rfl⟩)) (OTF_at f7 (i0 := p) (fun j hj => by rw [e7, if_neg hj]) (Or.inl ⟨by decide, rfl⟩))) (OTF.tr (OTF_at f8 (i0 := p) e8 (Or.inl ⟨by decide, rfl⟩)) (OTF_at f9 (i0 := p) e9 (Or.inl ⟨by decide, rfl⟩)))
  have h95 : A w9 95 p = ((i0 + 1 : Nat) : Int) := by rw [FR.A f9 (by decide), FR.A f8 (by decide), e7, if_pos rfl]; omega
  have h106' : A w9 106 p = ((c : Nat) : Int) := by rw [FR.A f9 (by decide), FR.A f8 (by decide), FR.A f7 (by decide), e5, if_pos rfl]
  have g9 := gU9 (N := N) (S := S) (c := c) (i0 := i0) (cn := tt) (a := a) i9 hPB g hk hc (by rw [FR.A f59 (by decide)]; exact t2) (by omega) (by rw [FR.A f59 (by decide)]; exact pa1) (by omega) h95 (by omega) (by omega) hN
  refine ok_mono g9 (fun v _ q => ?_)
  rcases q with ⟨q1, q2, q3⟩ | ⟨n2, ow2, kd2, q1, q2, q3, q4⟩
  · exact ⟨Or.inl q1, Or.inr ⟨FR.tr (FR.mo f59 (by decide) (by decide) (by decide) (by decide)) (FR.mo q2 (by decide) (by decide) (by decide) (by decide)), q1.2⟩, OTF.tr o9 (OTF_fr q2 (by decide)), fun z hz => by rw [q3 z hz, FR.A f59 (by decide)]⟩
  · have fv : FR [136, 138, 140] [139] [89, 90, 92, 94, 95, 98, 106, 135] [88, 91, 93, 107, 134, 137] w v := FR.tr (FR.mo f59 (by decide) (by decide) (by decide) (by decide)) (FR.mo q2 (by decide) (by decide) (by decide) (by decide))
    have frs := FRS_fall (n := tt) (a := a) h s1 s2 s4 x4 fv (by rw [FR.A q2 (by decide)]; exact h95) (fun j => by rw [q3, FR.A f59 (by decide)]) pa3
    obtain ⟨n1, n2', n3, n4, n5, n6, n7, n8, n9⟩ := pa3
    refine ⟨Or.inr ⟨mu - 1, ?_, i0 + 1, ro, rn, rh, cb, pc, ct, a, n2, ow2, kd2, bxM, ?_, frs, ?_, pa2, ?_, ?_, ?_, by rw [FR.A fv (by decide)]; exact h109, ?_, ?_⟩, Or.inl (FR.mo fv (by decide) (by decide) (by decide) (by decide)), ?_, fun z _ => FR.A fv (by decide)⟩
    · obtain ⟨c1, c2, c3, c4⟩ := hcl; omega
    · rw [show i0 + 1 - 1 = i0 from by omega, n1, n2']; exact q1
    · rw [show i0 + 1 - 1 = i0 from by omega, q3, if_pos rfl]
    · rw [show i0 + 1 - 1 = i0 from by omega, n3, t6]
    · rw [show i0 + 1 - 1 = i0 from by omega, n4, t5, FR.A q2 (by decide), h106']; omega
    · rw [n5]; exact t7
    · rw [FR.F fv (by decide)]; exact h152
    · obtain ⟨c1, c2, c3, c4⟩ := hcl
      unfold CLK
      rw [FR.F fv (by decide), FR.F fv (by decide), show i0 + 1 - 1 = i0 from by omega]
      refine ⟨c1, c2, c3, by omega⟩
    · refine OTF.tr o9 ?_
      refine ⟨fun z hz => ?_, fun j hj => ?_, fun j hj => ⟨FR.A q2 (by decide), FR.A q2 (by decide), FR.A q2 (by decide), FR.A q2 (by decide)⟩, OTF_9 q2 (by decide)⟩
      · refine ⟨?_, FR.A q2 (by decide), FR.A q2 (by decide), FR.A q2 (by decide)⟩
        exact q4 z hz
      · refine ⟨by rw [q3, if_neg (by omega)], FR.A q2 (by decide), FR.A q2 (by decide), FR.A q2 (by decide)⟩
end
end
section
section
variable {Fv : Int64 → Int64 → Prop} {P : Int64 → Prop} {w w2 : MS} {PR N p n opM bnM bxM ND fr k tp mu CN PN SN UN FN : Nat} {ow kd ro rn rh cb pc ct pM pE : Nat → Nat} {T : TY} {C : CY}
def KP : List Nat := [19, 23, 24, 25, 26, 27, 30, 31, 33, 35, 36, 37, 38, 40, 41, 42, 43, 45, 48, 50, 53, 54, 55, 57]
theorem PRG_fr {is ls as js : List Nat} (h : PRG w T C pM pE ND CN PN SN UN FN) (f : FR is ls as js w w2) (hi : ∀ k, k ∈ [14, 52, 56] → k ∉ is) (ha : ∀ k, k ∈ KP → k ∉ as) : PRG w2 T C pM pE ND CN PN SN UN FN := by
  have e : ∀ k, k ∈ KP → ∀ i, A w2 k i = A w k i := fun k hk i => FR.A f (ha k hk)
  have e19 := e 19 (by decide)
  have e23 := e 23 (by decide)
  have e24 := e 24 (by decide)
  have e25 := e 25 (by decide)
  have e26 := e 26 (by decide)
  have e27 := e 27 (by decide)
  have e30 := e 30 (by decide)
  have e31 := e 31 (by decide)
  have e33 := e 33 (by decide)
  have e35 := e 35 (by decide)
  have e36 := e 36 (by decide)
  have e37 := e 37 (by decide)
  have e38 := e 38 (by decide)
  have e40 := e 40 (by decide)
  have e41 := e 41 (by decide)
  have e42 := e 42 (by decide)
  have e43 := e 43 (by decide)
  have e45 := e 45 (by decide)
  have e48 := e 48 (by decide)
  have e50 := e 50 (by decide)
  have e53 := e 53 (by decide)
  have e54 := e 54 (by decide)
  have e55 := e 55 (by decide)
  have e57 := e 57 (by decide)
  have f14 : F w2 14 = F w 14 := FR.F f (hi 14 (by decide))
  have f52 : F w2 52 = F w 52 := FR.F f (hi 52 (by decide))
  have f56 : F w2 56 = F w 56 := FR.F f (hi 56 (by decide))
  have pw : ∀ pM pE L q, PW w pM pE PN SN L q → PW w2 pM pE PN SN L q := fun pM pE L q hq => by
    unfold PW CHN at hq ⊢
    simp only [e33, e35, e36, e37, e38]
    exact hq
  have st : STR w2 SN := ⟨h.2.1.1, fun s hs => by rw [e19, e19]; exact h.2.1.2 s hs⟩
  have cls : ∀ many hg hb m l k cc r a, CLS C w CN many hg hb m l k cc r a → CLS C w2 CN many hg hb m l k cc r a := fun many hg hb m l k cc r a hc => by
    unfold CLS at hc ⊢; simp only [e41]; exact hc
  have pat : ∀ L m m2 a, PAT w pM pE PN SN L m m2 a → PAT w2 pM pE PN SN L m m2 a := fun L m m2 a hp => by
    obtain ⟨q, pM, pE, q1, q2, q3, q4, q5, q6, q7⟩ := hp
    exact ⟨q, pM, pE, q1, q2, q3, q4, q5, q6, fun k h1 h2 => pw _ _ _ _ (q7 k h1 h2)⟩
  have pats : ∀ L m m2 many a, PATS w pM pE PN SN L m m2 many a → PATS w2 pM pE PN SN L m m2 many a := fun L m m2 many a hp => by
    rcases hp with hp | ⟨q0, q, pM, pE, q1, q2, q3, q4, q5, q6, q7, q8⟩
    · exact Or.inl hp
    · refine Or.inr ⟨q0, q, pM, pE, q1, ?_, q3, q4, q5, q6, q7, fun k h1 h2 => pw _ _ _ _ (q8 k h1 h2)⟩
      unfold CHN at q2 ⊢; simp only [e37]; exact ⟨trivial, q2.2⟩
  obtain ⟨h1, h2, h3, h4, h5, h6⟩ := h
  refine ⟨by rw [f52, f56]; exact h1, st, fun n hn => ?_, fun c hc => ?_, fun g hg => ?_, fun u hu => ?_⟩
  · obtain ⟨a1, a2, a3⟩ := h3 n hn
    refine ⟨by unfold NW at a1 ⊢; simp only [e23, e24, e25, e45]; exact a1, ?_, by unfold WNb at a3 ⊢; simp only [e23, e25, e26, e27, e30, e48, f14]; exact a3⟩
    unfold WNa at a2 ⊢
    simp only [e23, e25, e26, e27, e30, e31, e54, e55, e57]
    obtain ⟨b1, b2, b3, b4, b5, b6, b7, b8, b9, b10, b11, b12, b13, b14, b15, b16⟩ := a2
    refine ⟨b1, b2, b3, b4, fun z => ?_, b6, b7, b8, b9, fun z => ?_, fun z => ?_, fun z => ?_, b13, b14, b15, b16⟩
    · obtain ⟨y1, y2, m2, y3, y4⟩ := b5 z
      exact ⟨y1, y2, m2, pat _ _ _ _ y3, y4⟩
    · obtain ⟨y1, y2, y3, r, y4, y5⟩ := b10 z
      exact ⟨y1, y2, y3, r, y4, cls _ _ _ _ _ _ _ _ _ y5⟩
    · obtain ⟨y1, y3, r, y4, y5⟩ := b11 z
      exact ⟨y1, y3, r, y4, cls _ _ _ _ _ _ _ _ _ y5⟩
    · obtain ⟨y1, y3, y4, y5⟩ := b12 z
      refine ⟨y1, y3, ?_, y5⟩
      rcases y4 with y4 | ⟨r, y4, y6⟩
      · exact Or.inl y4
      · exact Or.inr ⟨r, y4, cls _ _ _ _ _ _ _ _ _ y6⟩
  · obtain ⟨⟨many, a1, a2, a3⟩, a4⟩ := h4 c hc
    unfold CWD
    simp only [e40, e41, e42, e43, e45]
    exact ⟨⟨many, a1, a2, pats _ _ _ _ _ a3⟩, a4⟩
  · obtain ⟨a, r, a1, a2, a3⟩ := h5 g hg
    exact ⟨a, r, by rw [e48]; exact a1, a2, by rw [e50]; exact cls _ _ _ _ _ _ _ _ _ a3⟩
  · obtain ⟨a, hh, r, a1, a2, a3, a4, a5, a6⟩ := h6 u hu
    exact ⟨a, hh, r, by rw [e54]; exact a1, a2, by rw [e55]; exact a3, by rw [e55]; exact a4, a5, by rw [e53]; exact cls _ _ _ _ _ _ _ _ _ a6⟩
def RCV (w : MS) (T : TY) (ND p hg m l k tp r : Nat) : Prop := ∃ n : Nat, F w 159 = n ∧ n < ND ∧ A w 23 n = 27 ∧ tH T n = hg ∧ tM T n = m ∧ tL T n = l ∧ tK T n = k ∧ tC T n = tp ∧ tG T n = 0 ∧ r + 1 = tR T n ∧ (A w 31 n = -1 → w.2.2.2 111 p = -1)
def TRS (w : MS) (T : TY) (C : CY) (ND CN p ro rn rh k tp s many hg hb m r bx : Nat) : Prop :=
  (F w 153 = s ∧ s ≤ 3 ∧ hg = hb + (if s = 0 then many else if s = 1 then 1 else 0) ∧ (s = 1 ∨ s = 3 → many = 1) ∧ (s = 2 → many = 0) ∧ many ≤ 6 ∧ k ≤ 26 ∧ hg ≤ 760 ∧ m + rh ≤ 40 ∧ r < 16000) ∧ F w 156 = ((rn + rh + m : Nat) : Int) ∧
  (F w 154 = -1 ∨ CLS C w CN many hg hb m rh k tp r (F w 154)) ∧
  (s = 3 → CLS C w CN many hg hb m rh k tp r (F w 155) ∧ 0 ≤ F w 158 ∧ F w 158 < bx ∧ RCV w T ND p hg m rh k tp r) ∧
  (0 < k → tH T tp ≤ hb ∧ tM T tp ≤ m ∧ ∃ a : Nat, A w 25 tp = a ∧ tR T a < r) ∧ F w 149 = F w 150 ∧ F w 151 = 0
theorem PW_fr {is ls as js : List Nat} {L q : Nat} (h : PW w pM pE PN SN L q) (f : FR is ls as js w w2) (ha : ∀ k, k ∈ [33, 35, 36, 37, 38] → k ∉ as) : PW w2 pM pE PN SN L q := by
  have e : ∀ k, k ∈ [33, 35, 36, 37, 38] → ∀ i, A w2 k i = A w k i := fun k hk i => FR.A f (ha k hk)
  have e33 := e 33 (by decide)
  have e35 := e 35 (by decide)
  have e36 := e 36 (by decide)
  have e37 := e 37 (by decide)
  have e38 := e 38 (by decide)
  unfold PW CHN at h ⊢
  simp only [e33, e35, e36, e37, e38]
  exact h
theorem pM_mono {L q e : Nat} (h : ∀ k, q ≤ k → k < e → PW w pM pE PN SN L k) : ∀ j, q + j ≤ e → pM q ≤ pM (q + j) := by
  intro j
  induction j with
  | zero => intro _; exact Nat.le_refl _
  | succ j ih =>
    intro hj
    have a := ih (by omega)
    obtain ⟨-, -, b1, b2, c1, c2, c3, c4, c5, c6⟩ := h (q + j) (by omega) (by omega)
    have : pM (q + j) ≤ pM (q + j + 1) := by
      by_cases z0 : A w 33 (q + j) = 0
      · rw [(c1 (Or.inl z0)).1]; exact Nat.le_refl _
      by_cases z3 : A w 33 (q + j) = 3
      · rw [(c1 (Or.inr z3)).1]; exact Nat.le_refl _
      by_cases z1 : A w 33 (q + j) = 1
      · rw [(c2 z1).1]; omega
      by_cases z2 : A w 33 (q + j) = 2
      · rw [(c3 z2).1]; exact Nat.le_refl _
      by_cases z4 : A w 33 (q + j) = 4
      · rw [(c4 z4).1]; exact Nat.le_refl _
      by_cases z5 : A w 33 (q + j) = 5
      · rw [(c5 z5).1]; exact Nat.le_refl _
      · rw [(c6 (by omega)).1]; exact Nat.le_refl _
    rw [show q + (j + 1) = q + j + 1 from by omega]
    omega
theorem chi_ge {L q e : Nat} (h : ∀ k, q ≤ k → k < e → PW w pM pE PN SN L k) : ∀ j, (∀ k, k < j → chi pE q k < e) → q ≤ chi pE q j := by
  intro j
  induction j with
  | zero => intro _; exact Nat.le_refl _
  | succ j ih =>
    intro hj
    have a := ih (fun k hk => hj k (by omega))
    have b := (h _ a (hj j (by omega))).1
    show q ≤ pE (chi pE q j)
    omega
theorem fp_loop {q many rr rx : Nat} (hpw : ∀ k, q ≤ k → k < chi pE q many → PW w pM pE PN SN rx k) (hch : CHN w pE q many (chi pE q many)) (heP : chi pE q many ≤ PN) (hPN : PN ≤ 2900) (hF : FVH Fv) (hat : ATM w) (hP : ∀ t, P t → PA w t) (hS : STR w SN) (hfr : FRA w p fr rr rx) (hcap : ∀ k, q ≤ k → k ≤ chi pE q many → rr + rx + pM k ≤ 2450) (ho : many ≤ opM) (hm : many ≤ 6) (hN : 6000 ≤ N) : ∀ (fu j : Nat) (v : MS) (x : Int32), FQ p w v → MEI Fv P PR v p n ow kd opM (rr + rx + pM (chi pE q j)) bxM → j ≤ many → (j < many → x = I (chi pE q j)) → many - j < fu →
    OK (fun w2 r2 => FQ p w w2 ∧ ((r2 = I 1 ∧ MEI Fv P PR w2 p n ow kd opM (rr + rx + pM (chi pE q many)) bxM) ∨ (r2 = I 0 ∧ ∃ b2, MEI Fv P PR w2 p n ow kd opM b2 bxM ∧ rr + rx + pM q ≤ b2))) (gg_M_fitsPart N fu v x (I ((many : Int) - 1 - j))) := by
  intro fu
  induction fu with
  | zero => intro j v x _ _ _ _ z; exact absurd z (Nat.not_lt_zero _)
  | succ fu ih =>
    intro j v x fv iv hj hx hf
    show OK _ (fb_M_fitsPart_85 N (gg_M_fitsPart N fu) v x (I ((many : Int) - 1 - j)))
    unfold fb_M_fitsPart_85
    rw [lit0q, decL (by omega) (by omega) (by omega) (by omega)]
    refine ok_br.mpr ⟨fun z => ?_, fun z => ?_⟩
    · have ej : j = many := by have := of_decide_eq_true z; omega
      subst ej
      exact ok_ck.mpr ⟨rfl, ok_some.mpr ⟨fv, Or.inl ⟨rfl, iv⟩⟩⟩
    · have ej : j < many := by have := of_decide_eq_false z; omega
      obtain ⟨t1, t2⟩ := top_ok (N := N) (k := many - 1 - j) iv (by omega)
      rw [show ((many : Int) - 1 - j) = ((many - 1 - j : Nat) : Int) from by omega, t1, bnd_so, hx ej]
      have ge := chi_ge hpw j (fun k hk => hch.2.1 k (by omega))
      have lt1 := hch.2.1 j ej
      have le1 : chi pE q (j + 1) ≤ chi pE q many := by
        by_cases e : j + 1 < many
        · have := hch.2.1 (j + 1) e; omega
        · have : j + 1 = many := by omega
          rw [this]; exact Nat.le_refl _
      have ff := fits_ok (N := N) (q := chi pE q j) (e := chi pE q (j + 1)) (pM := pM) (pE := pE) (PN := PN) (SN := SN) (fr := fr) (rn := rr) (rh := rx) iv hPN (by omega) rfl (hpw _ ge lt1).1 (fun k h1 h2 => PW_fr (hpw k (by omega) (by omega)) fv.1 (by decide)) hF (ATM_fr hat fv.1 (by decide) (by decide)) (PA_fr hP fv.1 (by decide)) ⟨hS.1, fun s hs => by rw [FR.A fv.1 (by decide), FR.A fv.1 (by decide)]; exact hS.2 s hs⟩ ⟨by rw [FR.A fv.1 (by decide)]; exact hfr.1, hfr.2.1, hfr.2.2.1, by rw [FR.A fv.1 (by decide)]; exact hfr.2.2.2.1, by rw [FR.A fv.1 (by decide)]; exact hfr.2.2.2.2⟩ (fun k h1 h2 => hcap k (by omega) (by omega)) rfl t2 hN
      refine ok_bnd.mpr (ok_mono ff (fun u r h => ?_))
      obtain ⟨h1, h2⟩ := h
      have fu2 : FQ p w u := ⟨FR.tr fv.1 h1.1, fun z hz => by rw [h1.2 z hz]; exact fv.2 z hz⟩
      refine ok_br.mpr ⟨fun z0 => ?_, fun z0 => ?_⟩
      · rcases h2 with ⟨h2, h3⟩ | ⟨h2, b2, h3, c2, h4, h5, h6⟩
        · exfalso
          rw [h2] at z0
          exact absurd (of_decide_eq_true z0) (by decide)
        · refine ok_ck.mpr ⟨rfl, ok_some.mpr ⟨fu2, Or.inr ⟨rfl, b2, h3, ?_⟩⟩⟩
          have := pM_mono hpw (c2 - q) (by omega)
          rw [show q + (c2 - q) = c2 from by omega] at this
          omega
      · rcases h2 with ⟨h2, h3⟩ | ⟨h2, -⟩
        · have rP : chi pE q j < 2900 := by omega
          refine ok_ck.mpr ⟨inb_at (k := 37) (n := 5000) rfl (by omega) (by omega) (by decide), ?_⟩
          rw [I_tn (by omega) (by omega), Int.toNat_natCast, litm1q, I_add, show ((many - 1 - j : Nat) : Int) + -1 = (many : Int) - 1 - ((j + 1 : Nat) : Int) from by omega]
          refine ih (j + 1) u _ fu2 h3 (by omega) (fun e => ?_) (by omega)
          rw [I_A' (show A u 37 (chi pE q j) = ((chi pE q (j + 1) : Nat) : Int) by rw [FR.A fu2.1 (by decide)]; exact hch.2.2 j e)]
        · exfalso
          rw [h2] at z0
          exact absurd rfl (of_decide_eq_false z0)
theorem fitsPart_ok {s many hg hb m r : Nat} (i : MEI Fv P PR w p n ow kd (ro (fr - 1) + hg) (rn (fr - 1) + rh (fr - 1) + m) bxM) (hg' : PRG w T C pM pE ND CN PN SN UN FN) (hF : FVH Fv) (hat : ATM w) (hP : ∀ t, P t → PA w t) (h : FRS w T ND p fr ro rn rh cb pc ct k tp) (ht : TRS w T C ND CN p (ro (fr - 1)) (rn (fr - 1)) (rh (fr - 1)) k tp s many hg hb m r bxM) {c : Nat} (hc : F w 154 = c) (hN : 6000 ≤ N) :
    OK (fun w2 r2 => FQ p w w2 ∧ ((r2 = I 1 ∧ MEI Fv P PR w2 p n ow kd (ro (fr - 1) + hg) (rn (fr - 1) + rh (fr - 1) + cN C c) bxM) ∨ (r2 = I 0 ∧ ∃ b2, MEI Fv P PR w2 p n ow kd (ro (fr - 1) + hg) b2 bxM ∧ rn (fr - 1) + rh (fr - 1) + m ≤ b2))) (fm_M_fitsPart N w) := by
  have x4 := MEI_p i
  obtain ⟨⟨s1, s2, s3, s4, s42, s5, s6, s7, s8, s9⟩, u1, u2, u3, u4⟩ := ht
  have u2' : CLS C w CN many hg hb m (rh (fr - 1)) k tp r (F w 154) := by
    rcases u2 with u2 | u2
    · omega
    · exact u2
  obtain ⟨c', c1, c2, c3, c4, c5, c6, c7, c8, c9, c10⟩ := u2'
  have ec : c' = c := by omega
  subst ec
  obtain ⟨⟨many', d1, d2, d3⟩, ⟨d4, d5, d6⟩, -⟩ := hg'.2.2.2.1 c' c2
  have em : many' = many := by omega
  subst em
  have hS := hg'.2.1
  have hPN := hg'.1.2.2.1
  have hfr : FRA w p fr (rn (fr - 1)) (rh (fr - 1)) := by
    have q := h.2.2.1 (fr - 1) (by have := h.1; omega)
    exact ⟨h.1.2.2, h.1.1, h.1.2.1, q.2.1, q.2.2.1⟩
  have hrn := (h.2.2.1 (fr - 1) (by have := h.1; omega)).2.2.2.2.2.1
  have hfr60 := h.1
  rw [c7, c6] at d3
  have cn := hg'.1.2.1
  unfold fm_M_fitsPart fb_M_fitsPart_0 fb_M_fitsPart_70
  have e154 : w.1 154 = I c' := I_F' hc
  rw [I_F' s1, e154, show (2 : Int32) = I 2 from rfl, show (3 : Int32) = I 3 from rfl, lit1q, decE (by omega) (by omega) (by omega) (by omega), decE (by omega) (by omega) (by omega) (by omega), decE (by omega) (by omega) (by omega) (by omega)]
  have loop : many' ≤ ro (fr - 1) + hg → OK (fun w2 r2 => FQ p w w2 ∧ ((r2 = I 1 ∧ MEI Fv P PR w2 p n ow kd (ro (fr - 1) + hg) (rn (fr - 1) + rh (fr - 1) + cN C c') bxM) ∨ (r2 = I 0 ∧ ∃ b2, MEI Fv P PR w2 p n ow kd (ro (fr - 1) + hg) b2 bxM ∧ rn (fr - 1) + rh (fr - 1) + m ≤ b2))) (gg_M_fitsPart N N w (I (A w 40 c')) (I ((many' : Int) - 1))) := fun ho => by
    rcases d3 with ⟨d3, d3'⟩ | ⟨-, q, pM, pE, q1, q2, q3, q4, q5, q6, q7, q8⟩
    · obtain ⟨N', hN'⟩ : ∃ N', N = N' + 1 := ⟨N - 1, by omega⟩
      have e : gg_M_fitsPart N N = fb_M_fitsPart_85 N (gg_M_fitsPart N N') := by conv => lhs; rw [hN']; unfold gg_M_fitsPart
                                                                                 rw [← hN']
      rw [e]
      unfold fb_M_fitsPart_85
      rw [lit0q, decL (by omega) (by omega) (by omega) (by omega), decide_eq_true (by omega), br_tq]
      exact ok_ck.mpr ⟨rfl, ok_some.mpr ⟨⟨FR.rf, fun _ _ => rfl⟩, Or.inl ⟨rfl, by rw [d3']; exact i⟩⟩⟩
    · have := fp_loop (N := N) q8 q2 q4 hPN hF hat hP hS hfr (fun k h1 h2 => by have := q7 k h1 h2; omega) ho s5 hN N 0 w (I (A w 40 c')) ⟨FR.rf, fun _ _ => rfl⟩ (by rw [show chi pE q 0 = q from rfl, q5]; exact i) (by omega) (fun _ => by rw [q1]; rfl) (by omega)
      rw [q6, q5, show (many' : Int) - 1 - ((0 : Nat) : Int) = (many' : Int) - 1 from by omega] at this
      exact this
  refine ok_br.mpr ⟨fun z2 => ?_, fun z2 => ok_br.mpr ⟨fun z3 => ?_, fun z3 => ok_br.mpr ⟨fun z1 => ?_, fun z1 => ?_⟩⟩⟩
  · have es : s = 2 := by have := of_decide_eq_true z2; omega
    have e0 := s42 es
    refine ok_ck.mpr ⟨rfl, ok_some.mpr ⟨⟨FR.rf, fun _ _ => rfl⟩, Or.inl ⟨rfl, ?_⟩⟩⟩
    rcases d3 with ⟨-, d3⟩ | ⟨d3, -⟩
    · rw [d3]; exact i
    · omega
  · have es : s = 3 := by have := of_decide_eq_true z3; omega
    have e1 := s4 (Or.inr es)
    obtain ⟨-, v1, v2, -⟩ := u3 es
    obtain ⟨k8, hk8⟩ : ∃ k8 : Nat, F w 158 = k8 := ⟨(F w 158).toNat, by omega⟩
    have x10 := i.2.2.2.2.2.2.2.2.2.2.2.2.2.2.1
    have bx30 := i.2.2.2.2.2.2.2.2.2.2.2.1.2
    rcases d3 with ⟨d3, -⟩ | ⟨-, q, pM, pE, q1, q2, q3, q4, q5, q6, q7, q8⟩
    · omega
    rw [e1] at q2 q3 q4 q6 q7 q8
    have ch1 : chi pE q 1 = pE q := rfl
    rw [ch1] at q2 q3 q4 q6 q7 q8
    refine ok_ck.mpr ⟨inb_at (k := 40) (n := 1400) rfl (by omega) (by omega) (by decide), ?_⟩
    rw [I_F' i.2.2.1, I_F' hk8, show (30 : Int32) = I 30 from rfl, I_mul, I_add]
    refine ok_ck.mpr ⟨inb_at (k := 107) (n := 720) rfl (by omega) (by omega) (by decide), ?_⟩
    rw [I_tn (x := (c' : Int)) (by omega) (by omega), Int.toNat_natCast, I_A' q1, I_tn (by omega) (by omega), show ((p : Int) * 30 + (k8 : Int)).toNat = 30 * p + k8 from by omega]
    refine ok_bnd.mpr (ok_mono (fits_ok (N := N) (q := q) (e := pE q) (pM := pM) (pE := pE) (PN := PN) (SN := SN) i hPN q4 rfl q3 q8 hF hat hP hS hfr (fun k h1 h2 => by have := q7 k h1 h2; omega) (by rw [q5]) (x10 k8 (by omega)) hN) (fun u r h => ?_))
    obtain ⟨h1, h2⟩ := h
    rcases h2 with ⟨h2, h3⟩ | ⟨h2, b2, h3, c2', h4, h5, h6⟩
    · subst h2
      exact ok_ck.mpr ⟨rfl, ok_some.mpr ⟨h1, Or.inl ⟨rfl, by rw [← q6]; exact h3⟩⟩⟩
    · subst h2
      refine ok_ck.mpr ⟨rfl, ok_some.mpr ⟨h1, Or.inr ⟨rfl, b2, h3, ?_⟩⟩⟩
      have := pM_mono q8 (c2' - q) (by omega)
      rw [show q + (c2' - q) = c2' from by omega] at this
      omega
  · have es : s = 1 := by have := of_decide_eq_true z1; omega
    have e1 := s4 (Or.inl es)
    refine ok_ck.mpr ⟨inb_at (k := 40) (n := 1400) rfl (by omega) (by omega) (by decide), ok_lt.mpr ?_⟩
    rw [I_tn (by omega) (by omega), Int.toNat_natCast, I_A (k := 40), I_sub]
    have := loop (by rw [es, if_neg (by omega), if_pos rfl] at s3; omega)
    rw [e1] at this
    exact this
  · have es : s = 0 := by have := of_decide_eq_false z1; have := of_decide_eq_false z2; have := of_decide_eq_false z3; omega
    refine ok_ck.mpr ⟨inb_at (k := 41) (n := 1400) rfl (by omega) (by omega) (by decide), ok_ck.mpr ⟨inb_at (k := 40) (n := 1400) rfl (by omega) (by omega) (by decide), ok_lt.mpr ?_⟩⟩
    rw [I_tn (by omega) (by omega), Int.toNat_natCast, I_A (k := 40), I_A' d1, I_sub]
    exact loop (by rw [es, if_pos rfl] at s3; omega)
end
end
