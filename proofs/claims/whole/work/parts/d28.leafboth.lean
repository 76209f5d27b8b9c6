/-! patterns: leaves, both -/
set_option maxRecDepth 100000
section
variable {α : Type} {m0 w0 m w v u m2 : MS} {K nm Nk : Nat → Nat} {T p a b cm N n lo n1 x fr s0 l f pi D d : Nat} {sc t : SCT} {e : List Nat × List Nat × Nat} {own : Bool} {S : SF_Cm_listPattern} {S2 : SG_M_rowPattern} {Q : MS → α → Prop} {v1 : Int32}
theorem pk_put {g : MS → Unit → Option (MS × α)} {y : Int32} (h : m.1 441 = I (a : Nat)) (ha : a ≤ 23990) (hk : a < 23990 → PK Q (g (ptc m a y) ())) : PK Q (bnd (jm_Co_put N m y) g) := by
  rw [putd_e h ha]
  by_cases z : a < 23990
  · rw [if_pos z, bnd_s]
    exact hk z
  · rw [if_neg z]
    exact pk_none
/-- the signs of a STRING are written -/
theorem cs_2 (hl : l ≤ 40) (hfr : fr + l ≤ 4000) (hs : ∀ (N : Nat) (m : MS) (k : Nat), FRC m0 m → k < l → ∃ x : Int32, hm_To_signAt N m (I ((fr + k : Nat) : Int)) = some (m, x) ∧ x ≠ 34 ∧ x.toInt = A w0 18 (b + k)) (hC : PCS m0 nm m a cm sc own) : ∀ (M j : Nat) (v : MS), j ≤ l → PCS m0 nm v (a + 1 + j) cm sc own → CFP m v a (sc.length - 1) → v.2.2.1 42 = m.2.2.1 42 → A v 23 a = ((l : Nat) : Int) → (∀ k, k < j → A v 23 (a + 1 + k) = A w0 18 (b + k)) → PK (fun m2 _ => PCS m0 nm m2 (a + 1 + l) cm sc own ∧ CFP m m2 a (sc.length - 1) ∧ m2.2.2.1 42 = m.2.2.1 42 ∧ A m2 23 a = ((l : Nat) : Int) ∧ ∀ k, k < l → A m2 23 (a + 1 + k) = A w0 18 (b + k)) ((jg_Cm_string N M).2 v (I (fr : Nat)) (I (l : Nat)) (I (j : Nat)))
  | 0, _, _, _, _, _, _, _, _ => pk_none
  | M + 1, j, v, hj, h1, h2, h3, h4, h5 => by
    show PK _ (jb_Cm_string_50 N (jg_Cm_string N M) v (I (fr : Nat)) (I (l : Nat)) (I (j : Nat)))
    unfold jb_Cm_string_50
    rw [decI (by omega) (by omega) (by omega) (by omega)]
    by_cases z : l ≤ j
    · have : j = l := by omega
      subst this
      rw [decide_eq_true (by omega), br_t]
      exact pk_some ⟨h1, h2, h3, h4, h5⟩
    · rw [decide_eq_false (by omega), br_f, I_add, show ((fr : Nat) : Int) + ((j : Nat) : Int) = ((fr + j : Nat) : Int) by omega]
      obtain ⟨y, y1, y2, y3⟩ := hs N v j h1.1 (by omega)
      rw [y1, bnd_s, i_suc]
      refine pk_put h1.2.2.1.1 h1.2.2.1.2.2 (fun ha => ?_)
      refine cs_2 hl hfr hs hC M (j + 1) _ (by omega) (PCS_put h1 ha) (CFP_put h2 (by omega)) (by rw [ptc_r (by decide)]; exact h3) (by rw [ptc_a (by omega)]; exact h4) (fun k hk => ?_)
      by_cases e : k = j
      · rw [e, ptc_x]; exact y3
      · rw [ptc_a (by omega)]; exact h5 k (by omega)
theorem cs_1 (hl : l ≤ 40) (hfr : fr + l ≤ 4000) (hs : ∀ (N : Nat) (m : MS) (k : Nat), FRC m0 m → k < l → ∃ x : Int32, hm_To_signAt N m (I ((fr + k : Nat) : Int)) = some (m, x) ∧ x ≠ 34 ∧ x.toInt = A w0 18 (b + k)) (he : l < 40 → ∀ (N : Nat) (m : MS), FRC m0 m → hm_To_signAt N m (I ((fr + l : Nat) : Int)) = some (m, 34)) (hC : PCS m0 nm m a cm sc own) : ∀ (M j : Nat), j ≤ l → PK (fun m2 _ => PCS m0 nm m2 (a + 1 + l) cm sc own ∧ CFP m m2 a (sc.length - 1) ∧ m2.2.2.1 42 = m.2.2.1 42 ∧ A m2 23 a = ((l : Nat) : Int) ∧ ∀ k, k < l → A m2 23 (a + 1 + k) = A w0 18 (b + k)) ((jg_Cm_string N M).1 m (I (fr : Nat)) (I (j : Nat)))
  | 0, _, _ => pk_none
  | M + 1, j, hj => by
    show PK _ (jb_Cm_string_12 N (jg_Cm_string N M) m (I (fr : Nat)) (I (j : Nat)))
    have e39 : PK (fun m2 _ => PCS m0 nm m2 (a + 1 + l) cm sc own ∧ CFP m m2 a (sc.length - 1) ∧ m2.2.2.1 42 = m.2.2.1 42 ∧ A m2 23 a = ((l : Nat) : Int) ∧ ∀ k, k < l → A m2 23 (a + 1 + k) = A w0 18 (b + k)) (jb_Cm_string_39 N (jg_Cm_string N M) m (I (fr : Nat)) (I (l : Nat))) := by
      unfold jb_Cm_string_39
      refine pk_put hC.2.2.1.1 hC.2.2.1.2.2 (fun ha => ?_)
      exact cs_2 (N := N) hl hfr hs hC M 0 _ (Nat.zero_le _) (PCS_put hC ha) (CFP_put CFP_rf (Nat.le_refl _)) (ptc_r (by decide)) (by rw [ptc_x]; exact I_ti (by omega) (by omega)) (fun k hk => absurd hk (by omega))
    unfold jb_Cm_string_12
    rw [show (40 : Int32) = I 40 from rfl, decI (by decide) (by decide) (by omega) (by omega)]
    by_cases z : 40 ≤ j
    · have : j = l := by omega
      subst this
      rw [decide_eq_true (by omega), br_t]
      exact e39
    · rw [decide_eq_false (by omega), br_f, I_add, show ((fr : Nat) : Int) + ((j : Nat) : Int) = ((fr + j : Nat) : Int) by omega]
      by_cases y : j = l
      · subst y
        rw [he (by omega) N m hC.1, bnd_s, show decide ((34 : Int32) = 34) = true from rfl, br_t]
        exact e39
      · obtain ⟨q, y1, y2, y3⟩ := hs N m j hC.1 (by omega)
        rw [y1, bnd_s, decide_eq_false y2, br_f, i_suc]
        exact cs_1 hl hfr hs he hC M (j + 1) (by omega)
theorem cs_p (hC : PCS m0 nm m a cm sc own) (hn : n ≤ 100000) (h18 : A m0 18 n = ((fr : Nat) : Int)) (hl : l ≤ 40) (hfr : fr + l ≤ 4000) (hs : ∀ (N : Nat) (m : MS) (k : Nat), FRC m0 m → k < l → ∃ x : Int32, hm_To_signAt N m (I ((fr + k : Nat) : Int)) = some (m, x) ∧ x ≠ 34 ∧ x.toInt = A w0 18 (b + k)) (he : l < 40 → ∀ (N : Nat) (m : MS), FRC m0 m → hm_To_signAt N m (I ((fr + l : Nat) : Int)) = some (m, 34)) : PK (fun m2 _ => PCS m0 nm m2 (a + 1 + l) cm sc own ∧ CFP m m2 a (sc.length - 1) ∧ m2.2.2.1 42 = m.2.2.1 42 ∧ A m2 23 a = ((l : Nat) : Int) ∧ ∀ k, k < l → A m2 23 (a + 1 + k) = A w0 18 (b + k)) (jm_Cm_string N m (I (n : Nat))) := by
  unfold jm_Cm_string jb_Cm_string_0
  refine pk_ck (fun _ => ?_)
  rw [i_nt2 hn, tre hC.1 (by decide) h18]
  exact cs_1 (N := N) hl hfr hs he hC N 0 (Nat.zero_le _)
/-- a leaf's tree and tokens -/
theorem lf_7 (c : CTZ m0 w0 K T nm Nk) (h : LFc m0 n lo) (hl : lo ≤ T) : A m0 16 n = ((K lo : Nat) : Int) ∧ 1 ≤ K lo ∧ K lo ≤ 4 ∧ A m0 17 n = ((lo : Nat) : Int) ∧ A m0 18 n = A m0 7 lo := by
  obtain ⟨h1, h2, h3, h4⟩ := h
  have e : A m0 6 lo = ((K lo : Nat) : Int) := by
    show (m0.2.2.1 6 lo).toInt = _
    rw [c.1.2 lo hl]
    exact I_ti (by have := c.1.1.k46 hl; omega) (by have := c.1.1.k46 hl; omega)
  rw [e] at h1 h2
  exact ⟨h1, by omega, by omega, h3, h4⟩
theorem PRS_ne (h : PRd w0 T w p pi sc) : ∃ e t, sc = e :: t := by
  have := h.2.2.2.1.2.1.1
  cases sc with
  | nil => exact absurd this (by decide)
  | cons e t => exact ⟨e, t, rfl⟩
/-- numbers, ATOMS, STRINGS, NAMES -/
theorem pt_leaf (c : CTZ m0 w0 K T nm Nk) (cv : CTV m0 w0 K T) (hC : PCS m0 nm m a cm sc own) (hR : PRd w0 T w lo pi sc) (hn : n ≤ 100000) (hlf : LFc m0 n lo) (h4 : tot sc + 1 ≤ 4000) (ho : decide (v1 = 0) = !own) : PP (PTZ m0 w0 K T nm Nk (f + 1) lo (lo + 1) own a cm pi sc m w) (jm_Cm_pattern N S m (I (n : Nat))) (km_M_patternAt N S2 w v1) := by
  obtain ⟨l16, k1, k4, l17, l18⟩ := lf_7 c hlf hR.2.1.2
  have hl : lo < T := c.1.1.lt hR.2.1.2 (by omega) (by omega)
  have t4 := c.1.1.1
  obtain ⟨e, t, rfl⟩ := PRS_ne hR
  have gap : ∀ z : Nat, K lo ≠ 3 → HDw own nm Nk K (fun _ => z) lo (lo + 1) (e :: t) (e :: t) := fun z h3 => HDw_gap (fun j a b => by rw [show j = lo by omega]; exact h3)
  have wg : ∀ (z : Nat), K lo ≠ 3 → wup (m.2.2.1 42) K (fun _ => z) lo (lo + 1) = m.2.2.1 42 := fun z h3 => wup_0 (fun j a b => by rw [show j = lo by omega]; exact h3)
  by_cases z3 : K lo = 3
  · -- a NAME
    obtain ⟨c7, d7, cx, cu⟩ := c.2.2.2 lo hl z3
    refine rp_name c hR z3 ho (fun w2 sc2 r1 r2 _ h5 r37 => ?_)
    obtain ⟨r37, r3⟩ := r37
    have fr := hC.1
    unfold jm_Cm_pattern jb_Cm_pattern_0
    refine l_ck (fun hb => ?_)
    rw [i_nt2 hn, tre fr (by decide) (v := 3) (l16.trans (by rw [z3]; rfl))]
    rw [decide_eq_false (show ¬ (I 3 = (1 : Int32)) by decide), br_f, decide_eq_false (show ¬ (I 3 = (2 : Int32)) by decide), br_f, decide_eq_true (show (I 3 = (3 : Int32)) by decide), br_t]
    refine l_ck (fun _ => l_ck (fun _ => ?_))
    have e18 : m.2.2.1 18 n = I (nm (Nk lo) : Nat) := by
      rw [tre fr (by decide) l18]
      show I (m0.2.2.1 7 lo).toInt = _
      rw [← I_of, c7]
    rw [e18, tre fr (by decide) l17]
    refine cp_nip c.2.2.1 hC hR.2.2.2.1.2.2.2 cx (by omega) (by omega) (fun m2 b cm2 L sc3 q1 q2 q3 q4 => pp_end ?_) (fun v => rfl)
    have es : sc3 = sc2 := by
      rcases r3 with ⟨a1, a2, -⟩ | ⟨a1, a2, -⟩ <;> rcases q4 with ⟨b1, -, -, b4, -⟩ | ⟨b1, -, -, b4, -⟩
      · rw [a2, b4]
      · exact absurd a1 b1
      · exact absurd b1 a1
      · rw [a2, b4]
    subst es
    have hb : a < b := by rcases q4 with ⟨-, b2, -⟩ | ⟨-, b2, -⟩ <;> omega
    have ok := hR.2.2.2.1.2.2.2
    have tl : t.length + 1 ≤ 27 := hR.2.2.2.1.2.1.2
    refine ⟨pi, b, pi + 1, cm2, sc3, fun _ => L, rfl, ⟨Nat.le_refl _, by omega, r37⟩, hb, q1, r1, ⟨?_, ?_⟩, ?_, by rw [q3, wup_1 z3], q2, r2, fun C R J H gc gr gp gh => ?_⟩
    · rcases q4 with ⟨b1, b2, b3, b4, b5, b6⟩ | ⟨b1, b2, b3, b4, b5, b6⟩
      · rw [b4, b5]; exact NMX_rf
      · rw [b4]
        have sx := (rfP_d (Nk := fun _ => Nk lo) (K := fun _ => 3) (W := fun _ => rfL own (Nk lo) (e :: t)) (p := 0) (own := own) (x := Nk lo) ok (by omega) rfl rfl rfl).1
        have cmle : cm ≤ cm2 := by rcases b6 with ⟨-, -, h⟩ | ⟨-, -, h⟩ <;> omega
        cases hq : rfP own (Nk lo) (e :: t) with
        | nil => rw [hq] at sx; exact sx.elim
        | cons e2 t2 => rw [hq] at sx; exact ⟨sx.1, sx.2.2, cmle⟩
    · rcases q4 with ⟨b1, b2, b3, b4, b5, b6⟩ | ⟨b1, b2, b3, b4, b5, b6⟩
      · rw [b4]; omega
      · rw [b4]
        have := (rfX_le (own := own) ok cx).2
        omega
    · rcases q4 with ⟨b1, b2, b3, b4, b5, b6⟩ | ⟨b1, b2, b3, b4, b5, b6⟩
      · rw [b4]
        have el : (e :: t).length = t.length + 1 := rfl
        refine ⟨HDo_no (fun j a b _ => ?_), fun _ => ⟨fun j a b _ => ?_, NWX_rf⟩⟩
        · show _ ≤ L + 1 ∧ L ≤ 32
          omega
        · have : j = lo := by omega
          subst this
          exact ⟨fun z => absurd b1 z, fun _ => by show _ ≤ L + 1; omega⟩
      · rw [b4]
        exact rfP_dw ok rfl z3 b1 b5 (by omega)
    · have g := gp pi (Nat.le_refl _) (by omega)
      rcases q4 with ⟨b1, b2, b3, b4, b5, b6⟩ | ⟨b1, b2, b3, b4, b5, b6⟩
      · rcases r3 with ⟨-, -, a3⟩ | ⟨a1, -, -⟩
        · exact Or.inl ⟨g.1.trans a3, (gc a (Nat.le_refl _) hb).trans b3, b2, by rw [b4]⟩
        · exact absurd b1 a1
      · rcases r3 with ⟨a1, -, -⟩ | ⟨-, -, a3⟩
        · exact absurd a1 b1
        · have ca1 : C (a + 1) = ((nm (Nk lo) : Nat) : Int) := (gc (a + 1) (by omega) (by omega)).trans b3
          rcases a3 with ⟨x1, x2, x3, x4⟩ | ⟨x1, x2, x3, x4⟩
          · rcases b6 with ⟨y1, y2, y3⟩ | ⟨y1, -, -⟩
            · refine Or.inr (Or.inl ⟨g.1.trans x4, (gc a (Nat.le_refl _) hb).trans y2, b2, nm (Nk lo), ca1, ?_, ?_⟩)
              · intro z
                obtain ⟨y, hy, he⟩ := List.mem_map.mp z
                exact x2 (by rw [← c.2.2.1.1 _ _ he]; exact hy)
              · rw [x3]
                show (e.1 ++ [Nk lo]).map nm = e.1.map nm ++ [nm (Nk lo)]
                rw [List.map_append]; rfl
            · exact absurd (b5.trans x1) y1
          · rcases b6 with ⟨y1, -, -⟩ | ⟨y1, y2, y3⟩
            · exact absurd (b5.symm.trans y1) x1
            · refine Or.inr (Or.inr (Or.inl ⟨g.1.trans x3, (gc a (Nat.le_refl _) hb).trans y2, b2, ?_, ?_⟩))
              · unfold Onm
                rw [x2]
              · rw [ca1, g.2.1]
                have oe : Onm nm (e :: t) = Onm nm sc3 := by unfold Onm; rw [x2]
                rw [oe]
                refine ⟨nm (Nk lo), rfl, ?_⟩
                cases sc3 with
                | nil => exact x4.elim
                | cons e3 t3 =>
                  rcases x4 with ⟨k, i1, i2⟩ | ⟨i0, ⟨k, i1, i2⟩ | i1⟩
                  · exact Or.inl ⟨k, i1, by show (e3.1.map nm)[k]? = _; rw [List.getElem?_map, i2]; rfl⟩
                  · refine Or.inr ⟨k, i1, ?_, ?_⟩
                    · intro z
                      obtain ⟨y, hy, he⟩ := List.mem_map.mp z
                      exact i0 (by rw [← c.2.2.1.1 _ _ he]; exact hy)
                    · obtain ⟨l, hl⟩ := gh.1
                      have hl : (e3.2.1.map nm) ++ l = H := hl
                      have i3 : (e3.2.1.map nm)[k]? = some (nm (Nk lo)) := by rw [List.getElem?_map, i2]; rfl
                      rw [← hl, List.getElem?_append_left (List.getElem?_eq_some_iff.mp i3).1]
                      exact i3
                  · exfalso
                    have h1 := gh.1.length_le
                    have h2 := gh.2
                    have h3 : (e3.2.1.map nm).length = e3.2.1.length := List.length_map _
                    have h1 : (e3.2.1.map nm).length ≤ H.length := h1
                    omega
  · refine rp_leaf c hR (by omega) (fun w2 r1 r2 _ h5 r37 => ?_)
    obtain ⟨r37, r3⟩ := r37
    by_cases z4 : K lo = 4
    · -- a STRING
      obtain ⟨fr, s0, b, l, s1, s2, s3, s4, s5, s6, s7, s8, s9⟩ := (cv lo hl).2.2 z4
      have frc := hC.1
      unfold jm_Cm_pattern jb_Cm_pattern_0
      refine l_ck (fun hb => ?_)
      rw [i_nt2 hn, tre frc (by decide) (v := 4) (l16.trans (by rw [z4]; rfl))]
      rw [decide_eq_false (show ¬ (I 4 = (1 : Int32)) by decide), br_f, decide_eq_false (show ¬ (I 4 = (2 : Int32)) by decide), br_f, decide_eq_false (show ¬ (I 4 = (3 : Int32)) by decide), br_f, decide_eq_true (show (I 4 = (4 : Int32)) by decide), br_t]
      refine l_put hC.2.2.1.1 hC.2.2.1.2.2 (fun ha => ?_)
      have c1 := PCS_put (x := 2) hC ha
      have e18 : A m0 18 n = ((fr : Nat) : Int) := by
        rw [l18]
        show (m0.2.2.1 7 lo).toInt = _
        rw [s1]
        exact I_ti (by omega) (by omega)
      refine l_bnd (pk_mo (cs_p (N := N) c1 hn e18 s6 s7 s8 s9) (fun m2 _ q => ?_))
      obtain ⟨q1, q2, q3, q4, q5⟩ := q
      unfold jb_Cm_pattern_298
      refine pp_end ⟨pi, a + 1 + 1 + l, pi + 1, cm, e :: t, fun _ => 0, rfl, ⟨Nat.le_refl _, by omega, r37⟩, by omega, q1, r1, ⟨NMX_rf, by omega⟩, gap 0 z3, by rw [wg 0 z3, q3, ptc_r (by decide)], CFP_tr (CFP_put CFP_rf (Nat.le_refl _)) q2 (by omega), r2, fun C R J H gc gr gp gh => ?_⟩
      have g := gp pi (Nat.le_refl _) (by omega)
      rcases r3 with ⟨a1, -⟩ | ⟨a1, -⟩ | ⟨a1, a2, a3⟩
      · omega
      · omega
      · have wa : A m2 23 a = 2 := by
          show (m2.2.2.1 23 a).toInt = 2
          rw [q2.2.2.1 a (by omega), ptc_n]; rfl
        refine Or.inr (Or.inr (Or.inr (Or.inr (Or.inl ⟨g.1.trans a2, (gc a (Nat.le_refl _) (by omega)).trans wa, rfl, l, ⟨s0, b, ?_, by rw [gr 19 s0 (by omega)]; exact s4, by rw [gr 19 _ (by omega)]; exact s5, (gc (a + 1) (by omega) (by omega)).trans q4, fun k hk => ?_⟩, by omega⟩))))
        · rw [g.2.1, a3]
          show (w0.2.2.1 7 lo).toInt = _
          rw [s2]
          exact I_ti (by omega) (by omega)
        · rw [gr 18 _ (by omega), gc _ (by omega) (by omega)]
          exact q5 k hk
    · -- a number, an ATOM
      refine cp_lit hC hn l16 (by omega) (fun m2 q1 q2 q3 q4 => pp_end ?_)
      refine ⟨pi, a + 3, pi + 1, cm, e :: t, fun _ => 0, rfl, ⟨Nat.le_refl _, by omega, r37⟩, by omega, q1, r1, ⟨NMX_rf, by omega⟩, gap 0 z3, by rw [wg 0 z3, q3], q2, r2, fun C R J H gc gr gp gh => ?_⟩
      have g := gp pi (Nat.le_refl _) (by omega)
      have v7 : A m0 18 n = A w0 7 lo := by
        rw [l18]
        show (m0.2.2.1 7 lo).toInt = (w0.2.2.1 7 lo).toInt
        rw [(cv lo hl).2.1 (by omega)]
      have c0 := (gc a (Nat.le_refl _) (by omega)).trans q4.1
      have c1 := (gc (a + 1) (by omega) (by omega)).trans q4.2.1
      have c2 := (gc (a + 2) (by omega) (by omega)).trans (q4.2.2.trans v7)
      rcases r3 with ⟨a1, a2, a3⟩ | ⟨a1, a2, a3⟩ | ⟨a1, -⟩
      · refine Or.inr (Or.inr (Or.inr (Or.inl ⟨g.1.trans a2, c0, rfl, rfl, ?_, Or.inl (by rw [c1, a1]; rfl)⟩)))
        rw [g.2.2.2.2.1, a3, c1, c2, a1]; rfl
      · refine Or.inr (Or.inr (Or.inr (Or.inl ⟨g.1.trans a2, c0, rfl, rfl, ?_, Or.inr (Or.inl (by rw [c1, a1]; rfl))⟩)))
        rw [g.2.2.2.2.1, a3, c1, c2, a1]; rfl
      · exact absurd a1 z4
end
