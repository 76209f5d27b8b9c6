set_option maxRecDepth 100000
section
variable {T : Nat → Option (Nat × Nat × List Nat × Nat × Nat)} {Fv : Int64 → Int64 → Prop} {P : Int64 → Prop} {u v w w1 : MS} {PR N q r n B W Y i h m g x j wb nb cb rk c f i2 h2 m2 g2 x2 j2 wb2 nb2 cb2 rk2 k a U d b e : Nat} {L L2 : List Nat} {ow kd : Nat → Nat} {t rest : Int64} {gi gl ga ki kl ka kj : List Nat}
theorem GEN_f2 (G : GEN T Fv P PR q u) (f : FC q gi gl ga ki kl ka kj u w) (d : DWc Fv P PR w) (hgi : ∀ k, k ∈ [22, 442, 449] → k ∉ gi) (hga : ∀ k, k ∈ [3, 23, 25, 29, 30, 31, 32, 1948] → k ∉ ga) (ln : LNB w q) (hr : 0 ≤ F w 1106 ∧ F w 1106 ≤ F w 1107 ∧ F w 1107 ≤ 500) : GEN T Fv P PR q w := by
  obtain ⟨g1, g2, g3, g4, g5, g6, g7, g8⟩ := G
  have s : SCQ u w := SCQ_f f hgi (fun k hk => hga k (by simp at hk ⊢; omega))
  refine ⟨d, CTX_s s g2, WFT_s s g3, CDT_s s g4, fun r hr hrq hal => ?_, ALN_k g6 (f.2.2.1 1948 (by omega) (hga 1948 (by simp))) (fun r hr h1 => ?_), g7, hr⟩
  · exact PSQ_o (g5 r hr hrq (by rw [← f.Fo hrq (by omega)]; exact hal)) f hrq (hga 23 (by simp))
  · by_cases e : r = q
    · rw [e]; exact ln
    · exact LNB_o h1 f e
theorem MI_new (M : MIc T Fv P PR q u i h m L g x j wb nb cb rk) (f : FC q gi gl ga ki kl ka kj u w) (hgi : ∀ k, k ∈ [22, 442, 449, 942, 950, 953, 955, 956] → k ∉ gi) (hga : ∀ k, k ∈ [3, 23, 25, 29, 30, 31, 32, 53, 54, 1948] → k ∉ ga) (hs : SMQ w q) (h9 : F w (pq q 9) = 0) (p : PTQ w q n ow kd Fv P (nb2 + m2) (wb2 + h2) Y) (ln : LNB w q) (s2 : STc T w q j2 wb2 nb2 cb2 rk2 L2) (t2 : T i2 = some (h2, m2, L2, g2, x2)) (e : F w 1105 = ((i2 : Nat) : Int)) (gd : GDS T w g2 wb2) (xx : x2 ≠ 0 → x2 ≠ i2 → F w (pq q 8) < F w (pq q 7)) (hu : UNc w q x2) (hr : 0 ≤ F w 1106 ∧ F w 1106 ≤ F w 1107 ∧ F w 1107 ≤ 500) : MIc T Fv P PR q w i2 h2 m2 L2 g2 x2 j2 wb2 nb2 cb2 rk2 := by
  have d : DWc Fv P PR w := DWc_fc M.1.1 f M.1.2.2.2.2.2.2.1 (by rw [M.2.1]; decide) (by rw [h9]; decide) hs ⟨n, ow, kd, _, _, Y, p⟩ (fun k hk => hgi k (by simp at hk ⊢; omega)) (fun k hk => hga k (by simp at hk ⊢; omega))
  exact ⟨GEN_f2 M.1 f d (fun k hk => hgi k (by simp at hk ⊢; omega)) (fun k hk => hga k (by simp at hk ⊢; omega)) ln hr, h9, s2, ⟨t2, e⟩, ⟨p.2.2.1.1, p.2.1.1⟩, gd, xx, hu⟩
theorem FBc_r (h1 : w.2.2.1 (pq q 37) = u.2.2.1 (pq q 37)) : ∀ {j wb nb cb rk : Nat}, (∀ a, a < j → A w (pq q 30) (5 * a + 2) = A u (pq q 30) (5 * a + 2) ∧ A w (pq q 30) (5 * a + 3) = A u (pq q 30) (5 * a + 3) ∧ A w (pq q 30) (5 * a + 4) = A u (pq q 30) (5 * a + 4)) → FBc T u q j wb nb cb rk → FBc T w q j wb nb cb rk
  | 0, _, _, _, _, _, hh => hh
  | j + 1, wb, nb, cb, rk, h0, hh => by
    obtain ⟨e2, e3, e4⟩ := h0 j (by omega)
    obtain ⟨wb0, nb0, cb0, rk0, h, m, L, a, b1, b2, b3, b4, b5, b6, b7, b8, b9, b9b, b10⟩ := hh
    exact ⟨wb0, nb0, cb0, rk0, h, m, L, a, FBc_r h1 (fun a ha => h0 a (by omega)) b1, by rw [e2]; exact b2, by rw [e3]; exact b3, by rw [e4]; exact b4, b5, b6, b7, b8, b9, b9b, ENT_s h1 b10⟩
theorem STc_r (s : STc T u q j wb nb cb rk L) (h0 : ∀ a, a < 5 * j + 4 → a ≠ 5 * j → a ≠ 5 * j + 1 → A w (pq q 30) a = A u (pq q 30) a) (h1 : w.2.2.1 (pq q 37) = u.2.2.1 (pq q 37)) (h2 : w.1 (pq q 21) = u.1 (pq q 21)) (h3 : w.1 (pq q 28) = u.1 (pq q 28)) : STc T w q j wb nb cb rk L := by
  obtain ⟨a, ⟨b1, b2⟩, ⟨c1, c2⟩, d, f⟩ := s
  exact ⟨FBc_r h1 (fun a ha => ⟨h0 _ (by omega) (by omega) (by omega), h0 _ (by omega) (by omega) (by omega), h0 _ (by omega) (by omega) (by omega)⟩) a, ⟨by rw [show F w (pq q 21) = F u (pq q 21) from congrArg _ h2]; exact b1, b2⟩, ⟨by rw [h0 _ (by omega) (by omega) (by omega)]; exact c1, by rw [h0 _ (by omega) (by omega) (by omega)]; exact c2⟩, by rw [show F w (pq q 28) = F u (pq q 28) from congrArg _ h3]; exact d, ENT_s h1 f⟩
theorem set_e {y : Int} {z : Int32} (h21 : F u (pq q 21) = ((j + 1 : Nat) : Int)) (hj : j < 60) (hy : y = ((k : Nat) : Int)) (hk : k ≤ 4) : hm_Fr_set N u q (I y) z = some (upA u (pq q 30) (upd (u.2.2.1 (pq q 30)) (5 * j + k) z), ()) := by
  unfold hm_Fr_set hb_Fr_set_0 hb_Fr_set_23
  rw [hy, I_F (k := pq q 21), h21, lit0q, lit1q, I_sub, I_lit (n := 5), I_mul, I_add, decI (by omega) (by omega) (by decide) (by decide), decide_eq_false (by omega), br_fq]
  rw [show (((j + 1 : Nat) : Int) - 1) * (OfNat.ofNat 5 : Int) + ((k : Nat) : Int) = ((5 * j + k : Nat) : Int) by show _ * (5 : Int) + _ = _; omega, (I_inb (by omega) (by omega)).mpr ⟨by omega, by omega⟩, ck_t, tnI (n := 5 * j + k) rfl (by omega)]
  rfl
theorem of_e {y z : Int} (h21 : F u (pq q 21) = ((j + 1 : Nat) : Int)) (hj : j < 60) (hy : y = ((a : Nat) : Int)) (ha : a ≤ j) (hz : z = ((k : Nat) : Int)) (hk : k ≤ 4) : hm_Fr_of N u q (I y) (I z) = some (u, I (A u (pq q 30) (5 * a + k))) := by
  unfold hm_Fr_of hb_Fr_of_0 hb_Fr_of_26
  rw [hy, hz, I_F (k := pq q 21), h21, lit0q, decL (by omega) (by omega) (by decide) (by decide), decide_eq_false (by omega), br_fq, decL (by omega) (by omega) (by omega) (by omega), decide_eq_true (by omega), br_tq, I_lit (n := 5), I_mul, I_add]
  rw [show ((a : Nat) : Int) * (OfNat.ofNat 5 : Int) + ((k : Nat) : Int) = ((5 * a + k : Nat) : Int) by show _ * (5 : Int) + _ = _; omega, (I_inb (by omega) (by omega)).mpr ⟨by omega, by omega⟩, ck_t, tnI (n := 5 * a + k) rfl (by omega), I_A]
def FGc (q : Nat) (u w : MS) : Prop := FC q [1105, 1109, 1111, 1112, 1113, 1114] [1110] [] [4, 5, 24, 26, 42, 43, 45] [] [32] [2, 3, 33, 35, 6] u w
theorem FGc.rf : FGc q u u := FC.rf
theorem FGc.tr (a : FGc q u v) (b : FGc q v w) : FGc q u w := FC.tr a b
theorem FNc.toG (a : FNc q u w) : FGc q u w := FC.mo a (by simp) (by simp) (by simp) (by simp) (by simp) (by simp) (by simp)
theorem FGc.put (a : FGc q u w) {y : Int} (hk : k ∈ [1105, 1109, 1111, 1112, 1113, 1114]) : FGc q u (wi w k y) := FC.wi_g a (by simp at hk; omega) hk
theorem SMQ_g (a : FGc q u w) (s : SMQ u q) (h9 : F u (pq q 9) ≠ 3) : SMQ w q := SMQ_up s (a.Fq (by omega) (by simp)) (a.Fq (by omega) (by simp)) (by rw [a.Fq (by omega) (by simp)]; exact Int.le_refl _) h9
theorem MI_g (M : MIc T Fv P PR q u i h m L g x j wb nb cb rk) (f : FGc q u w) (p : PTQ w q n ow kd Fv P (nb + m2) (wb + h2) Y) (ln : LNB w q) (t2 : T i2 = some (h2, m2, L, g2, x)) (hx : x < i) (e : F w 1105 = ((i2 : Nat) : Int)) (gd : GDS T w g2 wb) : MIc T Fv P PR q w i2 h2 m2 L g2 x j wb nb cb rk ∧ PHc T w q i2 x rk = rk + potc T i2 x (F u (pq q 8)).toNat + (F u 1107 - F u 1106).toNat * 768001 := by
  refine ⟨MI_new M f (by simp) (by simp) (SMQ_g f (M.1.1.2 q M.1.2.2.2.2.2.2.1).1 (by rw [M.2.1]; decide)) (by rw [f.Fq (by omega) (by simp)]; exact M.2.1) p ln (STc_s M.2.2.1 (f.2.2.2.2.2.2.1 q 30 (by omega) (by simp)) (f.2.2.2.2.2.2.1 q 37 (by omega) (by simp)) (f.2.2.2.2.1 q 21 (by omega) (by simp)) (f.2.2.2.2.1 q 28 (by omega) (by simp))) t2 e gd (fun h1 _ => ?_) (UN_k M.2.2.2.2.2.2.2 (f.2.2.2.2.2.1 q 10 (by omega) (by simp)) (f.2.2.1 23 (by omega) (by simp))) ?_, ?_⟩
  · rw [f.Fq (by omega) (by simp), f.Fq (by omega) (by simp)]
    exact M.2.2.2.2.2.2.1 h1 (by omega)
  · rw [f.Fg (by omega) (by simp), f.Fg (by omega) (by simp)]; exact M.1.2.2.2.2.2.2.2
  · unfold PHc
    rw [f.Fq (by omega) (by simp), f.Fg (by omega) (by simp), f.Fg (by omega) (by simp)]
theorem NRM_g (M : MIc T Fv P PR q u i h m L g x j wb nb cb rk) (t8 : F u 1108 = 0) (hf : PHc T u q i x rk ≤ c) (f : FGc q u w) (p : PTQ w q n ow kd Fv P (nb + m2) (wb + h2) Y) (ln : LNB w q) (t2 : T i2 = some (h2, m2, L, g2, x)) (hx : x < i) (e : F w 1105 = ((i2 : Nat) : Int)) (gd : GDS T w g2 wb) (s9 : F w 1109 = 0) (hi : i < i2) : NRM T Fv P PR q c w := by
  obtain ⟨a, b⟩ := MI_g M f p ln t2 hx e gd
  refine ⟨⟨i2, h2, m2, L, g2, x, j, wb, nb, cb, rk, a, ?_⟩, s9, by rw [f.Fg (by omega) (by simp)]; exact t8⟩
  have := pot_x (t := (F u (pq q 8)).toNat) M.2.2.2.1.1 (MI_b M).1.2 hi
  unfold PHc at hf
  rw [b]; omega
theorem PT_g {y : Int} (hk : k < 2000) (p : PTQ u q n ow kd Fv P B W Y) : PTQ (wi u k y) q n ow kd Fv P B W Y := PTQ_same p (fun l _ => if_neg (by unfold pq; omega)) (fun _ _ => rfl)
theorem guardFailsc_ok (M : MIc T Fv P PR q u i h m L g x j wb nb cb rk) (hx : x < i) (t9 : F u 1109 = 0) (t8 : F u 1108 = 0) (hf : PHc T u q i x rk ≤ c) (hg : g ≠ 0) : OK (fun w _ => NRM T Fv P PR q c w) (hm_Ma_guardFails N u q) := by
  obtain ⟨n, ow, kd, Y, p⟩ := MI_p M
  have mb := MI_b M
  have ln := MI_ln M
  obtain ⟨-, -, -, gr, -, -⟩ := M.1.2.2.1 _ _ _ _ _ _ M.2.2.2.1.1
  obtain ⟨g1, hg1, nn, tt, g2, g3, g4, g5, g6, g7, g8⟩ := gr hg
  obtain ⟨d1, d2, hg2, m3, L3, x3, d3, d4⟩ := M.2.2.2.2.2.1.2 hg
  have e0 : hg2 = hg1 := by rw [g2] at d3; injection d3 with d3; injection d3 with d3 _; exact d3.symm
  subst e0
  have w8 := (M.1.2.2.1 _ _ _ _ _ _ g8).1
  unfold hm_Ma_guardFails hb_Ma_guardFails_0
  refine ok_lt.mpr ?_
  rw [I_F (k := 1114), d4, wi_e]
  obtain ⟨f1, p1⟩ := drop_t (k := h - hg2) p (by omega)
  rw [show wb + h - (h - hg2) = wb + hg2 by omega] at f1 p1
  generalize hw1 : wi u (pq q 26) ((wb + hg2 : Nat) : Int) = w1 at f1 p1 ⊢
  have ln1 : LNB w1 q := by rw [← hw1]; exact LNB_m ln (by simp) (by omega)
  rw [I_F (k := 1113), f1.Fg (by omega) (by simp), d2, g4, forgetc_e (k := nn) p1.2.1.1 rfl (by omega), bnd_so]
  obtain ⟨f2, p2⟩ := forget_t (k := nn) p1 (by omega)
  rw [show nb + m - nn = nb + (m - nn) by omega] at f2 p2 ⊢
  have f12 := FNc.tr f1 f2
  refine ok_lt.mpr (ok_lt.mpr (ok_some.mpr ?_))
  rw [I_F (k := 1112), f12.Fg (by omega) (by simp), d1, g6, wi_e, lit0q, wi_e]
  generalize hw2 : wi w1 (pq q 24) ((nb + (m - nn) : Nat) : Int) = w2 at f12 p2 ⊢
  have ln2 : LNB w2 q := by rw [← hw2]; exact LNB_m ln1 (by simp) (by omega)
  refine NRM_g M t8 hf (f12.toG.put (k := 1105) (by simp) |>.put (k := 1112) (by simp)) (PT_g (by omega) (PT_g (by omega) p2)) (LNB_g (LNB_g ln2 (by omega)) (by omega)) g8 hx ?_ ⟨fun _ => ?_, fun z => absurd rfl z⟩ ?_ g7
  · rw [F_wi (by decide) (by decide), if_neg (by decide), F_wi (by omega) (by omega), if_pos rfl]
  · rw [F_wi (by decide) (by decide), if_pos rfl]
  · rw [F_wi (by decide) (by decide), if_neg (by decide), F_wi (by omega) (by omega), if_neg (by decide), f12.Fg (by omega) (by simp)]; exact t9
theorem GDS_fn (gd : GDS T u g wb) (f : FNc q u w) : GDS T w g wb := GDS_s gd (fun k hk => f.1 k (by simp at hk; omega) (by simp)) (f.2.2.1 23 (by omega) (by simp))
theorem guardc_ok (M : MIc T Fv P PR q u i h m L 0 x j wb nb cb rk) (hx : x < i) (t9 : F u 1109 = 0) (t8 : F u 1108 = 0) (hf : PHc T u q i x rk ≤ c) (t2 : T (i + 3) = some (h, m, L, i, x)) {y : Int} (hy : y = A u 23 (i + 1)) : OK (fun w _ => OPQ T Fv P PR q c w) (lt (upI u 1113 (I y)) (fun w10 => bnd (hm_Co_at N w10 ((w10.1 1105) + 2)) (fun u13 r13 => lt (upI u13 1112 r13) (fun w15 => lt (upI w15 1114 (w15.1 (pq q 26))) (fun w19 => lt (upI w19 1105 ((w19.1 1105) + 3)) (fun w21 => some (w21, ()))))))) := by
  obtain ⟨n, ow, kd, Y, p⟩ := MI_p M
  have mb := MI_b M
  have ln := MI_ln M
  have w2b := (M.1.2.2.1 _ _ _ _ _ _ t2).1
  have at0 := M.2.2.2.1.2
  refine ok_lt.mpr ?_
  have ry := ARG1 u 23 (i + 1)
  rw [wi_e, I_F (k := 1105), F_wi (by rw [hy]; exact ry.1) (by rw [hy]; exact ry.2), if_neg (by decide), at0, I_lit (n := 2), I_add, Co_e (k := i + 2) (by show _ + (2 : Int) = _; omega) (by omega), bnd_so]
  refine ok_lt.mpr (ok_lt.mpr (ok_lt.mpr (ok_some.mpr ?_)))
  have r2 := ARG1 u 23 (i + 2)
  have eA : A (wi u 1113 y) 23 (i + 2) = A u 23 (i + 2) := rfl
  rw [eA, wi_e]
  have e26 : (wi (wi u 1113 y) 1112 (A u 23 (i + 2))).1 (pq q 26) = I ((wb + h : Nat) : Int) := by
    show (if pq q 26 = 1112 then _ else if pq q 26 = 1113 then _ else u.1 (pq q 26)) = _
    rw [if_neg (by unfold pq; omega), if_neg (by unfold pq; omega), I_F, M.2.2.2.2.1.1]
  rw [e26, wi_e]
  have e5 : F (wi (wi (wi u 1113 y) 1112 (A u 23 (i + 2))) 1114 ((wb + h : Nat) : Int)) 1105 = ((i : Nat) : Int) := by
    rw [F_wi (by omega) (by omega), if_neg (by decide), F_wi r2.1 r2.2, if_neg (by decide), F_wi (by rw [hy]; exact ry.1) (by rw [hy]; exact ry.2), if_neg (by decide)]; exact at0
  rw [I_lit (n := 3), at_e e5, show ((i : Nat) : Int) + (OfNat.ofNat 3 : Int) = ((i + 3 : Nat) : Int) by show _ + (3 : Int) = _; omega]
  have f : FGc q u (wi (wi (wi (wi u 1113 y) 1112 (A u 23 (i + 2))) 1114 ((wb + h : Nat) : Int)) 1105 ((i + 3 : Nat) : Int)) := ((((FGc.rf (q := q) (u := u)).put (k := 1113) (by simp)).put (k := 1112) (by simp)).put (k := 1114) (by simp)).put (k := 1105) (by simp)
  refine Or.inl (NRM_g M t8 hf f (PT_g (by omega) (PT_g (by omega) (PT_g (by omega) (PT_g (by omega) p)))) (LNB_g (LNB_g (LNB_g (LNB_g ln (by omega)) (by omega)) (by omega)) (by omega)) t2 hx ?_ ⟨fun z => by omega, fun _ => ⟨?_, ?_, h, m, L, x, M.2.2.2.1.1, ?_⟩⟩ ?_ (by omega))
  · rw [F_wi (by omega) (by omega), if_pos rfl]
  · rw [F_wi (by omega) (by omega), if_neg (by decide), F_wi (by omega) (by omega), if_neg (by decide), F_wi r2.1 r2.2, if_pos rfl]; rfl
  · rw [F_wi (by omega) (by omega), if_neg (by decide), F_wi (by omega) (by omega), if_neg (by decide), F_wi r2.1 r2.2, if_neg (by decide), F_wi (by rw [hy]; exact ry.1) (by rw [hy]; exact ry.2), if_pos rfl, hy]; rfl
  · rw [F_wi (by omega) (by omega), if_neg (by decide), F_wi (by omega) (by omega), if_pos rfl]
  · rw [F_wi (by omega) (by omega), if_neg (by decide), F_wi (by omega) (by omega), if_neg (by decide), F_wi r2.1 r2.2, if_neg (by decide), F_wi (by rw [hy]; exact ry.1) (by rw [hy]; exact ry.2), if_neg (by decide)]; exact t9
theorem holdsG_ok (M : MIc T Fv P PR q u i h m L g x j wb nb cb rk) (hx : x < i) (t9 : F u 1109 = 0) (t8 : F u 1108 = 0) (hf : PHc T u q i x rk ≤ c) (hg : g ≠ 0) (hh : 1 ≤ h) (t2 : T (i + 1) = some (h - 1, m, L, g, x)) : OK (fun w _ => OPQ T Fv P PR q c w) (bnd (hm_Fr_below N u q 0) (fun u23 r23 => bnd (hm_Ma_atom N u23 0) (fun u25 r25 => br (decide ((lg_cmp r23 r25) = 0)) (bnd (hm_Fr_drop N u25 q 1) (fun u27 _ => lt (upI u27 1105 ((u27.1 1105) + 1)) (fun w30 => some (w30, ())))) (bnd (hm_Ma_guardFails N u25 q) (fun u31 _ => some (u31, ())))))) := by
  obtain ⟨n, ow, kd, Y, p⟩ := MI_p M
  have mb := MI_b M
  obtain ⟨b0, g0⟩ := below_0 (N := N) M p (by omega)
  rw [b0, bnd_so, lit0q, atom_e, bnd_so]
  refine ok_br.mpr ⟨fun _ => ?_, fun _ => ok_bnd.mpr (ok_mono (guardFailsc_ok M hx t9 t8 hf hg) (fun w _ hw => ok_some.mpr (Or.inl hw)))⟩
  rw [lit1q, drop_e (x := 1) (k := 1) p.2.2.1.1 rfl (by omega), bnd_so]
  refine ok_lt.mpr (ok_some.mpr ?_)
  obtain ⟨f1, p1⟩ := drop_t (k := 1) p (by omega)
  rw [show wb + h - 1 = wb + (h - 1) by omega] at p1 f1 ⊢
  exact fin_t M t9 t8 hf hx f1 p1 (LNB_m (MI_ln M) (by simp) (by omega)) t2 (by omega) (by omega) (by omega)
theorem guarded_ok (M : MIc T Fv P PR q u i h m L g x j wb nb cb rk) (hx : x < i) (t9 : F u 1109 = 0) (t8 : F u 1108 = 0) (hf : PHc T u q i x rk ≤ c) (t2 : T (i + 1) = some (h, m, L, 0, x)) : OPQ T Fv P PR q c (upI (upI u 1112 0) 1105 (((upI u 1112 0).1 1105) + 1)) := by
  obtain ⟨n, ow, kd, Y, p⟩ := MI_p M
  have mb := MI_b M
  have ln := MI_ln M
  have w2b := (M.1.2.2.1 _ _ _ _ _ _ t2).1
  rw [lit0q, wi_e, lit1q, at_e (i := i) (by rw [F_wi (by decide) (by decide), if_neg (by decide)]; exact M.2.2.2.1.2)]
  refine Or.inl (NRM_g (i2 := i + 1) M t8 hf (((FGc.rf (q := q) (u := u)).put (k := 1112) (by simp)).put (k := 1105) (by simp)) (PT_g (by omega) (PT_g (by omega) p)) (LNB_g (LNB_g ln (by omega)) (by omega)) t2 hx ?_ ⟨fun _ => ?_, fun z => absurd rfl z⟩ ?_ (by omega))
  · rw [F_wi (by omega) (by omega), if_pos rfl]; omega
  · rw [F_wi (by omega) (by omega), if_neg (by decide), F_wi (by decide) (by decide), if_pos rfl]
  · rw [F_wi (by omega) (by omega), if_neg (by decide), F_wi (by decide) (by decide), if_neg (by decide)]; exact t9
theorem chosenc_ok {s : Nat} (M : MIc T Fv P PR q u i h m L g x j wb nb cb rk) (hx : x < i) (t9 : F u 1109 = 0) (t8 : F u 1108 = 0) (hf : PHc T u q i x rk ≤ c) (hs : s ≤ h) (t2 : T (i + 3) = some (h - s, m, L, g, x)) : OK (fun w _ => OPQ T Fv P PR q c w) (bnd (hm_Fr_drop N u q (I ((s : Nat) : Int))) (fun u36 _ => bnd (hm_Co_at N u36 ((u36.1 1105) + 2)) (fun u41 r41 => bnd (hm_Fr_setLine N u41 q r41) (fun u43 _ => lt (upI u43 1105 ((u43.1 1105) + 3)) (fun w46 => some (w46, ())))))) := by
  obtain ⟨n, ow, kd, Y, p⟩ := MI_p M
  have mb := MI_b M
  have ln := MI_ln M
  have w2b := (M.1.2.2.1 _ _ _ _ _ _ t2).1
  have st := M.2.2.1
  rw [drop_e (k := s) p.2.2.1.1 rfl (by omega), bnd_so]
  obtain ⟨f1, p1⟩ := drop_t (k := s) p (by omega)
  have ln1 : LNB (wi u (pq q 26) ((wb + h - s : Nat) : Int)) q := LNB_m ln (by simp) (by omega)
  have fc1 : FC q [1105] [] [] [26] [] [30] [] u (wi u (pq q 26) ((wb + h - s : Nat) : Int)) := FC.wi_q FC.rf (by omega) (by simp)
  rw [show wb + h - s = wb + (h - s) by omega] at p1 f1 fc1 ln1 ⊢
  have a30 : (wi u (pq q 26) ((wb + (h - s) : Nat) : Int)).2.2.1 = u.2.2.1 := rfl
  generalize wi u (pq q 26) ((wb + (h - s) : Nat) : Int) = w1 at f1 p1 fc1 ln1 a30 ⊢
  obtain ⟨r, hr⟩ := Co_any (N := N) (u := w1) ((w1.1 1105) + 2)
  rw [hr, bnd_so]
  unfold hm_Fr_setLine hb_Fr_setLine_0
  rw [lit1q, set_e (y := 1) (j := j) (k := 1) (by rw [fc1.Fq (by omega) (by simp)]; exact st.2.1.1) st.2.1.2 rfl (by omega), bnd_so, bnd_so]
  refine ok_lt.mpr (ok_some.mpr ?_)
  have fc2 : FC q [1105] [] [] [26] [] [30] [] u (upA w1 (pq q 30) (upd (w1.2.2.1 (pq q 30)) (5 * j + 1) r)) := FC.A_q fc1 (by omega) (by simp)
  have p2 : PTQ (upA w1 (pq q 30) (upd (w1.2.2.1 (pq q 30)) (5 * j + 1) r)) q n ow kd Fv P (nb + m) (wb + (h - s)) Y := PTQ_same p1 (fun _ _ => rfl) (fun _ _ => rfl)
  have ln2 : LNB (upA w1 (pq q 30) (upd (w1.2.2.1 (pq q 30)) (5 * j + 1) r)) q := LNB_fc ln1 (fun _ _ => rfl)
  have r30 : ∀ a, a ≠ 5 * j + 1 → A (upA w1 (pq q 30) (upd (w1.2.2.1 (pq q 30)) (5 * j + 1) r)) (pq q 30) a = A u (pq q 30) a := fun a ha => by
    show ((if pq q 30 = pq q 30 then upd (w1.2.2.1 (pq q 30)) (5 * j + 1) r else w1.2.2.1 (pq q 30)) a).toInt = _
    rw [if_pos rfl]; unfold upd; rw [if_neg ha, a30]; rfl
  have r37 : (upA w1 (pq q 30) (upd (w1.2.2.1 (pq q 30)) (5 * j + 1) r)).2.2.1 (pq q 37) = u.2.2.1 (pq q 37) := by
    show (if pq q 37 = pq q 30 then _ else w1.2.2.1 (pq q 37)) = _
    rw [if_neg (pq_inj (by decide)), a30]
  have i2w : (upA w1 (pq q 30) (upd (w1.2.2.1 (pq q 30)) (5 * j + 1) r)).1 = w1.1 := rfl
  generalize upA w1 (pq q 30) (upd (w1.2.2.1 (pq q 30)) (5 * j + 1) r) = w2 at fc2 p2 ln2 r30 r37 i2w ⊢
  have e5 : F w2 1105 = ((i : Nat) : Int) := by rw [show F w2 1105 = F w1 1105 from congrArg (fun y => (y 1105).toInt) i2w, f1.Fg (by omega) (by simp)]; exact M.2.2.2.1.2
  rw [I_lit (n := 3), at_e e5, show ((i : Nat) : Int) + (OfNat.ofNat 3 : Int) = ((i + 3 : Nat) : Int) by show _ + (3 : Int) = _; omega]
  have fc3 : FC q [1105] [] [] [26] [] [30] [] u (wi w2 1105 ((i + 3 : Nat) : Int)) := FC.wi_g fc2 (by omega) (by simp)
  have h9 : F (wi w2 1105 ((i + 3 : Nat) : Int)) (pq q 9) = 0 := by rw [fc3.Fq (by omega) (by simp)]; exact M.2.1
  have M3 : MIc T Fv P PR q (wi w2 1105 ((i + 3 : Nat) : Int)) (i + 3) (h - s) m L g x j wb nb cb rk := MI_new M fc3 (by simp) (by simp) (SMQ_up (M.1.1.2 q M.1.2.2.2.2.2.2.1).1 (fc3.Fq (by omega) (by simp)) (fc3.Fq (by omega) (by simp)) (by rw [fc3.Fq (by omega) (by simp)]; exact Int.le_refl _) (by rw [M.2.1]; decide)) h9 (PT_g (by omega) p2) (LNB_g ln2 (by omega)) (STc_r st (fun a _ _ ha => r30 a ha) r37 (fc3.2.2.2.2.1 q 21 (by omega) (by simp)) (fc3.2.2.2.2.1 q 28 (by omega) (by simp))) t2 (by rw [F_wi (by omega) (by omega), if_pos rfl]) (GDS_s M.2.2.2.2.2.1 (fun k hk => fc3.1 k (by simp at hk; omega) (by simp at hk ⊢; omega)) (fc3.2.2.1 23 (by omega) (by simp))) (fun h1 _ => by rw [fc3.Fq (by omega) (by simp), fc3.Fq (by omega) (by simp)]; exact M.2.2.2.2.2.2.1 h1 (by omega)) (UN_k M.2.2.2.2.2.2.2 (fc3.2.2.2.2.2.1 q 10 (by omega) (by simp)) (fc3.2.2.1 23 (by omega) (by simp))) (by rw [fc3.Fg (by omega) (by simp), fc3.Fg (by omega) (by simp)]; exact M.1.2.2.2.2.2.2.2)
  refine Or.inl ⟨⟨i + 3, h - s, m, L, g, x, j, wb, nb, cb, rk, M3, ?_⟩, by rw [fc3.Fg (by omega) (by simp)]; exact t9, by rw [fc3.Fg (by omega) (by simp)]; exact t8⟩
  have := pot_x (j := i + 3) (t := (F u (pq q 8)).toNat) M.2.2.2.1.1 mb.1.2 (by omega)
  unfold PHc at hf ⊢
  rw [fc3.Fq (by omega) (by simp), fc3.Fg (by omega) (by simp), fc3.Fg (by omega) (by simp)]; omega
end
