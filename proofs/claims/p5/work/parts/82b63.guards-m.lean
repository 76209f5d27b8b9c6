section
set_option maxRecDepth 100000
section
variable {T : Nat → Option (Nat × Nat × List Nat × Nat × Nat)} {Fv : Int64 → Int64 → Prop} {P : Int64 → Prop} {u v w w1 : MS} {PR N q r n B W Y i h m g x j wb nb cb rk c f i2 h2 m2 g2 x2 j2 wb2 nb2 cb2 rk2 k a U d b e : Nat} {L L2 : List Nat} {ow kd : Nat → Nat} {t rest : Int64} {gi gl ga ki kl ka kj : List Nat}
theorem GEN_f2 (G : GEN T Fv P PR q u) (f : FC q gi gl ga ki kl ka kj u w) (d : DWc Fv P PR w) (hgi : ∀ k, k ∈ [22, 442, 449] → k ∉ gi) (hga : ∀ k, k ∈ [3, 23, 25, 29, 30, 31, 32, 1948] → k ∉ ga) (ln : LNB w q) (hr : 0 ≤ F w 1106 ∧ F w 1106 ≤ F w 1107 ∧ F w 1107 ≤ 500) : GEN T Fv P PR q w := by
  obtain ⟨g1, g2, g3, g4, g5, g6, g7, g8⟩ := G
  have s : SCQ u w := SCQ_f f hgi (fun k hk => hga k (by simp at hk ⊢; omega))
  refine ⟨d, CTX_s s g2, WFT_s s g3, CDT_s s g4, fun r hr hrq hal => ?_, ALN_k g6 (f.2.2.1 1948 (by omega) (hga 1948 (by simp))) (fun r hr h1 => ?_), g7, hr⟩
  · exact PSQ_o (g5 r hr hrq (by rw [← f.Fo hrq (by omega)]; exact hal)) f hrq (hga 23 (by simp))
  · by_cases e : r = q
    · rw [e]; exact ln
    · exact LNB_o h1 f e
theorem MI_new (M : MIc T Fv P PR q u i h m L g x j wb nb cb rk) (f : FC q gi gl ga ki kl ka kj u w) (hgi : ∀ k, k ∈ [22, 442, 449, 942, 950, 953, 955, 956] → k ∉ gi) (hga : ∀ k, k ∈ [3, 23, 25, 29, 30, 31, 32, 53, 54, 1948] → k ∉ ga) (hs : SMQ w q) (h9 : F w (pq q 9) = 0) (p : PTQ w q n ow kd Fv P (nb2 + m2) (wb2 + h2) Y) (ln : LNB w q) (s2 : STc T w q j2 wb2 nb2 cb2 rk2 L2) (t2 : T i2 = some (h2, m2, L2, g2, x2)) (e : F w 1105 = ((i2 : Nat) : Int)) (gd : GDS T w g2 wb2) (xx : x2 ≠ 0 → x2 ≠ i2 → F w (pq q 8) < F w (pq q 7)) (hu : UNc w q x2) (hr : 0 ≤ F w 1106 ∧ F w 1106 ≤ F w 1107 ∧ F w 1107 ≤ 500) : MIc T Fv P PR q w i2 h2 m2 L2 g2 x2 j2 wb2 nb2 cb2 rk2 := by
  have d : DWc Fv P PR w := DWc_fc M.1.1 f M.1.2.2.2.2.2.2.1 (by rw [M.2.1]; decide) (by rw [h9]; decide) hs ⟨n, ow, kd, _, _, Y, p⟩ (fun k hk => hgi k (by simp at hk ⊢; omega)) (fun k hk => hga k (by simp at hk ⊢; omega))
  exact ⟨GEN_f2 M.1 f d (fun k hk => hgi k (by simp at hk ⊢; omega)) (fun k hk => hga k (by simp at hk ⊢; omega)) ln hr, h9, s2, ⟨t2, e⟩, ⟨p.2.2.1.1, p.2.1.1⟩, gd, xx, hu⟩
theorem FBc_r (h1 : w.2.2.1 (pq q 37) = u.2.2.1 (pq q 37)) : ∀ {j wb nb cb rk : Nat}, (∀ a, a < j → A w (pq q 30) (5 * a + 2) = A u (pq q 30) (5 * a + 2) ∧ A w (pq q 30) (5 * a + 3) = A u (pq q 30) (5 * a + 3) ∧ A w (pq q 30) (5 * a + 4) = A u (pq q 30) (5 * a + 4)) → FBc T u q j wb nb cb rk → FBc T w q j wb nb cb rk
  | 0, _, _, _, _, _, hh => hh
  | j + 1, wb, nb, cb, rk, h0, hh => by
    obtain ⟨e2, e3, e4⟩ := h0 j (by omega)
    obtain ⟨wb0, nb0, cb0, rk0, h, m, L, a, b1, b2, b3, b4, b5, b6, b7, b8, b9, b9b, b10⟩ := hh
    exact ⟨wb0, nb0, cb0, rk0, h, m, L, a, FBc_r h1 (fun a ha => h0 a (by omega)) b1, by rw [e2]; exact b2, by rw [e3]; exact b3, by rw [e4]; exact b4, b5, b6, b7, b8, b9, b9b, ENT_s h1 b10⟩
theorem STc_r (s : STc T u q j wb nb cb rk L) (h0 : ∀ a, a < 5 * j + 4 → a ≠ 5 * j → a ≠ 5 * j + 1 → A w (pq q 30) a = A u (pq q 30) a) (h1 : w.2.2.1 (pq q 37) = u.2.2.1 (pq q 37)) (h2 : w.1 (pq q 21) = u.1 (pq q 21)) (h3 : w.1 (pq q 28) = u.1 (pq q 28)) : STc T w q j wb nb cb rk L := by
  obtain ⟨a, ⟨b1, b2⟩, ⟨c1, c2⟩, d, f⟩ := s
  exact ⟨FBc_r h1 (fun a ha => ⟨h0 _ (by omega) (by omega) (by omega), h0 _ (by omega) (by omega) (by omega), h0 _ (by omega) (by omega) (by omega)⟩) a, ⟨by rw [show F w (pq q 21) = F u (pq q 21) from congrArg _ h2]; exact b1, b2⟩, ⟨by rw [h0 _ (by omega) (by omega) (by omega)]; exact c1, by rw [h0 _ (by omega) (by omega) (by omega)]; exact c2⟩, by rw [show F w (pq q 28) = F u (pq q 28) from congrArg _ h3]; exact d, ENT_s h1 f⟩
theorem set_e {y : Int} {z : Int32} (h21 : F u (pq q 21) = ((j + 1 : Nat) : Int)) (hj : j < 60) (hy : y = ((k : Nat) : Int)) (hk : k ≤ 4) : hm_Fr_set N u q (I y) z = some (upA u (pq q 30) (upd (u.2.2.1 (pq q 30)) (5 * j + k) z), ()) := by
  unfold hm_Fr_set hb_Fr_set_0 hb_Fr_set_23
  rw [hy, I_F (k := pq q 21), h21, lit0q, lit1q, I_sub, I_lit (n := 5), I_mul, I_add, decI (by omega) (by omega) (by decide) (by decide), decide_eq_false (by omega), br_fq]
  rw [show (((j + 1 : Nat) : Int) - 1) * (OfNat.ofNat 5 : Int) + ((k : Nat) : Int) = ((5 * j + k : Nat) : Int) by show _ * (5 : Int) + _ = _; omega, (I_inb (by omega) (by omega)).mpr ⟨by omega, by omega⟩, ck_t, tnI (n := 5 * j + k) rfl (by omega)]
  rfl
theorem of_e {y z : Int} (h21 : F u (pq q 21) = ((j + 1 : Nat) : Int)) (hj : j < 60) (hy : y = ((a : Nat) : Int)) (ha : a ≤ j) (hz : z = ((k : Nat) : Int)) (hk : k ≤ 4) : hm_Fr_of N u q (I y) (I z) = some (u, I (A u (pq q 30) (5 * a + k))) := by
  unfold hm_Fr_of hb_Fr_of_0 hb_Fr_of_26
  rw [hy, hz, I_F (k := pq q 21), h21, lit0q, decL (by omega) (by omega) (by decide) (by decide), decide_eq_false (by omega), br_fq, decL (by omega) (by omega) (by omega) (by omega), decide_eq_true (by omega), br_tq, I_lit (n := 5), I_mul, I_add]
  rw [show ((a : Nat) : Int) * (OfNat.ofNat 5 : Int) + ((k : Nat) : Int) = ((5 * a + k : Nat) : Int) by show _ * (5 : Int) + _ = _; omega, (I_inb (by omega) (by omega)).mpr ⟨by omega, by omega⟩, ck_t, tnI (n := 5 * a + k) rfl (by omega), I_A]
def FGc (q : Nat) (u w : MS) : Prop := FC q [1105, 1109, 1111, 1112, 1113, 1114] [1110] [] [4, 5, 24, 26, 42, 43, 45] [] [32] [2, 3, 33, 35, 6] u w
theorem FGc.rf : FGc q u u := FC.rf
theorem FGc.tr (a : FGc q u v) (b : FGc q v w) : FGc q u w := FC.tr a b
theorem FNc.toG (a : FNc q u w) : FGc q u w := FC.mo a (by simp) (by simp) (by simp) (by simp) (by simp) (by simp) (by simp)
theorem FGc.put (a : FGc q u w) {y : Int} (hk : k ∈ [1105, 1109, 1111, 1112, 1113, 1114]) : FGc q u (wi w k y) := FC.wi_g a (by simp at hk; omega) hk
theorem SMQ_g (a : FGc q u w) (s : SMQ u q) (h9 : F u (pq q 9) ≠ 3) : SMQ w q := SMQ_up s (a.Fq (by omega) (by simp)) (a.Fq (by omega) (by simp)) (by rw [a.Fq (by omega) (by simp)]; exact Int.le_refl _) h9
theorem MI_g (M : MIc T Fv P PR q u i h m L g x j wb nb cb rk) (f : FGc q u w) (p : PTQ w q n ow kd Fv P (nb + m2) (wb + h2) Y) (ln : LNB w q) (t2 : T i2 = some (h2, m2, L, g2, x)) (hx : x < i) (e : F w 1105 = ((i2 : Nat) : Int)) (gd : GDS T w g2 wb) : MIc T Fv P PR q w i2 h2 m2 L g2 x j wb nb cb rk ∧ PHc T w q i2 x rk = rk + potc T i2 x (F u (pq q 8)).toNat + (F u 1107 - F u 1106).toNat * 768001 := by
  refine ⟨MI_new M f (by simp) (by simp) (SMQ_g f (M.1.1.2 q M.1.2.2.2.2.2.2.1).1 (by rw [M.2.1]; decide)) (by rw [f.Fq (by omega) (by simp)]; exact M.2.1) p ln (STc_s M.2.2.1 (f.2.2.2.2.2.2.1 q 30 (by omega) (by simp)) (f.2.2.2.2.2.2.1 q 37 (by omega) (by simp)) (f.2.2.2.2.1 q 21 (by omega) (by simp)) (f.2.2.2.2.1 q 28 (by omega) (by simp))) t2 e gd (fun h1 _ => ?_) (UN_k M.2.2.2.2.2.2.2 (f.2.2.2.2.2.1 q 10 (by omega) (by simp)) (f.2.2.1 23 (by omega) (by simp))) ?_, ?_⟩
  · rw [f.Fq (by omega) (by simp), f.Fq (by omega) (by simp)]
    exact M.2.2.2.2.2.2.1 h1 (by omega)
  · rw [f.Fg (by omega) (by simp), f.Fg (by omega) (by simp)]; exact M.1.2.2.2.2.2.2.2
  · unfold PHc
    rw [f.Fq (by omega) (by simp), f.Fg (by omega) (by simp), f.Fg (by omega) (by simp)]
theorem NRM_g (M : MIc T Fv P PR q u i h m L g x j wb nb cb rk) (t8 : F u 1108 = 0) (hf : PHc T u q i x rk ≤ c) (f : FGc q u w) (p : PTQ w q n ow kd Fv P (nb + m2) (wb + h2) Y) (ln : LNB w q) (t2 : T i2 = some (h2, m2, L, g2, x)) (hx : x < i) (e : F w 1105 = ((i2 : Nat) : Int)) (gd : GDS T w g2 wb) (s9 : F w 1109 = 0) (hi : i < i2) : NRM T Fv P PR q c w := by
  obtain ⟨a, b⟩ := MI_g M f p ln t2 hx e gd
  refine ⟨⟨i2, h2, m2, L, g2, x, j, wb, nb, cb, rk, a, ?_⟩, s9, by rw [f.Fg (by omega) (by simp)]; exact t8⟩
  have := pot_x (t := (F u (pq q 8)).toNat) M.2.2.2.1.1 (MI_b M).1.2 hi
  unfold PHc at hf
  rw [b]; omega
theorem PT_g {y : Int} (hk : k < 2000) (p : PTQ u q n ow kd Fv P B W Y) : PTQ (wi u k y) q n ow kd Fv P B W Y := PTQ_same p (fun l _ => if_neg (by unfold pq; omega)) (fun _ _ => rfl)
theorem guardFailsc_ok (M : MIc T Fv P PR q u i h m L g x j wb nb cb rk) (hx : x < i) (t9 : F u 1109 = 0) (t8 : F u 1108 = 0) (hf : PHc T u q i x rk ≤ c) (hg : g ≠ 0) : OK (fun w _ => NRM T Fv P PR q c w) (hm_Ma_guardFails N u q) := by
  obtain ⟨n, ow, kd, Y, p⟩ := MI_p M
  have mb := MI_b M
  have ln := MI_ln M
  obtain ⟨-, -, -, gr, -, -⟩ := M.1.2.2.1 _ _ _ _ _ _ M.2.2.2.1.1
  obtain ⟨g1, hg1, nn, tt, g2, g3, g4, g5, g6, g7, g8⟩ := gr hg
  obtain ⟨d1, d2, hg2, m3, L3, x3, d3, d4⟩ := M.2.2.2.2.2.1.2 hg
  have e0 : hg2 = hg1 := by rw [g2] at d3; injection d3 with d3; injection d3 with d3 _; exact d3.symm
  subst e0
  have w8 := (M.1.2.2.1 _ _ _ _ _ _ g8).1
  unfold hm_Ma_guardFails hb_Ma_guardFails_0
  refine ok_lt.mpr ?_
  rw [I_F (k := 1114), d4, wi_e]
  obtain ⟨f1, p1⟩ := drop_t (k := h - hg2) p (by omega)
  rw [show wb + h - (h - hg2) = wb + hg2 by omega] at f1 p1
  generalize hw1 : wi u (pq q 26) ((wb + hg2 : Nat) : Int) = w1 at f1 p1 ⊢
  have ln1 : LNB w1 q := by rw [← hw1]; exact LNB_m ln (by simp) (by omega)
  rw [I_F (k := 1113), f1.Fg (by omega) (by simp), d2, g4, forgetc_e (k := nn) p1.2.1.1 rfl (by omega), bnd_so]
  obtain ⟨f2, p2⟩ := forget_t (k := nn) p1 (by omega)
  rw [show nb + m - nn = nb + (m - nn) by omega] at f2 p2 ⊢
  have f12 := FNc.tr f1 f2
  refine ok_lt.mpr (ok_lt.mpr (ok_some.mpr ?_))
  rw [I_F (k := 1112), f12.Fg (by omega) (by simp), d1, g6, wi_e, lit0q, wi_e]
  generalize hw2 : wi w1 (pq q 24) ((nb + (m - nn) : Nat) : Int) = w2 at f12 p2 ⊢
  have ln2 : LNB w2 q := by rw [← hw2]; exact LNB_m ln1 (by simp) (by omega)
  refine NRM_g M t8 hf (f12.toG.put (k := 1105) (by simp) |>.put (k := 1112) (by simp)) (PT_g (by omega) (PT_g (by omega) p2)) (LNB_g (LNB_g ln2 (by omega)) (by omega)) g8 hx ?_ ⟨fun _ => ?_, fun z => absurd rfl z⟩ ?_ g7
  · rw [F_wi (by decide) (by decide), if_neg (by decide), F_wi (by omega) (by omega), if_pos rfl]
  · rw [F_wi (by decide) (by decide), if_pos rfl]
  · rw [F_wi (by decide) (by decide), if_neg (by decide), F_wi (by omega) (by omega), if_neg (by decide), f12.Fg (by omega) (by simp)]; exact t9
theorem GDS_fn (gd : GDS T u g wb) (f : FNc q u w) : GDS T w g wb := GDS_s gd (fun k hk => f.1 k (by simp at hk; omega) (by simp)) (f.2.2.1 23 (by omega) (by simp))
theorem guardc_ok (M : MIc T Fv P PR q u i h m L 0 x j wb nb cb rk) (hx : x < i) (t9 : F u 1109 = 0) (t8 : F u 1108 = 0) (hf : PHc T u q i x rk ≤ c) (t2 : T (i + 3) = some (h, m, L, i, x)) {y : Int} (hy : y = A u 23 (i + 1)) : OK (fun w _ => OPQ T Fv P PR q c w) (lt (upI u 1113 (I y)) (fun w10 => bnd (hm_Co_at N w10 ((w10.1 1105) + 2)) (fun u13 r13 => lt (upI u13 1112 r13) (fun w15 => lt (upI w15 1114 (w15.1 (pq q 26))) (fun w19 => lt (upI w19 1105 ((w19.1 1105) + 3)) (fun w21 => some (w21, ()))))))) := by
  obtain ⟨n, ow, kd, Y, p⟩ := MI_p M
  have mb := MI_b M
  have ln := MI_ln M
  have w2b := (M.1.2.2.1 _ _ _ _ _ _ t2).1
  have at0 := M.2.2.2.1.2
  refine ok_lt.mpr ?_
  have ry := ARG1 u 23 (i + 1)
  rw [wi_e, I_F (k := 1105), F_wi (by rw [hy]; exact ry.1) (by rw [hy]; exact ry.2), if_neg (by decide), at0, I_lit (n := 2), I_add, Co_e (k := i + 2) (by show _ + (2 : Int) = _; omega) (by omega), bnd_so]
  refine ok_lt.mpr (ok_lt.mpr (ok_lt.mpr (ok_some.mpr ?_)))
  have r2 := ARG1 u 23 (i + 2)
  have eA : A (wi u 1113 y) 23 (i + 2) = A u 23 (i + 2) := rfl
  rw [eA, wi_e]
  have e26 : (wi (wi u 1113 y) 1112 (A u 23 (i + 2))).1 (pq q 26) = I ((wb + h : Nat) : Int) := by
    show (if pq q 26 = 1112 then _ else if pq q 26 = 1113 then _ else u.1 (pq q 26)) = _
    rw [if_neg (by unfold pq; omega), if_neg (by unfold pq; omega), I_F, M.2.2.2.2.1.1]
  rw [e26, wi_e]
  have e5 : F (wi (wi (wi u 1113 y) 1112 (A u 23 (i + 2))) 1114 ((wb + h : Nat) : Int)) 1105 = ((i : Nat) : Int) := by
    rw [F_wi (by omega) (by omega), if_neg (by decide), F_wi r2.1 r2.2, if_neg (by decide), F_wi (by rw [hy]; exact ry.1) (by rw [hy]; exact ry.2), if_neg (by decide)]; exact at0
  rw [I_lit (n := 3), at_e e5, show ((i : Nat) : Int) + (OfNat.ofNat 3 : Int) = ((i + 3 : Nat) : Int) by show _ + (3 : Int) = _; omega]
  have f : FGc q u (wi (wi (wi (wi u 1113 y) 1112 (A u 23 (i + 2))) 1114 ((wb + h : Nat) : Int)) 1105 ((i + 3 : Nat) : Int)) := ((((FGc.rf (q := q) (u := u)).put (k := 1113) (by simp)).put (k := 1112) (by simp)).put (k := 1114) (by simp)).put (k := 1105) (by simp)
  refine Or.inl (NRM_g M t8 hf f (PT_g (by omega) (PT_g (by omega) (PT_g (by omega) (PT_g (by omega) p)))) (LNB_g (LNB_g (LNB_g (LNB_g ln (by omega)) (by omega)) (by omega)) (by omega)) t2 hx ?_ ⟨fun z => by omega, fun _ => ⟨?_, ?_, h, m, L, x, M.2.2.2.1.1, ?_⟩⟩ ?_ (by omega))
  · rw [F_wi (by omega) (by omega), if_pos rfl]
  · rw [F_wi (by omega) (by omega), if_neg (by decide), F_wi (by omega) (by omega), if_neg (by decide), F_wi r2.1 r2.2, if_pos rfl]; rfl
  · rw [F_wi (by omega) (by omega), if_neg (by decide), F_wi (by omega) (by omega), if_neg (by decide), F_wi r2.1 r2.2, if_neg (by decide), F_wi (by rw [hy]; exact ry.1) (by rw [hy]; exact ry.2), if_pos rfl, hy]; rfl
  · rw [F_wi (by omega) (by omega), if_neg (by decide), F_wi (by omega) (by omega), if_pos rfl]
  · rw [F_wi (by omega) (by omega), if_neg (by decide), F_wi (by omega) (by omega), if_neg (by decide), F_wi r2.1 r2.2, if_neg (by decide), F_wi (by rw [hy]; exact ry.1) (by rw [hy]; exact ry.2), if_neg (by decide)]; exact t9
theorem holdsG_ok (M : MIc T Fv P PR q u i h m L g x j wb nb cb rk) (hx : x < i) (t9 : F u 1109 = 0) (t8 : F u 1108 = 0) (hf : PHc T u q i x rk ≤ c) (hg : g ≠ 0) (hh : 1 ≤ h) (t2 : T (i + 1) = some (h - 1, m, L, g, x)) : OK (fun w _ => OPQ T Fv P PR q c w) (bnd (hm_Fr_below N u q 0) (fun u23 r23 => bnd (hm_Ma_atom N u23 0) (fun u25 r25 => br (decide ((lg_cmp r23 r25) = 0)) (bnd (hm_Fr_drop N u25 q 1) (fun u27 _ => lt (upI u27 1105 ((u27.1 1105) + 1)) (fun w30 => some (w30, ())))) (bnd (hm_Ma_guardFails N u25 q) (fun u31 _ => some (u31, ())))))) := by
  obtain ⟨n, ow, kd, Y, p⟩ := MI_p M
  have mb := MI_b M
  obtain ⟨b0, g0⟩ := below_0 (N := N) M p (by omega)
  rw [b0, bnd_so, lit0q, atom_e, bnd_so]
  refine ok_br.mpr ⟨fun _ => ?_, fun _ => ok_bnd.mpr (ok_mono (guardFailsc_ok M hx t9 t8 hf hg) (fun w _ hw => ok_some.mpr (Or.inl hw)))⟩
  rw [lit1q, drop_e (x := 1) (k := 1) p.2.2.1.1 rfl (by omega), bnd_so]
  refine ok_lt.mpr (ok_some.mpr ?_)
  obtain ⟨f1, p1⟩ := drop_t (k := 1) p (by omega)
  rw [show wb + h - 1 = wb + (h - 1) by omega] at p1 f1 ⊢
  exact fin_t M t9 t8 hf hx f1 p1 (LNB_m (MI_ln M) (by simp) (by omega)) t2 (by omega) (by omega) (by omega)
theorem guarded_ok (M : MIc T Fv P PR q u i h m L g x j wb nb cb rk) (hx : x < i) (t9 : F u 1109 = 0) (t8 : F u 1108 = 0) (hf : PHc T u q i x rk ≤ c) (t2 : T (i + 1) = some (h, m, L, 0, x)) : OPQ T Fv P PR q c (upI (upI u 1112 0) 1105 (((upI u 1112 0).1 1105) + 1)) := by
  obtain ⟨n, ow, kd, Y, p⟩ := MI_p M
  have mb := MI_b M
  have ln := MI_ln M
  have w2b := (M.1.2.2.1 _ _ _ _ _ _ t2).1
  rw [lit0q, wi_e, lit1q, at_e (i := i) (by rw [F_wi (by decide) (by decide), if_neg (by decide)]; exact M.2.2.2.1.2)]
  refine Or.inl (NRM_g (i2 := i + 1) M t8 hf (((FGc.rf (q := q) (u := u)).put (k := 1112) (by simp)).put (k := 1105) (by simp)) (PT_g (by omega) (PT_g (by omega) p)) (LNB_g (LNB_g ln (by omega)) (by omega)) t2 hx ?_ ⟨fun _ => ?_, fun z => absurd rfl z⟩ ?_ (by omega))
  · rw [F_wi (by omega) (by omega), if_pos rfl]; omega
  · rw [F_wi (by omega) (by omega), if_neg (by decide), F_wi (by decide) (by decide), if_pos rfl]
  · rw [F_wi (by omega) (by omega), if_neg (by decide), F_wi (by decide) (by decide), if_neg (by decide)]; exact t9
theorem chosenc_ok {s : Nat} (M : MIc T Fv P PR q u i h m L g x j wb nb cb rk) (hx : x < i) (t9 : F u 1109 = 0) (t8 : F u 1108 = 0) (hf : PHc T u q i x rk ≤ c) (hs : s ≤ h) (t2 : T (i + 3) = some (h - s, m, L, g, x)) : OK (fun w _ => OPQ T Fv P PR q c w) (bnd (hm_Fr_drop N u q (I ((s : Nat) : Int))) (fun u36 _ => bnd (hm_Co_at N u36 ((u36.1 1105) + 2)) (fun u41 r41 => bnd (hm_Fr_setLine N u41 q r41) (fun u43 _ => lt (upI u43 1105 ((u43.1 1105) + 3)) (fun w46 => some (w46, ())))))) := by
  obtain ⟨n, ow, kd, Y, p⟩ := MI_p M
  have mb := MI_b M
  have ln := MI_ln M
  have w2b := (M.1.2.2.1 _ _ _ _ _ _ t2).1
  have st := M.2.2.1
  rw [drop_e (k := s) p.2.2.1.1 rfl (by omega), bnd_so]
  obtain ⟨f1, p1⟩ := drop_t (k := s) p (by omega)
  have ln1 : LNB (wi u (pq q 26) ((wb + h - s : Nat) : Int)) q := LNB_m ln (by simp) (by omega)
  have fc1 : FC q [1105] [] [] [26] [] [30] [] u (wi u (pq q 26) ((wb + h - s : Nat) : Int)) := FC.wi_q FC.rf (by omega) (by simp)
  rw [show wb + h - s = wb + (h - s) by omega] at p1 f1 fc1 ln1 ⊢
  have a30 : (wi u (pq q 26) ((wb + (h - s) : Nat) : Int)).2.2.1 = u.2.2.1 := rfl
  generalize wi u (pq q 26) ((wb + (h - s) : Nat) : Int) = w1 at f1 p1 fc1 ln1 a30 ⊢
  obtain ⟨r, hr⟩ := Co_any (N := N) (u := w1) ((w1.1 1105) + 2)
  rw [hr, bnd_so]
  unfold hm_Fr_setLine hb_Fr_setLine_0
  rw [lit1q, set_e (y := 1) (j := j) (k := 1) (by rw [fc1.Fq (by omega) (by simp)]; exact st.2.1.1) st.2.1.2 rfl (by omega), bnd_so, bnd_so]
  refine ok_lt.mpr (ok_some.mpr ?_)
  have fc2 : FC q [1105] [] [] [26] [] [30] [] u (upA w1 (pq q 30) (upd (w1.2.2.1 (pq q 30)) (5 * j + 1) r)) := FC.A_q fc1 (by omega) (by simp)
  have p2 : PTQ (upA w1 (pq q 30) (upd (w1.2.2.1 (pq q 30)) (5 * j + 1) r)) q n ow kd Fv P (nb + m) (wb + (h - s)) Y := PTQ_same p1 (fun _ _ => rfl) (fun _ _ => rfl)
  have ln2 : LNB (upA w1 (pq q 30) (upd (w1.2.2.1 (pq q 30)) (5 * j + 1) r)) q := LNB_fc ln1 (fun _ _ => rfl)
  have r30 : ∀ a, a ≠ 5 * j + 1 → A (upA w1 (pq q 30) (upd (w1.2.2.1 (pq q 30)) (5 * j + 1) r)) (pq q 30) a = A u (pq q 30) a := fun a ha => by
    show ((if pq q 30 = pq q 30 then upd (w1.2.2.1 (pq q 30)) (5 * j + 1) r else w1.2.2.1 (pq q 30)) a).toInt = _
    rw [if_pos rfl]; unfold upd; rw [if_neg ha, a30]; rfl
  have r37 : (upA w1 (pq q 30) (upd (w1.2.2.1 (pq q 30)) (5 * j + 1) r)).2.2.1 (pq q 37) = u.2.2.1 (pq q 37) := by
    show (if pq q 37 = pq q 30 then _ else w1.2.2.1 (pq q 37)) = _
    rw [if_neg (pq_inj (by decide)), a30]
  have i2w : (upA w1 (pq q 30) (upd (w1.2.2.1 (pq q 30)) (5 * j + 1) r)).1 = w1.1 := rfl
  generalize upA w1 (pq q 30) (upd (w1.2.2.1 (pq q 30)) (5 * j + 1) r) = w2 at fc2 p2 ln2 r30 r37 i2w ⊢
  have e5 : F w2 1105 = ((i : Nat) : Int) := by rw [show F w2 1105 = F w1 1105 from congrArg (fun y => (y 1105).toInt) i2w, f1.Fg (by omega) (by simp)]; exact M.2.2.2.1.2
  rw [I_lit (n := 3), at_e e5, show ((i : Nat) : Int) + (OfNat.ofNat 3 : Int) = ((i + 3 : Nat) : Int) by show _ + (3 : Int) = _; omega]
  have fc3 : FC q [1105] [] [] [26] [] [30] [] u (wi w2 1105 ((i + 3 : Nat) : Int)) := FC.wi_g fc2 (by omega) (by simp)
  have h9 : F (wi w2 1105 ((i + 3 : Nat) : Int)) (pq q 9) = 0 := by rw [fc3.Fq (by omega) (by simp)]; exact M.2.1
  have M3 : MIc T Fv P PR q (wi w2 1105 ((i + 3 : Nat) : Int)) (i + 3) (h - s) m L g x j wb nb cb rk := MI_new M fc3 (by simp) (by simp) (SMQ_up (M.1.1.2 q M.1.2.2.2.2.2.2.1).1 (fc3.Fq (by omega) (by simp)) (fc3.Fq (by omega) (by simp)) (by rw [fc3.Fq (by omega) (by simp)]; exact Int.le_refl _) (by rw [M.2.1]; decide)) h9 (PT_g (by omega) p2) (LNB_g ln2 (by omega)) (STc_r st (fun a _ _ ha => r30 a ha) r37 (fc3.2.2.2.2.1 q 21 (by omega) (by simp)) (fc3.2.2.2.2.1 q 28 (by omega) (by simp))) t2 (by rw [F_wi (by omega) (by omega), if_pos rfl]) (GDS_s M.2.2.2.2.2.1 (fun k hk => fc3.1 k (by simp at hk; omega) (by simp at hk ⊢; omega)) (fc3.2.2.1 23 (by omega) (by simp))) (fun h1 _ => by rw [fc3.Fq (by omega) (by simp), fc3.Fq (by omega) (by simp)]; exact M.2.2.2.2.2.2.1 h1 (by omega)) (UN_k M.2.2.2.2.2.2.2 (fc3.2.2.2.2.2.1 q 10 (by omega) (by simp)) (fc3.2.2.1 23 (by omega) (by simp))) (by rw [fc3.Fg (by omega) (by simp), fc3.Fg (by omega) (by simp)]; exact M.1.2.2.2.2.2.2.2)
  refine Or.inl ⟨⟨i + 3, h - s, m, L, g, x, j, wb, nb, cb, rk, M3, ?_⟩, by rw [fc3.Fg (by omega) (by simp)]; exact t9, by rw [fc3.Fg (by omega) (by simp)]; exact t8⟩
  have := pot_x (j := i + 3) (t := (F u (pq q 8)).toNat) M.2.2.2.1.1 mb.1.2 (by omega)
  unfold PHc at hf ⊢
  rw [fc3.Fq (by omega) (by simp), fc3.Fg (by omega) (by simp), fc3.Fg (by omega) (by simp)]; omega
end
end
section
set_option maxRecDepth 100000
section
variable {T : Nat → Option (Nat × Nat × List Nat × Nat × Nat)} {Fv : Int64 → Int64 → Prop} {P : Int64 → Prop} {u v w w1 : MS} {PR N q r n B W Y i h m g x j wb nb cb rk c f i2 h2 m2 g2 x2 j2 wb2 nb2 cb2 rk2 k a U d b e s : Nat} {L L2 : List Nat} {ow kd : Nat → Nat} {t rest : Int64} {gi gl ga ki kl ka kj : List Nat}
def s30 (u : MS) (q k : Nat) (z : Int32) : MS := upA u (pq q 30) (upd (u.2.2.1 (pq q 30)) k z)
theorem s30_a {z : Int32} : A (s30 u q k z) (pq q 30) a = if a = k then z.toInt else A u (pq q 30) a := by
  show ((if pq q 30 = pq q 30 then upd (u.2.2.1 (pq q 30)) k z else u.2.2.1 (pq q 30)) a).toInt = _
  rw [if_pos rfl]
  unfold upd
  by_cases e : a = k
  · rw [if_pos e, if_pos e]
  · rw [if_neg e, if_neg e]; rfl
theorem s30_1 {z : Int32} : (s30 u q k z).1 = u.1 := rfl
theorem s30_4 {z : Int32} : (s30 u q k z).2.2.2 = u.2.2.2 := rfl
theorem s30_37 {z : Int32} : (s30 u q k z).2.2.1 (pq q 37) = u.2.2.1 (pq q 37) := if_neg (pq_inj (by decide))
theorem FC.s30 {z : Int32} (f : FC q gi gl ga ki kl ka kj u w) (h : 30 ∈ ka) : FC q gi gl ga ki kl ka kj u (s30 w q k z) := FC.A_q f (by omega) h
theorem set_s {y : Int} {z : Int32} (h21 : F u (pq q 21) = ((j + 1 : Nat) : Int)) (hj : j < 60) (hy : y = ((k : Nat) : Int)) (hk : k ≤ 4) : hm_Fr_set N u q (I y) z = some (s30 u q (5 * j + k) z, ()) := set_e h21 hj hy hk
theorem setPlace_e {z : Int32} (h21 : F u (pq q 21) = ((j + 1 : Nat) : Int)) (hj : j < 60) : hm_Fr_setPlace N u q z = some (s30 u q (5 * j + 4) z, ()) := by
  unfold hm_Fr_setPlace hb_Fr_setPlace_0
  rw [I_lit (n := 4), set_s (y := 4) (k := 4) h21 hj rfl (by omega), bnd_so]
theorem F_s30 {z : Int32} {l : Nat} : F (s30 u q k z) l = F u l := rfl
theorem open_ok {fn en : Int32} (h21 : F u (pq q 21) = ((j : Nat) : Int)) (hj : j < 60) (hB : F u (pq q 24) = ((B : Nat) : Int)) (hW : F u (pq q 26) = ((W : Nat) : Int)) (hs : s ≤ W) : OK (fun w _ => FC q [] [] [] [21] [] [30] [] u w ∧ F w (pq q 21) = ((j + 1 : Nat) : Int) ∧ (∀ a, a < 5 * j → A w (pq q 30) a = A u (pq q 30) a) ∧ A w (pq q 30) (5 * j + 2) = ((B : Nat) : Int) ∧ A w (pq q 30) (5 * j + 3) = ((W - s : Nat) : Int) ∧ A w (pq q 30) (5 * j + 4) = en.toInt ∧ w.2.2.1 (pq q 37) = u.2.2.1 (pq q 37) ∧ w.2.2.2 = u.2.2.2) (hm_Fr_open N u q fn en (I ((s : Nat) : Int))) := by
  have rW := F_r u (pq q 26)
  have rB := F_r u (pq q 24)
  unfold hm_Fr_open hb_Fr_open_0
  rw [I_F (k := pq q 21), h21, I_lit (n := 60)]
  refine k_lt ⟨by omega, by omega⟩ ⟨by decide, by decide⟩ (fun _ => ok_lt.mpr ?_) (fun z => absurd (show (60 : Int) ≤ _ from z) (by omega))
  rw [lit1q, I_add, wi_e, show ((j : Nat) : Int) + 1 = ((j + 1 : Nat) : Int) by omega]
  have f1 : FC q [] [] [] [21] [] [30] [] u (wi u (pq q 21) ((j + 1 : Nat) : Int)) := FC.wi_q FC.rf (by omega) (by simp)
  have e21 : F (wi u (pq q 21) ((j + 1 : Nat) : Int)) (pq q 21) = ((j + 1 : Nat) : Int) := by rw [F_wi (by omega) (by omega), if_pos rfl]
  have e24 : F (wi u (pq q 21) ((j + 1 : Nat) : Int)) (pq q 24) = ((B : Nat) : Int) := by rw [F_wi (by omega) (by omega), if_neg (pq_inj (by decide))]; exact hB
  have e26 : F (wi u (pq q 21) ((j + 1 : Nat) : Int)) (pq q 26) = ((W : Nat) : Int) := by rw [F_wi (by omega) (by omega), if_neg (pq_inj (by decide))]; exact hW
  have eA : ∀ a, A (wi u (pq q 21) ((j + 1 : Nat) : Int)) (pq q 30) a = A u (pq q 30) a := fun _ => rfl
  have e37 : (wi u (pq q 21) ((j + 1 : Nat) : Int)).2.2.1 (pq q 37) = u.2.2.1 (pq q 37) := rfl
  have e4 : (wi u (pq q 21) ((j + 1 : Nat) : Int)).2.2.2 = u.2.2.2 := rfl
  generalize wi u (pq q 21) ((j + 1 : Nat) : Int) = w1 at f1 e21 e24 e26 eA e37 e4 ⊢
  rw [I_lit (n := 2), set_s (y := 2) (k := 2) e21 hj rfl (by omega), bnd_so, I_F (k := pq q 24), e24]
  rw [I_F (k := pq q 26), F_s30, e26, I_sub, show ((W : Nat) : Int) - ((s : Nat) : Int) = ((W - s : Nat) : Int) by omega]
  rw [I_lit (n := 3), set_s (y := 3) (k := 3) (by exact e21) hj rfl (by omega), bnd_so, lit0q, set_s (y := 0) (k := 0) (by exact e21) hj rfl (by omega), bnd_so, set_s (y := 1) (k := 1) (by exact e21) hj rfl (by omega), bnd_so, I_lit (n := 4), set_s (y := 4) (k := 4) (by exact e21) hj rfl (by omega), bnd_so]
  refine ok_some.mpr ⟨FC.s30 (FC.s30 (FC.s30 (FC.s30 (FC.s30 f1 (by simp)) (by simp)) (by simp)) (by simp)) (by simp), e21, fun a ha => ?_, ?_, ?_, ?_, ?_, ?_⟩
  · rw [s30_a, if_neg (by omega), s30_a, if_neg (by omega), s30_a, if_neg (by omega), s30_a, if_neg (by omega), s30_a, if_neg (by omega)]; exact eA a
  · rw [s30_a, if_neg (by omega), s30_a, if_neg (by omega), s30_a, if_neg (by omega), s30_a, if_neg (by omega), s30_a, if_pos rfl, I_ti (by omega) (by omega)]
  · rw [s30_a, if_neg (by omega), s30_a, if_neg (by omega), s30_a, if_neg (by omega), s30_a, if_pos rfl, I_ti (by omega) (by omega)]
  · rw [s30_a, if_pos rfl]
  · rw [s30_37, s30_37, s30_37, s30_37, s30_37]; exact e37
  · exact e4
def ENQ (T : Nat → Option (Nat × Nat × List Nat × Nat × Nat)) (Fv : Int64 → Int64 → Prop) (P : Int64 → Prop) (q n : Nat) (ow kd : Nat → Nat) (Y s e rk0 : Nat) (u w : MS) : Prop := FC q [1105] [] [] [21, 24, 26] [] [30] [35] u w ∧ F w 1105 = ((e : Nat) : Int) ∧ ∃ j wb nb cb rk, STc T w q j wb nb cb rk [] ∧ PTQ w q n ow kd Fv P nb (wb + s) Y ∧ rk ≤ rk0 ∧ nb + 40 ≤ 2400
theorem enter0_ok {fn : Int32} (wt : WFT T u) (st : STc T u q j wb nb cb rk L) (hj : j + 1 < 60) (p : PTQ u q n ow kd Fv P (nb + m) (wb + h) Y) (hs : s ≤ h) (fl : FLc T L (h - s)) (ti : T i2 = some (h - s + 1, m, L, 0, 0)) (he : e < 24000) (hrk : rk + 32 * cKc T i2 24000 ≤ rk2) : OK (fun w _ => ENQ T Fv P q n ow kd Y s e rk2 u w) (hm_Ma_enter N u q fn (I ((e : Nat) : Int)) (I ((s : Nat) : Int)) 0 (I ((i2 : Nat) : Int))) := by
  unfold hm_Ma_enter hb_Ma_enter_0 hb_Ma_enter_37
  have i2b := (wt _ _ _ _ _ _ ti).1.2
  have mb := (wt _ _ _ _ _ _ ti).2.1
  have fb := FBc_b wt st.1
  refine ok_br.mpr ⟨fun _ => ?_, fun z => absurd z (by decide)⟩
  rw [setPlace_e st.2.1.1 st.2.1.2, bnd_so]
  have f1 : FC q [1105] [] [] [21, 24, 26] [] [30] [35] u (s30 u q (5 * j + 4) (I ((i2 : Nat) : Int))) := FC.s30 FC.rf (by simp)
  refine ok_bnd.mpr (ok_mono (open_ok (N := N) (j := j + 1) (B := nb + m) (W := wb + h) (s := s) st.2.1.1 hj p.2.1.1 p.2.2.1.1 (by omega)) (fun w2 _ hw2 => ok_lt.mpr (ok_some.mpr ?_)))
  obtain ⟨f2, e21, eA, a2, a3, a4, e37, e4⟩ := hw2
  rw [wi_e]
  have f3 : FC q [1105] [] [] [21, 24, 26] [] [30] [35] u (wi w2 1105 ((e : Nat) : Int)) := FC.wi_g (FC.tr f1 (FC.mo f2 (by simp) (by simp) (by simp) (by simp) (by simp) (by simp) (by simp))) (by omega) (by simp)
  have r37 : w2.2.2.1 (pq q 37) = u.2.2.1 (pq q 37) := by rw [e37, s30_37]
  have rA : ∀ a, a < 5 * (j + 1) → A w2 (pq q 30) a = if a = 5 * j + 4 then ((i2 : Nat) : Int) else A u (pq q 30) a := fun a ha => by
    rw [eA a ha, s30_a]
    by_cases z : a = 5 * j + 4
    · rw [if_pos z, if_pos z, I_ti (by omega) (by omega)]
    · rw [if_neg z, if_neg z]
  have eqA : ∀ a, A (wi w2 1105 ((e : Nat) : Int)) (pq q 30) a = A w2 (pq q 30) a := fun _ => rfl
  refine ⟨f3, by rw [F_wi (by omega) (by omega), if_pos rfl], j + 1, wb + (h - s), nb + m, cb + L.length, rk + 32 * cKc T i2 24000, ⟨⟨wb, nb, cb, rk, h - s, m, L, i2, FBc_r (w := wi w2 1105 ((e : Nat) : Int)) r37 (fun a ha => ?_) st.1, ?_, ?_, ?_, ti, rfl, rfl, rfl, rfl, fl, ENT_s (w := wi w2 1105 ((e : Nat) : Int)) r37 st.2.2.2.2⟩, ⟨?_, hj⟩, ⟨?_, ?_⟩, ?_, trivial⟩, ?_, hrk, by omega⟩
  · rw [eqA, eqA, eqA, rA _ (by omega), if_neg (by omega), rA _ (by omega), if_neg (by omega), rA _ (by omega), if_neg (by omega)]
    exact ⟨rfl, rfl, rfl⟩
  · rw [eqA, rA _ (by omega), if_neg (by omega)]; exact st.2.2.1.1
  · rw [eqA, rA _ (by omega), if_neg (by omega)]; exact st.2.2.1.2
  · rw [eqA, rA _ (by omega), if_pos rfl]
  · rw [F_wi (by omega) (by omega), if_neg (by unfold pq; omega)]; exact e21
  · rw [eqA]; exact a2
  · rw [eqA, a3]; omega
  · rw [f3.Fq (by omega) (by simp), st.2.2.2.1]; simp
  · have p2 : PTQ (wi w2 1105 ((e : Nat) : Int)) q n ow kd Fv P (nb + m) (wb + h) Y := PT_g (by omega) (PTQ_same p (fun k hk => (f2.2.2.2.2.1 q k (by simp at hk; omega) (fun _ => by simp at hk ⊢; omega)).trans (by rw [s30_1])) (fun k hk => by rw [e4, s30_4]))
    rw [show wb + (h - s) + s = wb + h by omega]; exact p2
theorem enter1_ok {fn i3 : Int32} (wt : WFT T u) (st : STc T u q j wb nb cb rk []) (p : PTQ u q n ow kd Fv P (nb + m) (wb + h) Y) (hs : s ≤ h) (he : e < 24000) (hrk : rk ≤ rk2) : OK (fun w _ => ENQ T Fv P q n ow kd Y s e rk2 u w) (hm_Ma_enter N u q fn (I ((e : Nat) : Int)) (I ((s : Nat) : Int)) 1 i3) := by
  unfold hm_Ma_enter hb_Ma_enter_0 hb_Ma_enter_37
  have fb := FBc_b wt st.1
  have hj := st.2.1.2
  obtain ⟨⟨p1, p2, p3⟩, ⟨p4, p5⟩, ⟨p6, p7⟩, ⟨p8, p9⟩, ⟨l, a1, a2⟩, ⟨l2, b1, b2⟩, cc⟩ := p
  refine ok_br.mpr ⟨fun z => absurd z (by decide), fun _ => ?_⟩
  refine ok_bnd.mpr ?_
  unfold hm_Fr_replace hb_Fr_replace_0
  have e21 := st.2.1.1
  rw [I_F (k := pq q 21), e21, lit1q, I_sub, I_lit (n := 3), of_e (z := 3) (a := j) (k := 3) e21 hj (by omega) (Nat.le_refl _) rfl (by omega), bnd_so, st.2.2.1.2]
  rw [I_F (k := pq q 26), p6, I_sub, lnQ_e b1]
  refine e_cp ⟨by omega, by omega, by omega, by omega, by omega⟩ (by omega) (by omega) (ok_lt.mpr (ok_lt.mpr ?_))
  rw [tnI (n := wb) rfl (by omega), tnI (n := s) rfl (by omega), tnI (n := wb + h - s) (by omega) (by omega), I_add, show ((wb : Nat) : Int) + ((s : Nat) : Int) = ((wb + s : Nat) : Int) by omega, wi_e]
  generalize hg : va_cpy (u.2.2.2 (pq q 35)) (u.2.2.2 (pq q 35)) (wb + h - s) wb s = gg
  have gg1 : ∀ k, k < wb + s → GT n ow kd P (gg k) := fun k hk => by
    rw [← hg]
    by_cases z : wb ≤ k
    · have := cpy_in (f := u.2.2.2 (pq q 35)) (g := u.2.2.2 (pq q 35)) (a := wb + h - s) (c := wb) (k := s) (j := k - wb) (by omega)
      rw [show wb + (k - wb) = k by omega] at this
      rw [this]; exact p7 _ (by omega)
    · rw [cpy_out (by omega)]; exact p7 k (by omega)
  have f1 : FC q [1105] [] [] [21, 24, 26] [] [30] [35] u (wi (upJ u (pq q 35) gg) (pq q 26) ((wb + s : Nat) : Int)) := FC.wi_q (FC.J_q FC.rf (by omega) (by simp)) (by omega) (by simp)
  have z21 : F (wi (upJ u (pq q 35) gg) (pq q 26) ((wb + s : Nat) : Int)) (pq q 21) = ((j + 1 : Nat) : Int) := by rw [F_wi (by omega) (by omega), if_neg (pq_inj (by decide))]; exact e21
  have z26 : F (wi (upJ u (pq q 35) gg) (pq q 26) ((wb + s : Nat) : Int)) (pq q 26) = ((wb + s : Nat) : Int) := by rw [F_wi (by omega) (by omega), if_pos rfl]
  have zj : ∀ k, (wi (upJ u (pq q 35) gg) (pq q 26) ((wb + s : Nat) : Int)).2.2.2 k = if k = pq q 35 then gg else u.2.2.2 k := fun _ => rfl
  have zA : (wi (upJ u (pq q 35) gg) (pq q 26) ((wb + s : Nat) : Int)).2.2.1 = u.2.2.1 := rfl
  generalize wi (upJ u (pq q 35) gg) (pq q 26) ((wb + s : Nat) : Int) = w1 at f1 z21 z26 zj zA ⊢
  rw [I_F (k := pq q 21), z21, I_sub, I_lit (n := 2), of_e (z := 2) (a := j) (k := 2) z21 hj (by omega) (Nat.le_refl _) rfl (by omega), bnd_so, show A w1 (pq q 30) (5 * j + 2) = ((nb : Nat) : Int) by show (w1.2.2.1 (pq q 30) _).toInt = _; rw [zA]; exact st.2.2.1.1, wi_e]
  refine ok_lt.mpr ?_
  have f2 : FC q [1105] [] [] [21, 24, 26] [] [30] [35] u (wi w1 (pq q 24) ((nb : Nat) : Int)) := FC.wi_q f1 (by omega) (by simp)
  have y21 : F (wi w1 (pq q 24) ((nb : Nat) : Int)) (pq q 21) = ((j + 1 : Nat) : Int) := by rw [F_wi (by omega) (by omega), if_neg (pq_inj (by decide))]; exact z21
  have y26 : F (wi w1 (pq q 24) ((nb : Nat) : Int)) (pq q 26) = ((wb + s : Nat) : Int) := by rw [F_wi (by omega) (by omega), if_neg (pq_inj (by decide))]; exact z26
  have y24 : F (wi w1 (pq q 24) ((nb : Nat) : Int)) (pq q 24) = ((nb : Nat) : Int) := by rw [F_wi (by omega) (by omega), if_pos rfl]
  have yj : ∀ k, (wi w1 (pq q 24) ((nb : Nat) : Int)).2.2.2 k = if k = pq q 35 then gg else u.2.2.2 k := zj
  have yA : (wi w1 (pq q 24) ((nb : Nat) : Int)).2.2.1 = u.2.2.1 := zA
  generalize wi w1 (pq q 24) ((nb : Nat) : Int) = w2 at f2 y21 y26 y24 yj yA ⊢
  rw [lit0q, set_s (y := 0) (k := 0) y21 hj rfl (by omega), bnd_so, set_s (y := 1) (k := 1) (by exact y21) hj rfl (by omega), bnd_so, I_lit (n := 4), set_s (y := 4) (k := 4) (by exact y21) hj rfl (by omega), bnd_so]
  refine ok_some.mpr (ok_lt.mpr (ok_some.mpr ?_))
  rw [wi_e]
  have f3 := FC.wi_g (x := ((e : Nat) : Int)) (FC.s30 (k := 5 * j + 4) (z := I ((e : Nat) : Int)) (FC.s30 (k := 5 * j + 1) (z := I 0) (FC.s30 (k := 5 * j + 0) (z := fn) f2 (by simp)) (by simp)) (by simp)) (k := 1105) (by omega) (by simp)
  generalize hw3 : wi (s30 (s30 (s30 w2 q (5 * j + 0) fn) q (5 * j + 1) (I 0)) q (5 * j + 4) (I ((e : Nat) : Int))) 1105 ((e : Nat) : Int) = w3 at f3 ⊢
  have x1 : ∀ k, k ≠ 1105 → F w3 k = F w2 k := fun k hk => by rw [← hw3, F_wi (by omega) (by omega), if_neg hk]; rfl
  have xj : w3.2.2.2 = w2.2.2.2 := by rw [← hw3]; rfl
  have x37 : w3.2.2.1 (pq q 37) = u.2.2.1 (pq q 37) := by
    rw [← hw3]
    show (s30 (s30 (s30 w2 q (5 * j + 0) fn) q (5 * j + 1) (I 0)) q (5 * j + 4) (I ((e : Nat) : Int))).2.2.1 (pq q 37) = _
    rw [s30_37, s30_37, s30_37, yA]
  have xA : ∀ a, a < 5 * j + 4 → a ≠ 5 * j → a ≠ 5 * j + 1 → A w3 (pq q 30) a = A u (pq q 30) a := fun a h1 h2 h3 => by
    rw [← hw3]
    show A (s30 (s30 (s30 w2 q (5 * j + 0) fn) q (5 * j + 1) (I 0)) q (5 * j + 4) (I ((e : Nat) : Int))) (pq q 30) a = _
    rw [s30_a, if_neg (by omega), s30_a, if_neg (by omega), s30_a, if_neg (by omega)]
    show (w2.2.2.1 (pq q 30) a).toInt = _
    rw [yA]; rfl
  obtain ⟨s1, ⟨s2, s3⟩, ⟨s4, s5⟩, s6, s7⟩ := st
  refine ⟨f3, by rw [← hw3, F_wi (by omega) (by omega), if_pos rfl], j, wb, nb, cb, rk, ⟨FBc_r x37 (fun a ha => ⟨xA _ (by omega) (by omega) (by omega), xA _ (by omega) (by omega) (by omega), xA _ (by omega) (by omega) (by omega)⟩) s1, ⟨by rw [x1 _ (by unfold pq; omega)]; exact y21, s3⟩, ⟨by rw [xA _ (by omega) (by omega) (by omega)]; exact s4, by rw [xA _ (by omega) (by omega) (by omega)]; exact s5⟩, by rw [f3.Fq (by omega) (by simp)]; exact s6, trivial⟩, ⟨⟨by rw [f3.Fq (by omega) (by simp)]; exact p1, p2, by rw [f3.jq (by omega) (by simp)]; exact p3⟩, ⟨by rw [x1 _ (by unfold pq; omega)]; exact y24, fun k hk => by rw [f3.jq (by omega) (by simp)]; exact p5 k (by omega)⟩, ⟨by rw [x1 _ (by unfold pq; omega)]; exact y26, fun k hk => by rw [xj, yj, if_pos rfl]; exact gg1 k hk⟩, ⟨by rw [f3.Fq (by omega) (by simp)]; exact p8, by rw [f3.jq (by omega) (by simp)]; exact p9⟩, ⟨l, by rw [f3.Fq (by omega) (by simp)]; exact a1, by omega⟩, ⟨l2, by rw [f3.Fq (by omega) (by simp)]; exact b1, by omega⟩, cc⟩, hrk, by omega⟩
end
end
section
set_option maxRecDepth 100000
section
variable {T : Nat → Option (Nat × Nat × List Nat × Nat × Nat)} {Fv : Int64 → Int64 → Prop} {P : Int64 → Prop} {u v w w1 : MS} {PR N q r n B W Y i h m g x j wb nb cb rk c f i2 h2 m2 g2 x2 j2 wb2 nb2 cb2 rk2 k a U d b e s : Nat} {L L2 : List Nat} {ow kd : Nat → Nat} {t rest : Int64} {gi gl ga ki kl ka kj : List Nat}
theorem beginsc_ok {la : Int} {li : Int32} (M : MIc T Fv P PR q u i h m L 0 0 j wb nb cb rk) (t9 : F u 1109 = 0) (t8 : F u 1108 = 0) (hla : la = 0 ∨ la = 1) : OK (fun w r => (r = 0 ∧ OPQ T Fv P PR q c w) ∨ (r = 1 ∧ FC q [1106, 946] [] [] [13] [] [] [] u w ∧ F w 1106 = F u 1106 + 1 ∧ F u 1106 < F u 1107 ∧ (la = 0 → j + 1 < 60) ∧ w.2 = u.2)) (hm_Ma_begins N u q (I la) li) := by
  have bw := M.1.2.2.2.2.2.2.2
  have st := M.2.2.1
  have hj60 := st.2.1.2
  unfold hm_Ma_begins hb_Ma_begins_0
  have go : F u 1106 < F u 1107 → (la = 0 → j + 1 < 60) → OK (fun w r => (r = 0 ∧ OPQ T Fv P PR q c w) ∨ (r = 1 ∧ FC q [1106, 946] [] [] [13] [] [] [] u w ∧ F w 1106 = F u 1106 + 1 ∧ F u 1106 < F u 1107 ∧ (la = 0 → j + 1 < 60) ∧ w.2 = u.2)) (hb_Ma_begins_57 N () u q) := by
    intro h1 h2
    unfold hb_Ma_begins_57
    refine ok_lt.mpr (ok_lt.mpr (ok_lt.mpr (ok_ck.mpr ⟨by decide, ok_some.mpr (Or.inr ⟨rfl, ?_, ?_, h1, h2, rfl⟩)⟩)))
    · rw [I_F (k := 1106), lit1q, I_add, wi_e, I_of ((wi u 1106 (F u 1106 + 1)).1 (pq q 13) + I 1), wi_e]
      generalize (wi u 1106 (F u 1106 + 1)).1 (pq q 13) + I 1 = y
      rw [I_of ((wi (wi u 1106 (F u 1106 + 1)) (pq q 13) y.toInt).1 946 + I 1), wi_e]
      exact FC.wi_g (FC.wi_q (FC.wi_g FC.rf (by omega) (by simp)) (by omega) (by simp)) (by omega) (by simp)
    · rw [I_F (k := 1106), lit1q, I_add, wi_e, I_of ((wi u 1106 (F u 1106 + 1)).1 (pq q 13) + I 1), wi_e]
      generalize (wi u 1106 (F u 1106 + 1)).1 (pq q 13) + I 1 = y
      rw [I_of ((wi (wi u 1106 (F u 1106 + 1)) (pq q 13) y.toInt).1 946 + I 1), wi_e, F_wi (ti_rng _).1 (ti_rng _).2, if_neg (by decide), F_wi (ti_rng _).1 (ti_rng _).2, if_neg (by unfold pq; omega), F_wi (by omega) (by omega), if_pos rfl]
  rw [I_F (k := 1106), I_F (k := 1107)]
  refine k_lt (FRG1 u _) (FRG1 u _) (fun h1 => ?_) (fun h1 => ?_)
  · rw [lit0q]
    refine k_eq ⟨by omega, by omega⟩ ⟨by decide, by decide⟩ (fun _ => ?_) (fun hn => go h1 (fun z => absurd z hn))
    rw [I_F (k := pq q 21), st.2.1.1, I_lit (n := 60)]
    refine k_lt ⟨by omega, by omega⟩ ⟨by decide, by decide⟩ (fun hc => go h1 (fun _ => ?_)) (fun _ => ?_)
    · have hc : ((j + 1 : Nat) : Int) < 60 := hc
      omega
    · refine ok_bnd.mpr (ok_mono (endsBy_w (N := N) (a := 21) M.1 (by rw [M.2.1]; decide) (by omega)) (fun w3 _ hw3 => ok_ck.mpr ⟨by decide, ok_some.mpr (Or.inl ⟨rfl, Or.inr (Or.inr (Or.inl (END_w M.1 hw3.1 hw3.2 t9 (M21 M))))⟩)⟩))
  · refine ok_lt.mpr (ok_lt.mpr (ok_ck.mpr ⟨by decide, ok_some.mpr (Or.inl ⟨rfl, Or.inr (Or.inr (Or.inr ?_))⟩)⟩))
    rw [lit1q, wi_e, I_of li, wi_e]
    obtain ⟨n, ow, kd, Y, p⟩ := MI_p M
    have f1 : FC q [1108] [] [] [29] [] [] [] u (wi (wi u 1108 1) (pq q 29) li.toInt) := FC.wi_q (FC.wi_g FC.rf (by omega) (by simp)) (by omega) (by simp)
    have p1 : PTQ (wi (wi u 1108 1) (pq q 29) li.toInt) q n ow kd Fv P (nb + m) (wb + h) Y := PTQ_same (PT_g (k := 1108) (by omega) p) (fun k hk => if_neg (pq_inj (by simp at hk; omega))) (fun _ _ => rfl)
    have h9 : F (wi (wi u 1108 1) (pq q 29) li.toInt) (pq q 9) = 0 := by rw [f1.Fq (by omega) (by simp)]; exact M.2.1
    have e8 : F (wi (wi u 1108 1) (pq q 29) li.toInt) 1108 = 1 := by
      rw [F_wi (ti_rng li).1 (ti_rng li).2, if_neg (by unfold pq; omega), F_wi (by decide) (by decide), if_pos rfl]
    generalize wi (wi u 1108 1) (pq q 29) li.toInt = w at f1 p1 h9 e8 ⊢
    have dw : DWc Fv P PR w := DWc_fc M.1.1 f1 M.1.2.2.2.2.2.2.1 (by rw [M.2.1]; decide) (by rw [h9]; decide) (SMQ_up (M.1.1.2 q M.1.2.2.2.2.2.2.1).1 (f1.Fq (by omega) (by simp)) (f1.Fq (by omega) (by simp)) (by rw [f1.Fq (by omega) (by simp)]; exact Int.le_refl _) (by rw [M.2.1]; decide)) ⟨n, ow, kd, _, _, Y, p1⟩ (by simp) (by simp)
    refine ⟨GEN_f M.1 f1 dw (by simp) (by simp) (LNB_k (MI_ln M) f1 (by simp)), ⟨by rw [h9]; decide, fun _ => by rw [e8]; decide⟩, by rw [f1.Fg (by omega) (by simp)]; exact t9, i, h, m, L, 0, j, wb, nb, cb, rk, STc_s st (f1.2.2.2.2.2.2.1 q 30 (by omega) (by simp)) (f1.2.2.2.2.2.2.1 q 37 (by omega) (by simp)) (f1.2.2.2.2.1 q 21 (by omega) (by simp)) (f1.2.2.2.2.1 q 28 (by omega) (by simp)), ⟨M.2.2.2.1.1, by rw [f1.Fg (by omega) (by simp)]; exact M.2.2.2.1.2⟩, Or.inl rfl, ⟨p1.2.2.1.1, p1.2.1.1⟩, fun z => absurd rfl z⟩
theorem fin_call {u1 w2 : MS} (M : MIc T Fv P PR q u i h m L 0 0 j wb nb cb rk) (t9 : F u 1109 = 0) (t8 : F u 1108 = 0) (hf : PHc T u q i 0 rk ≤ c) (f1 : FC q [1106, 946] [] [] [13] [] [] [] u u1) (e1 : F u1 1106 = F u 1106 + 1) (hlt : F u 1106 < F u 1107) (f2 : FC q [] [] [] [26] [] [] [35] u1 w1) (en : ENQ T Fv P q n ow kd Y s e rk2 w1 w) (hrk : rk2 ≤ rk + potc T i 0 (F u (pq q 8)).toNat) (fh : FNc q w w2) (ph : ∀ B W, PTQ w q n ow kd Fv P B W Y → PTQ w2 q n ow kd Fv P (B + k) W Y) (ln2 : LNB w2 q) (te : T e = some (s, k, [], 0, 0)) : OPQ T Fv P PR q c w2 := by
  obtain ⟨f3, e5, j', wb', nb', cb', rk', st', p', hrk', hnb⟩ := en
  have p2 := ph _ _ p'
  have fc : FC q [1105, 1106, 946] [] [] [4, 5, 13, 21, 24, 26, 42, 43, 45] [] [30, 32] [2, 3, 33, 35, 6] u w2 := FC.tr (FC.tr (FC.tr (FC.mo f1 (by simp) (by simp) (by simp) (by simp) (by simp) (by simp) (by simp)) (FC.mo f2 (by simp) (by simp) (by simp) (by simp) (by simp) (by simp) (by simp))) (FC.mo f3 (by simp) (by simp) (by simp) (by simp) (by simp) (by simp) (by simp))) (FC.mo fh (by simp) (by simp) (by simp) (by simp) (by simp) (by simp) (by simp))
  have e06 : F w2 1106 = F u 1106 + 1 := by rw [fh.Fg (by omega) (by simp), f3.Fg (by omega) (by simp), f2.Fg (by omega) (by simp)]; exact e1
  have e07 : F w2 1107 = F u 1107 := fc.Fg (by omega) (by simp)
  have h9 : F w2 (pq q 9) = 0 := by rw [fc.Fq (by omega) (by simp)]; exact M.2.1
  have bw := M.1.2.2.2.2.2.2.2
  have M2 : MIc T Fv P PR q w2 e s k [] 0 0 j' wb' nb' cb' rk' := MI_new M fc (by simp) (by simp) (SMQ_up (M.1.1.2 q M.1.2.2.2.2.2.2.1).1 (fc.Fq (by omega) (by simp)) (fc.Fq (by omega) (by simp)) (by rw [fc.Fq (by omega) (by simp)]; exact Int.le_refl _) (by rw [M.2.1]; decide)) h9 p2 ln2 (STc_s st' (fh.2.2.2.2.2.2.1 q 30 (by omega) (by simp)) (fh.2.2.2.2.2.2.1 q 37 (by omega) (by simp)) (fh.2.2.2.2.1 q 21 (by omega) (by simp)) (fh.2.2.2.2.1 q 28 (by omega) (by simp))) te (by rw [fh.Fg (by omega) (by simp)]; exact e5) ⟨fun _ => by rw [fc.Fg (by omega) (by simp)]; exact M.2.2.2.2.2.1.1 rfl, fun z => absurd rfl z⟩ (fun z => absurd rfl z) (fun z => absurd rfl z) (by rw [e06, e07]; omega)
  refine Or.inl ⟨⟨e, s, k, [], 0, 0, j', wb', nb', cb', rk', M2, ?_⟩, by rw [fc.Fg (by omega) (by simp)]; exact t9, by rw [fc.Fg (by omega) (by simp)]; exact t8⟩
  have pb := pot_le (T := T) (i := e) (x := 0) (t := (F w2 (pq q 8)).toNat) (fun z => absurd rfl z)
  unfold PHc at hf ⊢
  rw [e06, e07]
  rw [show (F u 1107 - F u 1106).toNat = (F u 1107 - (F u 1106 + 1)).toNat + 1 by omega, Nat.add_mul, Nat.one_mul] at hf
  omega
theorem call_okc {la : Int} {fn : Nat} (M : MIc T Fv P PR q u i h m L 0 0 j wb nb cb rk) (t9 : F u 1109 = 0) (t8 : F u 1108 = 0) (hf : PHc T u q i 0 rk ≤ c) (hla : la = 0 ∨ (la = 1 ∧ L = [])) (hfn : ((fn : Nat) : Int) < F u 442) (e2 : A u 23 (i + 2) = ((s : Nat) : Int)) (ea : A u 25 fn = ((s : Nat) : Int)) (hs : s ≤ h) (fl : FLc T L (h - s)) (t2 : T (i + 4) = some (h - s + 1, m, L, 0, 0)) : OK (fun w _ => OPQ T Fv P PR q c w) (hm_Ma_call N u q (I ((fn : Nat) : Int)) (I la)) := by
  obtain ⟨n, ow, kd, Y, p⟩ := MI_p M
  have mb := MI_b M
  have w2b := (M.1.2.2.1 _ _ _ _ _ _ t2).1
  obtain ⟨⟨c1, c1b⟩, c2, -⟩ := M.1.2.2.2.1
  obtain ⟨a, e, k1, k2, k3⟩ := c2 fn hfn
  have ea2 : a = s := by omega
  subst ea2
  have eb := (M.1.2.2.1 _ _ _ _ _ _ k3).1
  unfold hm_Ma_call hb_Ma_call_0 hb_Ma_call_70
  rw [opd3 M (by omega), bnd_so]
  refine ok_bnd.mpr (ok_mono (beginsc_ok (N := N) (c := c) M t9 t8 (hla.imp id (fun z => z.1))) (fun w1 r hw1 => ?_))
  rcases hw1 with ⟨rfl, o⟩ | ⟨rfl, f1, e1, hlt, hj, r1⟩
  · exact ok_br.mpr ⟨fun _ => ok_some.mpr o, fun z => absurd z (by decide)⟩
  refine ok_br.mpr ⟨fun z => absurd z (by decide), fun _ => ?_⟩
  rw [lit0q]
  refine k_lt ⟨by omega, by omega⟩ ⟨by decide, by decide⟩ (fun z => absurd z (by omega)) (fun _ => ?_)
  rw [I_F (k := 442), f1.Fg (by omega) (by simp)]
  refine k_le (FRG1 u _) ⟨by omega, by omega⟩ (fun z => absurd z (by omega)) (fun _ => ?_)
  refine e_in ⟨by omega, by omega⟩ (by decide) ?_
  have a5 : F w1 1105 = ((i : Nat) : Int) := by rw [f1.Fg (by omega) (by simp)]; exact M.2.2.2.1.2
  rw [I_F (k := 1105), a5, I_lit (n := 2), I_add, Co_e (k := i + 2) (by show _ + (2 : Int) = _; omega) (by omega), bnd_so, f1.ag (by omega) (by simp), e2, tnI (n := fn) rfl (by omega), I_A (k := 29), f1.ag (by omega) (by simp), k2, I_F (k := 1105), a5, I_lit (n := 4), I_add, show ((i : Nat) : Int) + (OfNat.ofNat 4 : Int) = ((i + 4 : Nat) : Int) by show _ + (4 : Int) = _; omega]
  have s1 : SCQ u w1 := SCQ_f f1 (by simp) (by simp)
  have wt := WFT_s s1 M.1.2.2.1
  have st1 := STc_s (w := w1) M.2.2.1 (f1.2.2.2.2.2.2.1 q 30 (by omega) (by simp)) (f1.2.2.2.2.2.2.1 q 37 (by omega) (by simp)) (f1.2.2.2.2.1 q 21 (by omega) (by simp)) (f1.2.2.2.2.1 q 28 (by omega) (by simp))
  have p1 : PTQ w1 q n ow kd Fv P (nb + m) (wb + h) Y := PTQ_same p (fun k hk => f1.2.2.2.2.1 q k (by simp at hk; omega) (fun _ => by simp at hk ⊢; omega)) (fun k _ => by rw [r1])
  have ln1 := LNB_k (MI_ln M) f1 (by simp)
  have fin : ∀ {w : MS} {rk2 : Nat}, ENQ T Fv P q n ow kd Y a e rk2 w1 w → rk2 ≤ rk + potc T i 0 (F u (pq q 8)).toNat → OPQ T Fv P PR q c w := fun {w rk2} en hrk => fin_call (k := 0) M t9 t8 hf f1 e1 hlt FC.rf en hrk FNc.rf (fun B W p => p) (LNB_k ln1 en.1 (by simp)) k3
  rcases hla with rfl | ⟨rfl, rfl⟩
  · refine ok_bnd.mpr (ok_mono (enter0_ok (N := N) (rk2 := rk + 32 * cKc T (i + 4) 24000) wt st1 (hj rfl) p1 hs fl t2 eb.2 (Nat.le_refl _)) (fun w _ hw => ok_some.mpr (fin hw ?_)))
    have := pot_x (j := i + 4) (t := (F u (pq q 8)).toNat) M.2.2.2.1.1 mb.1.2 (by omega)
    unfold potc at this ⊢
    rw [if_pos rfl] at this ⊢
    rw [if_pos rfl] at this
    omega
  · exact ok_bnd.mpr (ok_mono (enter1_ok (N := N) (rk2 := rk) wt st1 p1 hs eb.2 (Nat.le_refl _)) (fun w _ hw => ok_some.mpr (fin hw (by omega))))
theorem fun_info {ha hb : Int64} (cd : CDT T u Fv) (hF : Fv ha hb) : ∃ a e k : Nat, T e = some (a, k, [], 0, 0) ∧ (∀ w q, SCQ u w → hm_Co_takes N w (I (va ha)) = some (w, I ((a : Nat) : Int)) ∧ hm_Ma_entryOf N w q (I (va ha)) = some (w, I ((e : Nat) : Int)) ∧ ∃ fn, hm_Ma_functionOf N w (I (va ha)) = some (w, fn)) ∧ ((∃ pl p0 : Nat, va ha = ((pl : Nat) : Int) ∧ ((pl : Nat) : Int) < F u 449 ∧ pl < 400 ∧ A u 32 pl = ((p0 : Nat) : Int) ∧ A u 23 p0 = ((k : Nat) : Int) ∧ p0 + k < 24000 ∧ va hb = ((k : Nat) : Int)) ∨ (F u 449 ≤ va ha ∧ 0 ≤ va ha ∧ k = 0)) := by
  obtain ⟨⟨c1, c1b⟩, c2, ⟨c3, c3b⟩, c4, -, c6⟩ := cd
  rcases c6 ha hb hF with ⟨pl, v1, v2, v3⟩ | ⟨fn, v1, v2, v3⟩
  · obtain ⟨a, e, p0, k, d1, d2, d3, d4, d5, d6, d7⟩ := c4 pl v2
    refine ⟨a, e, k, d6, fun w q s => ⟨?_, ?_, ?_⟩, Or.inl ⟨pl, p0, v1, v2, by omega, d3, d4, d5, by rw [v3, d3, ← d4]; rfl⟩⟩
    · unfold hm_Co_takes hb_Co_takes_0 hb_Co_takes_50
      rw [v1, I_lit (n := 1000000), I_sub, lit0q, decL (by show _ ≤ _ - (1000000 : Int); omega) (by show _ - (1000000 : Int) < _; omega) (by decide) (by decide), decide_eq_true (by show _ - (1000000 : Int) < 0; omega), br_tq, decL (by omega) (by omega) (by decide) (by decide), decide_eq_false (by omega), br_fq, I_F (k := 449), s.F (by simp), decI (by omega) (by omega) (by omega) (by omega), decide_eq_false (by omega), br_fq, (I_inb (by omega) (by omega)).mpr ⟨by omega, by omega⟩, ck_t, tnI (n := pl) rfl (by omega), I_A, s.A (by simp), d1]
    · unfold hm_Ma_entryOf hb_Ma_entryOf_0 hb_Ma_entryOf_62 hm_Ma_functionOf hb_Ma_functionOf_0 hb_Ma_functionOf_14
      rw [v1, I_lit (n := 1000000), decL (by omega) (by omega) (by decide) (by decide), decide_eq_true (by show _ < (1000000 : Int); omega), br_tq, bnd_so, show decide ((-1 : Int32) < 0) = true from by decide, br_tq, lit0q, decL (by omega) (by omega) (by decide) (by decide), decide_eq_false (by omega), br_fq, I_F (k := 449), s.F (by simp), decI (by omega) (by omega) (by omega) (by omega), decide_eq_false (by omega), br_fq, (I_inb (by omega) (by omega)).mpr ⟨by omega, by omega⟩, ck_t, tnI (n := pl) rfl (by omega), I_A, s.A (by simp), d2]
    · unfold hm_Ma_functionOf hb_Ma_functionOf_0 hb_Ma_functionOf_14
      exact br_any ⟨_, rfl⟩ ⟨_, rfl⟩
  · obtain ⟨a, e, d1, d2, d3⟩ := c2 fn v2
    refine ⟨a, e, 0, d3, fun w q s => ⟨?_, ?_, ?_⟩, Or.inr ⟨by omega, by omega, rfl⟩⟩
    · unfold hm_Co_takes hb_Co_takes_0 hb_Co_takes_27
      rw [v1, I_lit (n := 1000000), I_sub, show (1000000 : Int) + ((fn : Nat) : Int) - (OfNat.ofNat 1000000 : Int) = ((fn : Nat) : Int) by show (1000000 : Int) + ((fn : Nat) : Int) - (1000000 : Int) = _; omega, lit0q, decL (by omega) (by omega) (by decide) (by decide), decide_eq_false (by omega), br_fq, I_F (k := 442), s.F (by simp), decI (by omega) (by omega) (by omega) (by omega), decide_eq_false (by omega), br_fq, (I_inb (by omega) (by omega)).mpr ⟨by omega, by omega⟩, ck_t, tnI (n := fn) rfl (by omega), I_A, s.A (by simp), d1]
    · unfold hm_Ma_entryOf hb_Ma_entryOf_0 hb_Ma_entryOf_33 hm_Ma_functionOf hb_Ma_functionOf_0 hb_Ma_functionOf_14
      rw [v1, I_lit (n := 1000000), decL (by omega) (by omega) (by decide) (by decide), decide_eq_false (by show ¬ _ < (1000000 : Int); omega), br_fq, I_sub, show (1000000 : Int) + ((fn : Nat) : Int) - (OfNat.ofNat 1000000 : Int) = ((fn : Nat) : Int) by show (1000000 : Int) + ((fn : Nat) : Int) - (1000000 : Int) = _; omega, bnd_so, lit0q, decL (by omega) (by omega) (by decide) (by decide), decide_eq_false (by omega), br_fq, I_F (k := 442), s.F (by simp), decI (by omega) (by omega) (by omega) (by omega), decide_eq_false (by omega), br_fq, (I_inb (by omega) (by omega)).mpr ⟨by omega, by omega⟩, ck_t, tnI (n := fn) rfl (by omega), I_A, s.A (by simp), d2]
    · unfold hm_Ma_functionOf hb_Ma_functionOf_0 hb_Ma_functionOf_14
      exact br_any ⟨_, rfl⟩ ⟨_, rfl⟩
theorem hold_ok (p : PTQ u r n ow kd Fv P B W Y) (ln : LNB u r) (gt : GT n ow kd P t) (e3 : so t = 3) (hB : B + 40 ≤ 4000) (hk : k ≤ 40) (inf : (∃ pl p0 : Nat, va (u.2.2.2 (pq r 2) (vn t)) = ((pl : Nat) : Int) ∧ ((pl : Nat) : Int) < F u 449 ∧ pl < 400 ∧ A u 32 pl = ((p0 : Nat) : Int) ∧ A u 23 p0 = ((k : Nat) : Int) ∧ p0 + k < 24000 ∧ va (u.2.2.2 (pq r 2) (vn t + 1)) = ((k : Nat) : Int)) ∨ (F u 449 ≤ va (u.2.2.2 (pq r 2) (vn t)) ∧ 0 ≤ va (u.2.2.2 (pq r 2) (vn t)) ∧ k = 0)) (hN : 100 ≤ N) : OK (fun w _ => FNc r u w ∧ PTQ w r n ow kd Fv P (B + k) W Y ∧ LNB w r) (hm_Ma_hold N u q r (pq r 2) t) := by
  obtain ⟨a1, a2, a3, a4, a5⟩ := fun_at p.1.2.2 gt e3
  have pn := p.1.2.1
  unfold hm_Ma_hold hb_Ma_hold_0 hb_Ma_hold_24
  rw [valI, a1]
  refine e_in ⟨by omega, by omega⟩ (by decide) ?_
  rw [tnI (n := vn t) rfl (by omega), valI, lit0q]
  rcases inf with ⟨pl, p0, v1, v2, v2b, v3, v4, v5, v6⟩ | ⟨v1, v2, rfl⟩
  · rw [v1]
    refine k_lt ⟨by omega, by omega⟩ ⟨by decide, by decide⟩ (fun z => absurd z (by omega)) (fun _ => ?_)
    rw [I_F (k := 449)]
    refine k_lt ⟨by omega, by omega⟩ (FRG1 u _) (fun _ => ?_) (fun z => absurd z (by omega))
    refine e_in ⟨by omega, by omega⟩ (by decide) ?_
    rw [tnI (n := pl) rfl (by omega), I_A (k := 32), v3]
    have hv6 : vn (u.2.2.2 (pq r 2) (vn t + 1)) = k := by omega
    have gen : ∀ (K d : Nat) (w : MS), d ≤ k → k - d < K → FNc r u w → PTQ w r n ow kd Fv P (B + d) W Y → LNB w r → w.2.2.2 (pq r 2) = u.2.2.2 (pq r 2) → OK (fun w _ => FNc r u w ∧ PTQ w r n ow kd Fv P (B + k) W Y ∧ LNB w r) (hg_Ma_hold N K w q r (pq r 2) t (I ((p0 : Nat) : Int)) (I ((d : Nat) : Int))) := by
      intro K
      induction K with
      | zero => intro d _ _ hK; omega
      | succ K ih =>
        intro d w hd hK fw pw lw cw
        show OK _ (hb_Ma_hold_40 N (hg_Ma_hold N K) w q r (pq r 2) t (I ((p0 : Nat) : Int)) (I ((d : Nat) : Int)))
        unfold hb_Ma_hold_40
        rw [Co_e (k := p0) rfl (by omega), bnd_so, fw.ag (by omega) (by simp), v4]
        refine k_le ⟨by omega, by omega⟩ ⟨by omega, by omega⟩ (fun hh => ok_some.mpr ⟨fw, by rw [show k = d by omega]; exact pw, lw⟩) (fun hh => ?_)
        rw [lit1q, I_add, I_add, Co_e (k := p0 + 1 + d) (by omega) (by omega), bnd_so, valI, a1, I_lit (n := 2), I_add, I_add]
        refine e_in ⟨by show 0 ≤ _ + (2 : Int) + _; omega, by show _ + (2 : Int) + _ < _; omega⟩ (by decide) ?_
        rw [tnI (n := vn t + 2 + d) (by show _ + (2 : Int) + _ = _; omega) (by omega), cw]
        refine ok_bnd.mpr (ok_mono (bind_t (N := N) pw lw (by omega) (a5 d (by omega))) (fun w3 _ hw3 => ?_))
        obtain ⟨f3, p3, l3, -, c3⟩ := hw3
        rw [I_add, show ((d : Nat) : Int) + 1 = ((d + 1 : Nat) : Int) by omega]
        exact ih (d + 1) w3 (by omega) (by omega) (FNc.tr fw f3) p3 l3 (c3.trans cw)
    rw [show (0 : Int) = ((0 : Nat) : Int) from rfl]
    exact gen N 0 u (by omega) (by omega) FNc.rf p ln rfl
  · refine k_lt (ti_rng _) ⟨by decide, by decide⟩ (fun z => absurd z (by omega)) (fun _ => ?_)
    rw [I_F (k := 449)]
    exact k_lt (ti_rng _) (FRG1 u _) (fun z => absurd z (by omega)) (fun _ => ok_some.mpr ⟨FNc.rf, p, ln⟩)
theorem takeOut_t (p : PTQ u q n ow kd Fv P B W Y) (hs : s + 1 ≤ W) : OK (fun w _ => FC q [] [] [] [26] [] [] [35] u w ∧ PTQ w q n ow kd Fv P B (W - 1) Y) (hm_Fr_takeOut N u q (I ((s : Nat) : Int))) := by
  obtain ⟨⟨p1, p2, p3⟩, ⟨p4, p5⟩, ⟨p6, p7⟩, ⟨p8, p9⟩, ⟨l, a1, a2⟩, ⟨l2, b1, b2⟩, cc⟩ := p
  unfold hm_Fr_takeOut hb_Fr_takeOut_0 hb_Fr_takeOut_39
  rw [I_F (k := pq q 26), p6, lit0q, lit1q, I_sub, I_sub, I_add, lnQ_e b1]
  refine k_lt ⟨by omega, by omega⟩ ⟨by decide, by decide⟩ (fun z => absurd z (by omega)) (fun _ => ?_)
  refine e_cp ⟨by omega, by omega, by omega, by omega, by omega⟩ (by omega) (by omega) (ok_lt.mpr (ok_lt.mpr (ok_some.mpr ?_)))
  rw [tnI (n := s) rfl (by omega), show ((W : Nat) : Int) - ((s : Nat) : Int) - 1 + 1 = ((W - s : Nat) : Int) by omega, show ((W : Nat) : Int) - ((s : Nat) : Int) - 1 = ((W - s - 1 : Nat) : Int) by omega, tnI (n := W - s) rfl (by omega), tnI (n := W - s - 1) rfl (by omega)]
  generalize hg : va_cpy (u.2.2.2 (pq q 35)) (u.2.2.2 (pq q 35)) (W - s) (W - s - 1) s = gg
  have gg1 : ∀ k, k < W - 1 → GT n ow kd P (gg k) := fun k hk => by
    rw [← hg]
    by_cases z : W - s - 1 ≤ k
    · have := cpy_in (f := u.2.2.2 (pq q 35)) (g := u.2.2.2 (pq q 35)) (a := W - s) (c := W - s - 1) (k := s) (j := k - (W - s - 1)) (by omega)
      rw [show W - s - 1 + (k - (W - s - 1)) = k by omega] at this
      rw [this]; exact p7 _ (by omega)
    · rw [cpy_out (by omega)]; exact p7 k (by omega)
  rw [show (upJ u (pq q 35) gg).1 (pq q 26) = I ((W : Nat) : Int) by show u.1 (pq q 26) = _; rw [I_F, p6], I_sub, show ((W : Nat) : Int) - 1 = ((W - 1 : Nat) : Int) by omega, wi_e]
  have f : FC q [] [] [] [26] [] [] [35] u (wi (upJ u (pq q 35) gg) (pq q 26) ((W - 1 : Nat) : Int)) := FC.wi_q (FC.J_q FC.rf (by omega) (by simp)) (by omega) (by simp)
  refine ⟨f, ⟨by rw [f.Fq (by omega) (by simp)]; exact p1, p2, by rw [f.jq (by omega) (by simp)]; exact p3⟩, ⟨by rw [f.Fq (by omega) (by simp)]; exact p4, by rw [f.jq (by omega) (by simp)]; exact p5⟩, ⟨by rw [F_wi (by omega) (by omega), if_pos rfl], fun k hk => ?_⟩, ⟨by rw [f.Fq (by omega) (by simp)]; exact p8, by rw [f.jq (by omega) (by simp)]; exact p9⟩, ⟨l, by rw [f.Fq (by omega) (by simp)]; exact a1, a2⟩, ⟨l2, by rw [f.Fq (by omega) (by simp)]; exact b1, by omega⟩, cc⟩
  show GT n ow kd P ((upJ u (pq q 35) gg).2.2.2 (pq q 35) k)
  rw [upJ_row]; exact gg1 k hk
theorem apply_okc {la : Int} (M : MIc T Fv P PR q u i h m L 0 0 j wb nb cb rk) (t9 : F u 1109 = 0) (t8 : F u 1108 = 0) (hf : PHc T u q i 0 rk ≤ c) (hla : la = 0 ∨ (la = 1 ∧ L = [])) (hs : s + 1 ≤ h) (fl : FLc T L (h - s - 1)) (t2 : T (i + 3) = some (h - s, m, L, 0, 0)) (hN : 100 ≤ N) : OK (fun w _ => OPQ T Fv P PR q c w) (hm_Ma_apply N u q (I ((s : Nat) : Int)) (I la)) := by
  obtain ⟨n, ow, kd, Y, p⟩ := MI_p M
  have mb := MI_b M
  have pn := p.1.2.1
  have w2b := (M.1.2.2.1 _ _ _ _ _ _ t2).1
  have wfh := (M.1.2.2.1 _ _ _ _ _ _ M.2.2.2.1.1).2.1
  obtain ⟨b0, g0⟩ := below_m (N := N) (k := s) M p rfl (by omega)
  have er : ∀ {how ar : Int} {t : Int64}, GT n ow kd P t → (ar = -1 ∨ (0 ≤ ar ∧ ar < 22)) → (how = 1 ∨ how = 2 ∨ how = 3) → OPQ T Fv P PR q c (wl (wi (wi u 1109 how) 1111 ar) 1110 t) := fun gt h1 h2 => ERR_t M t9 t8 hf ⟨n, ow, kd, _, _, Y, p, gt⟩ h2 h1
  unfold hm_Ma_apply hb_Ma_apply_0
  rw [b0, bnd_so, e_tag, bnd_so, I_lit (n := 3)]
  generalize hft : u.2.2.2 (pq q 35) (wb + h - 1 - s) = ft at g0
  have br3 : OK (fun w _ => OPQ T Fv P PR q c w) (bnd (hm_Ma_tell N u q 1 17 ft) (fun u32 _ => some (u32, ()))) := by
    rw [lit1q, I_lit (n := 17), tell_e, bnd_so]
    exact ok_some.mpr (er g0 (Or.inr ⟨by decide, by decide⟩) (Or.inl rfl))
  refine k_eq (so_r _) ⟨by decide, by decide⟩ (fun e3 => ?_) (fun _ => br3)
  have e3 : so ft = 3 := e3
  obtain ⟨a1, a2, a3, a4, a5⟩ := fun_at p.1.2.2 g0 e3
  rw [valI, a1]
  refine e_in ⟨by omega, by omega⟩ (by decide) ?_
  obtain ⟨a, e, k, te, tinf, inf⟩ := fun_info (N := N) M.1.2.2.2.1 a2
  have teb := (M.1.2.2.1 _ _ _ _ _ _ te)
  have srf : SCQ u u := ⟨fun _ _ => rfl, fun _ _ => rfl⟩
  rw [tnI (n := vn ft) rfl (by omega), valI, (tinf u q srf).1, bnd_so]
  have br4 : OK (fun w _ => OPQ T Fv P PR q c w) (bnd (hm_Te_make N u 0 (I ((s : Nat) : Int))) (fun u30 r30 => bnd (hm_Ma_tell N u30 q 1 18 r30) (fun u31 _ => some (u31, ())))) := by
    rw [lit0q, e_make, bnd_so, lit1q, I_lit (n := 18), tell_e, bnd_so]
    exact ok_some.mpr (er (GT_0c M.1.2.1 ⟨by omega, by omega⟩) (Or.inr ⟨by decide, by decide⟩) (Or.inl rfl))
  refine k_eq ⟨by omega, by omega⟩ ⟨by omega, by omega⟩ (fun eas => ?_) (fun _ => br4)
  have eas : a = s := by omega
  subst eas
  rw [opd2 M (by omega), bnd_so]
  refine ok_bnd.mpr (ok_mono (beginsc_ok (N := N) (c := c) M t9 t8 (hla.imp id (fun z => z.1))) (fun w1 r hw1 => ?_))
  rcases hw1 with ⟨rfl, o⟩ | ⟨rfl, f1, e1, hlt, hj, r1⟩
  · exact ok_br.mpr ⟨fun _ => ok_some.mpr o, fun z => absurd z (by decide)⟩
  refine ok_br.mpr ⟨fun z => absurd z (by decide), fun _ => ?_⟩
  have p1 : PTQ w1 q n ow kd Fv P (nb + m) (wb + h) Y := PTQ_same p (fun k hk => f1.2.2.2.2.1 q k (by simp at hk; omega) (fun _ => by simp at hk ⊢; omega)) (fun k _ => by rw [r1])
  refine ok_bnd.mpr (ok_mono (takeOut_t (N := N) (s := a) p1 (by omega)) (fun w2 _ hw2 => ?_))
  obtain ⟨f2, p2⟩ := hw2
  have s1 : SCQ u w1 := SCQ_f f1 (by simp) (by simp)
  have s2 : SCQ w1 w2 := SCQ_f f2 (by simp) (by simp)
  have s12 : SCQ u w2 := ⟨fun k hk => (s2.1 k hk).trans (s1.1 k hk), fun k hk => (s2.2 k hk).trans (s1.2 k hk)⟩
  have wt := WFT_s s12 M.1.2.2.1
  obtain ⟨-, te2, fn, tf⟩ := tinf w2 q s12
  rw [tf, bnd_so, te2, bnd_so]
  have a5' : F w2 1105 = ((i : Nat) : Int) := by rw [f2.Fg (by omega) (by simp), f1.Fg (by omega) (by simp)]; exact M.2.2.2.1.2
  rw [I_F (k := 1105), a5', I_add, show ((i : Nat) : Int) + (OfNat.ofNat 3 : Int) = ((i + 3 : Nat) : Int) by show _ + (3 : Int) = _; omega]
  have st1 := STc_s (w := w1) M.2.2.1 (f1.2.2.2.2.2.2.1 q 30 (by omega) (by simp)) (f1.2.2.2.2.2.2.1 q 37 (by omega) (by simp)) (f1.2.2.2.2.1 q 21 (by omega) (by simp)) (f1.2.2.2.2.1 q 28 (by omega) (by simp))
  have st2 := STc_s (w := w2) st1 (f2.2.2.2.2.2.2.1 q 30 (by omega) (by simp)) (f2.2.2.2.2.2.2.1 q 37 (by omega) (by simp)) (f2.2.2.2.2.1 q 21 (by omega) (by simp)) (f2.2.2.2.2.1 q 28 (by omega) (by simp))
  have ln1 := LNB_k (MI_ln M) f1 (by simp)
  have ln2 := LNB_k ln1 f2 (by simp)
  rw [show wb + h - 1 = wb + (h - 1) by omega] at p2
  have c2 : w2.2.2.2 (pq q 2) = u.2.2.2 (pq q 2) := by rw [f2.jq (by omega) (by simp), r1]
  have fin : ∀ {w : MS} {rk2 : Nat}, ENQ T Fv P q n ow kd Y a e rk2 w2 w → rk2 ≤ rk + potc T i 0 (F u (pq q 8)).toNat → OK (fun w _ => OPQ T Fv P PR q c w) (bnd (hm_Ma_hold N w q q (pq q 2) ft) (fun u29 _ => some (u29, ()))) := fun {w rk2} en hrk => by
    have f3 := en.1
    obtain ⟨j', wb', nb', cb', rk', st', p', hrk', hnb⟩ := en.2.2
    have c3 : w.2.2.2 (pq q 2) = u.2.2.2 (pq q 2) := by rw [f3.jq (by omega) (by simp)]; exact c2
    have s3 : SCQ w2 w := SCQ_f f3 (by simp) (by simp)
    have s13 : SCQ u w := ⟨fun k hk => (s3.1 k hk).trans (s12.1 k hk), fun k hk => (s3.2 k hk).trans (s12.2 k hk)⟩
    refine ok_bnd.mpr (ok_mono (hold_ok (N := N) (q := q) (k := k) p' (LNB_k ln2 f3 (by simp)) g0 e3 (by omega) teb.2.1.2.1 ?_ hN) (fun w4 _ hw4 => ok_some.mpr ?_))
    · rw [c3, s13.F (k := 449) (by simp), s13.A (k := 32) (by simp), s13.A (k := 23) (by simp)]; exact inf
    · obtain ⟨f4, p4, l4⟩ := hw4
      refine fin_call (k := k) M t9 t8 hf f1 e1 hlt f2 en hrk f4 (fun B W pp => ?_) l4 te
      have e1 : B = nb' := by have := pp.2.1.1; have := p'.2.1.1; omega
      have e2 : W = wb' + a := by have := pp.2.2.1.1; have := p'.2.2.1.1; omega
      rw [e1, e2]; exact p4
  rcases hla with rfl | ⟨rfl, rfl⟩
  · refine ok_bnd.mpr (ok_mono (enter0_ok (N := N) (rk2 := rk + 32 * cKc T (i + 3) 24000) wt st2 (hj rfl) p2 (by omega) (by rw [show h - 1 - a = h - a - 1 by omega]; exact fl) (by rw [show h - 1 - a + 1 = h - a by omega]; exact t2) teb.1.2 (Nat.le_refl _)) (fun w _ hw => fin hw ?_))
    have := pot_x (j := i + 3) (t := (F u (pq q 8)).toNat) M.2.2.2.1.1 mb.1.2 (by omega)
    unfold potc at this ⊢
    rw [if_pos rfl] at this ⊢
    rw [if_pos rfl] at this
    omega
  · exact ok_bnd.mpr (ok_mono (enter1_ok (N := N) (rk2 := rk) wt st2 p2 (by omega) teb.1.2 (Nat.le_refl _)) (fun w _ hw => fin hw (by omega)))
end
end
section
set_option maxRecDepth 100000
section
variable {T : Nat → Option (Nat × Nat × List Nat × Nat × Nat)} {Fv : Int64 → Int64 → Prop} {P : Int64 → Prop} {u v w w1 : MS} {PR N q r n B W Y i h m g x j wb nb cb rk c f i2 h2 m2 g2 x2 j2 wb2 nb2 cb2 rk2 k a U d b e s l : Nat} {L L2 : List Nat} {ow kd : Nat → Nat} {t rest : Int64} {gi gl ga ki kl ka kj : List Nat}
theorem ENT_lt : ∀ {L : List Nat}, (∀ a, a < 4 * (cb + L.length) → A w (pq q 37) a = A u (pq q 37) a) → ENTc T u q c wb nb cb L → ENTc T w q c wb nb cb L
  | [], _, _ => trivial
  | t :: L, e, hh => by
    have el : (t :: L).length = L.length + 1 := rfl
    rw [el] at e
    obtain ⟨⟨a, b, c1, c2, c3, c4, c5⟩, d⟩ := hh
    exact ⟨⟨a, b, c1, by rw [e _ (by omega)]; exact c2, by rw [e _ (by omega)]; exact c3, by rw [e _ (by omega)]; exact c4, by rw [e _ (by omega)]; exact c5⟩, ENT_lt (fun a ha => e a (by omega)) d⟩
theorem FBc_lt (h0 : w.2.2.1 (pq q 30) = u.2.2.1 (pq q 30)) : ∀ {j wb nb cb rk : Nat}, (∀ a, a < 4 * cb → A w (pq q 37) a = A u (pq q 37) a) → FBc T u q j wb nb cb rk → FBc T w q j wb nb cb rk
  | 0, _, _, _, _, _, hh => hh
  | j + 1, wb, nb, cb, rk, e, hh => by
    have e0 : ∀ k, A w (pq q 30) k = A u (pq q 30) k := fun k => by show (w.2.2.1 (pq q 30) k).toInt = _; rw [h0]; rfl
    obtain ⟨wb0, nb0, cb0, rk0, h, m, L, a, b1, b2, b3, b4, b5, b6, b7, b8, b9, b9b, b10⟩ := hh
    exact ⟨wb0, nb0, cb0, rk0, h, m, L, a, FBc_lt h0 (fun a ha => e a (by omega)) b1, by rw [e0]; exact b2, by rw [e0]; exact b3, by rw [e0]; exact b4, b5, b6, b7, b8, b9, b9b, ENT_lt (fun a ha => e a (by omega)) b10⟩
def s37 (u : MS) (q k : Nat) (z : Int32) : MS := upA u (pq q 37) (upd (u.2.2.1 (pq q 37)) k z)
theorem s37_a {z : Int32} : A (s37 u q k z) (pq q 37) a = if a = k then z.toInt else A u (pq q 37) a := by
  show ((if pq q 37 = pq q 37 then upd (u.2.2.1 (pq q 37)) k z else u.2.2.1 (pq q 37)) a).toInt = _
  rw [if_pos rfl]
  unfold upd
  by_cases e : a = k
  · rw [if_pos e, if_pos e]
  · rw [if_neg e, if_neg e]; rfl
theorem s37_e {z : Int32} : upA u (pq q 37) (upd (u.2.2.1 (pq q 37)) k z) = s37 u q k z := rfl
theorem pow32_s {a l : Nat} (h : l = 32 * 2 ^ a) : 2 * l = 32 * 2 ^ (a + 1) := by rw [Nat.pow_succ]; omega
theorem catchTo_ok {z : Int32} (ln : LNB u q) (h28 : F u (pq q 28) = ((k : Nat) : Int)) (hk : k ≤ 1500) : OK (fun w _ => FC q [] [] [] [28, 47] [] [37] [] u w ∧ w.2.2.2 = u.2.2.2 ∧ F w (pq q 28) = ((k + 1 : Nat) : Int) ∧ LNB w q ∧ (∀ a, a < 4 * k → A w (pq q 37) a = A u (pq q 37) a) ∧ A w (pq q 37) (4 * k) = F u (pq q 21) ∧ A w (pq q 37) (4 * k + 1) = F u (pq q 24) ∧ A w (pq q 37) (4 * k + 2) = F u (pq q 26) ∧ A w (pq q 37) (4 * k + 3) = z.toInt) (hm_Fr_catchTo N u q z) := by
  unfold hm_Fr_catchTo hb_Fr_catchTo_0
  have main : ∀ u1, FC q [] [] [] [28, 47] [] [37] [] u u1 → u1.2.2.2 = u.2.2.2 → (∀ k, k ≠ 47 → k < 100 → u1.1 (pq q k) = u.1 (pq q k)) → LNB u1 q → 4 * ((k : Nat) : Int) < F u1 (pq q 47) → (∀ a, a < 4 * k → A u1 (pq q 37) a = A u (pq q 37) a) → OK (fun w _ => FC q [] [] [] [28, 47] [] [37] [] u w ∧ w.2.2.2 = u.2.2.2 ∧ F w (pq q 28) = ((k + 1 : Nat) : Int) ∧ LNB w q ∧ (∀ a, a < 4 * k → A w (pq q 37) a = A u (pq q 37) a) ∧ A w (pq q 37) (4 * k) = F u (pq q 21) ∧ A w (pq q 37) (4 * k + 1) = F u (pq q 24) ∧ A w (pq q 37) (4 * k + 2) = F u (pq q 26) ∧ A w (pq q 37) (4 * k + 3) = z.toInt) (hb_Fr_catchTo_34 N () u1 q z (I ((4 * k : Nat) : Int))) := by
    intro u1 f j4 o1 l1 hlt rA
    obtain ⟨l, l2, l3, l4, l5⟩ := LNB_47 l1
    unfold hb_Fr_catchTo_34
    rw [lnQ_e l2]
    refine e_in ⟨by omega, by omega⟩ (by omega) (ok_lt.mpr ?_)
    rw [tnI (n := 4 * k) rfl (by omega), s37_e, lit1q, I_add, show lnQ (s37 u1 q (4 * k) (u1.1 (pq q 21))) q 47 = l from lnQ_e l2]
    refine e_in ⟨by omega, by omega⟩ (by omega) (ok_lt.mpr ?_)
    rw [tnI (n := 4 * k + 1) (by omega) (by omega), s37_e, I_lit (n := 2), I_add, show ∀ z, lnQ (s37 (s37 u1 q (4 * k) (u1.1 (pq q 21))) q (4 * k + 1) z) q 47 = l from fun z => lnQ_e l2]
    refine e_in ⟨by show 0 ≤ _ + (2 : Int); omega, by show _ + (2 : Int) < _; omega⟩ (by omega) (ok_lt.mpr ?_)
    rw [tnI (n := 4 * k + 2) (by show _ + (2 : Int) = _; omega) (by omega), s37_e, I_lit (n := 3), I_add, show ∀ z z2, lnQ (s37 (s37 (s37 u1 q (4 * k) (u1.1 (pq q 21))) q (4 * k + 1) z) q (4 * k + 2) z2) q 47 = l from fun z z2 => lnQ_e l2]
    refine e_in ⟨by show 0 ≤ _ + (3 : Int); omega, by show _ + (3 : Int) < _; omega⟩ (by omega) (ok_lt.mpr (ok_lt.mpr (ok_some.mpr ?_)))
    rw [tnI (n := 4 * k + 3) (by show _ + (3 : Int) = _; omega) (by omega), s37_e]
    have i21 : (u1.1 (pq q 21)) = u.1 (pq q 21) := o1 21 (by omega) (by omega)
    have i24 : (s37 u1 q (4 * k) (u1.1 (pq q 21))).1 (pq q 24) = u.1 (pq q 24) := o1 24 (by omega) (by omega)
    rw [i24]
    have i26 : (s37 (s37 u1 q (4 * k) (u1.1 (pq q 21))) q (4 * k + 1) (u.1 (pq q 24))).1 (pq q 26) = u.1 (pq q 26) := o1 26 (by omega) (by omega)
    rw [i26, i21]
    have i28 : (s37 (s37 (s37 (s37 u1 q (4 * k) (u.1 (pq q 21))) q (4 * k + 1) (u.1 (pq q 24))) q (4 * k + 2) (u.1 (pq q 26))) q (4 * k + 3) z).1 (pq q 28) = I ((k : Nat) : Int) := by
      show u1.1 (pq q 28) = _
      rw [o1 28 (by omega) (by omega), I_F, h28]
    rw [i28, I_add, show ((k : Nat) : Int) + 1 = ((k + 1 : Nat) : Int) by omega, wi_e]
    have fA : ∀ {x : MS} {k : Nat} {z : Int32}, FC q [] [] [] [28, 47] [] [37] [] u x → FC q [] [] [] [28, 47] [] [37] [] u (s37 x q k z) := fun f => FC.A_q f (by omega) (by simp)
    have fz := fA (k := 4 * k + 3) (z := z) (fA (k := 4 * k + 2) (z := u.1 (pq q 26)) (fA (k := 4 * k + 1) (z := u.1 (pq q 24)) (fA (k := 4 * k) (z := u.1 (pq q 21)) f)))
    have zA : ∀ a, A (s37 (s37 (s37 (s37 u1 q (4 * k) (u.1 (pq q 21))) q (4 * k + 1) (u.1 (pq q 24))) q (4 * k + 2) (u.1 (pq q 26))) q (4 * k + 3) z) (pq q 37) a = if a = 4 * k + 3 then z.toInt else if a = 4 * k + 2 then F u (pq q 26) else if a = 4 * k + 1 then F u (pq q 24) else if a = 4 * k then F u (pq q 21) else A u1 (pq q 37) a := fun a => by
      rw [s37_a, s37_a, s37_a, s37_a]; rfl
    have z1 : (s37 (s37 (s37 (s37 u1 q (4 * k) (u.1 (pq q 21))) q (4 * k + 1) (u.1 (pq q 24))) q (4 * k + 2) (u.1 (pq q 26))) q (4 * k + 3) z).1 = u1.1 := rfl
    have z4 : (s37 (s37 (s37 (s37 u1 q (4 * k) (u.1 (pq q 21))) q (4 * k + 1) (u.1 (pq q 24))) q (4 * k + 2) (u.1 (pq q 26))) q (4 * k + 3) z).2.2.2 = u1.2.2.2 := rfl
    generalize s37 (s37 (s37 (s37 u1 q (4 * k) (u.1 (pq q 21))) q (4 * k + 1) (u.1 (pq q 24))) q (4 * k + 2) (u.1 (pq q 26))) q (4 * k + 3) z = y at fz zA z1 z4 ⊢
    have f2 : FC q [] [] [] [28, 47] [] [37] [] u (wi y (pq q 28) ((k + 1 : Nat) : Int)) := FC.wi_q fz (by omega) (by simp)
    have qA : ∀ a, A (wi y (pq q 28) ((k + 1 : Nat) : Int)) (pq q 37) a = A y (pq q 37) a := fun _ => rfl
    have lny : LNB y q := LNB_fc l1 (fun k _ => by rw [z1])
    have e47 : F (wi y (pq q 28) ((k + 1 : Nat) : Int)) (pq q 47) = ((l : Nat) : Int) := by
      rw [F_wi (by omega) (by omega), if_neg (pq_inj (by decide))]
      show (y.1 (pq q 47)).toInt = _
      rw [z1]; exact l2
    refine ⟨f2, z4.trans j4, by rw [F_wi (by omega) (by omega), if_pos rfl], ?_, fun a ha => ?_, ?_, ?_, ?_, ?_⟩
    · refine LNB_28 lny (fun k hk => if_neg (pq_inj (by simp at hk; omega))) ?_
      rw [F_wi (by omega) (by omega), if_pos rfl, show F y (pq q 47) = ((l : Nat) : Int) by show (y.1 (pq q 47)).toInt = _; rw [z1]; exact l2]
      have : 4 * k < l := by omega
      omega
    · rw [qA, zA, if_neg (by omega), if_neg (by omega), if_neg (by omega), if_neg (by omega)]; exact rA a ha
    · rw [qA, zA, if_neg (by omega), if_neg (by omega), if_neg (by omega), if_pos rfl]
    · rw [qA, zA, if_neg (by omega), if_neg (by omega), if_pos rfl]
    · rw [qA, zA, if_neg (by omega), if_pos rfl]
    · rw [qA, zA, if_pos rfl]
  obtain ⟨l, l1, l2, l3, l4⟩ := LNB_47 ln
  have hl := LNB_c ln
  rw [h28] at hl
  rw [I_F (k := pq q 28), h28, I_lit (n := 4), I_mul, show ((k : Nat) : Int) * (OfNat.ofNat 4 : Int) = ((4 * k : Nat) : Int) by show _ * (4 : Int) = _; omega, I_F (k := pq q 47)]
  refine k_lt ⟨by omega, by omega⟩ (FRG1 u _) (fun hh => main u FC.rf rfl (fun _ _ _ => rfl) ln (by omega) (fun _ _ => rfl)) (fun hh => ?_)
  rw [l1]
  refine ok_ck.mpr ⟨grw_I ⟨by omega, by omega⟩, ok_lt.mpr ?_⟩
  obtain ⟨g, g1, g2⟩ := gI_e (j := 37) l1 (by omega)
  rw [g1]
  have f2 : FC q [] [] [] [28, 47] [] [37] [] u (wi (upA u (pq q 37) g) (pq q 47) ((2 * l : Nat) : Int)) := FC.wi_q (FC.A_q FC.rf (by omega) (by simp)) (by omega) (by simp)
  have e47 : F (wi (upA u (pq q 37) g) (pq q 47) ((2 * l : Nat) : Int)) (pq q 47) = ((2 * l : Nat) : Int) := by rw [F_wi (by omega) (by omega), if_pos rfl]
  have o1 : ∀ k, k ≠ 47 → k < 100 → (wi (upA u (pq q 37) g) (pq q 47) ((2 * l : Nat) : Int)).1 (pq q k) = u.1 (pq q k) := fun k hk hk2 => if_neg (fun e => hk (pq_e hk2 (by omega) e).2)
  refine main _ f2 rfl o1 ?_ (by rw [e47]; omega) (fun a ha => ?_)
  · obtain ⟨n1, n2, a, a1, a2, -⟩ := ln
    have ea : l = 32 * 2 ^ a := by omega
    have oF : ∀ k, k ≠ 47 → k < 100 → F (wi (upA u (pq q 37) g) (pq q 47) ((2 * l : Nat) : Int)) (pq q k) = F u (pq q k) := fun k h1 h2 => congrArg _ (o1 k h1 h2)
    refine ⟨by rw [oF 45 (by omega) (by omega)]; exact n1, by rw [oF 43 (by omega) (by omega), oF 42 (by omega) (by omega)]; exact n2, a + 1, ?_, by rw [e47, pow32_s ea], by rw [oF 28 (by omega) (by omega), e47, h28]; omega⟩
    rcases Nat.lt_or_ge a 8 with h9 | h9
    · omega
    · have : a = 8 := by omega
      subst this
      have e : 2 ^ 8 = 256 := rfl
      omega
  · show ((if pq q 37 = pq q 37 then g else u.2.2.1 (pq q 37)) a).toInt = _
    rw [if_pos rfl, g2 a (by omega)]; rfl
end
end
section
set_option maxRecDepth 100000
section
variable {T : Nat → Option (Nat × Nat × List Nat × Nat × Nat)} {Fv : Int64 → Int64 → Prop} {P : Int64 → Prop} {u v w w1 : MS} {PR N q r n B W Y i h m g x j wb nb cb rk c f i2 h2 m2 g2 x2 j2 wb2 nb2 cb2 rk2 k a U d b e s l : Nat} {L L2 : List Nat} {ow kd : Nat → Nat} {t rest : Int64} {gi gl ga ki kl ka kj : List Nat}
theorem SMQ_f (M : MIc T Fv P PR q u i h m L g x j wb nb cb rk) (f : FC q gi gl ga ki kl ka kj u w) (h1 : ∀ k, k ∈ [7, 8, 15] → k ∉ ki) : SMQ w q := SMQ_up (M.1.1.2 q M.1.2.2.2.2.2.2.1).1 (f.Fq (by omega) (h1 15 (by simp))) (f.Fq (by omega) (h1 8 (by simp))) (by rw [f.Fq (by omega) (h1 7 (by simp))]; exact Int.le_refl _) (by rw [M.2.1]; decide)
theorem GD0 (M : MIc T Fv P PR q u i h m L 0 x j wb nb cb rk) (f : FC q gi gl ga ki kl ka kj u w) (h1 : 1112 ∉ gi) {wb2 : Nat} : GDS T w 0 wb2 := ⟨fun _ => by rw [f.Fg (by omega) h1]; exact M.2.2.2.2.2.1.1 rfl, fun z => absurd rfl z⟩
theorem BEGc (M : MIc T Fv P PR q u i h m L g x j wb nb cb rk) (f : FC q gi gl ga ki kl ka kj u w) (h1 : 1106 ∉ gi) (h2 : 1107 ∉ gi) : 0 ≤ F w 1106 ∧ F w 1106 ≤ F w 1107 ∧ F w 1107 ≤ 500 := by
  rw [f.Fg (by omega) h1, f.Fg (by omega) h2]; exact M.1.2.2.2.2.2.2.2
theorem pot_t0 {t t2 : Nat} : potc T i 0 t = potc T i 0 t2 := by unfold potc; rw [if_pos rfl, if_pos rfl]
theorem NRM_n (M2 : MIc T Fv P PR q w i2 h2 m2 L2 g2 x2 j wb nb cb rk2) (hf : PHc T u q i x rk ≤ c) (h1 : F w 1106 = F u 1106) (h2 : F w 1107 = F u 1107) (h3 : rk2 + potc T i2 x2 (F w (pq q 8)).toNat < rk + potc T i x (F u (pq q 8)).toNat) (s9 : F w 1109 = 0) (s8 : F w 1108 = 0) : OPQ T Fv P PR q c w := by
  refine Or.inl ⟨⟨_, _, _, _, _, _, _, _, _, _, _, M2, ?_⟩, s9, s8⟩
  unfold PHc at hf ⊢
  rw [h1, h2]; omega
theorem catch_okc {tg : Nat} (M : MIc T Fv P PR q u i h m L 0 0 j wb nb cb rk) (t9 : F u 1109 = 0) (t8 : F u 1108 = 0) (hf : PHc T u q i 0 rk ≤ c) (tt : T tg = some (h + 1, m, L, 0, 0)) (t2 : T (i + 2) = some (h, m, tg :: L, 0, 0)) : OK (fun w _ => OPQ T Fv P PR q c w) (bnd (hm_Fr_catchTo N u q (I ((tg : Nat) : Int))) (fun u48 _ => lt (upI u48 1105 ((u48.1 1105) + 2)) (fun w51 => some (w51, ())))) := by
  obtain ⟨n, ow, kd, Y, p⟩ := MI_p M
  have mb := MI_b M
  have ln := MI_ln M
  have w2b := (M.1.2.2.1 _ _ _ _ _ _ t2).1
  have wtb := (M.1.2.2.1 _ _ _ _ _ _ tt).1
  have st := M.2.2.1
  refine ok_bnd.mpr (ok_mono (catchTo_ok (N := N) (k := cb + L.length) ln st.2.2.2.1 (by omega)) (fun w1 _ hw1 => ok_lt.mpr (ok_some.mpr ?_)))
  obtain ⟨f1, j1, e28, ln1, rA, r0, r1, r2, r3⟩ := hw1
  have e5 : F w1 1105 = ((i : Nat) : Int) := by rw [f1.Fg (by omega) (by simp)]; exact M.2.2.2.1.2
  rw [I_lit (n := 2), at_e e5, show ((i : Nat) : Int) + (OfNat.ofNat 2 : Int) = ((i + 2 : Nat) : Int) by show _ + (2 : Int) = _; omega]
  have f2 : FC q [1105] [] [] [28, 47] [] [37] [] u (wi w1 1105 ((i + 2 : Nat) : Int)) := FC.wi_g (FC.mo f1 (by simp) (by simp) (by simp) (by simp) (by simp) (by simp) (by simp)) (by omega) (by simp)
  have qA : ∀ k a, A (wi w1 1105 ((i + 2 : Nat) : Int)) k a = A w1 k a := fun _ _ => rfl
  have p2 : PTQ (wi w1 1105 ((i + 2 : Nat) : Int)) q n ow kd Fv P (nb + m) (wb + h) Y := PTQ_same p (fun k hk => f2.2.2.2.2.1 q k (by simp at hk; omega) (fun _ => by simp at hk ⊢; omega)) (fun k _ => by show w1.2.2.2 _ = _; rw [j1])
  have r30 : (wi w1 1105 ((i + 2 : Nat) : Int)).2.2.1 (pq q 30) = u.2.2.1 (pq q 30) := f2.2.2.2.2.2.2.1 q 30 (by omega) (by simp)
  have q30 : ∀ a, A (wi w1 1105 ((i + 2 : Nat) : Int)) (pq q 30) a = A u (pq q 30) a := fun a => f2.aq (by omega) (by simp)
  obtain ⟨s1, ⟨s2, s3⟩, ⟨s4, s5⟩, s6, s7⟩ := st
  have st2 : STc T (wi w1 1105 ((i + 2 : Nat) : Int)) q j wb nb cb rk (tg :: L) := by
    refine ⟨FBc_lt r30 (fun a ha => by rw [qA]; exact rA a (by omega)) s1, ⟨by rw [f2.Fq (by omega) (by simp)]; exact s2, s3⟩, ⟨by rw [q30]; exact s4, by rw [q30]; exact s5⟩, ?_, ⟨h, m, tt, ?_, ?_, ?_, ?_⟩, ENT_lt (fun a ha => by rw [qA]; exact rA a ha) s7⟩
    · rw [F_wi (by omega) (by omega), if_neg (by unfold pq; omega), e28]; rfl
    · rw [qA, r0, s2]
    · rw [qA, r1, p.2.1.1]
    · rw [qA, r2, p.2.2.1.1]
    · rw [qA, r3, I_ti (by omega) (by omega)]
  have M2 : MIc T Fv P PR q (wi w1 1105 ((i + 2 : Nat) : Int)) (i + 2) h m (tg :: L) 0 0 j wb nb cb rk := MI_new M f2 (by simp) (by simp) (SMQ_f M f2 (by simp)) (by rw [f2.Fq (by omega) (by simp)]; exact M.2.1) p2 (LNB_g ln1 (by omega)) st2 t2 (at_F (by omega)) (GD0 M f2 (by simp)) (fun z => absurd rfl z) (fun z => absurd rfl z) (BEGc M f2 (by simp) (by simp))
  refine NRM_n M2 hf (f2.Fg (by omega) (by simp)) (f2.Fg (by omega) (by simp)) ?_ (by rw [f2.Fg (by omega) (by simp)]; exact t9) (by rw [f2.Fg (by omega) (by simp)]; exact t8)
  rw [f2.Fq (by omega) (by simp)]
  have := pot_x (j := i + 2) (t := (F u (pq q 8)).toNat) M.2.2.2.1.1 mb.1.2 (by omega)
  omega
theorem caught_okc {tg : Nat} (M : MIc T Fv P PR q u i h m (tg :: L) 0 x j wb nb cb rk) (hx : x < i) (t9 : F u 1109 = 0) (t8 : F u 1108 = 0) (hf : PHc T u q i x rk ≤ c) (t2 : T (i + 1) = some (h, m, L, 0, x)) : OPQ T Fv P PR q c (upI (upI u (pq q 28) ((u.1 (pq q 28)) - 1)) 1105 (((upI u (pq q 28) ((u.1 (pq q 28)) - 1)).1 1105) + 1)) := by
  obtain ⟨n, ow, kd, Y, p⟩ := MI_p M
  have mb := MI_b M
  have ln := MI_ln M
  have w2b := (M.1.2.2.1 _ _ _ _ _ _ t2).1
  obtain ⟨s1, ⟨s2, s3⟩, ⟨s4, s5⟩, s6, s7⟩ := M.2.2.1
  have el : (tg :: L).length = L.length + 1 := rfl
  rw [el] at s6 mb
  rw [I_F (k := pq q 28), s6, lit1q, I_sub, show ((cb + (L.length + 1) : Nat) : Int) - 1 = ((cb + L.length : Nat) : Int) by omega, wi_e]
  have e5 : F (wi u (pq q 28) ((cb + L.length : Nat) : Int)) 1105 = ((i : Nat) : Int) := by rw [F_wi (by omega) (by omega), if_neg (by unfold pq; omega)]; exact M.2.2.2.1.2
  rw [at_e e5, show ((i : Nat) : Int) + 1 = ((i + 1 : Nat) : Int) by omega]
  have f2 : FC q [1105] [] [] [28] [] [] [] u (wi (wi u (pq q 28) ((cb + L.length : Nat) : Int)) 1105 ((i + 1 : Nat) : Int)) := FC.wi_g (FC.wi_q FC.rf (by omega) (by simp)) (by omega) (by simp)
  have e28 : F (wi (wi u (pq q 28) ((cb + L.length : Nat) : Int)) 1105 ((i + 1 : Nat) : Int)) (pq q 28) = ((cb + L.length : Nat) : Int) := by rw [F_wi (by omega) (by omega), if_neg (by unfold pq; omega), F_wi (by omega) (by omega), if_pos rfl]
  have e5b : F (wi (wi u (pq q 28) ((cb + L.length : Nat) : Int)) 1105 ((i + 1 : Nat) : Int)) 1105 = ((i + 1 : Nat) : Int) := at_F (by omega)
  have p2 : PTQ (wi (wi u (pq q 28) ((cb + L.length : Nat) : Int)) 1105 ((i + 1 : Nat) : Int)) q n ow kd Fv P (nb + m) (wb + h) Y := PT_g (by omega) (PTQ_same p (fun k hk => if_neg (pq_inj (by simp at hk; omega))) (fun _ _ => rfl))
  generalize wi (wi u (pq q 28) ((cb + L.length : Nat) : Int)) 1105 ((i + 1 : Nat) : Int) = w at f2 e28 e5b p2 ⊢
  have r30 := f2.2.2.2.2.2.2.1 q 30 (by omega) (by simp)
  have r37 := f2.2.2.2.2.2.2.1 q 37 (by omega) (by simp)
  have hl := LNB_c ln
  have M2 : MIc T Fv P PR q w (i + 1) h m L 0 x j wb nb cb rk := MI_new M f2 (by simp) (by simp) (SMQ_f M f2 (by simp)) (by rw [f2.Fq (by omega) (by simp)]; exact M.2.1) p2 (LNB_28 ln (fun k hk => f2.2.2.2.2.1 q k (by simp at hk; omega) (fun _ => by simp at hk ⊢; omega)) (by rw [e28]; omega)) ⟨FBc_s r30 r37 s1, ⟨by rw [f2.Fq (by omega) (by simp)]; exact s2, s3⟩, ⟨by rw [f2.aq (by omega) (by simp)]; exact s4, by rw [f2.aq (by omega) (by simp)]; exact s5⟩, e28, ENT_s r37 s7.2⟩ t2 e5b (GD0 M f2 (by simp)) (fun h1 _ => by rw [f2.Fq (by omega) (by simp), f2.Fq (by omega) (by simp)]; exact M.2.2.2.2.2.2.1 h1 (by omega)) (UN_k M.2.2.2.2.2.2.2 (f2.2.2.2.2.2.1 q 10 (by omega) (by simp)) (f2.2.2.1 23 (by omega) (by simp))) (BEGc M f2 (by simp) (by simp))
  refine NRM_n M2 hf (f2.Fg (by omega) (by simp)) (f2.Fg (by omega) (by simp)) ?_ (by rw [f2.Fg (by omega) (by simp)]; exact t9) (by rw [f2.Fg (by omega) (by simp)]; exact t8)
  rw [f2.Fq (by omega) (by simp)]
  have := pot_x (j := i + 1) (t := (F u (pq q 8)).toNat) M.2.2.2.1.1 mb.1.2 (by omega)
  omega
theorem await_okc {y : Int32} (M : MIc T Fv P PR q u i h m L 0 0 j wb nb cb rk) (t9 : F u 1109 = 0) (t8 : F u 1108 = 0) (hf : PHc T u q i 0 rk ≤ c) (hy : (y = 1 ∧ A u 23 (i + 1) = 1 ∧ 1 ≤ h ∧ T (i + 2) = some (h - 1, m, L, 0, i + 2)) ∨ (y = 0 ∧ T (i + 2) = some (h, m, L, 0, i + 2))) : OK (fun w _ => OPQ T Fv P PR q c w) (hm_Ma_await N u q y) := by
  obtain ⟨n, ow, kd, Y, p⟩ := MI_p M
  have mb := MI_b M
  have ln := MI_ln M
  have Yb := PTQ_b p
  have w2b : i + 2 < 24000 := by
    rcases hy with ⟨-, -, -, z⟩ | ⟨-, z⟩ <;> exact (M.1.2.2.1 _ _ _ _ _ _ z).1.2
  unfold hm_Ma_await hb_Ma_await_0
  refine ok_lt.mpr (ok_lt.mpr ?_)
  rw [lit0q, wi_e, wl_e]
  have f1 : FC q [1105] [] [] [8, 26] [10] [] [] u (wl (wi u (pq q 8) 0) (pq q 10) (-1)) := FC.wl_q (FC.wi_q FC.rf (by omega) (by simp)) (by omega) (by simp)
  have e8 : F (wl (wi u (pq q 8) 0) (pq q 10) (-1)) (pq q 8) = 0 := by
    show F (wi u (pq q 8) 0) (pq q 8) = 0
    rw [F_wi (by decide) (by decide), if_pos rfl]
  have e10 : (wl (wi u (pq q 8) 0) (pq q 10) (-1)).2.1 (pq q 10) = -1 := if_pos rfl
  have e26 : F (wl (wi u (pq q 8) 0) (pq q 10) (-1)) (pq q 26) = ((wb + h : Nat) : Int) := by
    show F (wi u (pq q 8) 0) (pq q 26) = _
    rw [F_wi (by decide) (by decide), if_neg (pq_inj (by decide))]; exact p.2.2.1.1
  have p1 : PTQ (wl (wi u (pq q 8) 0) (pq q 10) (-1)) q n ow kd Fv P (nb + m) (wb + h) Y := PTQ_same p (fun k hk => if_neg (pq_inj (by simp at hk; omega))) (fun _ _ => rfl)
  have a5 : F (wl (wi u (pq q 8) 0) (pq q 10) (-1)) 1105 = ((i : Nat) : Int) := by
    show F (wi u (pq q 8) 0) 1105 = _
    rw [F_wi (by decide) (by decide), if_neg (by unfold pq; omega)]; exact M.2.2.2.1.2
  generalize wl (wi u (pq q 8) 0) (pq q 10) (-1) = w1 at f1 e8 e10 e26 p1 a5 ⊢
  have mkM : ∀ {w : MS} {i2 h2 x2 : Nat}, FC q [1105] [] [] [8, 26] [10] [] [] u w → F w (pq q 8) = 0 → PTQ w q n ow kd Fv P (nb + m) (wb + h2) Y → F w 1105 = ((i2 : Nat) : Int) → T i2 = some (h2, m, L, 0, x2) → (x2 = 0 ∨ x2 = i2) → UNc w q x2 → MIc T Fv P PR q w i2 h2 m L 0 x2 j wb nb cb rk := fun {w i2 h2 x2} f e8 p2 e t2 hx2 hu => by
    refine MI_new M f (by simp) (by simp) ?_ (by rw [f.Fq (by omega) (by simp)]; exact M.2.1) p2 (LNB_k ln f (by simp)) (STc_s M.2.2.1 (f.2.2.2.2.2.2.1 q 30 (by omega) (by simp)) (f.2.2.2.2.2.2.1 q 37 (by omega) (by simp)) (f.2.2.2.2.1 q 21 (by omega) (by simp)) (f.2.2.2.2.1 q 28 (by omega) (by simp))) t2 e (GD0 M f (by simp)) (fun h1 h2 => by rcases hx2 with z | z <;> exact absurd z (by assumption)) hu (BEGc M f (by simp) (by simp))
    have sm := (M.1.1.2 q M.1.2.2.2.2.2.2.1).1
    refine ⟨by rw [f.Fq (by omega) (by simp)]; exact sm.1, by rw [e8]; decide, fun _ => ?_⟩
    rw [e8, f.Fq (by omega) (by simp), p.2.2.2.1.1]; omega
  have fin : ∀ {w : MS} {h2 : Nat}, FC q [1105] [] [] [8, 26] [10] [] [] u w → F w (pq q 8) = 0 → PTQ w q n ow kd Fv P (nb + m) (wb + h2) Y → F w 1105 = ((i : Nat) : Int) → T (i + 2) = some (h2, m, L, 0, i + 2) → UNc w q (i + 2) → OK (fun w _ => OPQ T Fv P PR q c w) (hb_Ma_await_104 N () w q) := fun {w h2} f e8 p2 e t2 hu => by
    unfold hb_Ma_await_104
    refine ok_lt.mpr (ok_some.mpr ?_)
    rw [I_lit (n := 2), at_e e, show ((i : Nat) : Int) + (OfNat.ofNat 2 : Int) = ((i + 2 : Nat) : Int) by show _ + (2 : Int) = _; omega]
    have f3 : FC q [1105] [] [] [8, 26] [10] [] [] u (wi w 1105 ((i + 2 : Nat) : Int)) := FC.wi_g f (by omega) (by simp)
    have e83 : F (wi w 1105 ((i + 2 : Nat) : Int)) (pq q 8) = 0 := by rw [F_wi (by omega) (by omega), if_neg (by unfold pq; omega)]; exact e8
    refine NRM_n (mkM f3 e83 (PT_g (by omega) p2) (at_F (by omega)) t2 (Or.inr rfl) hu) hf (f3.Fg (by omega) (by simp)) (f3.Fg (by omega) (by simp)) ?_ (by rw [f3.Fg (by omega) (by simp)]; exact t9) (by rw [f3.Fg (by omega) (by simp)]; exact t8)
    rw [e83]
    have := pot_aw (t2 := (F u (pq q 8)).toNat) M.2.2.2.1.1 mb.1.2
    show rk + potc T (i + 2) (i + 2) 0 < _
    omega
  rcases hy with ⟨rfl, h0, h1, t2⟩ | ⟨rfl, t2⟩
  · refine ok_br.mpr ⟨fun z => absurd z (by decide), fun _ => ?_⟩
    have M1 := mkM f1 e8 p1 a5 M.2.2.2.1.1 (Or.inl rfl) (fun z => absurd rfl z)
    obtain ⟨b0, g0⟩ := below_0 (N := N) M1 p1 (by omega)
    have s9 : F w1 1109 = 0 := by rw [f1.Fg (by omega) (by simp)]; exact t9
    have s8 : F w1 1108 = 0 := by rw [f1.Fg (by omega) (by simp)]; exact t8
    have hf1 : PHc T w1 q i 0 rk ≤ c := by
      unfold PHc at hf ⊢
      rw [f1.Fg (k := 1107) (by omega) (by simp), f1.Fg (k := 1106) (by omega) (by simp), pot_t0 (t := (F w1 (pq q 8)).toNat) (t2 := (F u (pq q 8)).toNat)]
      exact hf
    have e96 : ∀ {w : MS}, FC q [1105] [] [] [8, 26] [10] [] [] u w → F w (pq q 8) = 0 → PTQ w q n ow kd Fv P (nb + m) (wb + h) Y → F w 1105 = ((i : Nat) : Int) → OK (fun w _ => OPQ T Fv P PR q c w) (hb_Ma_await_96 N () w q) := fun {w} f e8 p2 e => by
      unfold hb_Ma_await_96
      rw [lit1q, drop_e (x := 1) (k := 1) p2.2.2.1.1 rfl (by omega), bnd_so]
      obtain ⟨d1, d2⟩ := drop_t (k := 1) p2 (by omega)
      rw [show wb + h - 1 = wb + (h - 1) by omega] at d2 d1 ⊢
      refine fin (FC.wi_q f (by omega) (by simp)) (by rw [F_wi (by omega) (by omega), if_neg (pq_inj (by decide))]; exact e8) d2 (by rw [F_wi (by omega) (by omega), if_neg (by unfold pq; omega)]; exact e) t2 (fun _ y => ?_)
      rw [show i + 2 - 1 = i + 1 by omega] at y
      have : A u 23 (i + 1) = 0 := by rw [← y]; exact (f.ag (by omega) (by simp)).symm
      omega
    have e72 : ∀ v2 v4, OK (fun w _ => OPQ T Fv P PR q c w) (hb_Ma_await_72 N () w1 q v2 v4) := fun v2 v4 => by
      unfold hb_Ma_await_72
      refine ok_br.mpr ⟨fun _ => e96 f1 e8 p1 a5, fun _ => ok_lt.mpr ?_⟩
      rw [wl_e]
      exact e96 (FC.wl_q f1 (by omega) (by simp)) e8 (PTQ_same p1 (fun _ _ => rfl) (fun _ _ => rfl)) a5
    have e48 : ∀ v2 t0, OK (fun w _ => OPQ T Fv P PR q c w) (hb_Ma_await_48 N () w1 q v2 t0) := fun v2 t0 => by
      unfold hb_Ma_await_48
      refine ok_br.mpr ⟨fun _ => ?_, fun _ => e72 _ _⟩
      rw [I_lit (n := 10), atom_e, bnd_so]
      exact ok_br.mpr ⟨fun _ => e72 _ _, fun _ => ERR_o (a := 11) M1 s9 s8 hf1 (by omega)⟩
    rw [← lit0q, b0, bnd_so, e_tag, bnd_so]
    unfold hb_Ma_await_47
    exact ok_br.mpr ⟨fun _ => ok_br.mpr ⟨fun _ => e48 _ _, fun _ => e48 _ _⟩, fun _ => e48 _ _⟩
  · exact ok_br.mpr ⟨fun _ => fin f1 e8 p1 a5 t2 (fun _ _ => e10), fun z => absurd z (by decide)⟩
end
end
section
set_option maxRecDepth 100000
section
variable {T : Nat → Option (Nat × Nat × List Nat × Nat × Nat)} {Fv : Int64 → Int64 → Prop} {P : Int64 → Prop} {u v w w1 : MS} {PR N q r n B W Y i h m g x j wb nb cb rk c f i2 h2 m2 g2 x2 j2 wb2 nb2 cb2 rk2 k a U d b e s l : Nat} {L L2 : List Nat} {ow kd : Nat → Nat} {t rest : Int64} {gi gl ga ki kl ka kj : List Nat}
theorem isReady_no (h1 : F u (pq q 7) ≤ F u (pq q 8)) (h2 : u.2.1 (pq q 10) = -1) : hm_Wl_isReady N u q = some (u, 0) := by
  unfold hm_Wl_isReady hb_Wl_isReady_0 hb_Wl_isReady_35 hb_Wl_isReady_39 hb_Wl_isReady_40
  rw [h2, I_F (k := pq q 8), I_F (k := pq q 7), decL (FRG1 u _).1 (FRG1 u _).2 (FRG1 u _).1 (FRG1 u _).2, decide_eq_false (by omega), br_fq]
  rfl
theorem isReady_any : ∃ r, hm_Wl_isReady N u q = some (u, r) := by
  unfold hm_Wl_isReady hb_Wl_isReady_0 hb_Wl_isReady_35 hb_Wl_isReady_39 hb_Wl_isReady_40
  repeat' (first | exact ⟨_, rfl⟩ | apply br_any)
theorem MI_bx {Y2 : Nat} (M : MIc T Fv P PR q u i h m L 0 x j wb nb cb rk) (fc : FC q [1105] [] [] [7, 8] [10] [] [6] u w) (p2 : PTQ w q n ow kd Fv P (nb + m) (wb + h) Y2) (h8 : 0 ≤ F w (pq q 8) ∧ F w (pq q 8) ≤ ((Y2 : Nat) : Int)) (e : F w 1105 = ((i2 : Nat) : Int)) (t2 : T i2 = some (h, m, L, 0, x2)) (hx2 : x2 ≠ 0 → x2 ≠ i2 → F w (pq q 8) < F w (pq q 7)) (hu : UNc w q x2) : MIc T Fv P PR q w i2 h m L 0 x2 j wb nb cb rk := by
  refine MI_new M fc (by simp) (by simp) ?_ (by rw [fc.Fq (by omega) (by simp)]; exact M.2.1) p2 (LNB_k (MI_ln M) fc (by simp)) (STc_s M.2.2.1 (fc.2.2.2.2.2.2.1 q 30 (by omega) (by simp)) (fc.2.2.2.2.2.2.1 q 37 (by omega) (by simp)) (fc.2.2.2.2.1 q 21 (by omega) (by simp)) (fc.2.2.2.2.1 q 28 (by omega) (by simp))) t2 e (GD0 M fc (by simp)) hx2 hu (BEGc M fc (by simp) (by simp))
  have sm := (M.1.1.2 q M.1.2.2.2.2.2.2.1).1
  exact ⟨by rw [fc.Fq (by omega) (by simp)]; exact sm.1, h8.1, fun _ => by rw [p2.2.2.2.1.1]; exact h8.2⟩
theorem next_okc {y0 : Int} (M : MIc T Fv P PR q u i h m L 0 i j wb nb cb rk) (t9 : F u 1109 = 0) (t8 : F u 1108 = 0) (hf : PHc T u q i i rk ≤ c) (t2 : T (i + 2) = some (h, m, L, 0, i)) (hlt0 : A u 23 (i - 1) = 0 ∨ ∃ lt0 : Nat, y0 = ((lt0 : Nat) : Int) ∧ i < lt0 ∧ T lt0 = some (h, m, L, 0, 0)) : OK (fun w _ => OPQ T Fv P PR q c w) (hm_Ma_nextMessage N u q (I y0)) := by
  obtain ⟨n, ow, kd, Y, p⟩ := MI_p M
  have mb := MI_b M
  have ln := MI_ln M
  have Yb := PTQ_b p
  have w2b := (M.1.2.2.1 _ _ _ _ _ _ t2).1
  have sm := (M.1.1.2 q M.1.2.2.2.2.2.2.1).1
  have a5 := M.2.2.2.1.2
  have sm8 := sm.2.2 (by rw [M.2.1]; decide)
  have sm80 := sm.2.1
  have e7 := p.2.2.2.1.1
  unfold hm_Ma_nextMessage hb_Ma_nextMessage_0 hb_Ma_nextMessage_78
  rw [I_F (k := pq q 7), I_F (k := pq q 8)]
  refine k_le (FRG1 u _) (FRG1 u _) (fun hle => ?_) (fun hlt => ok_lt.mpr (ok_some.mpr ?_))
  · obtain ⟨r, hr, hr2⟩ : ∃ r, hm_Wl_isReady N u q = some (u, r) ∧ (A u 23 (i - 1) = 0 → r = 0) := by
      by_cases z : A u 23 (i - 1) = 0
      · exact ⟨0, isReady_no hle (M.2.2.2.2.2.2.2 (by omega) z), fun _ => rfl⟩
      · obtain ⟨r, hr⟩ := isReady_any (N := N) (u := u) (q := q)
        exact ⟨r, hr, fun y => absurd y z⟩
    rw [hr, bnd_so]
    refine ok_br.mpr ⟨fun _ => ok_lt.mpr (ok_some.mpr ?_), fun zr => ok_lt.mpr (ok_lt.mpr (ok_lt.mpr (ok_some.mpr ?_)))⟩
    · rw [lit1q, wi_e]
      have f1 : FC q [] [] [] [9] [] [] [] u (wi u (pq q 9) 1) := FC.wi_q FC.rf (by omega) (by simp)
      have e9 : F (wi u (pq q 9) 1) (pq q 9) = 1 := by rw [F_wi (by decide) (by decide), if_pos rfl]
      have p1 : PTQ (wi u (pq q 9) 1) q n ow kd Fv P (nb + m) (wb + h) Y := PTQ_same p (fun k hk => if_neg (pq_inj (by simp at hk; omega))) (fun _ _ => rfl)
      generalize wi u (pq q 9) 1 = w at f1 e9 p1 ⊢
      have smw : SMQ w q := ⟨by rw [f1.Fq (by omega) (by simp)]; exact sm.1, by rw [f1.Fq (by omega) (by simp)]; exact sm.2.1, fun _ => by rw [f1.Fq (by omega) (by simp), f1.Fq (by omega) (by simp)]; exact sm8⟩
      have dw : DWc Fv P PR w := DWc_fc M.1.1 f1 M.1.2.2.2.2.2.2.1 (by rw [M.2.1]; decide) (by rw [e9]; decide) smw ⟨n, ow, kd, _, _, Y, p1⟩ (by simp) (by simp)
      exact Or.inr (Or.inr (Or.inr ⟨GEN_f M.1 f1 dw (by simp) (by simp) (LNB_k ln f1 (by simp)), ⟨by rw [e9]; decide, fun z => by rw [e9] at z; exact absurd z (by decide)⟩, by rw [f1.Fg (by omega) (by simp)]; exact t9, i, h, m, L, i, j, wb, nb, cb, rk, STc_s M.2.2.1 (f1.2.2.2.2.2.2.1 q 30 (by omega) (by simp)) (f1.2.2.2.2.2.2.1 q 37 (by omega) (by simp)) (f1.2.2.2.2.1 q 21 (by omega) (by simp)) (f1.2.2.2.2.1 q 28 (by omega) (by simp)), ⟨M.2.2.2.1.1, by rw [f1.Fg (by omega) (by simp)]; exact a5⟩, Or.inr rfl, ⟨p1.2.2.1.1, p1.2.1.1⟩, UN_k M.2.2.2.2.2.2.2 (f1.2.2.2.2.2.1 q 10 (by omega) (by simp)) (f1.2.2.1 23 (by omega) (by simp))⟩))
    · obtain ⟨lt0, rfl, hl, tl⟩ : ∃ lt0 : Nat, y0 = ((lt0 : Nat) : Int) ∧ i < lt0 ∧ T lt0 = some (h, m, L, 0, 0) := by
        rcases hlt0 with z | z
        · rw [hr2 z] at zr; exact absurd zr (by decide)
        · exact z
      have wlb := (M.1.2.2.1 _ _ _ _ _ _ tl).1
      rw [lit0q, wi_e, wl_e, wi_e]
      have f1 : FC q [1105] [] [] [7, 8] [10] [] [6] u (wi (wl (wi u (pq q 8) 0) (pq q 10) (-1)) 1105 ((lt0 : Nat) : Int)) := FC.wi_g (FC.wl_q (FC.wi_q FC.rf (by omega) (by simp)) (by omega) (by simp)) (by omega) (by simp)
      have e8 : F (wi (wl (wi u (pq q 8) 0) (pq q 10) (-1)) 1105 ((lt0 : Nat) : Int)) (pq q 8) = 0 := by
        rw [F_wi (by omega) (by omega), if_neg (by unfold pq; omega)]
        show F (wi u (pq q 8) 0) (pq q 8) = 0
        rw [F_wi (by decide) (by decide), if_pos rfl]
      have p1 : PTQ (wi (wl (wi u (pq q 8) 0) (pq q 10) (-1)) 1105 ((lt0 : Nat) : Int)) q n ow kd Fv P (nb + m) (wb + h) Y := PT_g (by omega) (PTQ_same p (fun k hk => if_neg (pq_inj (by simp at hk; omega))) (fun _ _ => rfl))
      refine NRM_n (MI_bx M f1 p1 (by rw [e8]; omega) (at_F (by omega)) tl (fun z => absurd rfl z) (fun z => absurd rfl z)) hf (f1.Fg (by omega) (by simp)) (f1.Fg (by omega) (by simp)) ?_ (by rw [f1.Fg (by omega) (by simp)]; exact t9) (by rw [f1.Fg (by omega) (by simp)]; exact t8)
      have := pot_0 (t := (F u (pq q 8)).toNat) (t2 := (F (wi (wl (wi u (pq q 8) 0) (pq q 10) (-1)) 1105 ((lt0 : Nat) : Int)) (pq q 8)).toNat) M.2.2.2.1.1 mb.1.2 (Nat.le_refl _) hl
      omega
  · rw [I_lit (n := 2), at_e a5, show ((i : Nat) : Int) + (OfNat.ofNat 2 : Int) = ((i + 2 : Nat) : Int) by show _ + (2 : Int) = _; omega]
    have f1 : FC q [1105] [] [] [7, 8] [10] [] [6] u (wi u 1105 ((i + 2 : Nat) : Int)) := FC.wi_g FC.rf (by omega) (by simp)
    have e8 : F (wi u 1105 ((i + 2 : Nat) : Int)) (pq q 8) = F u (pq q 8) := by rw [F_wi (by omega) (by omega), if_neg (by unfold pq; omega)]
    have e7b : F (wi u 1105 ((i + 2 : Nat) : Int)) (pq q 7) = F u (pq q 7) := by rw [F_wi (by omega) (by omega), if_neg (by unfold pq; omega)]
    refine NRM_n (MI_bx M f1 (PT_g (by omega) p) (by rw [e8]; omega) (at_F (by omega)) t2 (fun _ _ => by rw [e8, e7b]; exact hlt) (UN_k M.2.2.2.2.2.2.2 rfl rfl)) hf (f1.Fg (by omega) (by simp)) (f1.Fg (by omega) (by simp)) ?_ (by rw [f1.Fg (by omega) (by simp)]; exact t9) (by rw [f1.Fg (by omega) (by simp)]; exact t8)
    rw [e8]
    have := pot_x (j := i + 2) (t := (F u (pq q 8)).toNat) M.2.2.2.1.1 mb.1.2 (by omega)
    omega
theorem take_okc (M : MIc T Fv P PR q u i h m L 0 x j wb nb cb rk) (hx : x < i) (t9 : F u 1109 = 0) (t8 : F u 1108 = 0) (hf : PHc T u q i x rk ≤ c) (hx0 : x ≠ 0) (t2 : T (i + 1) = some (h, m, L, 0, 0)) : OK (fun w _ => OPQ T Fv P PR q c w) (bnd (hm_Pr_takeMessage N u q) (fun u4 _ => lt (upI u4 1105 ((u4.1 1105) + 1)) (fun w7 => some (w7, ())))) := by
  obtain ⟨n, ow, kd, Y, p⟩ := MI_p M
  have mb := MI_b M
  have w2b := (M.1.2.2.1 _ _ _ _ _ _ t2).1
  have Yb := PTQ_b p
  have sm := (M.1.1.2 q M.1.2.2.2.2.2.2.1).1
  have xx := M.2.2.2.2.2.2.1 hx0 (by omega)
  have sm80 := sm.2.1
  have e7 := p.2.2.2.1.1
  obtain ⟨⟨p1, p2, p3⟩, ⟨p4, p5⟩, ⟨p6, p7⟩, ⟨p8, p9⟩, ⟨l, a1, a2⟩, ⟨l2, b1, b2⟩, cc⟩ := p
  refine ok_bnd.mpr ?_
  unfold hm_Pr_takeMessage hb_Pr_takeMessage_0 hb_Pr_takeMessage_53
  rw [I_F (k := pq q 7), I_F (k := pq q 8)]
  refine k_le (FRG1 u _) (FRG1 u _) (fun z => absurd z (by omega)) (fun _ => ?_)
  rw [lit1q, I_add, I_sub, I_sub]
  have r8 := F_r u (pq q 8)
  refine e_cp ⟨by omega, by omega, by omega, by omega, by omega⟩ (by decide) (by decide) (ok_lt.mpr (ok_lt.mpr (ok_lt.mpr (ok_lt.mpr (ok_some.mpr ?_)))))
  obtain ⟨tr, htr⟩ : ∃ tr : Nat, F u (pq q 8) = ((tr : Nat) : Int) := ⟨(F u (pq q 8)).toNat, by omega⟩
  rw [htr, e7]
  rw [tnI (n := tr + 1) (x := ((tr : Nat) : Int) + 1) (by omega) (by omega), tnI (n := tr) rfl (by omega), tnI (n := Y - tr - 1) (by omega) (by omega)]
  generalize hg : va_cpy (u.2.2.2 (pq q 6)) (u.2.2.2 (pq q 6)) (tr + 1) tr (Y - tr - 1) = gg
  have gg1 : ∀ k, k < Y - 1 → GT n ow kd P (gg k) := fun k hk => by
    rw [← hg]
    by_cases z : tr ≤ k
    · have := cpy_in (f := u.2.2.2 (pq q 6)) (g := u.2.2.2 (pq q 6)) (a := tr + 1) (c := tr) (k := Y - tr - 1) (j := k - tr) (by omega)
      rw [show tr + (k - tr) = k by omega] at this
      rw [this]; exact p9 _ (by omega)
    · rw [cpy_out (by omega)]; exact p9 k (by omega)
  rw [show (upJ u (pq q 6) gg).1 (pq q 7) = I ((Y : Nat) : Int) by show u.1 (pq q 7) = _; rw [I_F, e7], I_sub, show ((Y : Nat) : Int) - 1 = ((Y - 1 : Nat) : Int) by omega, wi_e, lit0q, wi_e, wl_e]
  refine ok_lt.mpr (ok_some.mpr ?_)
  have f1 : FC q [1105] [] [] [7, 8] [10] [] [6] u (wl (wi (wi (upJ u (pq q 6) gg) (pq q 7) ((Y - 1 : Nat) : Int)) (pq q 8) 0) (pq q 10) (-1)) := FC.wl_q (FC.wi_q (FC.wi_q (FC.J_q FC.rf (by omega) (by simp)) (by omega) (by simp)) (by omega) (by simp)) (by omega) (by simp)
  have e8 : F (wl (wi (wi (upJ u (pq q 6) gg) (pq q 7) ((Y - 1 : Nat) : Int)) (pq q 8) 0) (pq q 10) (-1)) (pq q 8) = 0 := by
    show F (wi _ (pq q 8) 0) (pq q 8) = 0
    rw [F_wi (by decide) (by decide), if_pos rfl]
  have e7b : F (wl (wi (wi (upJ u (pq q 6) gg) (pq q 7) ((Y - 1 : Nat) : Int)) (pq q 8) 0) (pq q 10) (-1)) (pq q 7) = ((Y - 1 : Nat) : Int) := by
    show F (wi _ (pq q 8) 0) (pq q 7) = _
    rw [F_wi (by decide) (by decide), if_neg (pq_inj (by decide)), F_wi (by omega) (by omega), if_pos rfl]
  have e5 : F (wl (wi (wi (upJ u (pq q 6) gg) (pq q 7) ((Y - 1 : Nat) : Int)) (pq q 8) 0) (pq q 10) (-1)) 1105 = ((i : Nat) : Int) := by
    show F (wi _ (pq q 8) 0) 1105 = _
    rw [F_wi (by decide) (by decide), if_neg (by unfold pq; omega), F_wi (by omega) (by omega), if_neg (by unfold pq; omega)]
    exact M.2.2.2.1.2
  have r6 : (wl (wi (wi (upJ u (pq q 6) gg) (pq q 7) ((Y - 1 : Nat) : Int)) (pq q 8) 0) (pq q 10) (-1)).2.2.2 (pq q 6) = gg := upJ_row
  generalize wl (wi (wi (upJ u (pq q 6) gg) (pq q 7) ((Y - 1 : Nat) : Int)) (pq q 8) 0) (pq q 10) (-1) = w at f1 e8 e7b e5 r6 ⊢
  have pw : PTQ w q n ow kd Fv P (nb + m) (wb + h) (Y - 1) := ⟨⟨by rw [f1.Fq (by omega) (by simp)]; exact p1, p2, by rw [f1.jq (by omega) (by simp)]; exact p3⟩, ⟨by rw [f1.Fq (by omega) (by simp)]; exact p4, by rw [f1.jq (by omega) (by simp)]; exact p5⟩, ⟨by rw [f1.Fq (by omega) (by simp)]; exact p6, by rw [f1.jq (by omega) (by simp)]; exact p7⟩, ⟨e7b, fun k hk => by rw [r6]; exact gg1 k hk⟩, ⟨l, by rw [f1.Fq (by omega) (by simp)]; exact a1, a2⟩, ⟨l2, by rw [f1.Fq (by omega) (by simp)]; exact b1, b2⟩, by omega⟩
  rw [at_e e5, show ((i : Nat) : Int) + 1 = ((i + 1 : Nat) : Int) by omega]
  have f2 : FC q [1105] [] [] [7, 8] [10] [] [6] u (wi w 1105 ((i + 1 : Nat) : Int)) := FC.wi_g f1 (by omega) (by simp)
  have e82 : F (wi w 1105 ((i + 1 : Nat) : Int)) (pq q 8) = 0 := by rw [F_wi (by omega) (by omega), if_neg (by unfold pq; omega)]; exact e8
  refine NRM_n (MI_bx M f2 (PT_g (by omega) pw) (by rw [e82]; omega) (at_F (by omega)) t2 (fun z => absurd rfl z) (fun z => absurd rfl z)) hf (f2.Fg (by omega) (by simp)) (f2.Fg (by omega) (by simp)) ?_ (by rw [f2.Fg (by omega) (by simp)]; exact t9) (by rw [f2.Fg (by omega) (by simp)]; exact t8)
  have := pot_0 (j := i + 1) (t := (F u (pq q 8)).toNat) (t2 := (F (wi w 1105 ((i + 1 : Nat) : Int)) (pq q 8)).toNat) M.2.2.2.1.1 mb.1.2 (by omega) (by omega)
  omega
theorem skip_okc (M : MIc T Fv P PR q u i h m L 0 x j wb nb cb rk) (hx : x < i) (t9 : F u 1109 = 0) (t8 : F u 1108 = 0) (hf : PHc T u q i x rk ≤ c) (hx0 : x ≠ 0) (t2 : T x = some (h, m, L, 0, x)) : OPQ T Fv P PR q c (upI (upI u (pq q 8) ((u.1 (pq q 8)) + 1)) 1105 (I ((x : Nat) : Int))) := by
  obtain ⟨n, ow, kd, Y, p⟩ := MI_p M
  have mb := MI_b M
  have Yb := PTQ_b p
  have sm := (M.1.1.2 q M.1.2.2.2.2.2.2.1).1
  have xx := M.2.2.2.2.2.2.1 hx0 (by omega)
  have sm80 := sm.2.1
  have e7 := p.2.2.2.1.1
  rw [I_F (k := pq q 8), lit1q, I_add, wi_e, wi_e]
  have f2 : FC q [1105] [] [] [7, 8] [10] [] [6] u (wi (wi u (pq q 8) (F u (pq q 8) + 1)) 1105 ((x : Nat) : Int)) := FC.wi_g (FC.wi_q FC.rf (by omega) (by simp)) (by omega) (by simp)
  have e8 : F (wi (wi u (pq q 8) (F u (pq q 8) + 1)) 1105 ((x : Nat) : Int)) (pq q 8) = F u (pq q 8) + 1 := by rw [F_wi (by omega) (by omega), if_neg (by unfold pq; omega), F_wi (by omega) (by omega), if_pos rfl]
  have p2 : PTQ (wi (wi u (pq q 8) (F u (pq q 8) + 1)) 1105 ((x : Nat) : Int)) q n ow kd Fv P (nb + m) (wb + h) Y := PT_g (by omega) (PTQ_same p (fun k hk => if_neg (pq_inj (by simp at hk; omega))) (fun _ _ => rfl))
  refine NRM_n (MI_bx M f2 p2 (by rw [e8]; omega) (at_F (by omega)) t2 (fun _ z => absurd rfl z) (UN_k M.2.2.2.2.2.2.2 rfl rfl)) hf (f2.Fg (by omega) (by simp)) (f2.Fg (by omega) (by simp)) ?_ (by rw [f2.Fg (by omega) (by simp)]; exact t9) (by rw [f2.Fg (by omega) (by simp)]; exact t8)
  rw [e8, show (F u (pq q 8) + 1).toNat = (F u (pq q 8)).toNat + 1 by omega]
  have := pot_sk (t := (F u (pq q 8)).toNat) M.2.2.2.1.1 mb.1.2 hx0 (by omega)
  omega
theorem returns_okc (M : MIc T Fv P PR q u i h m [] 0 0 j wb nb cb rk) (t9 : F u 1109 = 0) (t8 : F u 1108 = 0) (hf : PHc T u q i 0 rk ≤ c) (hh : 1 ≤ h) : OK (fun w _ => OPQ T Fv P PR q c w) (hm_Ma_returns N u q) := by
  obtain ⟨n, ow, kd, Y, p⟩ := MI_p M
  have mb := MI_b M
  have ln := MI_ln M
  obtain ⟨b0, g0⟩ := below_0 (N := N) M p (by omega)
  obtain ⟨s1, ⟨s2, s3⟩, ⟨s4, s5⟩, s6, s7⟩ := M.2.2.1
  unfold hm_Ma_returns hb_Ma_returns_0
  rw [I_F (k := pq q 21), s2, lit1q]
  refine k_lt ⟨by decide, by decide⟩ ⟨by omega, by omega⟩ (fun hj => ?_) (fun _ => ?_)
  · obtain ⟨jj, rfl⟩ : ∃ jj, j = jj + 1 := ⟨j - 1, by omega⟩
    rw [b0, bnd_so]
    generalize u.2.2.2 (pq q 35) (wb + h - 1) = tm at g0
    unfold hm_Fr_leave hb_Fr_leave_0
    refine ok_bnd.mpr (ok_bnd.mpr ?_)
    rw [I_F (k := pq q 21), s2, lit1q, I_sub, I_lit (n := 3), of_e (z := 3) (a := jj + 1) (k := 3) s2 s3 (by omega) (Nat.le_refl _) rfl (by omega), s5]
    refine ok_some.mpr (ok_lt.mpr ?_)
    rw [wi_e]
    obtain ⟨d1, d2⟩ := drop_t (k := h) p (by omega)
    rw [show wb + h - h = wb by omega] at d1 d2
    have y21 : F (wi u (pq q 26) ((wb : Nat) : Int)) (pq q 21) = ((jj + 1 + 1 : Nat) : Int) := by rw [F_wi (by omega) (by omega), if_neg (pq_inj (by decide))]; exact s2
    have yA : ∀ a, A (wi u (pq q 26) ((wb : Nat) : Int)) (pq q 30) a = A u (pq q 30) a := fun _ => rfl
    have f1 : FC q [1105] [] [] [21, 24, 26, 45] [] [] [35] u (wi u (pq q 26) ((wb : Nat) : Int)) := FC.wi_q FC.rf (by omega) (by simp)
    have ln1 : LNB (wi u (pq q 26) ((wb : Nat) : Int)) q := LNB_m ln (by simp) (by omega)
    generalize wi u (pq q 26) ((wb : Nat) : Int) = w1 at d1 d2 y21 yA f1 ln1 ⊢
    rw [I_F (k := pq q 21), y21, I_sub, I_lit (n := 2)]
    refine ok_bnd.mpr ?_
    rw [of_e (z := 2) (a := jj + 1) (k := 2) y21 s3 (by omega) (Nat.le_refl _) rfl (by omega), yA, s4]
    refine ok_some.mpr (ok_lt.mpr (ok_lt.mpr (ok_some.mpr ?_)))
    rw [wi_e]
    obtain ⟨d3, d4⟩ := forget_t (k := m) d2 (by omega)
    rw [show nb + m - m = nb by omega] at d3 d4
    have z21 : (wi w1 (pq q 24) ((nb : Nat) : Int)).1 (pq q 21) = I ((jj + 1 + 1 : Nat) : Int) := by
      show (if pq q 21 = pq q 24 then _ else w1.1 (pq q 21)) = _
      rw [if_neg (pq_inj (by decide)), I_F, y21]
    rw [z21, I_sub, show ((jj + 1 + 1 : Nat) : Int) - 1 = ((jj + 1 : Nat) : Int) by omega, wi_e]
    have f2 : FC q [1105] [] [] [21, 24, 26, 45] [] [] [35] u (wi (wi w1 (pq q 24) ((nb : Nat) : Int)) (pq q 21) ((jj + 1 : Nat) : Int)) := FC.wi_q (FC.wi_q f1 (by omega) (by simp)) (by omega) (by simp)
    have p2 : PTQ (wi (wi w1 (pq q 24) ((nb : Nat) : Int)) (pq q 21) ((jj + 1 : Nat) : Int)) q n ow kd Fv P nb wb Y := PTQ_same d4 (fun k hk => if_neg (pq_inj (by simp at hk; omega))) (fun _ _ => rfl)
    have ln2 : LNB (wi (wi w1 (pq q 24) ((nb : Nat) : Int)) (pq q 21) ((jj + 1 : Nat) : Int)) q := LNB_m (LNB_m ln1 (by simp) (by omega)) (by simp) (by omega)
    have x21 : F (wi (wi w1 (pq q 24) ((nb : Nat) : Int)) (pq q 21) ((jj + 1 : Nat) : Int)) (pq q 21) = ((jj + 1 : Nat) : Int) := by rw [F_wi (by omega) (by omega), if_pos rfl]
    have xA : ∀ a, A (wi (wi w1 (pq q 24) ((nb : Nat) : Int)) (pq q 21) ((jj + 1 : Nat) : Int)) (pq q 30) a = A u (pq q 30) a := yA
    generalize wi (wi w1 (pq q 24) ((nb : Nat) : Int)) (pq q 21) ((jj + 1 : Nat) : Int) = w2 at f2 p2 ln2 x21 xA ⊢
    obtain ⟨wb0, nb0, cb0, rk0, h0, m0, L0, a0, c1, c2, c3, c4, c5, c6, c7, c8, c9, c9b, c10⟩ := s1
    have wab := (M.1.2.2.1 _ _ _ _ _ _ c5)
    refine ok_bnd.mpr (ok_mono (push_t (N := N) p2 ln2 (by omega) g0) (fun w3 _ hw3 => ?_))
    obtain ⟨f3, p3, ln3, -⟩ := hw3
    have f4 : FC q [1105] [] [] [4, 5, 21, 24, 26, 42, 43, 45] [] [32] [2, 3, 33, 35, 6] u w3 := FC.tr (FC.mo f2 (by simp) (by simp) (by simp) (by simp) (by simp) (by simp) (by simp)) (FC.mo f3 (by simp) (by simp) (by simp) (by simp) (by simp) (by simp) (by simp))
    have v21 : F w3 (pq q 21) = ((jj + 1 : Nat) : Int) := by rw [f3.Fq (by omega) (by simp)]; exact x21
    unfold hm_Fr_place hb_Fr_place_0
    refine ok_bnd.mpr ?_
    rw [I_F (k := pq q 21), v21, lit1q, I_sub, I_lit (n := 4)]
    refine ok_bnd.mpr ?_
    rw [of_e (z := 4) (a := jj) (k := 4) v21 (by omega) (by omega) (Nat.le_refl _) rfl (by omega), show A w3 (pq q 30) (5 * jj + 4) = ((a0 : Nat) : Int) by rw [f3.aq (by omega) (by simp), xA]; exact c4]
    refine ok_some.mpr (ok_some.mpr (ok_lt.mpr (ok_some.mpr ?_)))
    rw [wi_e]
    have f5 : FC q [1105] [] [] [4, 5, 21, 24, 26, 42, 43, 45] [] [32] [2, 3, 33, 35, 6] u (wi w3 1105 ((a0 : Nat) : Int)) := FC.wi_g f4 (by omega) (by simp)
    have r30 := f5.2.2.2.2.2.2.1 q 30 (by omega) (by simp)
    have r37 := f5.2.2.2.2.2.2.1 q 37 (by omega) (by simp)
    have w21 : F (wi w3 1105 ((a0 : Nat) : Int)) (pq q 21) = ((jj + 1 : Nat) : Int) := by rw [F_wi (by omega) (by omega), if_neg (by unfold pq; omega)]; exact v21
    have M5 : MIc T Fv P PR q (wi w3 1105 ((a0 : Nat) : Int)) a0 (h0 + 1) m0 L0 0 0 jj wb0 nb0 cb0 rk0 := by
      refine MI_new M f5 (by simp) (by simp) (SMQ_f M f5 (by simp)) (by rw [f5.Fq (by omega) (by simp)]; exact M.2.1) (n := n) (ow := ow) (kd := kd) (Y := Y) ?_ (LNB_g ln3 (by omega)) ⟨FBc_s r30 r37 c1, ⟨w21, by omega⟩, ⟨by rw [f5.aq (by omega) (by simp)]; exact c2, by rw [f5.aq (by omega) (by simp)]; exact c3⟩, ?_, ENT_s r37 c10⟩ c5 (at_F (by omega)) (GD0 M f5 (by simp)) (fun z => absurd rfl z) (fun z => absurd rfl z) (BEGc M f5 (by simp) (by simp))
      · rw [show nb0 + m0 = nb by omega, show wb0 + (h0 + 1) = wb + 1 by omega]
        exact PT_g (by omega) p3
      · rw [f5.Fq (by omega) (by simp), s6]
        show ((cb + 0 : Nat) : Int) = _
        omega
    refine NRM_n M5 hf (f5.Fg (by omega) (by simp)) (f5.Fg (by omega) (by simp)) ?_ (by rw [f5.Fg (by omega) (by simp)]; exact t9) (by rw [f5.Fg (by omega) (by simp)]; exact t8)
    have := pot_x (j := i + 1) (t := (F u (pq q 8)).toNat) M.2.2.2.1.1 mb.1.2 (by omega)
    have e0 : potc T a0 0 (F (wi w3 1105 ((a0 : Nat) : Int)) (pq q 8)).toNat = 32 * cKc T a0 24000 := by unfold potc; rw [if_pos rfl]
    rw [e0]; omega
  · refine ok_bnd.mpr (ok_mono (endsBy_w (N := N) (a := 4) M.1 (by rw [M.2.1]; decide) (by omega)) (fun w3 _ hw3 => ok_some.mpr (Or.inr (Or.inr (Or.inl (END_w M.1 hw3.1 hw3.2 t9 (M21 M)))))))
end
end
section
set_option maxRecDepth 100000
section
variable {T : Nat → Option (Nat × Nat × List Nat × Nat × Nat)} {Fv : Int64 → Int64 → Prop} {P : Int64 → Prop} {u v w w1 : MS} {PR N q r n B W Y i h m g x j wb nb cb rk c f i2 h2 m2 g2 x2 j2 wb2 nb2 cb2 rk2 k a U d b e s l : Nat} {L L2 : List Nat} {ow kd : Nat → Nat} {t rest : Int64}
theorem flo18 : hm_Ma_flow N u q (I 18) = bnd (hm_Co_at N u ((u.1 1105) + 1)) (fun u5 r5 => lt (upI u5 1105 r5) (fun w7 => some (w7, ()))) := rfl
theorem flo19 : hm_Ma_flow N u q (I 19) = bnd (hm_Co_at N u ((u.1 1105) + 1)) (fun u5 r5 => bnd (hm_Ma_tries N u5 q r5) (fun u8 _ => some (u8, ()))) := rfl
theorem flo20 : hm_Ma_flow N u q (I 20) = bnd (hm_Co_at N u ((u.1 1105) + 1)) (fun u5 _ => bnd (hm_Ma_match N u5 q) (fun u8 _ => some (u8, ()))) := rfl
theorem flo21 : hm_Ma_flow N u q (I 21) = bnd (hm_Co_at N u ((u.1 1105) + 1)) (fun u5 r5 => lt (upI u5 1113 r5) (fun w10 => bnd (hm_Co_at N w10 ((w10.1 1105) + 2)) (fun u13 r13 => lt (upI u13 1112 r13) (fun w15 => lt (upI w15 1114 (w15.1 (pq q 26))) (fun w19 => lt (upI w19 1105 ((w19.1 1105) + 3)) (fun w21 => some (w21, ()))))))) := rfl
theorem flo22 : hm_Ma_flow N u q (I 22) = bnd (hm_Co_at N u ((u.1 1105) + 1)) (fun u5 _ => bnd (hm_Fr_below N u5 q 0) (fun u23 r23 => bnd (hm_Ma_atom N u23 0) (fun u25 r25 => br (decide ((lg_cmp r23 r25) = 0)) (bnd (hm_Fr_drop N u25 q 1) (fun u27 _ => lt (upI u27 1105 ((u27.1 1105) + 1)) (fun w30 => some (w30, ())))) (bnd (hm_Ma_guardFails N u25 q) (fun u31 _ => some (u31, ())))))) := rfl
theorem flo23 : hm_Ma_flow N u q (I 23) = bnd (hm_Co_at N u ((u.1 1105) + 1)) (fun u5 _ => lt (upI u5 1112 0) (fun w32 => lt (upI w32 1105 ((w32.1 1105) + 1)) (fun w34 => some (w34, ())))) := rfl
theorem flo24 : hm_Ma_flow N u q (I 24) = bnd (hm_Co_at N u ((u.1 1105) + 1)) (fun u5 r5 => bnd (hm_Fr_drop N u5 q r5) (fun u36 _ => bnd (hm_Co_at N u36 ((u36.1 1105) + 2)) (fun u41 r41 => bnd (hm_Fr_setLine N u41 q r41) (fun u43 _ => lt (upI u43 1105 ((u43.1 1105) + 3)) (fun w46 => some (w46, ())))))) := rfl
theorem flo25 : hm_Ma_flow N u q (I 25) = bnd (hm_Co_at N u ((u.1 1105) + 1)) (fun u5 r5 => bnd (hm_Ma_call N u5 q r5 0) (fun u8 _ => some (u8, ()))) := rfl
theorem flo26 : hm_Ma_flow N u q (I 26) = bnd (hm_Co_at N u ((u.1 1105) + 1)) (fun u5 r5 => bnd (hm_Ma_call N u5 q r5 1) (fun u8 _ => some (u8, ()))) := rfl
theorem flo27 : hm_Ma_flow N u q (I 27) = bnd (hm_Co_at N u ((u.1 1105) + 1)) (fun u5 r5 => bnd (hm_Ma_apply N u5 q r5 0) (fun u8 _ => some (u8, ()))) := rfl
theorem flo28 : hm_Ma_flow N u q (I 28) = bnd (hm_Co_at N u ((u.1 1105) + 1)) (fun u5 r5 => bnd (hm_Ma_apply N u5 q r5 1) (fun u8 _ => some (u8, ()))) := rfl
theorem flo29 : hm_Ma_flow N u q (I 29) = bnd (hm_Co_at N u ((u.1 1105) + 1)) (fun u5 r5 => bnd (hm_Fr_catchTo N u5 q r5) (fun u48 _ => lt (upI u48 1105 ((u48.1 1105) + 2)) (fun w51 => some (w51, ())))) := rfl
theorem flo30 : hm_Ma_flow N u q (I 30) = bnd (hm_Co_at N u ((u.1 1105) + 1)) (fun u5 _ => lt (upI u5 (pq q 28) ((u5.1 (pq q 28)) - 1)) (fun w55 => lt (upI w55 1105 ((w55.1 1105) + 1)) (fun w57 => some (w57, ())))) := rfl
theorem flo31 : hm_Ma_flow N u q (I 31) = bnd (hm_Co_at N u ((u.1 1105) + 1)) (fun u5 r5 => bnd (br (decide (r5 = 1)) (bnd (hm_Ma_await N u5 q 1) (fun u1 _ => some (u1, ()))) (bnd (hm_Ma_await N u5 q 0) (fun u1 _ => some (u1, ())))) (fun u8 _ => some (u8, ()))) := rfl
theorem flo32 : hm_Ma_flow N u q (I 32) = bnd (hm_Co_at N u ((u.1 1105) + 1)) (fun u5 r5 => bnd (bnd (hm_Ma_nextMessage N u5 q r5) (fun u2 _ => some (u2, ()))) (fun u8 _ => some (u8, ()))) := rfl
theorem flo33 : hm_Ma_flow N u q (I 33) = bnd (hm_Co_at N u ((u.1 1105) + 1)) (fun u5 _ => bnd (bnd (hm_Pr_takeMessage N u5 q) (fun u4 _ => lt (upI u4 1105 ((u4.1 1105) + 1)) (fun w7 => some (w7, ())))) (fun u8 _ => some (u8, ()))) := rfl
theorem flo34 : hm_Ma_flow N u q (I 34) = bnd (hm_Co_at N u ((u.1 1105) + 1)) (fun u5 r5 => bnd (lt (upI u5 (pq q 8) ((u5.1 (pq q 8)) + 1)) (fun w11 => lt (upI w11 1105 r5) (fun w12 => some (w12, ())))) (fun u8 _ => some (u8, ()))) := rfl
theorem flo35 : hm_Ma_flow N u q (I 35) = bnd (hm_Co_at N u ((u.1 1105) + 1)) (fun u5 _ => bnd (bnd (hm_Ma_returns N u5 q) (fun u2 _ => some (u2, ()))) (fun u8 _ => some (u8, ()))) := rfl
theorem flo36 : hm_Ma_flow N u q (I 36) = bnd (hm_Co_at N u ((u.1 1105) + 1)) (fun u5 _ => bnd (bnd (hm_Ma_wrong N u5 q 14) (fun u2 _ => some (u2, ()))) (fun u8 _ => some (u8, ()))) := rfl
theorem flo37 : hm_Ma_flow N u q (I 37) = bnd (hm_Co_at N u ((u.1 1105) + 1)) (fun u5 _ => bnd (bnd (hm_Fr_below N u5 q 0) (fun u16 r16 => bnd (hm_Ma_tell N u16 q 1 15 r16) (fun u18 _ => some (u18, ())))) (fun u8 _ => some (u8, ()))) := rfl
theorem flo38 : hm_Ma_flow N u q (I 38) = bnd (hm_Co_at N u ((u.1 1105) + 1)) (fun u5 _ => bnd (bnd (hm_Ma_wrong N u5 q 16) (fun u2 _ => some (u2, ()))) (fun u8 _ => some (u8, ()))) := rfl
theorem flow_ok (M : MIc T Fv P PR q u i h m L g x j wb nb cb rk) (t9 : F u 1109 = 0) (t8 : F u 1108 = 0) (hf : PHc T u q i x rk ≤ c) (h18 : 18 ≤ A u 23 i) (h39 : A u 23 i ≠ 39 ∧ A u 23 i ≠ 40) (hN : 600000000010 ≤ N) : OK (fun w _ => OPQ T Fv P PR q c w) (hm_Ma_flow N u q (I (A u 23 i))) := by
  obtain ⟨n, ow, kd, Y, p⟩ := MI_p M
  have mb := MI_b M
  have ln := MI_ln M
  have cx := M.1.2.1
  obtain ⟨b1, b2, -, -, ⟨b5, b6⟩, ins⟩ := M.1.2.2.1 _ _ _ _ _ _ M.2.2.2.1.1
  have ok1 : ∀ {o : Option (MS × Unit)}, OK (fun w _ => OPQ T Fv P PR q c w) o → OK (fun w _ => OPQ T Fv P PR q c w) (bnd o (fun u15 _ => some (u15, ()))) := fun h => ok_bnd.mpr (ok_mono h (fun w _ hw => ok_some.mpr hw))
  have bd : ∀ {k y}, T k = some y → k < 24000 := fun {k y} e => by
    obtain ⟨a, b, c, d, e2⟩ := y
    exact (M.1.2.2.1 _ _ _ _ _ _ e).1.2
  have any := opd_any (N := N) (u := u) 1
  have one : ∀ {fn : MS → Int32 → Option (MS × Unit)}, (∀ r, OK (fun w _ => OPQ T Fv P PR q c w) (fn u r)) → OK (fun w _ => OPQ T Fv P PR q c w) (bnd (hm_Co_at N u ((u.1 1105) + 1)) fn) := fun hh => by
    obtain ⟨r, hr⟩ := any
    rw [hr, bnd_so]; exact hh r
  rcases ins with ins | ins | ins
  · exfalso
    rcases ins with ⟨o, -⟩ | ⟨o, -⟩ | ⟨o, -⟩ | ⟨o, -⟩ | ⟨o, -⟩ | ⟨o, -⟩ | ⟨o, -⟩ | ⟨o, -⟩ | ⟨o, -⟩ | ⟨o, -⟩ | ⟨o, -⟩ | ⟨o, -⟩ | ⟨o, -⟩ <;> omega
  · rcases ins with ⟨o, tg, o1, o2, o3⟩ | ⟨o, rfl, o1, ⟨fl, o2, o3, o4⟩, ff, bb, ee, o5, o6, o7, o8, o9⟩ | ⟨o, rfl, o1, ff, bb, ee, o5, o6, o7, o8, o9⟩ | ⟨o, rfl, nn, o1, o2, o3⟩ | ⟨o, o1, o2, o3⟩ | ⟨o, o1⟩ | ⟨o, nn, o1, o2, o3⟩ | ⟨o, rfl, rfl, fn, nn, o1, o2, o3, o4, o5, ofl, o6⟩ | ⟨o, rfl, rfl, nn, o1, o2, ofl, o3⟩ | ⟨o, rfl, rfl, tg, o1, o2, o3, o4⟩ | ⟨o, rfl, tg, LL, rfl, o1⟩
    · have hx : x < i := b6 (by omega)
      have := bd o3
      rw [o, flo18]
      obtain ⟨r, hr⟩ := any
      have i1 : i + 1 < 24000 := by omega
      rw [opd1 M i1, bnd_so, o1]
      refine ok_lt.mpr (ok_some.mpr ?_)
      rw [wi_e]
      exact NRM_f M t9 t8 hf hx (FMc.at FMc.rf) (at_t p) (LNB_g ln (by omega)) o3 (at_F (by omega)) o2
    · have hx : x < i := b6 (by omega)
      have := bd o9
      rw [o, flo19, opd1 M (by omega), bnd_so]
      exact ok1 (tries_ok M hx t9 t8 hf o1 o2 o3 o4 o5 o6 o7 o8 o9 hN)
    · have hx : x < i := b6 (by omega)
      have := bd o9
      rw [o, flo20, opd1 M (by omega), bnd_so]
      exact ok1 (match_okc M hx t9 t8 hf o1 o5 o6 o7 o8 o9 hN)
    · have hx : x < i := b6 (by omega)
      have := bd o3
      rw [o, flo21, opd1 M (by omega), bnd_so]
      exact guardc_ok M hx t9 t8 hf o3 rfl
    · have hx : x < i := b6 (by omega)
      rw [o, flo22]
      exact one (fun r => holdsG_ok M hx t9 t8 hf o1 o2 o3)
    · have hx : x < i := b6 (by omega)
      rw [o, flo23]
      exact one (fun r => ok_lt.mpr (ok_lt.mpr (ok_some.mpr (guarded_ok M hx t9 t8 hf o1))))
    · have hx : x < i := b6 (by omega)
      have := bd o3
      rw [o, flo24, opd1 M (by omega), bnd_so, o1]
      exact chosenc_ok M hx t9 t8 hf o2 o3
    · have := bd o6
      rcases o with o | ⟨o, rfl⟩
      · rw [o, flo25, opd1 M (by omega), bnd_so, o1]
        exact ok1 (call_okc (la := 0) M t9 t8 hf (Or.inl rfl) o2 o3 o4 o5 ofl o6)
      · rw [o, flo26, opd1 M (by omega), bnd_so, o1]
        exact ok1 (call_okc (la := 1) M t9 t8 hf (Or.inr ⟨rfl, rfl⟩) o2 o3 o4 o5 ofl o6)
    · have := bd o3
      rcases o with o | ⟨o, rfl⟩
      · rw [o, flo27, opd1 M (by omega), bnd_so, o1]
        exact ok1 (apply_okc (la := 0) M t9 t8 hf (Or.inl rfl) o2 ofl o3 (by omega))
      · rw [o, flo28, opd1 M (by omega), bnd_so, o1]
        exact ok1 (apply_okc (la := 1) M t9 t8 hf (Or.inr ⟨rfl, rfl⟩) o2 ofl o3 (by omega))
    · have := bd o4
      rw [o, flo29, opd1 M (by omega), bnd_so, o1]
      exact catch_okc M t9 t8 hf o3 o4
    · have hx : x < i := b6 (by omega)
      rw [o, flo30]
      exact one (fun r => ok_lt.mpr (ok_lt.mpr (ok_some.mpr (caught_okc M hx t9 t8 hf o1))))
  · rcases ins with ⟨o, rfl, rfl, o1⟩ | ⟨o, rfl, rfl, o1, o2⟩ | ⟨o, rfl, o1, o2⟩ | ⟨o, rfl, o1, i1, o2, o3⟩ | ⟨o, rfl, rfl, o1, rfl⟩ | o | ⟨o, o1⟩ | ⟨o, -⟩ | ⟨o, -⟩
    · have i2 : i + 2 < 24000 := by
        rcases o1 with ⟨-, -, z⟩ | ⟨-, z⟩ <;> exact bd z
      rw [o, flo31, opd1 M (by omega), bnd_so]
      rcases o1 with ⟨e1, e2, e3⟩ | ⟨e1, e3⟩
      · rw [e1]
        exact ok1 (ok_br.mpr ⟨fun _ => ok1 (await_okc M t9 t8 hf (Or.inl ⟨rfl, e1, e2, e3⟩)), fun z => absurd z (by decide)⟩)
      · rw [e1]
        exact ok1 (ok_br.mpr ⟨fun z => absurd z (by decide), fun _ => ok1 (await_okc M t9 t8 hf (Or.inr ⟨rfl, e3⟩))⟩)
    · have := bd o1
      rw [o, flo32, opd1 M (by omega), bnd_so]
      exact ok1 (ok1 (next_okc M t9 t8 hf o1 (by
        rcases o2 with z | ⟨tg, z1, z2, z3⟩
        · exact Or.inl z
        · exact Or.inr ⟨tg, z1, z2, z3⟩)))
    · have hx : x < i := b6 (by omega)
      rw [o, flo33]
      exact one (fun r => ok1 (take_okc M hx t9 t8 hf o1 o2))
    · have hx : x < i := b6 (by omega)
      rw [o, flo34, opd1 M i1, bnd_so, o2]
      exact ok1 (ok_lt.mpr (ok_lt.mpr (ok_some.mpr (skip_okc M hx t9 t8 hf o1 o3))))
    · rw [o, flo35]
      exact one (fun r => ok1 (ok1 (returns_okc M t9 t8 hf o1)))
    · rcases o with o | o
      · rw [o, flo36]
        exact one (fun r => ok1 (ERR_o (a := 14) M t9 t8 hf (by omega)))
      · rw [o, flo38]
        exact one (fun r => ok1 (ERR_o (a := 16) M t9 t8 hf (by omega)))
    · rw [o, flo37]
      obtain ⟨b0, g0⟩ := below_0 (N := N) M p o1
      refine one (fun r => ok1 ?_)
      rw [b0, bnd_so, lit1q, I_lit (n := 15), tell_e, bnd_so]
      exact ok_some.mpr (ERR_t M t9 t8 hf ⟨n, ow, kd, _, _, Y, p, g0⟩ (Or.inl rfl) (Or.inr ⟨by decide, by decide⟩))
    · omega
    · omega
end
end
section
set_option maxRecDepth 100000
section
variable {T : Nat → Option (Nat × Nat × List Nat × Nat × Nat)} {Fv : Int64 → Int64 → Prop} {P : Int64 → Prop} {u v w w1 : MS} {PR N q r n B W Y i h m g x j wb nb cb rk c f i2 h2 m2 g2 x2 j2 wb2 nb2 cb2 rk2 k a U d b e s l : Nat} {L L2 : List Nat} {ow kd : Nat → Nat} {t rest : Int64} {gi gl ga ki kl ka kj : List Nat}
theorem pair_hp {h h2 : Nat → Int64} (cx : CTX Fv P u) (g : HPc h n ow kd Fv P) (hh : ∀ i, i < n → h2 i = h i) (h8 : h2 n = mk 8 2) (h1 : h2 (n + 1) = mk 1 ((a : Nat) : Int)) (ha : a < 22) (gt : GT n ow kd P (h2 (n + 2))) (hn : n ≤ 1000) : ∃ ow2 kd2, HPc h2 (n + 3) ow2 kd2 Fv P ∧ GT (n + 3) ow2 kd2 P (mk 5 ((n : Nat) : Int)) ∧ ∀ t, GT n ow kd P t → GT (n + 3) ow2 kd2 P t := by
  obtain ⟨m1, m2, m3⟩ := mk5 (k := n) (by omega)
  obtain ⟨e1, e2, e3⟩ := mk8 (k := 2) (by omega)
  have bk : blk h2 (mk 5 ((n : Nat) : Int)) = 3 := by unfold blk; rw [if_neg (by omega), if_pos m1, m3, h8]; show 1 + vn (mk 8 ((2 : Nat) : Int)) = 3; rw [e3]
  have pr : prt (mk 5 ((n : Nat) : Int)) = 1 := by unfold prt; rw [if_neg (by omega), if_pos m1]
  have ga : ¬ isH (h2 (n + 1)) ∧ P (h2 (n + 1)) := by
    rw [h1]
    rcases GT_at (n := n) (ow := ow) (kd := kd) cx ha with z | z
    · exact z
    · exact absurd z.1 (nh_so (by rw [so_mk (by decide) (by decide)]; decide))
  obtain ⟨ow2, kd2, a1, a2, a3, -⟩ := HP_newc g hh (Or.inr (Or.inl m1)) (by omega) m3 bk (fun _ => by rw [h8]; exact ⟨by show 0 ≤ va (mk 8 ((2 : Nat) : Int)); omega, e1⟩) (fun z => by omega) (fun j j1 j2 => by
    rw [pr] at j1
    rcases (show j = 1 ∨ j = 2 by omega) with rfl | rfl
    · exact Or.inl ga
    · exact gt) (Or.inl ⟨m1, rfl, ga.1⟩)
  exact ⟨ow2, kd2, a1, a2, a3⟩
theorem pair_t (cx : CTX Fv P u) (h4 : F u (pq q 4) = ((n : Nat) : Int)) (hn : n ≤ 509) (g : HPc (u.2.2.2 (pq q 2)) n ow kd Fv P) (gt : GT n ow kd P t) (ha : a < 22) : OK (fun w r => FC q [] [] [] [4] [] [] [2] u w ∧ F w (pq q 4) = ((n + 3 : Nat) : Int) ∧ (∀ k, k ≠ pq q 2 → w.2.2.2 k = u.2.2.2 k) ∧ ∃ ow2 kd2, HPc (w.2.2.2 (pq q 2)) (n + 3) ow2 kd2 Fv P ∧ GT (n + 3) ow2 kd2 P r ∧ ∀ t, GT n ow kd P t → GT (n + 3) ow2 kd2 P t) (hm_Pr_pair N u q (I ((a : Nat) : Int)) t) := by
  unfold hm_Pr_pair hb_Pr_pair_0
  have e4 : u.1 (pq q 4) = I ((n : Nat) : Int) := by rw [I_F, h4]
  rw [e4, I_lit (n := 3), I_add, I_lit (n := 512)]
  refine k_le ⟨by show _ ≤ _ + (3 : Int); omega, by show _ + (3 : Int) < _; omega⟩ ⟨by decide, by decide⟩ (fun _ => ?_) (fun z => absurd (show (512 : Int) < _ + 3 from z) (by omega))
  rw [I_lit (n := 8), I_lit (n := 2), e_make, bnd_so]
  refine e_in ⟨by omega, by omega⟩ (by decide) (ok_lt.mpr ?_)
  rw [tnI (n := n) rfl (by omega), wj_e, lit1q, e_make, bnd_so, I_add]
  refine e_in ⟨by omega, by omega⟩ (by decide) (ok_lt.mpr ?_)
  rw [tnI (n := n + 1) (by omega) (by omega), wj_e, I_add]
  refine e_in ⟨by show 0 ≤ _ + (2 : Int); omega, by show _ + (2 : Int) < _; omega⟩ (by decide) (ok_lt.mpr (ok_lt.mpr ?_))
  rw [tnI (n := n + 2) (by show _ + (2 : Int) = _; omega) (by omega), wj_e]
  have cl : CEL q u (wj (wj (wj u (pq q 2) n (mk (OfNat.ofNat 8) (OfNat.ofNat 2))) (pq q 2) (n + 1) (mk 1 ((a : Nat) : Int))) (pq q 2) (n + 2) t) := CEL.rf.put.put.put
  have row : ∀ k, (wj (wj (wj u (pq q 2) n (mk (OfNat.ofNat 8) (OfNat.ofNat 2))) (pq q 2) (n + 1) (mk 1 ((a : Nat) : Int))) (pq q 2) (n + 2) t).2.2.2 (pq q 2) k = if k = n + 2 then t else if k = n + 1 then mk 1 ((a : Nat) : Int) else if k = n then mk 8 2 else u.2.2.2 (pq q 2) k := fun k => by rw [CEL.row, CEL.row, CEL.row]
  generalize wj (wj (wj u (pq q 2) n (mk (OfNat.ofNat 8) (OfNat.ofNat 2))) (pq q 2) (n + 1) (mk 1 ((a : Nat) : Int))) (pq q 2) (n + 2) t = y at cl row ⊢
  rw [show y.1 (pq q 4) = I ((n : Nat) : Int) by rw [cl.2.1]; exact e4, I_add, show ((n : Nat) : Int) + (OfNat.ofNat 3 : Int) = ((n + 3 : Nat) : Int) by show _ + (3 : Int) = _; omega, wi_e, I_lit (n := 5), e_make, bnd_so]
  obtain ⟨ow2, kd2, k1, k2, k3⟩ := pair_hp (a := a) (h2 := y.2.2.2 (pq q 2)) cx g (fun i hi => by rw [row, if_neg (by omega), if_neg (by omega), if_neg (by omega)]) (by rw [row, if_neg (by omega), if_neg (by omega), if_pos rfl]) (by rw [row, if_neg (by omega), if_pos rfl]) ha (by rw [row, if_pos rfl]; exact gt) (by omega)
  exact ok_some.mpr ⟨FC.wi_q (FC.mo cl.1 (by simp) (by simp) (by simp) (by simp) (by simp) (by simp) (by simp)) (by omega) (by simp), by rw [F_wi (by omega) (by omega), if_pos rfl], cl.2.2.1, ow2, kd2, k1, k2, k3⟩
theorem room_g {y : Int} (G : GEN T Fv P PR q u) (h9 : F u (pq q 9) = 0) (p : PTQ u q n ow kd Fv P B W Y) (hy : 0 ≤ y ∧ y ≤ 100000) (hN : 3000000 ≤ N) : OK (fun w r => (r = 0 ∧ GEN T Fv P PR q w ∧ F w (pq q 9) = 3 ∧ (F w 1109 = F u 1109 ∧ F w (pq q 21) = F u (pq q 21))) ∨ (r = 1 ∧ GEN T Fv P PR q w ∧ FNc q u w ∧ ∃ U ow2 kd2, PTQ w q U ow2 kd2 Fv P B W Y ∧ (U : Int) + y ≤ 500)) (hm_Ma_room N u q (I y)) := by
  unfold hm_Ma_room hb_Ma_room_0
  refine ok_bnd.mpr (ok_mono (want_ok (N := N) p G.2.1 hy (by omega)) (fun w r hw => ?_))
  obtain ⟨hr, U, ow2, kd2, p2, hU, f2, sB, sW⟩ := hw
  have fc := FC_want f2
  have fm : FNc q u w := FNc.of fc (by simp) (by simp) (by simp) (by simp) (by simp) (by simp) (by simp)
  have G2 : GEN T Fv P PR q w := GEN_f G fc (DWc_m G.1 G.2.2.2.2.2.2.1 (by rw [h9]; decide) fm.toM p2) (by simp) (by simp) (LNB_k (GEN_ln G G.2.2.2.2.2.2.1) fc (by simp))
  rcases hr with rfl | rfl
  · refine ok_br.mpr ⟨fun _ => ?_, fun z => absurd z (by decide)⟩
    refine ok_bnd.mpr (ok_mono (endsBy_w (N := N) (a := 20) G2 (by rw [fc.Fq (by omega) (by simp), h9]; decide) (by omega)) (fun w3 _ hw3 => ok_ck.mpr ⟨by decide, ok_some.mpr (Or.inl ⟨rfl, GEN_w G2 hw3.1, hw3.2, ?_⟩)⟩))
    rw [hw3.1.2.1.G (by omega) (by simp), fc.Fg (by omega) (by simp), hw3.1.2.1.F (by omega) (by simp), fc.Fq (by omega) (by simp)]; exact ⟨rfl, rfl⟩
  · exact ok_br.mpr ⟨fun z => absurd z (by decide), fun _ => ok_ck.mpr ⟨by decide, ok_some.mpr (Or.inr ⟨rfl, G2, fm, U, ow2, kd2, p2, hU rfl⟩)⟩⟩
theorem wrap_g (G : GEN T Fv P PR q u) (h9 : F u (pq q 9) = 0) (p : PTQ u q n ow kd Fv P B (W + 1) Y) (hW : W ≤ 65530) (ha : a < 22) (hN : 3000000 ≤ N) : OK (fun w r => (r = 0 ∧ GEN T Fv P PR q w ∧ F w (pq q 9) = 3 ∧ (F w 1109 = F u 1109 ∧ F w (pq q 21) = F u (pq q 21))) ∨ (r = 1 ∧ GEN T Fv P PR q w ∧ FNc q u w ∧ LNB w q ∧ ∃ U ow2 kd2, PTQ w q U ow2 kd2 Fv P B (W + 1) Y)) (hm_Ma_wrap N u q (I ((a : Nat) : Int))) := by
  unfold hm_Ma_wrap hb_Ma_wrap_0
  rw [I_lit (n := 3)]
  refine ok_bnd.mpr (ok_mono (room_g (N := N) G h9 p ⟨by decide, by decide⟩ hN) (fun w r hw => ?_))
  rcases hw with ⟨rfl, e⟩ | ⟨rfl, G2, f2, U, ow2, kd2, p2, hU⟩
  · exact ok_br.mpr ⟨fun _ => ok_ck.mpr ⟨by decide, ok_some.mpr (Or.inl ⟨rfl, e⟩)⟩, fun z => absurd z (by decide)⟩
  · have hU : (U : Int) + 3 ≤ 500 := hU
    refine ok_br.mpr ⟨fun z => absurd z (by decide), fun _ => ?_⟩
    obtain ⟨l, l1, l2, l3⟩ := p2.2.2.2.2.2.1
    rw [lit0q, below_e (x := 0) (k := 0) p2.2.2.1.1 l1 l2 l3 rfl (by omega), bnd_so]
    refine ok_bnd.mpr (ok_mono (pair_t (N := N) G2.2.1 p2.1.1 (by omega) p2.1.2.2 (p2.2.2.1.2 (W + 1 - 1 - 0) (by omega)) ha) (fun w3 r3 hw3 => ?_))
    obtain ⟨f3, e4, r3o, ow3, kd3, g1, g2, g3⟩ := hw3
    have p3 := PTQ_cells p2 f3 e4 (by omega) g1 g3
    have ln2 := GEN_ln G2 G2.2.2.2.2.2.2.1
    have ln3 := LNB_k ln2 f3 (by simp)
    rw [lit1q]
    refine ok_bnd.mpr (ok_mono (answer_t (N := N) (y := 1) (k := 1) p3 ln3 rfl (by omega) (by omega) g2) (fun w5 _ hw5 => ok_ck.mpr ⟨by decide, ok_some.mpr (Or.inr ⟨rfl, ?_⟩)⟩))
    obtain ⟨fm5, p5, ln5⟩ := hw5
    have f3n : FNc q w w3 := FNc.of f3 (by simp) (by simp) (by simp) (by simp) (by simp) (by simp) (by simp)
    have fa := FNc.tr f2 (FNc.tr f3n fm5)
    have fb := FNc.tr f3n fm5
    rw [show W + 1 - 1 + 1 = W + 1 by omega] at p5
    have h92 : F w (pq q 9) ≠ 3 := by rw [f2.Fq (by omega) (by simp), h9]; decide
    exact ⟨GEN_f G2 fb (DWc_m G2.1 G2.2.2.2.2.2.2.1 h92 fb.toM p5) (by simp) (by simp) ln5, fa, ln5, U + 3, ow3, kd3, p5⟩
theorem UNW_low (wt : WFT T u) : ∀ {j wb nb cb rk : Nat}, FBc T u q j wb nb cb rk → 1 ≤ cb → ∃ j2 wb2 nb2 cb2 rk2 tg h2 m2 L2, j2 < j ∧ FBc T u q j2 wb2 nb2 cb2 rk2 ∧ A u (pq q 30) (5 * j2 + 2) = ((nb2 : Nat) : Int) ∧ A u (pq q 30) (5 * j2 + 3) = ((wb2 : Nat) : Int) ∧ T tg = some (h2 + 1, m2, L2, 0, 0) ∧ ENTc T u q (j2 + 1) wb2 nb2 cb2 L2 ∧ cb2 + L2.length + 1 = cb ∧ (A u (pq q 37) (4 * (cb2 + L2.length)) = ((j2 + 1 : Nat) : Int) ∧ A u (pq q 37) (4 * (cb2 + L2.length) + 1) = ((nb2 + m2 : Nat) : Int) ∧ A u (pq q 37) (4 * (cb2 + L2.length) + 2) = ((wb2 + h2 : Nat) : Int) ∧ A u (pq q 37) (4 * (cb2 + L2.length) + 3) = ((tg : Nat) : Int)) ∧ wb2 + h2 ≤ wb ∧ nb2 + m2 ≤ nb ∧ rk2 + 32 * cKc T tg 24000 < rk
  | 0, _, _, _, _, hh, hc => by obtain ⟨-, -, z, -⟩ := hh; omega
  | j + 1, wb, nb, cb, rk, hh, hc => by
    obtain ⟨wb0, nb0, cb0, rk0, h, m, L, a, b1, b2, b3, b4, b5, b6, b7, b8, b9, b9b, b10⟩ := hh
    cases L with
    | nil =>
      have b8 : cb = cb0 := b8
      obtain ⟨j2, wb2, nb2, cb2, rk2, tg, h2, m2, L2, c1, c2, c3, c4, c5, c6, c7, c8, c9, c10, c11⟩ := UNW_low wt b1 (by omega)
      exact ⟨j2, wb2, nb2, cb2, rk2, tg, h2, m2, L2, by omega, c2, c3, c4, c5, c6, by omega, c8, by omega, by omega, by omega⟩
    | cons tg M =>
      have b8 : cb = cb0 + (M.length + 1) := b8
      obtain ⟨⟨h2, m2, d1, d2, d3, d4, d5⟩, d6⟩ := b10
      obtain ⟨-, -, ⟨ch1, h3, m3, ch2, ch3, ch4⟩, -⟩ := wt _ _ _ _ _ _ b5
      obtain ⟨h4, m4, fl1, fl2⟩ := b9b
      rw [d1] at ch2 fl1
      injection ch2 with ch2
      injection ch2 with ch2 ch2b
      injection ch2b with ch2b _
      injection fl1 with fl1
      injection fl1 with fl1 _
      have ck := cKc_lt ch1 (key_0 b5) 24000 (wt _ _ _ _ _ _ b5).1.2
      exact ⟨j, wb0, nb0, cb0, rk0, tg, h2, m2, M, by omega, b1, b2, b3, d1, d6, by omega, ⟨d2, d3, d4, d5⟩, by omega, by omega, by omega⟩
theorem UNW_top (wt : WFT T u) (st : STc T u q j wb nb cb rk L) (ti : T i = some (h, m, L, 0, x)) (hc : 1 ≤ cb + L.length) {tr : Nat} : ∃ j2 wb2 nb2 cb2 rk2 tg h2 m2 L2, j2 ≤ j ∧ FBc T u q j2 wb2 nb2 cb2 rk2 ∧ A u (pq q 30) (5 * j2 + 2) = ((nb2 : Nat) : Int) ∧ A u (pq q 30) (5 * j2 + 3) = ((wb2 : Nat) : Int) ∧ T tg = some (h2 + 1, m2, L2, 0, 0) ∧ ENTc T u q (j2 + 1) wb2 nb2 cb2 L2 ∧ cb2 + L2.length + 1 = cb + L.length ∧ (A u (pq q 37) (4 * (cb2 + L2.length)) = ((j2 + 1 : Nat) : Int) ∧ A u (pq q 37) (4 * (cb2 + L2.length) + 1) = ((nb2 + m2 : Nat) : Int) ∧ A u (pq q 37) (4 * (cb2 + L2.length) + 2) = ((wb2 + h2 : Nat) : Int) ∧ A u (pq q 37) (4 * (cb2 + L2.length) + 3) = ((tg : Nat) : Int)) ∧ wb2 + h2 ≤ wb + h ∧ nb2 + m2 ≤ nb + m ∧ rk2 + 32 * cKc T tg 24000 < rk + potc T i x tr := by
  obtain ⟨s1, ⟨s2, s3⟩, ⟨s4, s5⟩, s6, s7⟩ := st
  cases L with
  | nil =>
    have hc : 1 ≤ cb := hc
    obtain ⟨j2, wb2, nb2, cb2, rk2, tg, h2, m2, L2, c1, c2, c3, c4, c5, c6, c7, c8, c9, c10, c11⟩ := UNW_low wt s1 hc
    exact ⟨j2, wb2, nb2, cb2, rk2, tg, h2, m2, L2, by omega, c2, c3, c4, c5, c6, by rw [c7]; rfl, c8, by omega, by omega, by omega⟩
  | cons tg M =>
    obtain ⟨⟨h2, m2, d1, d2, d3, d4, d5⟩, d6⟩ := s7
    obtain ⟨bi, -, ⟨ch1, h3, m3, ch2, ch3, ch4⟩, -, bx, -⟩ := wt _ _ _ _ _ _ ti
    rw [d1] at ch2
    injection ch2 with ch2
    injection ch2 with ch2 ch2b
    injection ch2b with ch2b _
    have pk := pot_0 (t := tr) (t2 := 0) ti bi.2 bx.1 ch1
    have e0 : potc T tg 0 0 = 32 * cKc T tg 24000 := by unfold potc; rw [if_pos rfl]
    rw [e0] at pk
    exact ⟨j, wb, nb, cb, rk, tg, h2, m2, M, Nat.le_refl _, s1, s4, s5, d1, d6, rfl, ⟨d2, d3, d4, d5⟩, by omega, by omega, by omega⟩
end
end
section
set_option maxRecDepth 100000
section
variable {T : Nat → Option (Nat × Nat × List Nat × Nat × Nat)} {Fv : Int64 → Int64 → Prop} {P : Int64 → Prop} {u v w w1 : MS} {PR N q r n B W Y i h m g x j wb nb cb rk c f i2 h2 m2 g2 x2 j2 wb2 nb2 cb2 rk2 k a U d b e s l : Nat} {L L2 : List Nat} {ow kd : Nat → Nat} {t rest : Int64} {gi gl ga ki kl ka kj : List Nat}
theorem endsP_ok {n2 : Nat} {ow2 kd2 : Nat → Nat} (G : GEN T Fv P PR q u) (h9 : F u (pq q 9) = 0) (t9 : F u 1109 = 0) (h21 : 0 ≤ F u (pq q 21) ∧ F u (pq q 21) ≤ 60) (f : FC q [] [] [] [4] [] [] [2] u w) (hn : n2 ≤ 512) (g : HPc (w.2.2.2 (pq q 2)) n2 ow2 kd2 Fv P) (gt : GT n2 ow2 kd2 P t) : OK (fun w _ => ENDc T Fv P PR q w) (hm_Wl_endsWith N w q t q) := by
  have hq := G.2.2.2.2.2.2.1
  have h92 : F w (pq q 9) = 0 := by rw [f.Fq (by omega) (by simp)]; exact h9
  have dw : DWo Fv P PR q w := DWo_fc (DWo_of G.1) f hq (by rw [h9]; decide) (by rw [h92]; decide) (SMQ_up (G.1.2 q hq).1 (f.Fq (by omega) (by simp)) (f.Fq (by omega) (by simp)) (by rw [f.Fq (by omega) (by simp)]; exact Int.le_refl _) (by rw [h9]; decide)) (by simp) (by simp)
  refine ok_mono (endsWith_ok (N := N) dw hq (by rw [h92]; decide) hq (Or.inl rfl) hn g gt) (fun w3 _ hw3 => ?_)
  obtain ⟨k1, k2, k3, k4, k5, k6, k7⟩ := hw3
  obtain ⟨g1, g2, g3, g4, g5, g6, g7, g8⟩ := G
  have s1 : SCQ u w := SCQ_f f (by simp) (by simp)
  have s2 := SCQ_w k2
  have s12 : SCQ u w3 := ⟨fun k hk => (s2.1 k hk).trans (s1.1 k hk), fun k hk => (s2.2 k hk).trans (s1.2 k hk)⟩
  refine ⟨⟨k1, CTX_s s12 g2, WFT_s s12 g3, CDT_s s12 g4, fun r hr hrq hal => ?_, ALN_k g6 ((k2.2.2.2.1 1948 (by omega) (by simp)).trans (f.2.2.1 1948 (by omega) (by simp))) (fun r hr h1 => ?_), g7, ?_⟩, k3, ?_, by rw [k2.F (by omega) (by simp), f.Fq (by omega) (by simp)]; exact h21⟩
  · exact PSQ_w (PSQ_o (g5 r hr hrq (by rw [← f.Fo hrq (by omega), ← k4 r hrq]; exact hal)) f hrq (by simp)) k2
  · refine LNB_w ?_ k2
    by_cases e : r = q
    · rw [e] at h1 hr ⊢; exact LNB_k h1 f (by simp)
    · exact LNB_o h1 f e
  · rw [k2.G (by omega) (by simp), k2.G (by omega) (by simp), f.Fg (by omega) (by simp), f.Fg (by omega) (by simp)]; exact g8
  · rw [k2.G (by omega) (by simp), f.Fg (by omega) (by simp)]; exact t9
theorem raise65_ok {how : Int} (G : GEN T Fv P PR q u) (h9 : F u (pq q 9) = 0) (t9 : F u 1109 = 0) (t8 : F u 1108 = 0) (st : STc T u q j wb nb cb rk L) (ti : T i = some (h, m, L, 0, x)) (p : PTQ u q n ow kd Fv P (nb + m) W Y) (hW : wb + h ≤ W ∧ W ≤ 65530) (gt : GT n ow kd P (u.2.1 1110)) (gd : F u 1112 = 0) (hh : how = 1 ∨ how = 2 ∨ how = 3) (hf : PHc T u q i x rk ≤ c) (hN : 3000000 ≤ N) : OK (fun w _ => NRM T Fv P PR q c w ∨ ENDc T Fv P PR q w) (hb_Ma_raise_65 N () u q (I how)) := by
  have hq := G.2.2.2.2.2.2.1
  have ln := GEN_ln G hq
  have wt := G.2.2.1
  have fb := FBc_b wt st.1
  have hj := st.2.1.2
  have tb := (wt _ _ _ _ _ _ ti)
  unfold hb_Ma_raise_65
  refine k_F (y := 0) rfl ⟨by decide, by decide⟩ (fun _ => ?_) (fun e28 => ?_)
  · 
    have e110 : ∀ (w : MS) (t : Int64) (n2 : Nat) (ow2 kd2 : Nat → Nat), FC q [] [] [] [4] [] [] [2] u w → n2 ≤ 512 → HPc (w.2.2.2 (pq q 2)) n2 ow2 kd2 Fv P → GT n2 ow2 kd2 P t → OK (fun w _ => NRM T Fv P PR q c w ∨ ENDc T Fv P PR q w) (hb_Ma_raise_110 N () w q t) := by
      intro w t n2 ow2 kd2 f hn g gt
      unfold hb_Ma_raise_110
      exact ok_bnd.mpr (ok_mono (endsP_ok (N := N) G h9 t9 (by have := st.2.1; omega) f hn g gt) (fun w3 _ hw3 => ok_some.mpr (Or.inr hw3)))
    have pn := p.1.2.1
    have e103 : ∀ a : Nat, a < 22 → OK (fun w _ => NRM T Fv P PR q c w ∨ ENDc T Fv P PR q w) (hb_Ma_raise_103 N () u q q (I ((a : Nat) : Int))) := by
      intro a ha
      unfold hb_Ma_raise_103
      refine ok_bnd.mpr (ok_mono (pair_t (N := N) G.2.1 p.1.1 (by omega) p.1.2.2 gt ha) (fun w3 r3 hw3 => ?_))
      obtain ⟨f3, e4, r3o, ow3, kd3, g1, g2, g3⟩ := hw3
      exact e110 w3 r3 (n + 3) ow3 kd3 f3 (by omega) g1 g2
    rw [I_lit (n := 2)]
    refine k_eq ⟨by omega, by omega⟩ ⟨by decide, by decide⟩ (fun _ => e110 u _ n ow kd FC.rf (by omega) p.1.2.2 gt) (fun _ => ?_)
    exact ok_br.mpr ⟨fun _ => e103 7 (by omega), fun _ => e103 19 (by omega)⟩
  · 
    have c28 := st.2.2.2.1
    have hc : 1 ≤ cb + L.length := by
      rcases Nat.eq_zero_or_pos (cb + L.length) with z | z
      · exfalso; rw [z] at c28; exact e28 c28
      · exact z
    obtain ⟨j2, wb2, nb2, cb2, rk2, tg, h2, m2, L2, u1, u2, u3, u4, u5, u6, u7, ⟨u8, u9, u10, u11⟩, u12, u13, u14⟩ := UNW_top wt st ti hc (tr := (F u (pq q 8)).toNat)
    have tgb := wt _ _ _ _ _ _ u5
    obtain ⟨l, l1, l2, l3, l4⟩ := LNB_47 ln
    have lc := LNB_c ln
    rw [c28, l1] at lc
    refine ok_bnd.mpr ?_
    unfold hm_Fr_unwind hb_Fr_unwind_0
    rw [I_F (k := pq q 28), c28, lit0q]
    refine k_eq ⟨by omega, by omega⟩ ⟨by decide, by decide⟩ (fun z => absurd z (by omega)) (fun _ => ok_lt.mpr ?_)
    rw [lit1q, I_sub, show ((cb + L.length : Nat) : Int) - 1 = ((cb2 + L2.length : Nat) : Int) by omega, wi_e]
    have x28 : (wi u (pq q 28) ((cb2 + L2.length : Nat) : Int)).1 (pq q 28) = I ((cb2 + L2.length : Nat) : Int) := by show (if pq q 28 = pq q 28 then _ else _) = _; rw [if_pos rfl]
    have xl : lnQ (wi u (pq q 28) ((cb2 + L2.length : Nat) : Int)) q 47 = l := lnQ_e (by rw [F_wi (by omega) (by omega), if_neg (pq_inj (by decide))]; exact l1)
    rw [x28, xl, I_lit (n := 4), I_mul, show ((cb2 + L2.length : Nat) : Int) * (OfNat.ofNat 4 : Int) = ((4 * (cb2 + L2.length) : Nat) : Int) by show _ * (4 : Int) = _; omega]
    refine e_in ⟨by omega, by omega⟩ (by omega) (ok_lt.mpr ?_)
    rw [tnI (n := 4 * (cb2 + L2.length)) rfl (by omega), I_A (k := pq q 37), A_wi, u8, wi_e]
    have xl2 : lnQ (wi (wi u (pq q 28) ((cb2 + L2.length : Nat) : Int)) (pq q 21) ((j2 + 1 : Nat) : Int)) q 47 = l := lnQ_e (by rw [F_wi (by omega) (by omega), if_neg (pq_inj (by decide)), F_wi (by omega) (by omega), if_neg (pq_inj (by decide))]; exact l1)
    rw [xl2, I_add]
    refine e_in ⟨by omega, by omega⟩ (by omega) (ok_lt.mpr ?_)
    rw [tnI (n := 4 * (cb2 + L2.length) + 1) (by omega) (by omega), I_A (k := pq q 37), A_wi, A_wi, u9, wi_e]
    have xl3 : lnQ (wi (wi (wi u (pq q 28) ((cb2 + L2.length : Nat) : Int)) (pq q 21) ((j2 + 1 : Nat) : Int)) (pq q 24) ((nb2 + m2 : Nat) : Int)) q 47 = l := lnQ_e (by rw [F_wi (by omega) (by omega), if_neg (pq_inj (by decide)), F_wi (by omega) (by omega), if_neg (pq_inj (by decide)), F_wi (by omega) (by omega), if_neg (pq_inj (by decide))]; exact l1)
    rw [xl3, I_lit (n := 2), I_add]
    refine e_in ⟨by show 0 ≤ _ + (2 : Int); omega, by show _ + (2 : Int) < _; omega⟩ (by omega) (ok_lt.mpr ?_)
    rw [tnI (n := 4 * (cb2 + L2.length) + 2) (by show _ + (2 : Int) = _; omega) (by omega), I_A (k := pq q 37), A_wi, A_wi, A_wi, u10, wi_e]
    have xl4 : lnQ (wi (wi (wi (wi u (pq q 28) ((cb2 + L2.length : Nat) : Int)) (pq q 21) ((j2 + 1 : Nat) : Int)) (pq q 24) ((nb2 + m2 : Nat) : Int)) (pq q 26) ((wb2 + h2 : Nat) : Int)) q 47 = l := lnQ_e (by rw [F_wi (by omega) (by omega), if_neg (pq_inj (by decide)), F_wi (by omega) (by omega), if_neg (pq_inj (by decide)), F_wi (by omega) (by omega), if_neg (pq_inj (by decide)), F_wi (by omega) (by omega), if_neg (pq_inj (by decide))]; exact l1)
    rw [xl4, I_lit (n := 3), I_add]
    refine e_in ⟨by show 0 ≤ _ + (3 : Int); omega, by show _ + (3 : Int) < _; omega⟩ (by omega) (ok_some.mpr (ok_lt.mpr ?_))
    rw [tnI (n := 4 * (cb2 + L2.length) + 3) (by show _ + (3 : Int) = _; omega) (by omega), I_A (k := pq q 37), A_wi, A_wi, A_wi, A_wi, u11, wi_e]
    have f1 : FC q [1105] [] [] [21, 24, 26, 28] [] [] [] u (wi (wi (wi (wi (wi u (pq q 28) ((cb2 + L2.length : Nat) : Int)) (pq q 21) ((j2 + 1 : Nat) : Int)) (pq q 24) ((nb2 + m2 : Nat) : Int)) (pq q 26) ((wb2 + h2 : Nat) : Int)) 1105 ((tg : Nat) : Int)) := FC.wi_g (FC.wi_q (FC.wi_q (FC.wi_q (FC.wi_q FC.rf (by omega) (by simp)) (by omega) (by simp)) (by omega) (by simp)) (by omega) (by simp)) (by omega) (by simp)
    have y28 : F (wi (wi (wi (wi (wi u (pq q 28) ((cb2 + L2.length : Nat) : Int)) (pq q 21) ((j2 + 1 : Nat) : Int)) (pq q 24) ((nb2 + m2 : Nat) : Int)) (pq q 26) ((wb2 + h2 : Nat) : Int)) 1105 ((tg : Nat) : Int)) (pq q 28) = ((cb2 + L2.length : Nat) : Int) := by rw [F_wi (by omega) (by omega), if_neg (by unfold pq; omega), F_wi (by omega) (by omega), if_neg (pq_inj (by decide)), F_wi (by omega) (by omega), if_neg (pq_inj (by decide)), F_wi (by omega) (by omega), if_neg (pq_inj (by decide)), F_wi (by omega) (by omega), if_pos rfl]
    have y21 : F (wi (wi (wi (wi (wi u (pq q 28) ((cb2 + L2.length : Nat) : Int)) (pq q 21) ((j2 + 1 : Nat) : Int)) (pq q 24) ((nb2 + m2 : Nat) : Int)) (pq q 26) ((wb2 + h2 : Nat) : Int)) 1105 ((tg : Nat) : Int)) (pq q 21) = ((j2 + 1 : Nat) : Int) := by rw [F_wi (by omega) (by omega), if_neg (by unfold pq; omega), F_wi (by omega) (by omega), if_neg (pq_inj (by decide)), F_wi (by omega) (by omega), if_neg (pq_inj (by decide)), F_wi (by omega) (by omega), if_pos rfl]
    have y24 : F (wi (wi (wi (wi (wi u (pq q 28) ((cb2 + L2.length : Nat) : Int)) (pq q 21) ((j2 + 1 : Nat) : Int)) (pq q 24) ((nb2 + m2 : Nat) : Int)) (pq q 26) ((wb2 + h2 : Nat) : Int)) 1105 ((tg : Nat) : Int)) (pq q 24) = ((nb2 + m2 : Nat) : Int) := by rw [F_wi (by omega) (by omega), if_neg (by unfold pq; omega), F_wi (by omega) (by omega), if_neg (pq_inj (by decide)), F_wi (by omega) (by omega), if_pos rfl]
    have y26 : F (wi (wi (wi (wi (wi u (pq q 28) ((cb2 + L2.length : Nat) : Int)) (pq q 21) ((j2 + 1 : Nat) : Int)) (pq q 24) ((nb2 + m2 : Nat) : Int)) (pq q 26) ((wb2 + h2 : Nat) : Int)) 1105 ((tg : Nat) : Int)) (pq q 26) = ((wb2 + h2 : Nat) : Int) := by rw [F_wi (by omega) (by omega), if_neg (by unfold pq; omega), F_wi (by omega) (by omega), if_pos rfl]
    have y5 : F (wi (wi (wi (wi (wi u (pq q 28) ((cb2 + L2.length : Nat) : Int)) (pq q 21) ((j2 + 1 : Nat) : Int)) (pq q 24) ((nb2 + m2 : Nat) : Int)) (pq q 26) ((wb2 + h2 : Nat) : Int)) 1105 ((tg : Nat) : Int)) 1105 = ((tg : Nat) : Int) := at_F (by omega)
    have yr : (wi (wi (wi (wi (wi u (pq q 28) ((cb2 + L2.length : Nat) : Int)) (pq q 21) ((j2 + 1 : Nat) : Int)) (pq q 24) ((nb2 + m2 : Nat) : Int)) (pq q 26) ((wb2 + h2 : Nat) : Int)) 1105 ((tg : Nat) : Int)).2 = u.2 := rfl
    generalize wi (wi (wi (wi (wi u (pq q 28) ((cb2 + L2.length : Nat) : Int)) (pq q 21) ((j2 + 1 : Nat) : Int)) (pq q 24) ((nb2 + m2 : Nat) : Int)) (pq q 26) ((wb2 + h2 : Nat) : Int)) 1105 ((tg : Nat) : Int) = w1 at f1 y28 y21 y24 y26 y5 yr ⊢
    have p1 : PTQ w1 q n ow kd Fv P (nb2 + m2) (wb2 + h2) Y := by
      obtain ⟨⟨p1, p2, p3⟩, ⟨p4, p5⟩, ⟨p6, p7⟩, ⟨p8, p9⟩, ⟨l, a1, a2⟩, ⟨l2, b1, b2⟩, cc⟩ := p
      exact ⟨⟨by rw [f1.Fq (by omega) (by simp)]; exact p1, p2, by rw [yr]; exact p3⟩, ⟨y24, fun k hk => by rw [yr]; exact p5 k (by omega)⟩, ⟨y26, fun k hk => by rw [yr]; exact p7 k (by omega)⟩, ⟨by rw [f1.Fq (by omega) (by simp)]; exact p8, by rw [yr]; exact p9⟩, ⟨l, by rw [f1.Fq (by omega) (by simp)]; exact a1, by omega⟩, ⟨l2, by rw [f1.Fq (by omega) (by simp)]; exact b1, by omega⟩, cc⟩
    have ln1 : LNB w1 q := LNB_28 ln (fun k hk => f1.2.2.2.2.1 q k (by simp at hk; omega) (fun _ => by simp at hk ⊢; omega)) (by rw [y28, l1]; omega)
    have f1t : w1.2.1 1110 = u.2.1 1110 := by rw [yr]
    have fb2 := FBc_b wt u2
    rw [f1t]
    refine ok_bnd.mpr (ok_mono (push_t (N := N) p1 ln1 (by omega) gt) (fun w2 _ hw2 => ?_))
    obtain ⟨f2, p2, ln2, -⟩ := hw2
    have f3 : FC q [1105] [] [] [4, 5, 21, 24, 26, 28, 42, 43, 45] [] [32] [2, 3, 33, 35, 6] u w2 := FC.tr (FC.mo f1 (by simp) (by simp) (by simp) (by simp) (by simp) (by simp) (by simp)) (FC.mo f2 (by simp) (by simp) (by simp) (by simp) (by simp) (by simp) (by simp))
    have r30 := f3.2.2.2.2.2.2.1 q 30 (by omega) (by simp)
    have r37 := f3.2.2.2.2.2.2.1 q 37 (by omega) (by simp)
    rw [show wb2 + h2 + 1 = wb2 + (h2 + 1) by omega] at p2
    have h92 : F w2 (pq q 9) = 0 := by rw [f3.Fq (by omega) (by simp)]; exact h9
    have dw : DWc Fv P PR w2 := DWc_fc G.1 f3 hq (by rw [h9]; decide) (by rw [h92]; decide) (SMQ_up (G.1.2 q hq).1 (f3.Fq (by omega) (by simp)) (f3.Fq (by omega) (by simp)) (by rw [f3.Fq (by omega) (by simp)]; exact Int.le_refl _) (by rw [h9]; decide)) ⟨n, ow, kd, _, _, Y, p2⟩ (by simp) (by simp)
    have M2 : MIc T Fv P PR q w2 tg (h2 + 1) m2 L2 0 0 j2 wb2 nb2 cb2 rk2 := ⟨GEN_f G f3 dw (by simp) (by simp) ln2, h92, ⟨FBc_s r30 r37 u2, ⟨by rw [f2.Fq (by omega) (by simp)]; exact y21, by omega⟩, ⟨by rw [f3.aq (by omega) (by simp)]; exact u3, by rw [f3.aq (by omega) (by simp)]; exact u4⟩, by rw [f2.Fq (by omega) (by simp)]; exact y28, ENT_s r37 u6⟩, ⟨u5, by rw [f2.Fg (by omega) (by simp)]; exact y5⟩, ⟨p2.2.2.1.1, p2.2.1.1⟩, ⟨fun _ => by rw [f3.Fg (by omega) (by simp)]; exact gd, fun z => absurd rfl z⟩, fun z => absurd rfl z, fun z => absurd rfl z⟩
    have s9 : F w2 1109 = 0 := by rw [f3.Fg (by omega) (by simp)]; exact t9
    have s8 : F w2 1108 = 0 := by rw [f3.Fg (by omega) (by simp)]; exact t8
    have e0 : ∀ tr, potc T tg 0 tr = 32 * cKc T tg 24000 := fun tr => by unfold potc; rw [if_pos rfl]
    have hph : PHc T w2 q tg 0 rk2 < c := by
      unfold PHc at hf ⊢
      rw [e0, f3.Fg (k := 1107) (by omega) (by simp), f3.Fg (k := 1106) (by omega) (by simp)]; omega
    have nr : NRM T Fv P PR q c w2 := ⟨⟨tg, h2 + 1, m2, L2, 0, 0, j2, wb2, nb2, cb2, rk2, M2, hph⟩, s9, s8⟩
    have wr : ∀ a : Nat, a < 22 → OK (fun w _ => NRM T Fv P PR q c w ∨ ENDc T Fv P PR q w) (hb_Ma_raise_168 N () w2 q (I ((a : Nat) : Int))) := by
      intro a ha
      unfold hb_Ma_raise_168 hb_Ma_raise_172
      refine ok_bnd.mpr (ok_mono (wrap_g (N := N) (W := wb2 + h2) M2.1 h92 p2 (by omega) ha hN) (fun w3 r hw3 => ok_some.mpr ?_))
      rcases hw3 with ⟨-, k1, k2, k3⟩ | ⟨-, k1, k2, k3, U, ow2, kd2, k4⟩
      · exact Or.inr ⟨k1, k2, by rw [k3.1]; exact s9, by rw [k3.2]; exact M21 M2⟩
      · obtain ⟨M3, ph3⟩ := MI_f M2 (by omega) k2.toM k4 k3 u5 (k2.at5 M2)
        refine Or.inl ⟨⟨tg, h2 + 1, m2, L2, 0, 0, j2, wb2, nb2, cb2, rk2, M3, ?_⟩, by rw [k2.Fg (by omega) (by simp)]; exact s9, by rw [k2.Fg (by omega) (by simp)]; exact s8⟩
        rw [ph3]; exact hph
    unfold hb_Ma_raise_172
    refine k_eq ⟨by omega, by omega⟩ ⟨by decide, by decide⟩ (fun _ => ok_some.mpr (Or.inl nr)) (fun _ => ?_)
    exact ok_br.mpr ⟨fun _ => wr 7 (by omega), fun _ => wr 8 (by omega)⟩
theorem raise_ok (er : ERR T Fv P PR q c u) (hN : 3000000 ≤ N) : OK (fun w _ => NRM T Fv P PR q c w ∨ ENDc T Fv P PR q w) (hm_Ma_raise N u q) := by
  obtain ⟨v, how, ar, t, ⟨i, h, m, L, g, x, j, wb, nb, cb, rk, M, hf⟩, t9, t8, ⟨n, ow, kd, B, W, Y, p, gt⟩, hhow, har, rfl⟩ := er
  have eB : B = nb + m := by have := p.2.1.1; have := M.2.2.2.2.1.2; omega
  have eW : W = wb + h := by have := p.2.2.1.1; have := M.2.2.2.2.1.1; omega
  subst eB; subst eW
  have mb := MI_b M
  have ln := MI_ln M
  obtain ⟨b1, b2, -, gr, ⟨b5, b6⟩, ins⟩ := M.1.2.2.1 _ _ _ _ _ _ M.2.2.2.1.1
  unfold hm_Ma_raise hb_Ma_raise_0
  refine ok_lt.mpr ?_
  rw [lit0q, wi_e]
  have e09 : (wl (wi (wi v 1109 how) 1111 ar) 1110 t).1 1109 = I how := by
    rw [I_F]
    rw [show F (wl (wi (wi v 1109 how) 1111 ar) 1110 t) 1109 = F (wi (wi v 1109 how) 1111 ar) 1109 from rfl, F_wi (by omega) (by omega), if_neg (by decide), F_wi (by omega) (by omega), if_pos rfl]
  rw [e09]
  have f1 : FGc q v (wi (wl (wi (wi v 1109 how) 1111 ar) 1110 t) 1109 0) := FC.wi_g (FC.wl_g (FC.wi_g (FC.wi_g FC.rf (by omega) (by simp)) (by omega) (by simp)) (by omega) (by simp)) (by omega) (by simp)
  have y9 : F (wi (wl (wi (wi v 1109 how) 1111 ar) 1110 t) 1109 0) 1109 = 0 := by rw [F_wi (by decide) (by decide), if_pos rfl]
  have y11 : F (wi (wl (wi (wi v 1109 how) 1111 ar) 1110 t) 1109 0) 1111 = ar := by
    rw [F_wi (by decide) (by decide), if_neg (by decide)]
    show F (wi (wi v 1109 how) 1111 ar) 1111 = ar
    rw [F_wi (by omega) (by omega), if_pos rfl]
  have y12 : ∀ k, k ≠ 1109 → k ≠ 1111 → F (wi (wl (wi (wi v 1109 how) 1111 ar) 1110 t) 1109 0) k = F v k := fun k h1 h2 => by
    rw [F_wi (by decide) (by decide), if_neg h1]
    show F (wi (wi v 1109 how) 1111 ar) k = _
    rw [F_wi (by omega) (by omega), if_neg h2, F_wi (by omega) (by omega), if_neg h1]
  have yt : (wi (wl (wi (wi v 1109 how) 1111 ar) 1110 t) 1109 0).2.1 1110 = t := by rw [L_wi, L_wl, if_pos rfl]
  have yp : PTQ (wi (wl (wi (wi v 1109 how) 1111 ar) 1110 t) 1109 0) q n ow kd Fv P (nb + m) (wb + h) Y := PT_g (k := 1109) (by omega) (PTQ_same (PT_g (k := 1111) (y := ar) (by omega) (PT_g (k := 1109) (y := how) (by omega) p)) (fun _ _ => rfl) (fun _ _ => rfl))
  have yl : LNB (wi (wl (wi (wi v 1109 how) 1111 ar) 1110 t) 1109 0) q := LNB_g (k := 1109) (LNB_fc (LNB_g (k := 1111) (y := ar) (LNB_g (k := 1109) (y := how) ln (by omega)) (by omega)) (fun _ _ => rfl)) (by omega)
  generalize wi (wl (wi (wi v 1109 how) 1111 ar) 1110 t) 1109 0 = w at f1 y9 y11 y12 yt yp yl ⊢
  have a5 : F w 1105 = ((i : Nat) : Int) := by rw [y12 1105 (by decide) (by decide)]; exact M.2.2.2.1.2
  have gd : GDS T w g wb := by
    have := M.2.2.2.2.2.1
    unfold GDS at this ⊢
    rw [y12 1112 (by decide) (by decide), y12 1113 (by decide) (by decide), y12 1114 (by decide) (by decide), f1.ag (by omega) (by simp), f1.ag (by omega) (by simp)]
    exact this
  have s8 : F w 1108 = 0 := by rw [y12 1108 (by decide) (by decide)]; exact t8
  have hn32 : g ≠ 0 → x < i := fun hg => b6 (fun z => by
    rcases ins with ins | ins | ins
    · rcases ins with ⟨o, -⟩ | ⟨o, -⟩ | ⟨o, -⟩ | ⟨o, -⟩ | ⟨o, -⟩ | ⟨o, -⟩ | ⟨o, -⟩ | ⟨o, -⟩ | ⟨o, -⟩ | ⟨o, -⟩ | ⟨o, -⟩ | ⟨o, -⟩ | ⟨o, -⟩ <;> omega
    · rcases ins with ⟨o, -⟩ | ⟨o, -⟩ | ⟨o, -⟩ | ⟨o, -⟩ | ⟨o, -⟩ | ⟨o, -⟩ | ⟨o, -⟩ | ⟨o, -⟩ | ⟨o, -⟩ | ⟨o, -⟩ | ⟨o, -⟩ <;> omega
    · rcases ins with ⟨o, -⟩ | ⟨o, o1, -⟩ | ⟨o, -⟩ | ⟨o, -⟩ | ⟨o, -⟩ | o | ⟨o, -⟩ | ⟨o, -⟩ | ⟨o, -⟩
      · omega
      · exact hg o1
      all_goals omega)
  by_cases hg : g = 0
  · subst hg
    have d0 := gd.1 rfl
    have h9 : F w (pq q 9) = 0 := by rw [f1.Fq (by omega) (by simp)]; exact M.2.1
    have hq := M.1.2.2.2.2.2.2.1
    have dw : DWc Fv P PR w := DWc_fc M.1.1 f1 hq (by rw [M.2.1]; decide) (by rw [h9]; decide) (SMQ_g f1 (M.1.1.2 q hq).1 (by rw [M.2.1]; decide)) ⟨n, ow, kd, _, _, Y, yp⟩ (by simp) (by simp)
    have G : GEN T Fv P PR q w := GEN_f M.1 f1 dw (by simp) (by simp) yl
    have st : STc T w q j wb nb cb rk L := STc_s M.2.2.1 (f1.2.2.2.2.2.2.1 q 30 (by omega) (by simp)) (f1.2.2.2.2.2.2.1 q 37 (by omega) (by simp)) (f1.2.2.2.2.1 q 21 (by omega) (by simp)) (f1.2.2.2.2.1 q 28 (by omega) (by simp))
    have hf2 : PHc T w q i x rk ≤ c := by
      unfold PHc at hf ⊢
      rw [f1.Fq (by omega) (by simp), f1.Fg (k := 1107) (by omega) (by simp), f1.Fg (k := 1106) (by omega) (by simp)]; exact hf
    refine k_F (y := 0) rfl ⟨by decide, by decide⟩ (fun _ => ?_) (fun z => absurd d0 z)
    rw [m1I, I_F (k := 1111), y11]
    refine k_eq ⟨by omega, by omega⟩ ⟨by decide, by decide⟩ (fun _ => ?_) (fun hne => ?_)
    · exact raise65_ok G h9 y9 s8 st M.2.2.2.1.1 yp ⟨Nat.le_refl _, by omega⟩ (by rw [yt]; exact gt) d0 hhow hf2 hN
    · obtain ⟨a, rfl⟩ : ∃ a : Nat, ar = ((a : Nat) : Int) := ⟨ar.toNat, by omega⟩
      rw [yt]
      refine ok_bnd.mpr (ok_mono (push_t (N := N) yp yl (by omega) gt) (fun w2 _ hw2 => ?_))
      obtain ⟨f2, p2, ln2, -⟩ := hw2
      have h92 : F w2 (pq q 9) = 0 := by rw [f2.Fq (by omega) (by simp)]; exact h9
      have G2 : GEN T Fv P PR q w2 := GEN_f G f2 (DWc_m G.1 hq (by rw [h9]; decide) f2.toM p2) (by simp) (by simp) ln2
      rw [I_F (k := 1111), f2.Fg (by omega) (by simp), y11]
      refine ok_bnd.mpr (ok_mono (wrap_g (N := N) (W := wb + h) G2 h92 p2 (by omega) (by omega) hN) (fun w3 r hw3 => ?_))
      rcases hw3 with ⟨rfl, k1, k2, k3⟩ | ⟨rfl, k1, k2, k3, U, ow2, kd2, k4⟩
      · refine ok_br.mpr ⟨fun _ => ok_some.mpr (Or.inr ⟨k1, k2, ?_⟩), fun z => absurd z (by decide)⟩
        rw [k3.1, f2.Fg (by omega) (by simp), k3.2, f2.Fq (by omega) (by simp)]; exact ⟨y9, by have := st.2.1; omega⟩
      · refine ok_br.mpr ⟨fun z => absurd z (by decide), fun _ => ?_⟩
        obtain ⟨l, l1, l2, l3⟩ := k4.2.2.2.2.2.1
        have f23 := FNc.tr f2 k2
        rw [below_e (x := 0) (k := 0) k4.2.2.1.1 l1 l2 l3 rfl (by omega), bnd_so]
        refine ok_lt.mpr ?_
        rw [wl_e]
        have f4 : FC q [] [1110] [] [4, 5, 24, 26, 42, 43, 45] [] [32] [2, 3, 33, 35, 6] w (wl w3 1110 (w3.2.2.2 (pq q 35) (wb + h + 1 - 1 - 0))) := FC.wl_g (FC.mo f23 (by simp) (by simp) (by simp) (by simp) (by simp) (by simp) (by simp)) (by omega) (by simp)
        have p4 : PTQ (wl w3 1110 (w3.2.2.2 (pq q 35) (wb + h + 1 - 1 - 0))) q U ow2 kd2 Fv P (nb + m) (wb + h + 1) Y := PTQ_same k4 (fun _ _ => rfl) (fun _ _ => rfl)
        have e1110 : (wl w3 1110 (w3.2.2.2 (pq q 35) (wb + h + 1 - 1 - 0))).2.1 1110 = w3.2.2.2 (pq q 35) (wb + h + 1 - 1 - 0) := by rw [L_wl, if_pos rfl]
        have gt4 := k4.2.2.1.2 (wb + h + 1 - 1 - 0) (by omega)
        have ln4 : LNB (wl w3 1110 (w3.2.2.2 (pq q 35) (wb + h + 1 - 1 - 0))) q := LNB_fc k3 (fun _ _ => rfl)
        generalize wl w3 1110 (w3.2.2.2 (pq q 35) (wb + h + 1 - 1 - 0)) = w4 at f4 p4 e1110 ln4 ⊢
        have h94 : F w4 (pq q 9) = 0 := by rw [f4.Fq (by omega) (by simp)]; exact h9
        have dw4 : DWc Fv P PR w4 := DWc_fc G.1 f4 hq (by rw [h9]; decide) (by rw [h94]; decide) (SMQ_up (G.1.2 q hq).1 (f4.Fq (by omega) (by simp)) (f4.Fq (by omega) (by simp)) (by rw [f4.Fq (by omega) (by simp)]; exact Int.le_refl _) (by rw [h9]; decide)) ⟨U, ow2, kd2, _, _, Y, p4⟩ (by simp) (by simp)
        have G4 : GEN T Fv P PR q w4 := GEN_f G f4 dw4 (by simp) (by simp) ln4
        have st4 : STc T w4 q j wb nb cb rk L := STc_s st (f4.2.2.2.2.2.2.1 q 30 (by omega) (by simp)) (f4.2.2.2.2.2.2.1 q 37 (by omega) (by simp)) (f4.2.2.2.2.1 q 21 (by omega) (by simp)) (f4.2.2.2.2.1 q 28 (by omega) (by simp))
        refine raise65_ok G4 h94 (by rw [f4.Fg (by omega) (by simp)]; exact y9) (by rw [f4.Fg (by omega) (by simp)]; exact s8) st4 M.2.2.2.1.1 p4 ⟨by omega, by omega⟩ (by rw [e1110]; exact gt4) (by rw [f4.Fg (by omega) (by simp)]; exact d0) hhow ?_ hN
        unfold PHc at hf2 ⊢
        rw [f4.Fq (by omega) (by simp), f4.Fg (k := 1107) (by omega) (by simp), f4.Fg (k := 1106) (by omega) (by simp)]; exact hf2
  · have hx := hn32 hg
    obtain ⟨Mw, phw⟩ := MI_g M f1 yp yl M.2.2.2.1.1 hx a5 gd
    obtain ⟨g1, hg1, nn, tt, g2, g3, g4, g5, g6, g7, g8⟩ := gr hg
    obtain ⟨d1, -⟩ := gd.2 hg
    refine k_F (y := 0) rfl ⟨by decide, by decide⟩ (fun z => ?_) (fun _ => ?_)
    · exfalso
      rw [d1, f1.ag (by omega) (by simp), g6] at z
      omega
    · exact ok_bnd.mpr (ok_mono (guardFailsc_ok (N := N) Mw hx y9 s8 (by rw [phw]; exact hf) hg) (fun w3 _ hw3 => ok_some.mpr (Or.inl hw3)))
end
end
