/-! the text of a term, there -/
set_option maxRecDepth 100000
section
variable {h : Nat → Int64} {R : Int64 → Prop} {B : Nat → List Int32} {N j base top w b k z : Nat} {m0 m m2 : MS} {L M : List Int32} {v : Int32} {t x : Int64}
theorem toTup_s (hb : b ≠ 45) (hh : m0.2.2.2 b = h) (hR : ∀ t, R t → so t ≠ 11) (hR2 : ∀ c : Int, R (mk 10 c)) (o : OUs j base m0 m L) (s : STs h R (m.2.2.2 45) top w) (y : SZp h R k t z) (hz : z ≤ 1020) (e5 : so t = 5) (hw : w + 2 * z < 2048) : PK (fun m2 r => ∃ top2, r = I ((top2 : Nat) : Int) ∧ OUs j base m0 m2 L ∧ STs h R (m2.2.2.2 45) top2 (w + 2 * z) ∧ L ++ PNs h B (m2.2.2.2 45) top2 = L ++ (jnT (fun q => TXs h B (h (vn t + q))) 1 (blk h t - 1) ++ 125 :: PNs h B (m.2.2.2 45) top)) (hm_Te_toWriteTuple N m b (I (va t)) (I top)) := by
  cases k with
  | zero => exact y.elim
  | succ k =>
    rcases y with ⟨y1, -⟩ | ⟨y1, ⟨v1, v2, v3⟩, c, y3, y4⟩
    · exact absurd (Or.inr (Or.inl e5)) y1
    have v3 := v3 e5
    have p1 : prt t = 1 := by unfold prt; rw [if_neg (by omega), if_pos e5]
    have hbk : blk h t = 1 + vn (h (vn t)) := by unfold blk; rw [if_neg (by omega), if_pos e5]
    have ev := vn_e v1
    have eh := vn_e v3.1
    rw [p1, hbk, show 1 + vn (h (vn t)) - 1 = vn (h (vn t)) by omega] at y4
    rw [hbk, show 1 + vn (h (vn t)) - 1 = vn (h (vn t)) by omega]
    unfold hm_Te_toWriteTuple hb_Te_toWriteTuple_0
    rw [show (10 : Int32) = I 10 from rfl, show (125 : Int32) = I 125 from rfl, e_make, bnd_so]
    refine pk_bnd (pk_mo (pusht_s (B := B) (k := 1) (z := 0) o s (Or.inl ⟨nh_so (by rw [so_mk (by decide) (by decide)]; decide), hR2 _, rfl⟩) (by omega) (by rw [so_mk (by decide) (by decide)]; decide) (by omega)) (fun m3 r q => ?_))
    obtain ⟨rfl, o3, s3, q3, -⟩ := q
    rw [TXs_sign ⟨by decide, by decide⟩] at q3
    have hm := FRh hb hh o3
    refine pk_ck (fun _ => ?_)
    rw [show (I (va t)).toNatClampNeg = vn t from tnI ev (by omega), hm, valI, eh]
    refine tup_s (N := N) (B := B) (k := k) (c := c) (n0 := vn (h (vn t))) (wt := w + 2 * z) hb hh hR hR2 ⟨v1, v2⟩ (by omega) hw (fun i h1 h2 => ⟨y3 i (by omega) (by omega), ?_⟩) N (vn (h (vn t))) (top + 1) _ m3 (Nat.le_refl _) o3 s3 (by omega) ?_
    · have le := smm_le (c := c) (a := 1) (n := vn (h (vn t))) (j := i) (by omega) (by omega)
      omega
    · rw [q3]
      rfl
theorem toPair_s (hb : b ≠ 45) (hh : m0.2.2.2 b = h) (hR : ∀ t, R t → so t ≠ 11) (o : OUs j base m0 m L) (s : STs h R (m.2.2.2 45) top w) (y : SZp h R k t z) (hz : z ≤ 1020) (e7 : so t = 7) (hw : w + 2 * z < 2048) : PK (fun m2 r => r = I ((top + 3 : Nat) : Int) ∧ OUs j base m0 m2 L ∧ STs h R (m2.2.2.2 45) (top + 3) (w + 2 * z) ∧ PNs h B (m2.2.2.2 45) (top + 3) = TXs h B (h (vn t)) ++ (RSs h B (h (vn t + 1)) ++ PNs h B (m.2.2.2 45) top)) (hm_Te_toWritePair N m b (I (va t)) (I top)) := by
  cases k with
  | zero => exact y.elim
  | succ k =>
    rcases y with ⟨y1, -⟩ | ⟨y1, ⟨v1, v2, v3⟩, c, y3, y4⟩
    · exact absurd (Or.inr (Or.inr e7)) y1
    have b2 : blk h t = 2 := by unfold blk; rw [if_pos e7]
    have p0 : prt t = 0 := by unfold prt; rw [if_pos e7]
    have q0 : SZp h R k (h (vn t)) (c 0) := y3 0 (by omega) (by omega)
    have q1 := y3 1 (by omega) (by omega)
    rw [b2, p0] at y4
    have e2 : smm c 0 (2 - 0) = c 0 + c 1 := by show 0 + c (0 + 0) + c (0 + 1) = _; simp
    have ev := vn_e v1
    unfold hm_Te_toWritePair hb_Te_toWritePair_0
    have hm := FRh hb hh o
    rw [ev, lit1, I_add, show ((vn t : Nat) : Int) + 1 = ((vn t + 1 : Nat) : Int) by omega]
    refine pk_ck (fun _ => ?_)
    rw [tnI (n := vn t + 1) rfl (by omega), hm]
    refine pk_bnd (pk_mo (pusht_s (B := B) o s q1 (by omega) (SZp_so q1 hR) (by omega)) (fun m3 r q => ?_))
    obtain ⟨rfl, o3, s3, q3, r3⟩ := q
    rw [show (11 : Int32) = I 11 from rfl, lit0, e_make, bnd_so]
    refine pk_bnd (pk_mo (pushr_s (B := B) o3 s3 (by rw [r3]; exact SZp_so q1 hR) (by omega)) (fun m4 r q => ?_))
    obtain ⟨rfl, o4, s4, q4⟩ := q
    have hm4 := FRh hb hh o4
    refine pk_ck (fun _ => ?_)
    rw [tnI (n := vn t) rfl (by omega), hm4]
    refine pk_bnd (pk_mo (pusht_s (B := B) o4 s4 q0 (by omega) (SZp_so q0 hR) (by omega)) (fun m5 r q => ?_))
    obtain ⟨rfl, o5, s5, q5, -⟩ := q
    have e3 : PNs h B (m3.2.2.2 45) top = PNs h B (m.2.2.2 45) top := by
      have z1 := PNs_top (h := h) (B := B) (e := m3.2.2.2 45) (top := top) (by rw [r3]; exact SZp_so q1 hR)
      rw [q3, r3] at z1
      exact (List.append_cancel_left z1).symm
    refine pk_some ⟨rfl, o5, STs_mo (by omega) s5, ?_⟩
    rw [q5, q4, r3, e3]
/-- what follows in a list -/
theorem toRest_s (hb : b ≠ 45) (hh : m0.2.2.2 b = h) (hR : ∀ t, R t → so t ≠ 11) (hR2 : ∀ c : Int, R (mk 10 c)) (hO : OUh j base m0) (o : OUs j base m0 m L) (s : STs h R (m.2.2.2 45) top w) (y : SZp h R k (m.2.2.2 45 top) z) (hz : z ≤ 1020) (hw : w + 2 + 2 * z < 2048) : PK (fun m2 r => ∃ top2 L2, r = I ((top2 : Nat) : Int) ∧ OUs j base m0 m2 L2 ∧ STs h R (m2.2.2.2 45) top2 (w + 2 + 2 * z) ∧ L2 ++ PNs h B (m2.2.2.2 45) top2 = L ++ (RSs h B (m.2.2.2 45 top) ++ PNs h B (m.2.2.2 45) top)) (hm_Te_toWriteRest N m b (I ((top : Nat) : Int))) := by
  have tl := STs_le s
  unfold hm_Te_toWriteRest hb_Te_toWriteRest_0
  have np : ¬ (I ((top : Nat) : Int) < 0) := by
    rw [lit0, I_lt (by omega) (by omega) (by decide) (by decide)]
    omega
  rw [decide_eq_false np, br_f]
  refine pk_ck (fun _ => ?_)
  rw [tnI (n := top) rfl (by omega)]
  generalize ht : m.2.2.2 45 top = t at y ⊢
  unfold hb_Te_toWriteRest_19
  refine pk_lt ?_
  rw [if_neg np, e_tag, bnd_so, show (6 : Int32) = I 6 from rfl]
  refine p_eq (so_r t) ⟨by decide, by decide⟩ (fun e6 => ?_) (fun n6 => ?_)
  · have e6 : so t = 6 := e6
    refine pk_bnd (pk_mo (write_s hO o) (fun m3 r q => ?_))
    obtain ⟨o3, r3⟩ := q
    refine pk_some ⟨top, _, rfl, o3, by rw [r3]; exact STs_mo (by omega) s, ?_⟩
    rw [r3, RSs_nil e6]
    simp
  · have n6 : so t ≠ 6 := n6
    rw [e_tag, bnd_so, show (7 : Int32) = I 7 from rfl]
    refine p_eq (so_r t) ⟨by decide, by decide⟩ (fun e7 => ?_) (fun n7 => ?_)
    · have e7 : so t = 7 := e7
      refine pk_bnd (pk_mo (write_s hO o) (fun m3 r q => ?_))
      obtain ⟨o3, r3⟩ := q
      rw [valI]
      refine pk_bnd (pk_mo (toPair_s (N := N) (B := B) (w := w) hb hh hR o3 (by rw [r3]; exact s) y hz e7 (by omega)) (fun m4 r q => ?_))
      obtain ⟨rfl, o4, s4, q4⟩ := q
      refine pk_some ⟨top + 3, _, rfl, o4, STs_mo (by omega) s4, ?_⟩
      rw [q4, r3, (TXs_pair (A := B) y (by omega) e7).2]
      simp
    · have n7 : so t ≠ 7 := n7
      refine pk_bnd (pk_mo (write_s hO o) (fun m3 r q => ?_))
      obtain ⟨o3, r3⟩ := q
      rw [show (10 : Int32) = I 10 from rfl, show (93 : Int32) = I 93 from rfl, e_make, bnd_so]
      refine pk_bnd (pk_mo (pusht_s (B := B) (k := 1) (z := 0) (top := top) (w := w) o3 (by rw [r3]; exact s) (Or.inl ⟨nh_so (by rw [so_mk (by decide) (by decide)]; decide), hR2 _, rfl⟩) (by omega) (by rw [so_mk (by decide) (by decide)]; decide) (by omega)) (fun m4 r q => ?_))
      obtain ⟨rfl, o4, s4, q4, -⟩ := q
      refine pk_bnd (pk_mo (pusht_s (B := B) o4 s4 y hz (SZp_so y hR) (by omega)) (fun m5 r q => ?_))
      obtain ⟨rfl, o5, s5, q5, -⟩ := q
      refine pk_some ⟨top + 1 + 1, _, rfl, o5, STs_mo (by omega) s5, ?_⟩
      rw [q5, q4, r3, TXs_sign ⟨by decide, by decide⟩, RSs_imp (A := B) y (by omega) n6 n7]
      simp
      rfl
/-- the text of a word -/
theorem wlen_s {u : MS} {v a : Nat} (h : WDc u v) (ha : (a : Int) < F u (20 * v + 2)) : OK (fun w r => w = u ∧ r = I (A u (v + 2) (a + 1) - A u (v + 2) a)) (hm_Wo_length N u v (I a)) := by
  obtain ⟨h1, h2, h3, h3b, h4⟩ := h
  unfold hm_Wo_length hb_Wo_length_0 hb_Wo_length_12 hb_Wo_length_31
  simp only [I_F, I_A, lit0, lit1, I_add, I_sub]
  obtain ⟨g1, g2, g3⟩ := h4 a ha
  refine k_lt ⟨by omega, by omega⟩ ⟨by decide, by decide⟩ (fun z => by omega) (fun a0 => k_lt ⟨by omega, by omega⟩ (FRG1 u _) (fun a1 => ?_) (fun z => by omega))
  refine e_in ⟨by omega, by omega⟩ (by omega) (e_in ⟨by omega, by omega⟩ (by omega) ?_)
  rw [show ((a : Nat) : Int) + 1 = ((a + 1 : Nat) : Int) by omega, tnI (n := a + 1) rfl (by omega), tnI (n := a) rfl (by omega)]
  exact ok_some.mpr ⟨rfl, rfl⟩
theorem wsgn_s {u : MS} {v a k : Nat} (h : WDc u v) (ha : (a : Int) < F u (20 * v + 2)) (hk : (k : Int) < A u (v + 2) (a + 1) - A u (v + 2) a) : OK (fun w r => w = u ∧ r = u.2.2.1 (v + 1) ((A u (v + 2) a).toNat + k)) (hm_Wo_sign N u v (I a) (I k)) := by
  obtain ⟨h1, h2, h3, h3b, h4⟩ := h
  unfold hm_Wo_sign hb_Wo_sign_0 hb_Wo_sign_35
  simp only [I_F, I_A, lit0, lit1, I_add, I_sub]
  obtain ⟨g1, g2, g3⟩ := h4 a ha
  refine k_lt ⟨by omega, by omega⟩ ⟨by decide, by decide⟩ (fun z => by omega) (fun a0 => k_le (FRG1 u _) ⟨by omega, by omega⟩ (fun z => by omega) (fun a1 => k_lt ⟨by omega, by omega⟩ ⟨by decide, by decide⟩ (fun z => by omega) (fun k0 => ?_)))
  refine e_in ⟨by omega, by omega⟩ (by omega) (e_in ⟨by omega, by omega⟩ (by omega) ?_)
  rw [show ((a : Nat) : Int) + 1 = ((a + 1 : Nat) : Int) by omega, tnI (n := a + 1) rfl (by omega), tnI (n := a) rfl (by omega)]
  refine k_lt ⟨by omega, by omega⟩ ⟨by omega, by omega⟩ (fun k1 => e_in ⟨by omega, by omega⟩ (by omega) (e_in ⟨by omega, by omega⟩ (by omega) (ok_some.mpr ⟨rfl, ?_⟩))) (fun z => by omega)
  rw [tnI (n := (A u (v + 2) a).toNat + k) (by omega) (by omega)]
theorem atT_drop {sg : Nat → Int32} {fr : Nat → Nat} {a k : Nat} (hk : k < fr (a + 1) - fr a) : (atT sg fr a).drop k = sg (fr a + k) :: (atT sg fr a).drop (k + 1) := by
  have hl : k < (atT sg fr a).length := by unfold atT; simpa using hk
  rw [List.drop_eq_getElem_cons hl]
  congr 1
  simp [atT]
theorem atT_end {sg : Nat → Int32} {fr : Nat → Nat} {a k : Nat} (hk : fr (a + 1) - fr a ≤ k) : (atT sg fr a).drop k = [] := by
  apply List.drop_eq_nil_of_le
  unfold atT
  simpa using hk
theorem alw_s (hO : OUh j base m0) (hA : WDc m0 1) {a : Nat} (ha : (a : Int) < F m0 22) : ∀ (g i : Nat) (m : MS) (L : List Int32), i ≤ 100000 → OUs j base m0 m L → PK (fun m2 _ => OUs j base m0 m2 (L ++ (ATc m0 a).drop i) ∧ m2.2.2.2 = m.2.2.2) (hg_Te_writeAlone N g m (I a) (I i)) := by
  intro g
  have hj3 : ∀ y, y < 10 → y ∉ [j] := fun y hy q => by
    have := hO.2.2.2.2
    simp at q
    omega
  have ha2 := hA.2.2.2.2 a ha
  have r3 := hA.2.2.2.1
  induction g with
  | zero => intro i m L _ _; exact pk_none
  | succ g ih =>
    intro i m L hi o
    show PK _ (hb_Te_writeAlone_59 N (hg_Te_writeAlone N g) m (I a) (I i))
    unfold hb_Te_writeAlone_59 hb_Te_writeAlone_170
    have hA2 : WDc m 1 := WDc_fr hA o.1 (by simp) (hj3 3 (by omega))
    have ea : ∀ q, A m 3 q = A m0 3 q := fun q => FR.A o.1 (hj3 3 (by omega))
    have ha3 : (a : Int) < F m (20 * 1 + 2) := by rw [FR.F o.1 (by simp)]; exact ha
    have g2 : A m (1 + 2) (a + 1) - A m (1 + 2) a = A m0 3 (a + 1) - A m0 3 a := by rw [show (1 + 2 : Nat) = 3 from rfl, ea, ea]
    refine pk_bnd (pk_mo (pk_ok (wlen_s (N := N) hA2 ha3)) (fun m3 r q => ?_))
    obtain ⟨rfl, rfl⟩ := q
    rw [g2]
    have b1 : 0 ≤ A m0 3 a ∧ A m0 3 a ≤ A m0 3 (a + 1) ∧ A m0 3 (a + 1) ≤ bl 2 := ha2
    have b2 : bl 2 ≤ 100000 := r3
    refine p_le ⟨by omega, by omega⟩ ⟨by omega, by omega⟩ (fun c => pk_some ⟨?_, rfl⟩) (fun c => ?_)
    · have e : (ATc m0 a).drop i = [] := atT_end (fr := fun i => (A m0 3 i).toNat) (by omega)
      rw [e, List.append_nil]
      exact o
    · refine pk_bnd (pk_mo (pk_ok (wsgn_s (N := N) (k := i) hA2 ha3 (by rw [g2]; omega))) (fun m4 r q => ?_))
      obtain ⟨rfl, rfl⟩ := q
      refine pk_bnd (pk_mo (write_s hO o) (fun m5 r q => ?_))
      obtain ⟨o5, r5⟩ := q
      rw [lit1, I_add, show ((i : Nat) : Int) + 1 = ((i + 1 : Nat) : Int) by omega]
      refine pk_mo (ih (i + 1) m5 _ (by omega) o5) (fun m6 r q => ⟨?_, q.2.trans r5⟩)
      have e : (ATc m0 a).drop i = m0.2.2.1 2 ((A m0 3 a).toNat + i) :: (ATc m0 a).drop (i + 1) := atT_drop (sg := m0.2.2.1 2) (fr := fun i => (A m0 3 i).toNat) (by omega)
      have e5 : m4.2.2.1 (1 + 1) ((A m4 (1 + 2) a).toNat + i) = m0.2.2.1 2 ((A m0 3 a).toNat + i) := by
        rw [show (1 + 1 : Nat) = 2 from rfl, show (1 + 2 : Nat) = 3 from rfl, ea, o.1.2.2.1 2 (hj3 2 (by omega))]
      rw [e]
      rw [e5, List.append_assoc] at q
      exact q.1
theorem alone_s (hO : OUh j base m0) (hA : WDc m0 1) (h5 : so t ≠ 5) (ha : so t = 1 → 0 ≤ va t ∧ va t < F m0 22) (o : OUs j base m0 m L) : PK (fun m2 _ => OUs j base m0 m2 (L ++ alT (ATc m0) t) ∧ m2.2.2.2 = m.2.2.2) (hm_Te_writeAlone N m t) := by
  unfold hm_Te_writeAlone hb_Te_writeAlone_0 hb_Te_writeAlone_170
  have hr := so_r t
  rw [e_tag, bnd_so, valI, lit0, lit1, show (2 : Int32) = I 2 from rfl, show (3 : Int32) = I 3 from rfl, show (4 : Int32) = I 4 from rfl, show (5 : Int32) = I 5 from rfl, show (6 : Int32) = I 6 from rfl]
  unfold alT
  refine p_eq hr ⟨by decide, by decide⟩ (fun c => ?_) (fun c0 => ?_)
  · rw [if_pos c]
    exact pk_bnd (pk_mo (num_s hO o) (fun m3 r q => pk_some q))
  rw [if_neg c0]
  refine p_eq hr ⟨by decide, by decide⟩ (fun c => ?_) (fun c1 => ?_)
  · rw [if_pos c]
    have q := ha c
    have ev := vn_e q.1
    rw [ev]
    exact alw_s (N := N) hO hA (a := vn t) (by omega) N 0 m L (by omega) o
  rw [if_neg c1]
  refine p_eq hr ⟨by decide, by decide⟩ (fun c => ?_) (fun c2 => ?_)
  · have c : so t = 2 := c
    rw [if_pos c]
    refine pk_bnd (pk_mo (write_s hO o) (fun m3 r q => pk_bnd (pk_mo (num_s hO q.1) (fun m4 r q4 => pk_some ⟨?_, q4.2.trans q.2⟩))))
    rw [List.append_assoc] at q4
    exact q4.1
  have c2 : ¬ so t = 2 := c2
  rw [if_neg c2]
  refine p_eq hr ⟨by decide, by decide⟩ (fun c => ?_) (fun c3 => ?_)
  · have c : so t = 3 := c
    rw [if_pos c]
    refine pk_bnd (pk_mo (write_s hO o) (fun m3 r q => pk_bnd (pk_mo (write_s hO q.1) (fun m4 r q4 => pk_bnd (pk_mo (write_s hO q4.1) (fun m5 r q5 => pk_some ⟨?_, q5.2.trans (q4.2.trans q.2)⟩))))))
    rw [List.append_assoc, List.append_assoc] at q5
    exact q5.1
  have c3 : ¬ so t = 3 := c3
  rw [if_neg c3]
  refine p_eq hr ⟨by decide, by decide⟩ (fun c => ?_) (fun c4 => ?_)
  · have c : so t = 4 := c
    rw [if_pos c]
    refine pk_bnd (pk_mo (write_s hO o) (fun m3 r q => pk_bnd (pk_mo (num_s hO q.1) (fun m4 r q4 => pk_bnd (pk_mo (write_s hO q4.1) (fun m5 r q5 => pk_some ⟨?_, q5.2.trans (q4.2.trans q.2)⟩))))))
    rw [List.append_assoc, List.append_assoc] at q5
    exact q5.1
  have c4 : ¬ so t = 4 := c4
  rw [if_neg c4]
  refine p_eq hr ⟨by decide, by decide⟩ (fun c => absurd c h5) (fun c5 => ?_)
  refine p_eq hr ⟨by decide, by decide⟩ (fun c => ?_) (fun c6 => ?_)
  · have c : so t = 6 := c
    rw [if_pos c]
    refine pk_bnd (pk_mo (write_s hO o) (fun m3 r q => pk_bnd (pk_mo (write_s hO q.1) (fun m4 r q4 => pk_some ⟨?_, q4.2.trans q.2⟩))))
    rw [List.append_assoc] at q4
    exact q4.1
  have c6 : ¬ so t = 6 := c6
  rw [if_neg c6]
  exact pk_bnd (pk_mo (write_s hO o) (fun m3 r q => pk_some q))
end
