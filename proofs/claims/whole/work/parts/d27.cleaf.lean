/-! patterns, there: leaves -/
set_option maxRecDepth 100000
section
variable {β : Type} {m0 w0 m w v u : MS} {K nm Nk : Nat → Nat} {T p a b cm N n lo n1 x : Nat} {sc t : SCT} {e : List Nat × List Nat × Nat} {own : Bool} {S : SF_Cm_listPattern} {R : MS → Unit → MS → β → Prop} {B' : Option (MS × β)} {x1 x2 x3 : Int32}
theorem ptc_a {x : Int32} {j k : Nat} (h : k ≠ 23 ∨ j ≠ a) : A (ptc m a x) k j = A m k j := by
  show ((ptc m a x).2.2.1 k j).toInt = (m.2.2.1 k j).toInt
  by_cases z : k = 23
  · rw [z, ptc_o (by omega)]
  · rw [ptc_r z]
theorem ptc_x {x : Int32} : A (ptc m a x) 23 a = x.toInt := by
  show ((ptc m a x).2.2.1 23 a).toInt = _
  rw [ptc_n]
/-- two words -/
theorem l_two {f : MS → Unit → Option (MS × Unit)} (hC : PCS m0 nm m a cm sc own) (hh : ∀ m2, PCS m0 nm m2 (a + 2) cm sc own → CFP m m2 a (sc.length - 1) → m2.2.2.1 42 = m.2.2.1 42 → A m2 23 a = x1.toInt ∧ A m2 23 (a + 1) = x2.toInt → PP R (f m2 ()) B') : PP R (bnd (jm_Cm_term N m x1 x2) f) B' := by
  unfold jm_Cm_term jb_Cm_term_0
  have e1 := hC.2.2.1
  rw [putd_e e1.1 e1.2.2]
  by_cases ha1 : a < 23990
  · rw [if_pos ha1, bnd_s]
    have c2 := PCS_put (x := x1) hC ha1
    have e2 := c2.2.2.1
    rw [putd_e e2.1 e2.2.2]
    by_cases ha2 : a + 1 < 23990
    · rw [if_pos ha2, bnd_s, bnd_s]
      have c3 := PCS_put (x := x2) c2 ha2
      refine hh _ c3 (CFP_put (CFP_put CFP_rf (Nat.le_refl _)) (by omega)) ?_ ⟨?_, ?_⟩
      · rw [ptc_r (by decide), ptc_r (by decide)]
      · rw [ptc_a (by omega), ptc_x]
      · rw [ptc_x]
    · rw [if_neg ha2]
      exact pp_nl
  · rw [if_neg ha1]
    exact pp_nl
/-- a number, an ATOM -/
theorem cp_lit (hC : PCS m0 nm m a cm sc own) (hn : n ≤ 100000) {k : Int} (hk : A m0 16 n = k) (hk2 : k = 1 ∨ k = 2) (hh : ∀ m2, PCS m0 nm m2 (a + 3) cm sc own → CFP m m2 a (sc.length - 1) → m2.2.2.1 42 = m.2.2.1 42 → A m2 23 a = 1 ∧ A m2 23 (a + 1) = k - 1 ∧ A m2 23 (a + 2) = A m0 18 n → PP R (some (m2, ())) B') : PP R (jm_Cm_pattern N S m (I (n : Nat))) B' := by
  have fr := hC.1
  unfold jm_Cm_pattern jb_Cm_pattern_0
  refine l_ck (fun hb => ?_)
  rw [i_nt2 hn, tre fr (by decide) hk]
  have go : ∀ (y : Int32), PP R (bnd (jm_Co_put N m 1) (fun u13 _ => ck (inb (I (n : Nat)) 8016) (bnd (jm_Cm_term N u13 y (u13.2.2.1 18 n)) (fun u20 _ => jb_Cm_pattern_298 N S (jg_Cm_pattern N S N) u20)))) B' ∨ y.toInt ≠ k - 1 := fun y => by
    by_cases hy : y.toInt = k - 1
    · refine Or.inl ?_
      have e0 := hC.2.2.1
      refine l_put e0.1 e0.2.2 (fun ha => l_ck (fun _ => ?_))
      have c1 := PCS_put (x := 1) hC ha
      refine l_two c1 (fun m2 h1 h2 h3 h4 => ?_)
      refine hh m2 h1 (CFP_tr (CFP_put CFP_rf (Nat.le_refl _)) h2 (by omega)) (by rw [h3, ptc_r (by decide)]) ⟨?_, ?_, ?_⟩
      · show (m2.2.2.1 23 a).toInt = 1
        rw [h2.2.2.1 a (by omega), ptc_n]; rfl
      · rw [h4.1]; exact hy
      · rw [h4.2, ptc_r (by decide), fr.2 18 (by omega)]; rfl
    · exact Or.inr hy
  rcases hk2 with z | z
  · subst z
    rw [decide_eq_true (show (I 1 = (1 : Int32)) by decide), br_t]
    rcases go 0 with g | g
    · exact g
    · exact absurd rfl g
  · subst z
    rw [decide_eq_false (show ¬ (I 2 = (1 : Int32)) by decide), br_f, decide_eq_true (show (I 2 = (2 : Int32)) by decide), br_t]
    rcases go 1 with g | g
    · exact g
    · exact absurd rfl g
/-- a number with a minus -/
theorem cp_neg (hC : PCS m0 nm m a cm sc own) (hn : n ≤ 100000) (hk : A m0 16 n = 17) (h18 : A m0 18 n = ((n1 : Nat) : Int)) (hn1 : n1 ≤ 100000) (hh : ∀ m2, PCS m0 nm m2 (a + 3) cm sc own → CFP m m2 a (sc.length - 1) → m2.2.2.1 42 = m.2.2.1 42 → A m2 23 a = 1 ∧ A m2 23 (a + 1) = 0 ∧ A m2 23 (a + 2) = (-(m0.2.2.1 18 n1)).toInt → PP R (some (m2, ())) B') : PP R (jm_Cm_pattern N S m (I (n : Nat))) B' := by
  have fr := hC.1
  unfold jm_Cm_pattern jb_Cm_pattern_0
  refine l_ck (fun hb => ?_)
  rw [i_nt2 hn, tre fr (by decide) hk]
  rw [decide_eq_false (show ¬ (I 17 = (1 : Int32)) by decide), br_f, decide_eq_false (show ¬ (I 17 = (2 : Int32)) by decide), br_f, decide_eq_false (show ¬ (I 17 = (3 : Int32)) by decide), br_f, decide_eq_false (show ¬ (I 17 = (4 : Int32)) by decide), br_f, decide_eq_false (show ¬ (I 17 = (5 : Int32)) by decide), br_f, decide_eq_false (show ¬ (I 17 = (6 : Int32)) by decide), br_f, decide_eq_false (show ¬ (I 17 = (7 : Int32)) by decide), br_f, decide_eq_false (show ¬ (I 17 = (8 : Int32)) by decide), br_f, decide_eq_false (show ¬ (I 17 = (9 : Int32)) by decide), br_f, decide_eq_false (show ¬ (I 17 = (10 : Int32)) by decide), br_f, decide_eq_false (show ¬ (I 17 = (11 : Int32)) by decide), br_f, decide_eq_false (show ¬ (I 17 = (12 : Int32)) by decide), br_f, decide_eq_false (show ¬ (I 17 = (13 : Int32)) by decide), br_f, decide_eq_false (show ¬ (I 17 = (14 : Int32)) by decide), br_f, decide_eq_false (show ¬ (I 17 = (15 : Int32)) by decide), br_f, decide_eq_false (show ¬ (I 17 = (16 : Int32)) by decide), br_f, decide_eq_true (show (I 17 = (17 : Int32)) by decide), br_t]
  have e0 := hC.2.2.1
  refine l_put e0.1 e0.2.2 (fun ha => l_ck (fun _ => l_ck (fun _ => ?_)))
  have c1 := PCS_put (x := 1) hC ha
  have e18 : (ptc m a 1).2.2.1 18 n = I (n1 : Nat) := by rw [ptc_r (by decide)]; exact tre fr (by decide) h18
  rw [e18, i_nt2 hn1]
  refine l_two c1 (fun m2 h1 h2 h3 h4 => ?_)
  refine hh m2 h1 (CFP_tr (CFP_put CFP_rf (Nat.le_refl _)) h2 (by omega)) (by rw [h3, ptc_r (by decide)]) ⟨?_, ?_, ?_⟩
  · show (m2.2.2.1 23 a).toInt = 1
    rw [h2.2.2.1 a (by omega), ptc_n]; rfl
  · rw [h4.1]; rfl
  · rw [h4.2, ptc_r (by decide), fr.2 18 (by omega)]
/-- a NAME -/
theorem PCS_42 {g : Nat → Int32} (h : PCS m0 nm m a cm sc own) : PCS m0 nm (upA m 42 g) a cm sc own := ⟨⟨h.1.1, fun k hk => by rw [upA_no (by omega)]; exact h.1.2 k hk⟩, CNs_42 h.2.1, h.2.2.1, h.2.2.2.1, by rw [upA_no (by decide)]; exact h.2.2.2.2.1, h.2.2.2.2.2⟩
theorem CFP_42 {g : Nat → Int32} {s : Nat} (h : CFP m v a s) : CFP m (upA v 42 g) a s := ⟨h.1, fun k h1 h2 h3 h4 => by rw [upA_no h4]; exact h.2.1 k h1 h2 h3 h4, fun j hj => by rw [upA_no (by decide)]; exact h.2.2.1 j hj, fun j hj => by rw [upA_no (by decide)]; exact h.2.2.2 j hj⟩
/-- what a NAME writes -/
def CQn (nm : Nat → Nat) (own : Bool) (x : Nat) (sc : SCT) (m2 : MS) (a b cm cm2 L : Nat) (sc2 : SCT) : Prop := (nm x = 0 ∧ b = a + 1 ∧ A m2 23 a = 5 ∧ sc2 = sc ∧ cm2 = cm ∧ L = 32) ∨ (nm x ≠ 0 ∧ b = a + 2 ∧ A m2 23 (a + 1) = ((nm x : Nat) : Int) ∧ sc2 = rfP own x sc ∧ L = rfL own x sc ∧ ((L = 32 ∧ A m2 23 a = 4 ∧ cm ≤ cm2) ∨ (L ≠ 32 ∧ A m2 23 a = 3 ∧ cm2 = cm)))
theorem rfP_bd (own : Bool) (h : rfL own x (e :: t) ≠ 32) : (hdS (rfP own x (e :: t))).1 = e.1 ∧ (∀ m nm, CNs m nm (e :: t) → CNs m nm (rfP own x (e :: t))) ∧ (rfP own x (e :: t)).length = (e :: t).length := by
  cases own with
  | false =>
    cases hf : fnb x (e :: t) with
    | false => exact absurd (rf_n hf).2.2 h
    | true =>
      rw [(rf_y hf).1]
      refine ⟨?_, fun m nm c => CNs_hld c, hld_len⟩
      unfold hld
      split
      · rfl
      · split <;> rfl
  | true =>
    cases hf : e.1.contains x with
    | false => exact absurd (ro_n (t := t) hf).2.2 h
    | true =>
      rw [(ro_y (t := t) hf).1]
      exact ⟨rfl, fun _ _ c => c, rfl⟩
theorem yb_bind {z : MS} {r : Unit} {y : Int32} (h : hm_Cm_bind N v y = some (z, r)) : (∀ k, k ≠ 706 → z.1 k = v.1 k) ∧ ∀ k, k ≠ 39 → k ≠ 41 → z.2.2.1 k = v.2.2.1 k := by
  have e32 : ∀ (u : MS), PK (fun z _ => z.1 = u.1 ∧ ∀ k, k ≠ 41 → z.2.2.1 k = u.2.2.1 k) (hb_Cm_bind_32 N () u) := fun u => by
    unfold hb_Cm_bind_32
    refine pk_ck (fun _ => pk_ck (fun _ => pk_lt (pk_ck (fun _ => pk_lt (pk_some ⟨rfl, fun k hk => upA_no hk⟩)))))
  have all : PK (fun z _ => (∀ k, k ≠ 706 → z.1 k = v.1 k) ∧ ∀ k, k ≠ 39 → k ≠ 41 → z.2.2.1 k = v.2.2.1 k) (hm_Cm_bind N v y) := by
    unfold hm_Cm_bind hb_Cm_bind_0
    refine pk_br (fun _ => pk_mo (e32 v) (fun z r q => ⟨fun k _ => by rw [q.1], fun k _ h2 => q.2 k h2⟩)) (fun _ => pk_ck (fun _ => pk_lt (pk_lt (pk_mo (e32 _) (fun z r q => ⟨fun k hk => ?_, fun k h1 h2 => ?_⟩)))))
    · rw [q.1]
      exact upI_ne hk
    · rw [q.2 k h2]
      exact upA_no h1
  exact all z r h
theorem cp_nip (hnm : NMJ nm) (hC : PCS m0 nm m a cm (e :: t) own) (ok : SOK (e :: t)) (hx : x < 1400) (hlo : lo ≤ 4001) (h4 : tot (e :: t) < 4000) (hh : ∀ m2 b cm2 L sc2, PCS m0 nm m2 b cm2 sc2 own → CFP m m2 a t.length → m2.2.2.1 42 = upd (m.2.2.1 42) lo (I (L : Nat)) → CQn nm own x (e :: t) m2 a b cm cm2 L sc2 → PP R (some (m2, ())) B') {f : MS → Unit → Option (MS × Unit)} (hf : ∀ v, f v () = some (v, ())) : PP R (bnd (jm_Cm_nameInPattern N m (I (nm x : Nat)) (I (lo : Nat))) f) B' := by
  have nx1 := hnm.2 x
  unfold jm_Cm_nameInPattern jb_Cm_nameInPattern_0
  cases hb : inb (I (lo : Nat)) 4002 with
  | false => exact pp_nl
  | true =>
    rw [ck_t, lt_e, i_nt hlo]
    have c0 : PCS m0 nm (upA m 42 (upd (m.2.2.1 42) lo 32)) a cm (e :: t) own := PCS_42 hC
    have f0 : CFP m (upA m 42 (upd (m.2.2.1 42) lo 32)) a t.length := CFP_42 CFP_rf
    have g0 : (upA m 42 (upd (m.2.2.1 42) lo 32)).2.2.1 42 = upd (m.2.2.1 42) lo 32 := upA_at
    generalize upA m 42 (upd (m.2.2.1 42) lo 32) = M at c0 f0 g0
    have e0 := c0.2.2.1
    by_cases h0 : nm x = 0
    · rw [decide_eq_true (by rw [h0]; rfl), br_t, putd_e e0.1 e0.2.2]
      by_cases ha : a < 23990
      · rw [if_pos ha, bnd_s]
        unfold jb_Cm_nameInPattern_92
        rw [bnd_s, hf]
        exact hh _ (a + 1) cm 32 (e :: t) (PCS_put c0 ha) (CFP_put f0 (Nat.le_refl _)) (by rw [ptc_r (by decide)]; exact g0) (Or.inl ⟨h0, rfl, ptc_x, rfl, rfl, rfl⟩)
      · rw [if_neg ha]
        exact pp_nl
    · rw [decide_eq_false (show ¬ (I (nm x : Nat) = (0 : Int32)) from fun z => h0 (i_inj (b := 0) (by omega) (by omega) z)), br_f]
      -- behind isBound()
      have e46 : ∀ (y3 : Int32), PK (fun v r => (r = 0 ∧ v = M ∧ rfP own x (e :: t) = bnS x (e :: t) ∧ rfL own x (e :: t) = 32) ∨ (r = 1 ∧ rfL own x (e :: t) ≠ 32 ∧ rfL own x (e :: t) ≤ 32 ∧ v = upA M 42 (upd (M.2.2.1 42) lo (I (rfL own x (e :: t) : Nat))))) (hm_Cm_isBound N M (I (nm x : Nat)) (I (lo : Nat)) y3) → PP R (bnd (jb_Cm_nameInPattern_46 N () M (I (nm x : Nat)) (I (nm x : Nat)) (I (lo : Nat)) y3) f) B' := fun y3 hk => by
        unfold jb_Cm_nameInPattern_46
        cases hz : hm_Cm_isBound N M (I (nm x : Nat)) (I (lo : Nat)) y3 with
        | none => exact pp_nl
        | some z =>
          obtain ⟨z1, z2⟩ := z
          rw [bnd_s]
          rcases hk z1 z2 hz with ⟨q1, q2, q3, q4⟩ | ⟨q1, q2, q2b, q3⟩
          · subst q2
            rw [decide_eq_true q1, br_t, putd_e e0.1 e0.2.2]
            by_cases ha : a < 23990
            · rw [if_pos ha, bnd_s]
              have c1 := PCS_put (x := 4) c0 ha
              have e1 := c1.2.2.1
              rw [putd_e e1.1 e1.2.2]
              by_cases ha1 : a + 1 < 23990
              · rw [if_pos ha1, bnd_s]
                have c2 := PCS_put (x := I (nm x : Nat)) c1 ha1
                have f2 := CFP_put (x := I (nm x : Nat)) (CFP_put (x := 4) f0 (Nat.le_refl _)) (show a ≤ a + 1 by omega)
                have w1 : A (ptc (ptc z1 a 4) (a + 1) (I (nm x : Nat))) 23 a = 4 := by rw [ptc_a (by omega), ptc_x]; rfl
                have w2 : A (ptc (ptc z1 a 4) (a + 1) (I (nm x : Nat))) 23 (a + 1) = ((nm x : Nat) : Int) := by rw [ptc_x]; exact I_ti (by omega) (by omega)
                have g2 : (ptc (ptc z1 a 4) (a + 1) (I (nm x : Nat))).2.2.1 42 = upd (m.2.2.1 42) lo 32 := by rw [ptc_r (by decide), ptc_r (by decide)]; exact g0
                generalize ptc (ptc z1 a 4) (a + 1) (I (nm x : Nat)) = V at c2 f2 w1 w2 g2
                cases hq : hm_Cm_bind N V (I (nm x : Nat)) with
                | none => exact pp_nl
                | some q =>
                  obtain ⟨q5, q6⟩ := q
                  obtain ⟨b1, b2, b3, b4⟩ := bind_c (N := N) (x := x) c2.2.1 h4 (show V.2.2.1 41 t.length = I (cm : Nat) from c2.2.2.2.2.1) c2.2.2.2.2.2.1 q5 q6 hq
                  have b5 := yb_bind hq
                  rw [bnd_s]
                  unfold jb_Cm_nameInPattern_92
                  rw [bnd_s, hf]
                  have r23 : q5.2.2.1 23 = V.2.2.1 23 := b5.2 23 (by decide) (by decide)
                  refine hh q5 (a + 2) (max cm (e.1.length + 1)) 32 (bnS x (e :: t)) ⟨⟨fun k hk => (b5.1 k (by omega)).trans (c2.1.1 k hk), fun k hk => (b5.2 k (by omega) (by omega)).trans (c2.1.2 k hk)⟩, b1, ⟨(b5.1 441 (by decide)).trans c2.2.2.1.1, by omega, by omega⟩, by rw [b5.1 713 (by decide)]; exact c2.2.2.2.1, ?_, ?_, ?_⟩ ⟨fun k h1 h2 => (b5.1 k h2).trans (f2.1 k h1 h2), fun k h1 h2 h3 h4 => (b5.2 k h2 h3).trans (f2.2.1 k h1 h2 h3 h4), fun j hj => by rw [r23]; exact f2.2.2.1 j hj, fun j hj => by rw [b2, upd_no hj]; exact f2.2.2.2 j hj⟩ (by rw [b3, g2]; rfl) (Or.inr ⟨h0, rfl, ?_, q3.symm, q4.symm, Or.inl ⟨rfl, ?_, by omega⟩⟩)
                  · show q5.2.2.1 41 t.length = _
                    rw [b2, upd_at]
                  · have := nd_len 1400 _ ok.1.1 ok.1.2.1
                    have := c2.2.2.2.2.2.1
                    omega
                  · show (e.1 ++ [x]).length ≤ _
                    rw [List.length_append, List.length_singleton]
                    omega
                  · show (q5.2.2.1 23 (a + 1)).toInt = _
                    rw [r23]; exact w2
                  · show (q5.2.2.1 23 a).toInt = _
                    rw [r23]; exact w1
              · rw [if_neg ha1]
                exact pp_nl
            · rw [if_neg ha]
              exact pp_nl
          · rw [q1, show decide ((1 : Int32) = 0) = false from rfl, br_f]
            have c1 : PCS m0 nm z1 a cm (e :: t) own := by rw [q3]; exact PCS_42 c0
            have f1 : CFP m z1 a t.length := by rw [q3]; exact CFP_42 f0
            have g1 : z1.2.2.1 42 = upd (m.2.2.1 42) lo (I (rfL own x (e :: t) : Nat)) := by rw [q3, upA_at, g0, upd_tw]
            have e1 := c1.2.2.1
            rw [putd_e e1.1 e1.2.2]
            by_cases ha : a < 23990
            · rw [if_pos ha, bnd_s]
              have c2 := PCS_put (x := 3) c1 ha
              have e2 := c2.2.2.1
              rw [putd_e e2.1 e2.2.2]
              by_cases ha1 : a + 1 < 23990
              · rw [if_pos ha1, bnd_s]
                unfold jb_Cm_nameInPattern_92
                rw [bnd_s, hf]
                have c3 := PCS_put (x := I (nm x : Nat)) c2 ha1
                obtain ⟨d1, d2, d3⟩ := rfP_bd (e := e) (t := t) own q2
                refine hh _ (a + 2) cm (rfL own x (e :: t)) (rfP own x (e :: t)) ⟨c3.1, d2 _ _ c3.2.1, c3.2.2.1, c3.2.2.2.1, by rw [d3]; exact c3.2.2.2.2.1, c3.2.2.2.2.2.1, by rw [d1]; exact c3.2.2.2.2.2.2⟩ (CFP_put (CFP_put f1 (Nat.le_refl _)) (by omega)) (by rw [ptc_r (by decide), ptc_r (by decide)]; exact g1) (Or.inr ⟨h0, rfl, ?_, rfl, rfl, Or.inr ⟨q2, ?_, rfl⟩⟩)
                · rw [ptc_x]; exact I_ti (by omega) (by omega)
                · rw [ptc_a (by omega), ptc_x]; rfl
              · rw [if_neg ha1]
                exact pp_nl
            · rw [if_neg ha]
              exact pp_nl
      have lv : lvx x (e :: t) ≤ 26 := by
        have := lvx_le (x := x) (sc := e :: t)
        have l2 : (e :: t).length = t.length + 1 := rfl
        have := c0.2.1.2.1.2
        omega
      have tl : t.length ≤ 26 := by have := c0.2.1.2.1.2; have l2 : (e :: t).length = t.length + 1 := rfl; omega
      rw [c0.2.2.2.1]
      cases own with
      | false =>
        show PP R (bnd (br true _ _) f) B'
        rw [br_t]
        refine e46 0 (pk_mo (isB_all (N := N) hnm c0.2.1 ok hx hlo) (fun v r q => ?_))
        rcases q with ⟨q1, q2, q3⟩ | ⟨q1, q2, q3⟩
        · exact Or.inl ⟨q1, q2, (rf_n q3).1, (rf_n q3).2.2⟩
        · exact Or.inr ⟨q1, by rw [(rf_y q2).2.2]; omega, by rw [(rf_y q2).2.2]; omega, by rw [(rf_y q2).2.2]; exact q3⟩
      | true =>
        show PP R (bnd (br false _ (ck (inb (M.1 709) 32) (jb_Cm_nameInPattern_46 N () M (I (nm x : Nat)) (I (nm x : Nat)) (I (lo : Nat)) (M.2.2.1 40 (M.1 709).toNatClampNeg)))) f) B'
        rw [br_f]
        cases hb2 : inb (M.1 709) 32 with
        | false => exact pp_nl
        | true =>
          rw [ck_t, show M.1 709 = I (t.length : Nat) from c0.2.1.1, i_nt (by omega), show M.2.2.1 40 t.length = I (tot t : Nat) from c0.2.1.2.2.2.2.1]
          refine e46 _ (pk_mo (isB_own (N := N) hnm c0.2.1 ok hx hlo) (fun v r q => ?_))
          rcases q with ⟨q1, q2, q3⟩ | ⟨q1, q2, q3⟩
          · have q4 : e.1.contains x = false := by simpa using q3
            exact Or.inl ⟨q1, q2, (ro_n (t := t) q4).1, (ro_n (t := t) q4).2.2⟩
          · have q4 : e.1.contains x = true := List.contains_iff_mem.mpr q2
            exact Or.inr ⟨q1, by rw [(ro_y (t := t) q4).2.2]; omega, by rw [(ro_y (t := t) q4).2.2]; omega, by rw [(ro_y (t := t) q4).2.2]; exact q3⟩
end
