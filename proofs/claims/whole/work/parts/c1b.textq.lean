/-! the text of a term, here: all of it -/
set_option maxRecDepth 100000
/-- L has been written: the text T, or a hundred signs of it -/
def DNr (m0 m : MS) (T : List Int32) : Prop := ∃ L, OUr m0 m L ∧ L.length ≤ 6000 ∧ (∃ X, T = L ++ X) ∧ (L = T ∨ 100 ≤ L.length)
section
variable {h : Nat → Int64} {N p many w k z : Nat} {m0 m m2 u : MS} {L M T : List Int32} {t x : Int64} {B : Nat → List Int32}
theorem LFr_so (n : Int) : ∀ t, LFr n t → so t ≠ 21 := fun _ q => by have := q.1; omega
theorem LFr_sg (n : Int) : ∀ c : Int, LFr n (mk 20 c) := fun c => by
  unfold LFr
  rw [so_mk (by decide) (by decide)]
  exact ⟨by decide, fun q => absurd q (by decide)⟩
theorem numT_len (v : Int32) : (numT v).length ≤ 41 := by
  unfold numT
  rw [List.length_append]
  have := dgT_len (y := abT v) (f := 40) (u := unT (abT v) 40 1)
  split
  · simp only [List.length_nil]; omega
  · simp only [List.length_singleton]; omega
theorem hp_o (hh : hp m0 p = h) (o : OUr m0 m L) : hp m p = h := by
  rw [← hh]
  unfold hp
  rw [o.1.2.2.2 88 (by decide)]
theorem len1 {v : Int32} : (L ++ [v]).length = L.length + 1 := by simp
/-- what follows in a list -/
theorem rest_r (hp1 : p < 25) (hh : hp m0 p = h) {R : Int64 → Prop} (hR : ∀ t, R t → so t ≠ 21) (hR2 : ∀ c : Int, R (mk 20 c)) (hl : L.length < 5000) (o : OUr m0 m L) (s : STr h R (m.2.2.2 141) many w) {q : Nat} (hq : q ≤ 1000) (y : SZp h R k (h (q + 1)) z) (hz : z ≤ 1000) (hw : w + 3 + 2 * z ≤ 2001) : PK (fun m2 r => ∃ many2 L2 w2, r = I ((many2 : Nat) : Int) ∧ OUr m0 m2 L2 ∧ L2.length = L.length + 1 ∧ STr h R (m2.2.2.2 141) many2 w2 ∧ w2 ≤ 2001 ∧ L2 ++ PNr h B (m2.2.2.2 141) many2 = L ++ (RSs h B (h (q + 1)) ++ PNr h B (m.2.2.2 141) many)) (fm_M_restOfList N m (I p) (I many) (I q)) := by
  have tl := STr_le s
  unfold fm_M_restOfList fb_M_restOfList_0 fb_M_restOfList_124
  rw [lit1, I_add, show ((q : Nat) : Int) + 1 = ((q + 1 : Nat) : Int) by omega]
  refine pk_bnd (pk_mo (cell_p hp1 (by omega)) (fun m3 r q3 => ?_))
  obtain ⟨rfl, rfl⟩ := q3
  rw [hp_o hh o]
  generalize h (q + 1) = t at y ⊢
  have hr := so_r t
  rw [sortOf_e, bnd_so, show (6 : Int32) = I 6 from rfl]
  refine p_eq hr ⟨by decide, by decide⟩ (fun e6 => ?_) (fun n6 => ?_)
  · have e6 : so t = 6 := e6
    refine pk_bnd (pk_mo (sign_r (by omega) o) (fun m4 r q4 => ?_))
    obtain ⟨o4, r4⟩ := q4
    refine pk_some ⟨many, _, w, rfl, o4, len1, by rw [r4]; exact s, by omega, ?_⟩
    rw [r4, RSs_nil e6]
    simp
  have n6 : so t ≠ 6 := n6
  rw [sortOf_e, bnd_so, show (7 : Int32) = I 7 from rfl]
  refine p_eq hr ⟨by decide, by decide⟩ (fun e7 => ?_) (fun n7 => ?_)
  · have e7 : so t = 7 := e7
    refine pk_bnd (pk_mo (sign_r (by omega) o) (fun m4 r q4 => ?_))
    obtain ⟨o4, r4⟩ := q4
    rw [(TXs_pair (A := B) y (by omega) e7).2]
    cases k with
    | zero => exact y.elim
    | succ k =>
    rcases y with ⟨y1, -⟩ | ⟨y1, ⟨v1, v2, v3⟩, c, y3, y4⟩
    · exact absurd (Or.inr (Or.inr e7)) y1
    have b2 : blk h t = 2 := by unfold blk; rw [if_pos e7]
    have p0 : prt t = 0 := by unfold prt; rw [if_pos e7]
    have q0 : SZp h R k (h (vn t)) (c 0) := y3 0 (by omega) (by omega)
    have q1 := y3 1 (by omega) (by omega)
    rw [b2, p0] at y4
    have e2 : smm c 0 (2 - 0) = c 0 + c 1 := by show 0 + c (0 + 0) + c (0 + 1) = _; simp
    have ev := vn_e v1
    rw [valueOf_e, bnd_so, show (21 : Int32) = I 21 from rfl, ev, term_e, bnd_so]
    refine pk_ck (fun _ => pk_lt ?_)
    rw [tnI (n := many) rfl (by omega), wj_e, valueOf_e, bnd_so, ev]
    have s4 : STr h R (m4.2.2.2 141) many w := by rw [r4]; exact s
    obtain ⟨s5, p5⟩ := putr_r (B := B) s4 (by omega) q1 (by omega)
    have o5 : OUr m0 (wj m4 141 many (mk 21 ((vn t : Nat) : Int))) (L ++ [44]) := OUr_wj o4
    have p5 : PNr h B ((wj m4 141 many (mk 21 ((vn t : Nat) : Int))).2.2.2 141) (many + 1) = RSs h B (h (vn t + 1)) ++ PNr h B (m3.2.2.2 141) many := by rw [p5, r4]
    generalize wj m4 141 many (mk 21 ((vn t : Nat) : Int)) = m5 at *
    refine pk_bnd (pk_mo (cell_p hp1 (by omega)) (fun m6 r q6 => ?_))
    obtain ⟨rfl, rfl⟩ := q6
    rw [hp_o hh o5, I_add, show ((many : Nat) : Int) + 1 = ((many + 1 : Nat) : Int) by omega]
    refine pk_ck (fun _ => pk_lt ?_)
    rw [tnI (n := many + 1) rfl (by omega), wj_e]
    obtain ⟨s7, p7⟩ := putt_r (B := B) s5 q0 (by omega) (SZp_so2 q0 hR)
    refine pk_some ⟨many + 1 + 1, _, _, ?_, OUr_wj o5, len1, s7, by omega, ?_⟩
    · exact addN (a := many) (b := 2)
    · rw [p7, p5]
      simp
  · have n7 : so t ≠ 7 := n7
    refine pk_bnd (pk_mo (sign_r (by omega) o) (fun m4 r q4 => ?_))
    obtain ⟨o4, r4⟩ := q4
    have s4 : STr h R (m4.2.2.2 141) many w := by rw [r4]; exact s
    rw [show (20 : Int32) = I 20 from rfl, show (93 : Int32) = I 93 from rfl, term_e, bnd_so]
    refine pk_ck (fun _ => pk_lt ?_)
    rw [tnI (n := many) rfl (by omega), wj_e, I_add, show ((many : Nat) : Int) + 1 = ((many + 1 : Nat) : Int) by omega]
    refine pk_ck (fun _ => pk_lt ?_)
    rw [tnI (n := many + 1) rfl (by omega), wj_e]
    obtain ⟨s5, p5⟩ := putt_r (B := B) (k := 1) (z := 0) (t := mk 20 93) s4 (Or.inl ⟨nh_so (by rw [so_mk (by decide) (by decide)]; decide), hR2 _, rfl⟩) (by omega) (by rw [so_mk (by decide) (by decide)]; decide)
    have o5 : OUr m0 (wj m4 141 many (mk 20 93)) (L ++ [124]) := OUr_wj o4
    rw [r4, TXs_sig2 ⟨by decide, by decide⟩] at p5
    obtain ⟨s7, p7⟩ := putt_r (B := B) s5 y hz (SZp_so2 y hR)
    refine pk_some ⟨many + 1 + 1, _, _, ?_, OUr_wj o5, len1, s7, by omega, ?_⟩
    · exact addN (a := many) (b := 2)
    · rw [p7, p5, RSs_imp (A := B) y (by omega) n6 n7]
      simp
      rfl
/-- the loops -/
theorem won_r (hp1 : p < 25) (hh : hp m0 p = h) (hA : ATM m0) : ∀ g : Nat,
    (∀ (many w : Nat) (m : MS) (L : List Int32), OUr m0 m L → L.length ≤ 6000 → STr h (LFr (F m0 14)) (m.2.2.2 141) many w → w ≤ 2001 → L ++ PNr h (ATr m0) (m.2.2.2 141) many = T → PK (fun m2 _ => DNr m0 m2 T) ((gg_M_writeOn N g).1 m (I p) (I many))) ∧
    (∀ (many w v i : Nat) (m : MS) (L : List Int32), OUr m0 m L → (v : Int) < F m0 14 → (A m0 13 v).toNat + i ≤ (A m0 13 (v + 1)).toNat → L.length ≤ 100 + i → STr h (LFr (F m0 14)) (m.2.2.2 141) many w → w ≤ 2001 → L ++ ((ATr m0 v).drop i ++ PNr h (ATr m0) (m.2.2.2 141) many) = T → PK (fun m2 _ => DNr m0 m2 T) ((gg_M_writeOn N g).2.1 m (I p) (I many) (I v) (I (((A m0 13 v).toNat + i : Nat) : Int)))) ∧
    (∀ (many w v i : Nat) (c : Nat → Nat) (m : MS) (L : List Int32), OUr m0 m L → L.length ≤ 6000 → v ≤ 1000 → i ≤ 1000 → (∀ j, 1 ≤ j → j ≤ i → ∃ k, SZp h (LFr (F m0 14)) k (h (v + j)) (c j) ∧ c j ≤ 1000) → STr h (LFr (F m0 14)) (m.2.2.2 141) many w → w + 2 * i + 2 * smm c 1 i ≤ 2001 → L ++ (jnT (fun q => TXs h (ATr m0) (h (v + q))) 1 i ++ PNr h (ATr m0) (m.2.2.2 141) many) = T → PK (fun m2 _ => DNr m0 m2 T) ((gg_M_writeOn N g).2.2 m (I p) (I many) (I v) (I i))) := by
  obtain ⟨t1, t2, t3⟩ := hA
  intro g
  induction g with
  | zero => exact ⟨fun _ _ _ _ _ _ _ _ _ => pk_none, fun _ _ _ _ _ _ _ _ _ _ _ _ _ => pk_none, fun _ _ _ _ _ _ _ _ _ _ _ _ _ _ _ => pk_none⟩
  | succ g ih =>
    obtain ⟨ih1, ih2, ih3⟩ := ih
    refine ⟨fun many w m L o hl s hw hT => ?_, fun many w v i m L o hv hi hl s hw hT => ?_, fun many w v i c m L o hl hv hi hc s hw hT => ?_⟩
    · have tl := STr_le s
      show PK _ (fb_M_writeOn_10 N (gg_M_writeOn N g) m (I p) (I many))
      unfold fb_M_writeOn_10 fb_M_writeOn_387 fb_M_writeOn_384
      refine pk_br (fun c => pk_some ?_) (fun c => ?_)
      · have e0 : many = 0 := by
          rw [lit0, decI (by omega) (by omega) (by decide) (by decide)] at c
          have := of_decide_eq_true c
          omega
        rw [e0] at hT
        have hT : L ++ [] = T := hT
        exact ⟨L, o, hl, ⟨[], hT.symm⟩, Or.inl (by rw [List.append_nil] at hT; exact hT)⟩
      have c1 : ¬ ((many : Int) ≤ 0) := by
        rw [lit0, decI (by omega) (by omega) (by decide) (by decide)] at c
        exact of_decide_eq_false c
      have f6 := o.2.1
      refine pk_br (fun c => pk_some ?_) (fun c => ?_)
      · have c3 : (100 : Int) ≤ F m 144 := by
          rw [I_F (k := 144), show (100 : Int32) = I 100 from rfl, decI (by decide) (by decide) (by omega) (by omega)] at c
          exact of_decide_eq_true c
        exact ⟨L, o, hl, ⟨_, hT.symm⟩, Or.inr (by omega)⟩
      have c3 : ¬ ((100 : Int) ≤ F m 144) := by
        rw [I_F (k := 144), show (100 : Int32) = I 100 from rfl, decI (by decide) (by decide) (by omega) (by omega)] at c
        exact of_decide_eq_false c
      obtain ⟨q, rfl⟩ : ∃ q, many = q + 1 := ⟨many - 1, by omega⟩
      have e1 : I (((q + 1 : Nat) : Int)) + (-1) = I ((q : Nat) : Int) := by rw [m1I, I_add]; congr 1; omega
      rw [e1]
      refine pk_ck (fun _ => pk_lt ?_)
      rw [tnI (n := q) rfl (by omega), sortOf_e, bnd_so, valueOf_e, bnd_so]
      obtain ⟨w2, s2, s3⟩ := s
      have hm := hp_o hh o
      have hr := so_r (m.2.2.2 141 q)
      have nxt : ∀ (m3 : MS) (L3 : List Int32), OUr m0 m3 L3 → L3.length ≤ 6000 → m3.2.2.2 = m.2.2.2 → L3 ++ PNr h (ATr m0) (m.2.2.2 141) q = T → PK (fun m2 _ => DNr m0 m2 T) ((gg_M_writeOn N g).1 m3 (I p) (I q)) := by
        intro m3 L3 o3 l3 r3 hT3
        refine ih1 q w2 m3 L3 o3 l3 (by rw [r3]; exact s2) ?_ (by rw [r3]; exact hT3)
        rcases s3 with ⟨-, -, -, k, z, -, -, y⟩ | ⟨-, k, z, -, -, y⟩ <;> omega
      rw [show (20 : Int32) = I 20 from rfl, show (21 : Int32) = I 21 from rfl, show (4 : Int32) = I 4 from rfl, show (2 : Int32) = I 2 from rfl, show (3 : Int32) = I 3 from rfl, show (6 : Int32) = I 6 from rfl, show (7 : Int32) = I 7 from rfl]
      refine p_eq hr ⟨by decide, by decide⟩ (fun e20 => ?_) (fun n20 => ?_)
      · have e20 : so (m.2.2.2 141 q) = 20 := e20
        rw [PNr_top (by omega), TXs_al (A := ATr m0) (by omega) (by omega), alT_20 e20] at hT
        refine pk_bnd (pk_mo (sign_r (by omega) o) (fun m3 r q3 => nxt m3 _ q3.1 (by rw [len1]; omega) q3.2 ?_))
        rw [List.append_assoc]
        exact hT
      have n20 : so (m.2.2.2 141 q) ≠ 20 := n20
      refine p_eq hr ⟨by decide, by decide⟩ (fun e21 => ?_) (fun n21 => ?_)
      · have e21 : so (m.2.2.2 141 q) = 21 := e21
        rcases s3 with ⟨-, v1, v2, k, z, y1, y2, y3⟩ | ⟨y, -⟩
        · rw [PNr_rest e21] at hT
          have ev := vn_e v1
          rw [ev]
          refine pk_bnd (pk_mo (rest_r (N := N) (B := ATr m0) hp1 hh (LFr_so _) (LFr_sg _) (by omega) o s2 (by omega) y1 y2 (by omega)) (fun m3 r q3 => ?_))
          obtain ⟨many2, L2, w3, rfl, o3, l3, s4, h4, p4⟩ := q3
          refine ih1 many2 w3 m3 L2 o3 (by omega) s4 h4 ?_
          rw [p4]
          exact hT
        · exact absurd e21 y
      have n21 : so (m.2.2.2 141 q) ≠ 21 := n21
      rw [PNr_top n21] at hT
      obtain ⟨k, z, y1, y2, y3⟩ : ∃ k z, SZp h (LFr (F m0 14)) k (m.2.2.2 141 q) z ∧ z ≤ 1000 ∧ w2 + 1 + 2 * z ≤ w := by
        rcases s3 with ⟨y, -⟩ | ⟨-, y⟩
        · exact absurd y n21
        · exact y
      generalize m.2.2.2 141 q = x at *
      refine pk_br (fun c => ?_) (fun c => ?_)
      · have e0 : so x = 0 := by
          rw [lit0, decE hr.1 hr.2 (by decide) (by decide)] at c
          exact of_decide_eq_true c
        rw [TXs_al (A := ATr m0) (by omega) (by omega), alT_0 e0] at hT
        refine pk_bnd (pk_mo (num_r (by omega) o) (fun m3 r q3 => nxt m3 _ q3.1 ?_ q3.2 ?_))
        · rw [List.length_append]
          have := numT_len (I (va x))
          omega
        · rw [List.append_assoc]
          exact hT
      have n0 : so x ≠ 0 := by
        rw [lit0, decE hr.1 hr.2 (by decide) (by decide)] at c
        exact of_decide_eq_false c
      refine pk_br (fun c => ?_) (fun c => ?_)
      · have e1 : so x = 1 := by
          rw [lit1, decE hr.1 hr.2 (by decide) (by decide)] at c
          exact of_decide_eq_true c
        rw [TXs_al (A := ATr m0) (by omega) (by omega), alT_1 e1] at hT
        have ha : 0 ≤ va x ∧ va x < F m0 14 := by
          cases k with
          | zero => exact y1.elim
          | succ k =>
            rcases y1 with ⟨-, y5, -⟩ | ⟨y1, -⟩
            · exact y5.2 e1
            · unfold isH at y1
              omega
        have ev := vn_e ha.1
        obtain ⟨b1, b2, b3⟩ := t3 (vn x) (by omega)
        have ea : A m 13 (vn x) = A m0 13 (vn x) := FR.A o.1 (by decide)
        refine pk_ck (fun _ => ?_)
        rw [ev, tnI (n := vn x) rfl (by omega), I_A' (show A m 13 (vn x) = (((A m0 13 (vn x)).toNat + 0 : Nat) : Int) by rw [ea]; omega)]
        exact ih2 q w2 (vn x) 0 m L o (by omega) (by omega) (by omega) s2 (by omega) hT
      have n1 : so x ≠ 1 := by
        rw [lit1, decE hr.1 hr.2 (by decide) (by decide)] at c
        exact of_decide_eq_false c
      refine p_eq hr ⟨by decide, by decide⟩ (fun e4 => ?_) (fun n4 => ?_)
      · have e4 : so x = 4 := e4
        rw [TXs_al (A := ATr m0) (by omega) (by omega), alT_4 e4] at hT
        have nl := numT_len (I (va x))
        refine pk_bnd (pk_mo (sign_r (by omega) o) (fun m3 r q3 => pk_bnd (pk_mo (num_r (by rw [len1]; omega) q3.1) (fun m4 r q4 => pk_bnd (pk_mo (sign_r (by rw [List.length_append, len1]; omega) q4.1) (fun m5 r q5 => nxt m5 _ q5.1 ?_ (q5.2.trans (q4.2.trans q3.2)) ?_))))))
        · rw [len1, List.length_append, len1]
          omega
        · rw [← hT]
          simp
      have n4 : so x ≠ 4 := n4
      refine p_eq hr ⟨by decide, by decide⟩ (fun e2 => ?_) (fun n2 => ?_)
      · have e2 : so x = 2 := e2
        rw [TXs_al (A := ATr m0) (by omega) (by omega), alT_2 e2] at hT
        have nl := numT_len (I (va x))
        refine pk_bnd (pk_mo (sign_r (by omega) o) (fun m3 r q3 => pk_bnd (pk_mo (num_r (by rw [len1]; omega) q3.1) (fun m4 r q4 => nxt m4 _ q4.1 ?_ (q4.2.trans q3.2) ?_))))
        · rw [List.length_append, len1]
          omega
        · rw [← hT]
          simp
      have n2 : so x ≠ 2 := n2
      refine p_eq hr ⟨by decide, by decide⟩ (fun e3 => ?_) (fun n3 => ?_)
      · have e3 : so x = 3 := e3
        rw [TXs_al (A := ATr m0) (by omega) (by omega), alT_3 e3] at hT
        refine pk_bnd (pk_mo (sign_r (by omega) o) (fun m3 r q3 => pk_bnd (pk_mo (sign_r (by rw [len1]; omega) q3.1) (fun m4 r q4 => pk_bnd (pk_mo (sign_r (by rw [len1, len1]; omega) q4.1) (fun m5 r q5 => nxt m5 _ q5.1 ?_ (q5.2.trans (q4.2.trans q3.2)) ?_))))))
        · rw [len1, len1, len1]
          omega
        · rw [← hT]
          simp
      have n3 : so x ≠ 3 := n3
      refine p_eq hr ⟨by decide, by decide⟩ (fun e6 => ?_) (fun n6 => ?_)
      · have e6 : so x = 6 := e6
        rw [TXs_al (A := ATr m0) (by omega) (by omega), alT_6 e6] at hT
        refine pk_bnd (pk_mo (sign_r (by omega) o) (fun m3 r q3 => pk_bnd (pk_mo (sign_r (by rw [len1]; omega) q3.1) (fun m4 r q4 => nxt m4 _ q4.1 ?_ (q4.2.trans q3.2) ?_))))
        · rw [len1, len1]
          omega
        · rw [← hT]
          simp
      have n6 : so x ≠ 6 := n6
      refine p_eq hr ⟨by decide, by decide⟩ (fun e7 => ?_) (fun n7 => ?_)
      · have e7 : so x = 7 := e7
        rw [(TXs_pair (A := ATr m0) y1 (by omega) e7).1] at hT
        cases k with
        | zero => exact y1.elim
        | succ k =>
        rcases y1 with ⟨y1, -⟩ | ⟨y1, ⟨v1, v2, v3⟩, c, y4, y5⟩
        · exact absurd (Or.inr (Or.inr e7)) y1
        have b2 : blk h x = 2 := by unfold blk; rw [if_pos e7]
        have p0 : prt x = 0 := by unfold prt; rw [if_pos e7]
        have q0 : SZp h (LFr (F m0 14)) k (h (vn x)) (c 0) := y4 0 (by omega) (by omega)
        have q1 := y4 1 (by omega) (by omega)
        rw [b2, p0] at y5
        have e2 : smm c 0 (2 - 0) = c 0 + c 1 := by show 0 + c (0 + 0) + c (0 + 1) = _; simp
        have ev := vn_e v1
        refine pk_bnd (pk_mo (sign_r (by omega) o) (fun m4 r q4 => ?_))
        obtain ⟨o4, r4⟩ := q4
        rw [ev, term_e, bnd_so]
        refine pk_ck (fun _ => pk_lt ?_)
        rw [wj_e]
        have s4 : STr h (LFr (F m0 14)) (m4.2.2.2 141) q w2 := by rw [r4]; exact s2
        obtain ⟨s5, p5⟩ := putr_r (B := ATr m0) (q := vn x) s4 (by omega) q1 (by omega)
        have o5 : OUr m0 (wj m4 141 q (mk 21 ((vn x : Nat) : Int))) (L ++ [91]) := OUr_wj o4
        rw [r4] at p5
        generalize wj m4 141 q (mk 21 ((vn x : Nat) : Int)) = m5 at *
        refine pk_bnd (pk_mo (cell_p hp1 (by omega)) (fun m6 r q6 => ?_))
        obtain ⟨rfl, rfl⟩ := q6
        rw [hp_o hh o5, lit1, I_add, show ((q : Nat) : Int) + 1 = ((q + 1 : Nat) : Int) by omega]
        refine pk_ck (fun _ => pk_lt ?_)
        rw [tnI (n := q + 1) rfl (by omega), wj_e]
        obtain ⟨s7, p7⟩ := putt_r (B := ATr m0) s5 q0 (by omega) (SZp_so2 q0 (LFr_so _))
        rw [show I ((q : Nat) : Int) + I 2 = I ((q + 1 + 1 : Nat) : Int) from addN (a := q) (b := 2)]
        refine ih1 (q + 1 + 1) _ _ _ (OUr_wj o5) (by rw [len1]; omega) s7 (by omega) ?_
        rw [p7, p5, ← hT]
        simp
      · have n7 : so x ≠ 7 := n7
        have e5 : so x = 5 := by
          cases k with
          | zero => exact y1.elim
          | succ k =>
            rcases y1 with ⟨-, y5, -⟩ | ⟨y1, -⟩
            · have := y5.1
              omega
            · unfold isH at y1
              omega
        rw [TXs_tup (A := ATr m0) y1 (by omega) e5] at hT
        cases k with
        | zero => exact y1.elim
        | succ k =>
        rcases y1 with ⟨y1, -⟩ | ⟨y1, ⟨v1, v2, v3⟩, c, y4, y5⟩
        · exact absurd (Or.inr (Or.inl e5)) y1
        have v3 := v3 e5
        have p1 : prt x = 1 := by unfold prt; rw [if_neg (by omega), if_pos e5]
        have hbk : blk h x = 1 + vn (h (vn x)) := by unfold blk; rw [if_neg (by omega), if_pos e5]
        have ev := vn_e v1
        have eh := vn_e v3.1
        rw [p1, hbk, show 1 + vn (h (vn x)) - 1 = vn (h (vn x)) by omega] at y5
        rw [hbk, show 1 + vn (h (vn x)) - 1 = vn (h (vn x)) by omega] at hT
        refine pk_bnd (pk_mo (sign_r (by omega) o) (fun m4 r q4 => ?_))
        obtain ⟨o4, r4⟩ := q4
        rw [ev, show (125 : Int32) = I 125 from rfl, term_e, bnd_so]
        refine pk_ck (fun _ => pk_lt ?_)
        rw [wj_e]
        have s4 : STr h (LFr (F m0 14)) (m4.2.2.2 141) q w2 := by rw [r4]; exact s2
        obtain ⟨s5, p5⟩ := putt_r (B := ATr m0) (k := 1) (z := 0) (t := mk 20 125) s4 (Or.inl ⟨nh_so (by rw [so_mk (by decide) (by decide)]; decide), LFr_sg _ _, rfl⟩) (by omega) (by rw [so_mk (by decide) (by decide)]; decide)
        have o5 : OUr m0 (wj m4 141 q (mk 20 125)) (L ++ [123]) := OUr_wj o4
        rw [r4, TXs_sig2 ⟨by decide, by decide⟩] at p5
        generalize wj m4 141 q (mk 20 125) = m5 at *
        refine pk_bnd (pk_mo (cell_p hp1 (by omega)) (fun m6 r q6 => ?_))
        obtain ⟨rfl, rfl⟩ := q6
        rw [hp_o hh o5, lit1, I_add, show ((q : Nat) : Int) + 1 = ((q + 1 : Nat) : Int) by omega, valI, eh]
        refine ih3 (q + 1) _ (vn x) (vn (h (vn x))) c _ _ o5 (by rw [len1]; omega) (by omega) (by omega) (fun j h1 h2 => ⟨k, y4 j (by omega) (by omega), ?_⟩) s5 (by omega) ?_
        · have le := smm_le (c := c) (a := 1) (n := vn (h (vn x))) (j := j) (by omega) (by omega)
          omega
        · rw [p5, ← hT]
          simp
          rfl
    · have tl := STr_le s
      obtain ⟨b1, b2, b3⟩ := t3 v hv
      show PK _ (fb_M_writeOn_116 N (gg_M_writeOn N g) m (I p) (I many) (I v) (I (((A m0 13 v).toNat + i : Nat) : Int)))
      unfold fb_M_writeOn_116 fb_M_writeOn_384
      refine pk_ck (fun _ => ?_)
      rw [lit1, I_add, show ((v : Nat) : Int) + 1 = ((v + 1 : Nat) : Int) by omega, tnI (n := v + 1) rfl (by omega), I_A' (show A m 13 (v + 1) = A m0 13 (v + 1) from FR.A o.1 (by decide))]
      refine p_le ⟨by omega, by omega⟩ ⟨by omega, by omega⟩ (fun c => ?_) (fun c => ?_)
      · have e : (ATr m0 v).drop i = [] := atT_end (fr := fun i => (A m0 13 i).toNat) (by omega)
        rw [e] at hT
        exact ih1 many w m L o (by omega) s hw hT
      · have e : (ATr m0 v).drop i = m0.2.2.1 12 ((A m0 13 v).toNat + i) :: (ATr m0 v).drop (i + 1) := atT_drop (sg := m0.2.2.1 12) (fr := fun i => (A m0 13 i).toNat) (by omega)
        rw [e] at hT
        refine pk_ck (fun _ => ?_)
        rw [tnI (n := (A m0 13 v).toNat + i) rfl (by omega), o.1.2.2.1 12 (by decide)]
        refine pk_bnd (pk_mo (sign_r (by omega) o) (fun m3 r q3 => ?_))
        obtain ⟨o3, r3⟩ := q3
        rw [I_add, show (((A m0 13 v).toNat + i : Nat) : Int) + 1 = (((A m0 13 v).toNat + (i + 1) : Nat) : Int) by omega]
        refine ih2 many w v (i + 1) m3 _ o3 hv (by omega) (by rw [len1]; omega) (by rw [r3]; exact s) hw ?_
        rw [r3, ← hT]
        simp
    · have tl := STr_le s
      show PK _ (fb_M_writeOn_329 N (gg_M_writeOn N g) m (I p) (I many) (I v) (I i))
      unfold fb_M_writeOn_329 fb_M_writeOn_378 fb_M_writeOn_384
      rw [lit1]
      refine p_less ⟨by omega, by omega⟩ ⟨by decide, by decide⟩ (fun a => ?_) (fun a => ?_)
      · have e0 : i = 0 := by omega
        rw [e0] at hT
        exact ih1 many w m L o hl s (by omega) hT
      obtain ⟨i, rfl⟩ : ∃ q, i = q + 1 := ⟨i - 1, by omega⟩
      have es : smm c 1 (i + 1) = smm c 1 i + c (1 + i) := rfl
      obtain ⟨k, y, yz⟩ := hc (i + 1) (by omega) (Nat.le_refl _)
      rw [show 1 + i = i + 1 by omega] at es
      have dn : I ((i + 1 : Nat) : Int) + I (-1) = I ((i : Nat) : Int) := by rw [I_add]; congr 1; omega
      rw [I_add, show ((v : Nat) : Int) + ((i + 1 : Nat) : Int) = ((v + (i + 1) : Nat) : Int) by omega]
      refine pk_bnd (pk_mo (cell_p hp1 (by omega)) (fun m6 r q6 => ?_))
      obtain ⟨rfl, rfl⟩ := q6
      rw [hp_o hh o]
      refine pk_ck (fun _ => pk_lt ?_)
      rw [tnI (n := many) rfl (by omega), wj_e]
      obtain ⟨s5, p5⟩ := putt_r (B := ATr m0) s y yz (SZp_so2 y (LFr_so _))
      have o5 := OUr_wj (top := many) (t := h (v + (i + 1))) o
      generalize wj m6 141 many (h (v + (i + 1))) = m5 at *
      rw [I_neg, dn]
      refine p_le ⟨by omega, by omega⟩ ⟨by decide, by decide⟩ (fun a2 => ?_) (fun a2 => ?_)
      · have e0 : i = 0 := by omega
        subst e0
        rw [I_add, show ((many : Nat) : Int) + 1 = ((many + 1 : Nat) : Int) by omega]
        refine ih3 (many + 1) _ v 0 c m5 L o5 hl hv (by omega) (fun j h1 h2 => by omega) s5 (by omega) ?_
        rw [p5]
        exact hT
      · obtain ⟨i, rfl⟩ : ∃ q, i = q + 1 := ⟨i - 1, by omega⟩
        rw [show (20 : Int32) = I 20 from rfl, show (44 : Int32) = I 44 from rfl, term_e, bnd_so, I_add, show ((many : Nat) : Int) + 1 = ((many + 1 : Nat) : Int) by omega]
        refine pk_ck (fun _ => pk_lt ?_)
        rw [tnI (n := many + 1) rfl (by omega), wj_e, I_add, show ((many + 1 : Nat) : Int) + 1 = ((many + 1 + 1 : Nat) : Int) by omega]
        obtain ⟨s7, p7⟩ := putt_r (B := ATr m0) (k := 1) (z := 0) (t := mk 20 44) s5 (Or.inl ⟨nh_so (by rw [so_mk (by decide) (by decide)]; decide), LFr_sg _ _, rfl⟩) (by omega) (by rw [so_mk (by decide) (by decide)]; decide)
        refine ih3 (many + 1 + 1) _ v (i + 1) c _ L (OUr_wj o5) hl hv (by omega) (fun j h1 h2 => hc j h1 (by omega)) s7 (by omega) ?_
        rw [p7, TXs_sig2 ⟨by decide, by decide⟩, p5, ← hT, jnT_last (n := i) (i := 1), show 1 + i + 1 = i + 1 + 1 by omega]
        simp
        rfl
/-- a term is written behind what is there -/
theorem writeOn_r (hp1 : p < 25) (hh : hp m p = h) (hA : ATM m) (hl : L.length ≤ 100) (o : OUr m0 m L) (y : SZp h (LFr (F m 14)) k t z) (hz : z ≤ 1000) : PK (fun m2 _ => DNr m0 m2 (L ++ TXs h (ATr m) t)) (fm_M_writeOn N m (I p) t) := by
  unfold fm_M_writeOn fb_M_writeOn_0
  refine pk_ck (fun _ => pk_lt ?_)
  rw [show (0 : Int32).toNatClampNeg = 0 from rfl, wj_e, lit1, show (1 : Int) = ((1 : Nat) : Int) from rfl]
  have f0 := o.1
  have eA : ATr m0 = ATr m := by
    unfold ATr
    funext a
    rw [f0.2.2.1 12 (by decide)]
    congr 1
    funext i
    rw [FR.A f0 (by decide)]
  have e14 : F m0 14 = F m 14 := (FR.F f0 (by decide)).symm
  have hA0 : ATM m0 := by
    obtain ⟨a1, a2, a3⟩ := hA
    unfold ATM
    rw [e14]
    refine ⟨a1, a2, fun q hq => ?_⟩
    have := a3 q hq
    rw [FR.A f0 (by decide), FR.A f0 (by decide)] at this
    exact this
  have hh0 : hp m0 p = h := by
    rw [← hh]
    unfold hp
    rw [f0.2.2.2 88 (by decide)]
  obtain ⟨s5, p5⟩ := putt_r (B := ATr m0) (m := m) (top := 0) (w := 0) (R := LFr (F m 14)) trivial y hz (SZp_so2 y (LFr_so _))
  rw [← eA]
  refine (won_r (N := N) hp1 hh0 hA0 N).1 1 _ _ L (OUr_wj o) (by omega) (by rw [e14]; exact s5) (by omega) ?_
  rw [p5]
  show L ++ (_ ++ []) = _
  rw [List.append_nil]
end
