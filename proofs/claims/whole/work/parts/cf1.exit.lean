/-! a run comes to its end -/
set_option maxRecDepth 100000
section
variable {p j k r : Nat} {m w : MS} {z : Int32} {nb : Nat → Nat} {Hs Os : Nat → List Nat}
theorem s30_A (h : k ≠ pq p 30) : (s30 m p j z).2.2.1 k = m.2.2.1 k := if_neg h
theorem s30_loc {d : Nat} (hd : d ≠ p) : LOCm d m (s30 m p j z) := fun k hk => ⟨rfl, rfl, s30_A (fun c => hd (pq_e hk (by omega) c).1), rfl⟩
theorem s30_pg : PG0 m w (s30 m p j z) w := ⟨⟨s30_A (fun c => pq_n (by omega) c), rfl, ATc_eq (s30_A (fun c => pq_n (by omega) c)) (s30_A (fun c => pq_n (by omega) c))⟩, fun _ _ => rfl, rfl, rfl, rfl, rfl⟩
theorem s30_23 : A (s30 m p j z) 23 = A m 23 := by
  funext k
  show ((s30 m p j z).2.2.1 23 k).toInt = _
  rw [s30_A (fun c => pq_n (by omega) c)]
  rfl
theorem s30_fc (hj : j < 60) (h : FAs m w p j nb Hs Os ∧ CTs m w p j nb Hs Os) : FAs (s30 m p (5 * j + 4) z) w p j nb Hs Os ∧ CTs (s30 m p (5 * j + 4) z) w p j nb Hs Os := by
  obtain ⟨⟨f1, f2, f3, f4⟩, n, c1, c2, c3, c4, c5⟩ := h
  have e30 : ∀ i, i ≠ 5 * j + 4 → A (s30 m p (5 * j + 4) z) (pq p 30) i = A m (pq p 30) i := fun i hi => by rw [s30_a, if_neg hi]
  have e32 : ∀ i, A (s30 m p (5 * j + 4) z) (pq p 32) i = A m (pq p 32) i := fun i => by
    show ((s30 m p (5 * j + 4) z).2.2.1 (pq p 32) i).toInt = _
    rw [s30_A (pq_inj (by omega))]
    rfl
  have e37 : ∀ i, A (s30 m p (5 * j + 4) z) (pq p 37) i = A m (pq p 37) i := fun i => by
    show ((s30 m p (5 * j + 4) z).2.2.1 (pq p 37) i).toInt = _
    rw [s30_37]
    rfl
  refine ⟨⟨f1, fun r hr => ?_, fun r hr => ?_, f4⟩, n, c1, c2, c3, c4, fun c hc => ?_⟩
  · obtain ⟨g1, g2, ⟨g3, g3'⟩, g4, g5, g6⟩ := f2 r hr
    refine ⟨by rw [e30 _ (by omega)]; exact g1, by rw [e30 _ (by omega)]; exact g2, ⟨by rw [e30 _ (by omega)]; exact g3, g3'⟩, by rw [e30 _ (by omega)]; exact g4, g5, fun i x hx => by rw [e32]; exact g6 i x hx⟩
  · obtain ⟨g1, a, n, g2, g3, f, g4⟩ := f3 r hr
    exact ⟨g1, a, n, by rw [e30 _ (by omega)]; exact g2, g3, f, by rw [s30_23]; exact g4⟩
  · obtain ⟨r, k, a, nd, nn, d1, d2, d3, d4, d5, d6, d7, d8, d9, d10, f, d11⟩ := c5 c hc
    exact ⟨r, k, a, nd, nn, d1, by rw [e37]; exact d2, d3, by rw [e37]; exact d4, d5, d6, by rw [e37]; exact d7, by rw [e37]; exact d8, d9, d10, f, by rw [s30_23]; exact d11⟩
/-- it stands still now -/
theorem s30_wt (h : SPs p m w) (nr : F m (pq p 9) ≠ 0 ∨ F m 1108 ≠ 0) : ∃ j : Nat, F m (pq p 21) = ((j + 1 : Nat) : Int) ∧ j < 60 ∧ WTr p (s30 m p (5 * j + 4) (m.1 1105)) w := by
  rcases h with ⟨j, nb, Hs, Os, y, a, n, h⟩ | ⟨j, nb, Hs, Os, sc, h⟩ | ⟨j, nb, Hs, Os, a, n, h⟩
  · exfalso
    obtain ⟨-, -, -, ⟨r5, -⟩, -, ⟨r8, -⟩, -⟩ := h
    omega
  · obtain ⟨t1, ⟨t2, t3⟩, t4, t5, t6, -, -, -, n, t12, t13, t14, t15, g, t16⟩ := h
    obtain ⟨f1, -, hj⟩ := t1.1.1
    refine ⟨j, f1, hj, j, nb, Hs, Os, (s30_fc hj t1).1, (s30_fc hj t1).2, sc, by rw [s30_a, if_pos rfl]; exact t6, Or.inr (Or.inr ⟨t2, t3, Or.inr t4, t4, t5, n, t12, t13, t14, t15, g, by rw [s30_23]; exact t16⟩)⟩
  · obtain ⟨t1, ⟨t2, t3⟩, ⟨f, t4⟩, ⟨t5, t6⟩, -⟩ := h
    obtain ⟨f1, -, hj⟩ := t1.1.1
    exact ⟨j, f1, hj, j, nb, Hs, Os, (s30_fc hj t1).1, (s30_fc hj t1).2, a, by rw [s30_a, if_pos rfl]; exact t2, Or.inl ⟨t5, t6, n, t3, f, by rw [s30_23]; exact t4⟩⟩
end
section
variable {Sf : MS → Int32 → Prop} {Fv Fv' : Int64 → Int64 → Prop} {P P' : Int64 → Prop} {N PR p i M2 : Nat} {m w m2 : MS} {v3 : Int32} {G : MS → Nat → Int32 → Option (MS × Int32)} {Q : MS → Int32 → MS → Int32 → Prop}
theorem SC_s30 {q k : Nat} {z : Int32} (s : SCs q m w) : SCs q (s30 m p k z) w := by
  obtain ⟨s1, s2, s3, s4, s5, s6⟩ := s
  refine ⟨s1, s2, s3, s4, s5, fun i hi => ?_⟩
  rw [s30_A (fun c => by have := (pq_e (by omega) (by omega) c).2; omega)]
  exact s6 i hi
/-- the world behind it -/
theorem WL_rest (W : WLs (RRx p (SPs p)) PR Fv P Fv' P' none i 0 m w) (hq : F m 955 = ((i : Nat) : Int)) (nr : F m (pq p 9) ≠ 0 ∨ F m 1108 ≠ 0) (hm2 : m2 = m ∨ ∃ j : Nat, F m (pq p 21) = ((j + 1 : Nat) : Int) ∧ m2 = s30 m p (5 * j + 4) (m.1 1105)) (al : F m (pq p 9) ≠ 3 → ∃ j : Nat, F m (pq p 21) = ((j + 1 : Nat) : Int) ∧ m2 = s30 m p (5 * j + 4) (m.1 1105)) (s2 : SFs Fv P Fv' P' PR m2 w) : WLs WTr PR Fv P Fv' P' none i 0 m2 w := by
  obtain ⟨sf, ⟨n0, q1, q2, -, -⟩, pr, -⟩ := id W
  have hn0 : n0 = 0 := by
    rw [hq] at q1
    omega
  subst hn0
  have e1 : m2.1 = m.1 := by
    rcases hm2 with rfl | ⟨j, -, rfl⟩
    · rfl
    · rfl
  have eF : ∀ k, F m2 k = F m k := fun k => by show (m2.1 k).toInt = _; rw [e1]; rfl
  refine ⟨s2, ⟨0, by rw [eF]; exact q1, q2, fun k hk => absurd hk (Nat.not_lt_zero k), fun k l hk hl _ => absurd hk (Nat.not_lt_zero k)⟩, fun r hr => ?_, fun q m w m2 w2 h h1 h2 _ => WTr_st h h1 h2⟩
  have loc : r ≠ p → LOCm r m m2 := fun hd => by
    rcases hm2 with rfl | ⟨j, -, rfl⟩
    · exact LOCm.rf
    · exact s30_loc hd
  have pg : PG0 m w m2 w := by
    rcases hm2 with rfl | ⟨j, -, rfl⟩
    · exact ⟨⟨rfl, rfl, rfl⟩, fun _ _ => rfl, rfl, rfl, rfl, rfl⟩
    · exact s30_pg
  rcases pr r hr with ⟨x1, x2, b, U, B, W4, Y, pl, sc, rr⟩ | ⟨x1, x2, x⟩
  · refine Or.inl ⟨by rw [eF]; exact x1, x2, b, U, B, W4, Y, ?_⟩
    rcases rr with ⟨rfl, sp⟩ | ⟨e, wt⟩
    · obtain ⟨j, f1, rfl⟩ := al x1
      obtain ⟨j', f2, hj, wt⟩ := s30_wt sp nr
      have ej : j' = j := by omega
      subst ej
      refine ⟨PLs_cg pl (fun _ _ => rfl) (fun _ _ => rfl) (fun _ _ => rfl) (fun _ _ => rfl) (fun _ _ => rfl) (fun _ _ => rfl) (fun _ _ => rfl) (fun _ _ => rfl) (fun _ _ => rfl) (fun _ _ => rfl), SC_s30 sc, wt⟩
    · obtain ⟨-, -, ⟨b1, b2, b3⟩, b4⟩ := SF_al sf hr x1 pl
      exact AL_loc ⟨pl, sc, wt⟩ ⟨pl.1.1.2.2, b1, b2, b3, b4.2⟩ pg (loc e) LOCw.rf
  · refine Or.inr ⟨by rw [eF]; exact x1, x2, Or.inr (Or.inr ?_)⟩
    rcases x with x | ⟨k, k1, k2, -⟩ | x
    · cases x
    · rw [hq] at k2
      omega
    · obtain ⟨d1, d2, d3, d4, d5, d6, d7⟩ := x
      have e4 : m2.2.2.2 = m.2.2.2 := by
        rcases hm2 with rfl | ⟨j, -, rfl⟩
        · rfl
        · rfl
      have e2 : m2.2.1 = m.2.1 := by
        rcases hm2 with rfl | ⟨j, -, rfl⟩
        · rfl
        · rfl
      refine ⟨by rw [eF]; exact d1, d2, RZs_st d3 pg (by rw [e1]) (by rw [e2]) (fun d hd => ⟨by rw [eF]; exact hd, by rw [e4]⟩) rfl (fun _ _ _ => rfl), by rw [e1]; exact d4, by rw [e1]; exact d5, by rw [e1]; exact d6, by rw [eF]; exact d7⟩
/-- both come to their end -/
theorem exit_pp (hpp : p < 24) (hpr : p < PR) (fq : FQs (RRx p (SPs p)) PR Fv P Fv' P' m w) (nr : F m (pq p 9) ≠ 0 ∨ F m 1108 ≠ 0) (h21 : F m (pq p 9) = 3 → 0 ≤ F m (pq p 21) ∧ F m (pq p 21) ≤ 60) (hC : PK (fun m2 (_ : Int32) => DWc Fv P PR m2 ∧ CTX Fv P m2) (hb_Ma_goOn_219 N G m p))
    (kE : ∀ m2, FQs WTr PR Fv P Fv' P' m2 w → (m2 = m ∨ ∃ k z, m2 = s30 m p k z) → Q m2 (m.1 1106) w (w.1 165)) : PP Q (q67 Sf N G m p v3) (gg_M_go N (M2 + 1) w (I ((p : Nat) : Int))) := by
  obtain ⟨i, W, ⟨h956, h955⟩, ⟨h149, h150⟩, cn, wt⟩ := fq
  have r9 := F_r m (pq p 9)
  have r8 := F_r m 1108
  have a9 := A_r w 109 p
  have r1 := F_r w 151
  -- there
  have lf : q67 Sf N G m p v3 = hb_Ma_goOn_219 N G m p := by
    unfold q67
    by_cases z : F m (pq p 9) = 0
    · have n8 : F m 1108 ≠ 0 := by omega
      rw [I_F' z, show decide (I 0 = 0) = true from rfl, br_t, I_F (k := 1108), show decide (I (F m 1108) = 0) = false from by rw [show (0 : Int32) = I 0 from rfl, decE r8.1 r8.2 (by omega) (by omega)]; exact decide_eq_false n8, br_f]
      cases decide ((1000000000 : Int32) ≤ v3) <;> rfl
    · rw [I_F (k := pq p 9), show decide (I (F m (pq p 9)) = 0) = false from by rw [show (0 : Int32) = I 0 from rfl, decE r9.1 r9.2 (by omega) (by omega)]; exact decide_eq_false z, br_f]
      cases decide ((1000000000 : Int32) ≤ v3) <;> rfl
  -- here
  have st : (F m (pq p 9) ≠ 3 ∧ SPs p m w) ∨ (F m (pq p 9) = 3 ∧ A w 109 p = 3) := by
    rcases W.2.2.1 p hpr with ⟨x1, x2, b, U, B, W4, Y, pl, sc, rr⟩ | ⟨x1, x2, -⟩
    · rcases rr with ⟨-, sp⟩ | ⟨e, -⟩
      · exact Or.inl ⟨x1, sp⟩
      · exact absurd rfl e
    · exact Or.inr ⟨x1, x2⟩
  have nw : A w 109 p ≠ 0 ∨ F w 151 ≠ 0 := by
    rcases st with ⟨-, sp⟩ | ⟨-, h⟩
    · rcases sp with ⟨j, nb, Hs, Os, y, a, n, h⟩ | ⟨j, nb, Hs, Os, sc, h⟩ | ⟨j, nb, Hs, Os, a, n, h⟩
      · exfalso
        obtain ⟨-, -, -, ⟨r5, -⟩, -, ⟨r8, -⟩, -⟩ := h
        omega
      · have := h.2.1.2
        exact Or.inl (by omega)
      · exact Or.inr h.2.2.2.2.1.2.2
    · exact Or.inl (by omega)
  have r243 : PP Q (hb_Ma_goOn_219 N G m p) (fb_M_go_243 N (gg_M_go N M2) w) := by
    unfold fb_M_go_243
    rw [ends_id h149 h150, bnd_so]
    intro m2 r w2 r2 e1 e2
    injection e2 with e2
    injection e2 with e3 e4
    subst e3
    subst e4
    have sc := hC m2 r e1
    have shape : (m2 = m ∨ ∃ j : Nat, F m (pq p 21) = ((j + 1 : Nat) : Int) ∧ j < 60 ∧ m2 = s30 m p (5 * j + 4) (m.1 1105)) ∧ r = m.1 1106 ∧ (0 < F m (pq p 21) → F m (pq p 21) ≤ 60 → ∃ j : Nat, F m (pq p 21) = ((j + 1 : Nat) : Int) ∧ m2 = s30 m p (5 * j + 4) (m.1 1105)) := by
      unfold hb_Ma_goOn_219 at e1
      by_cases z : F m (pq p 21) ≤ 0
      · have e : hm_Fr_setPlace N m p (m.1 1105) = some (m, ()) := by
          have r21 := F_r m (pq p 21)
          unfold hm_Fr_setPlace hb_Fr_setPlace_0 hm_Fr_set hb_Fr_set_0 hb_Fr_set_23
          rw [I_F (k := pq p 21), lit0, decI r21.1 r21.2 (by decide) (by decide), decide_eq_true z, br_t, bnd_so]
        rw [e, bnd_so] at e1
        injection e1 with e1
        injection e1 with e3 e4
        exact ⟨Or.inl e3.symm, by rw [← e4], fun h => by omega⟩
      · by_cases z6 : F m (pq p 21) ≤ 60
        · obtain ⟨jj, hj⟩ : ∃ jj : Nat, F m (pq p 21) = ((jj + 1 : Nat) : Int) := ⟨(F m (pq p 21)).toNat - 1, by omega⟩
          rw [setPlace_e hj (by omega), bnd_so] at e1
          injection e1 with e1
          injection e1 with e3 e4
          exact ⟨Or.inr ⟨jj, hj, by omega, e3.symm⟩, by rw [← e4]; rfl, fun _ _ => ⟨jj, hj, e3.symm⟩⟩
        · exfalso
          rcases st with ⟨x, sp⟩ | ⟨x, -⟩
          · obtain ⟨j, f1, f2, -⟩ := s30_wt sp nr
            omega
          · have := h21 x
            omega
    obtain ⟨sh, er, al⟩ := shape
    have sh' : m2 = m ∨ ∃ j : Nat, F m (pq p 21) = ((j + 1 : Nat) : Int) ∧ m2 = s30 m p (5 * j + 4) (m.1 1105) := by
      rcases sh with sh | ⟨j, h1, -, h2⟩
      · exact Or.inl sh
      · exact Or.inr ⟨j, h1, h2⟩
    have s2 : SFs Fv P Fv' P' PR m2 w := ⟨sc, W.1.2⟩
    have W2 := WL_rest W h955 nr sh' (fun x => by
      rcases st with ⟨-, sp⟩ | ⟨x3, -⟩
      · obtain ⟨j, f1, f2, -⟩ := s30_wt sp nr
        exact al (by omega) (by omega)
      · exact absurd x3 x) s2
    have e1' : m2.1 = m.1 := by
      rcases sh' with rfl | ⟨j, -, rfl⟩
      · rfl
      · rfl
    have eA : ∀ K, K < 2000 → m2.2.2.1 K = m.2.2.1 K := fun K hK => by
      rcases sh' with rfl | ⟨j, -, rfl⟩
      · rfl
      · exact s30_A (fun c => pq_n hK c)
    have eF : ∀ k, F m2 k = F m k := fun k => by show (m2.1 k).toInt = _; rw [e1']; rfl
    rw [er]
    refine kE m2 ⟨i, W2, ⟨by rw [eF]; exact h956, by rw [eF]; exact h955⟩, ⟨h149, h150⟩, ?_, WTs_st wt (by rw [e1']) (fun k hk => eA k (by omega)) rfl (fun _ _ => rfl)⟩ ?_
    · obtain ⟨n1, n2, n3, n4, n5, n6⟩ := cn
      refine ⟨fun t ht => ?_, n2, n3, n4, n5, fun t ht => by rw [eF]; exact n6 t ht⟩
      rw [show ATc m2 = ATc m from ATc_eq (eA 2 (by omega)) (eA 3 (by omega))]
      exact n1 t ht
    · rcases sh' with h | ⟨j, -, h⟩
      · exact Or.inl h
      · exact Or.inr ⟨_, _, h⟩
  rw [lf]
  show PP Q (hb_Ma_goOn_219 N G m p) (fb_M_go_199 N (gg_M_go N M2) w (I ((p : Nat) : Int)))
  unfold fb_M_go_199
  by_cases z : F w 151 = 0
  · rw [I_F' z, show decide (I 0 = 0) = true from rfl, br_t]
    refine r_ck (fun _ => ?_)
    rw [tnI (n := p) rfl (by omega), I_A (k := 109), show decide (I (A w 109 p) = 0) = false from by rw [show (0 : Int32) = I 0 from rfl, decE a9.1 a9.2 (by omega) (by omega)]; exact decide_eq_false (by omega), br_f]
    exact r243
  · rw [I_F (k := 151), show decide (I (F w 151) = 0) = false from by rw [show (0 : Int32) = I 0 from rfl, decE r1.1 r1.2 (by omega) (by omega)]; exact decide_eq_false z, br_f]
    exact r243
end
