section
set_option maxRecDepth 100000
section
variable {T : TYc} {Fv Fv' : Int64 → Int64 → Prop} {P P' : Int64 → Prop} {AN N PR : Nat} {m w m2 w2 : MS} {u : CS} {c : Nat → Nat} {r s v1 v2 : Int32} {x : Int}
theorem AT9_of {fa : Nat → Nat} {na : Nat} (h : ATf m w fa na) : ATs9 m w := by
  obtain ⟨⟨a1, a2, a3, a4, a5⟩, ⟨b1, b2⟩, c1⟩ := h
  have f14 : F w 14 = ((na : Nat) : Int) := by
    unfold F
    rw [b1]
    exact I_ti (by omega) (by omega)
  have mono : ∀ d j, j + d = na → fa j ≤ fa na := fun d => by
    induction d with
    | zero => intro j hj; rw [show j = na by omega]; exact Nat.le_refl _
    | succ d ih => intro j hj; exact Nat.le_trans (a3 j (by omega)) (ih (j + 1) (by omega))
  intro a ha
  rw [f14] at ha
  have em : ∀ j, j ≤ na → (A m 3 j).toNat = fa j := fun j hj => by
    have := a4 j hj
    show (m.2.2.1 3 j).toInt.toNat = _
    rw [a2 j hj, I_ti (by omega) (by omega)]
    omega
  have ew : ∀ j, j ≤ na → (A w 13 j).toNat = fa j := fun j hj => by
    have := a4 j hj
    show (w.2.2.1 13 j).toInt.toNat = _
    rw [b2 j hj, I_ti (by omega) (by omega)]
    omega
  unfold ATc ATr atT
  show (List.range ((A m 3 (a + 1)).toNat - (A m 3 a).toNat)).map (fun k => m.2.2.1 2 ((A m 3 a).toNat + k)) = (List.range ((A w 13 (a + 1)).toNat - (A w 13 a).toNat)).map (fun k => w.2.2.1 12 ((A w 13 a).toNat + k))
  rw [em a (by omega), em (a + 1) (by omega), ew a (by omega), ew (a + 1) (by omega)]
  refine List.map_congr_left (fun k hk => ?_)
  have := List.mem_range.mp hk
  have := mono (na - (a + 1)) (a + 1) (by omega)
  exact c1 _ (by omega)
theorem TXz_of (t : TXr m w) (cx : CTX Fv P m) (e14 : F w 14 = ((AN : Nat) : Int)) : TXz P (PWs AN) m w := by
  obtain ⟨t1, t2, ⟨t3, t4, t5⟩, -, fa, na, t7⟩ := t
  refine ⟨t1, ⟨AT9_of t7, t3, t4, fun a ha => ?_, fun t ht => ?_, fun t ht => ?_⟩, ⟨fa, na, t7⟩, t2⟩
  · unfold ATr atT
    rw [List.length_map, List.length_range]
    show (A w 13 (a + 1)).toNat - (A w 13 a).toNat ≤ 50
    rcases ha with rfl | rfl
    · rw [t5 7 (by decide), t5 8 (by decide)]; decide
    · rw [t5 19 (by decide), t5 20 (by decide)]; decide
  · unfold PWs at ht
    unfold LFr
    rw [e14]
    omega
  · have := cx.2.1 t ht
    unfold PT at this
    unfold LFs
    omega
theorem kpv (h : INVc m) : KPS m m := KPS_rf h.1.2.2.2.2.2.2
theorem np_of (i1 : INVc m) (h : m.1 942 = 0) : NOP m := by
  rcases i1.2 with ⟨-, np⟩ | ⟨T, Fv, P, PR, W⟩
  · exact np
  · have g := W.1.1
    have e : F m 942 = 0 := by unfold F; rw [h]; rfl
    have e2 := g.1.1
    have : PR = 0 := by omega
    subst this
    exact g
theorem FR3_q (f : FR [3] [] [] [] w w2) : FQw w w2 := FR.mo f (by simp) (by simp) (by simp) (by simp)
theorem PR_uq {PR2 PR3 : Nat} (W : WRD T Fv P PR2 m) (fq : FQs WTr PR Fv P Fv' P' m w) (h : F w 118 = ((PR3 : Nat) : Int)) : PR2 = PR ∧ PR3 = PR := by
  obtain ⟨i, W0, -⟩ := fq
  have a1 := W0.1.1.1.1.1.1
  have a2 := W.1.1.1.1
  have a3 := W0.1.2.1.1.1.1
  omega
theorem begin_mch (hN : 1000000000000000 ≤ N) (i1 : INVc m) (i2 : INV w) (z : RZf m w) (h : MCH m w) : PP (fun m2 (_ : Unit ⊕ Nat) w2 (_ : Unit) => MCH m2 w2) (hm_H_begin N m v1) (fm_M_begin N w v1) := by
  obtain ⟨-, -, -, kep, Fv', AN, TT, CC, ND, CN, PN, SN, UN, FN, a5, a6⟩ := i2
  have ok2 := pk_ok (begin_ok (N := N) (a := v1) kep a5 (by omega))
  by_cases q86 : F w 86 = 0
  · have m10 : m.1 10 = 0 := by
      rcases z.2.2.2.2 with ⟨a, -⟩ | ⟨-, b, -⟩
      · exact a
      · exact absurd q86 (by unfold F; rw [b]; decide)
    have c1 : PK (fun v (_ : Unit ⊕ Nat) => v = m) (hm_H_begin N m v1) := by
      unfold hm_H_begin hb_H_begin_0
      rw [decide_eq_true m10, br_tq]
      exact pk_some rfl
    intro m2 r w2 s e1 e2
    rw [c1 m2 r e1]
    rcases ok2 w2 s e2 with f | ⟨f, -⟩
    · exact MCH_q h FQm_rf (FR3_q f)
    · exact absurd q86 f
  · have e10 : F m 10 = 0 ↔ F w 86 = 0 := by
      rcases z.2.2.2.2 with ⟨a, b⟩ | ⟨a, b, -⟩
      · unfold F; rw [a, b]
      · unfold F; rw [a, b]
    rcases i1.2 with ⟨q, -⟩ | ⟨T, Fv, P, PR, W⟩
    · exact absurd (e10.mp q) q86
    · have per := a5 q86
      have tz : TXz P (PWs AN) m w := TXz_of (h.1 q86) W.2.1 per.2.2.2.1
      have okc : PK (fun m2 (_ : Unit ⊕ Nat) => ∃ PR2, WRD T Fv P PR2 m2) (hm_H_begin N m v1) := by
        have := pk_ok (begin_okc (N := N) (x := v1.toInt) W (ti_rng v1))
        rw [← I_of v1] at this
        exact this
      have main := bg_pp (N := N) (v := v1) W kep a5 e10 (fun _ => tz) (by omega) okc
      intro m2 r w2 s e1 e2
      rcases main m2 r w2 s e1 e2 with ⟨f, -, hw, bm, fq, tb, -⟩ | ⟨k, -, -, hm, hw⟩
      · obtain ⟨PR2, W2⟩ := okc m2 r e1
        have x87 : F w2 87 = 1 := by
          rw [hw]
          exact (congrArg Int32.toInt (bgX_1 (by omega))).trans (bgW_v (w := w)).2.1
        have kps : KPS m m2 := zm_H_begin (kpv i1) m2 r e1
        have rest : (∃ PR3, REST Fv' AN TT ND UN FN PR3 w2) ∧ PER Fv' AN TT CC id id ND CN PN SN UN FN w2 ∧ (w2.1 52 = w.1 52 ∧ w2.1 14 = w.1 14 ∧ w2.1 9 = w.1 9 ∧ w2.2.2.1 13 = w.2.2.1 13) ∧ F w2 86 = F w 86 := by
          rcases ok2 w2 s e2 with f | ⟨-, -, q3, q4⟩
          · have e87 : F w2 87 = F w 87 := FR.F f (by decide)
            obtain ⟨-, PR3, q3⟩ := a6 (by omega)
            exact ⟨⟨PR3, REST_fr q3 (PRG_26 per.1) f (by decide) (by decide) (by decide)⟩, PER_fr per f (by decide) (by decide), ⟨f.1 52 (by decide), f.1 14 (by decide), f.1 9 (by decide), f.2.2.1 13 (by decide)⟩, FR.F f (by decide)⟩
          · have f := q4
            unfold BGR at f
            exact ⟨⟨1, q3⟩, PER_fr per f (by decide) (by decide), ⟨f.1 52 (by decide), f.1 14 (by decide), f.1 9 (by decide), f.2.2.1 13 (by decide)⟩, FR.F f (by decide)⟩
        obtain ⟨⟨PR3, r3⟩, p2, ⟨g1, g2, g3, g4⟩, e86⟩ := rest
        obtain ⟨u1, u2⟩ := PR_uq W2 fq r3.1.1.1
        subst u1
        subst u2
        have b43 := bm.2.2.2.2.1.2.1
        have b44 := bm.2.2.2.2.1.2.2.1
        have f43 : F m2 943 = 1 := by unfold F; rw [b43]; rfl
        have f44 : F m2 944 = 0 := by unfold F; rw [b44]; rfl
        exact ⟨fun _ => TXr_b (h.1 q86) tb kps g1 g2 g3 g4, Or.inr ⟨by omega, by omega, by omega, by omega, T, Fv, P, _, Fv', AN, TT, CC, ND, CN, PN, SN, UN, FN, W2, p2, r3, fq, tb⟩⟩
      · rw [hm, hw]
        exact MCH_q h FQm_rf FQw_3
theorem go_mch (hN : 1000000000000000 ≤ N) (i1 : INVc m) (h : MCH m w) : PP (fun m2 (_ : Int32 ⊕ Nat) w2 (_ : Int32) => MCH m2 w2) (hm_H_go N m v1 v2) (fm_M_go N w v1 v2) := by
  rcases h.2 with ⟨q87, nb⟩ | ⟨q87, q86, q43, q44, T, Fv, P, PR, Fv', AN, TT, CC, ND, CN, PN, SN, UN, FN, W, per, rest, fq, tb⟩
  · have np := np_of i1 nb.1
    have c1 : PK (fun v (_ : Int32 ⊕ Nat) => v = m) (hm_H_go N m v1 v2) := by
      have : OK (fun v (_ : Int32 ⊕ Nat) => v = m) (hm_H_go N m (I v1.toInt) v2) := by
        unfold hm_H_go hb_H_go_0 hb_H_go_11
        refine br_u so_u (br_u (ok_bnd.mpr (ok_mono (nofind np (ti_rng v1)) (fun w r hw => ?_))) so_u)
        obtain ⟨rfl, rfl⟩ := hw
        exact ok_br.mpr ⟨fun _ => so_u, fun z => absurd z (by decide)⟩
      rw [← I_of v1] at this
      exact pk_ok this
    have ok2 := pk_ok (go_ok (N := N) (a := v1) (b := v2) (w := w) (Fv := fun _ _ => True) (AN := 0) (T := fun _ _ => 0) (C := fun _ _ => 0) (pM := id) (pE := id) (ND := 0) (CN := 0) (PN := 0) (SN := 0) (UN := 0) (FN := 0) (Or.inl q87) (by omega))
    intro m2 r w2 s e1 e2
    rw [c1 m2 r e1]
    rcases ok2 w2 s e2 with f | ⟨f, -⟩
    · exact MCH_q h FQm_rf (FR3_q f)
    · exact absurd q87 f
  · have main := go_pp (N := N) (v1 := v1) (v2 := v2) (by omega) q87 W rest per fq tb
    have okc : PK (fun m2 (_ : Int32 ⊕ Nat) => ∃ PR2, WRD T Fv P PR2 m2) (hm_H_go N m v1 v2) := by
      have := pk_ok (go_okc (N := N) (x := v1.toInt) (y := v2) W (ti_rng v1) (by omega))
      rw [← I_of v1] at this
      exact this
    have ok2 := pk_ok (go_ok (N := N) (a := v1) (b := v2) (w := w) (Or.inr ⟨⟨PR, rest⟩, per⟩) (by omega))
    intro m2 r w2 s e1 e2
    rcases main m2 r w2 s e1 e2 with ⟨x, -, -, -, PR1, fq2, tb2⟩ | ⟨k, -, -, hm, hw⟩
    · obtain ⟨PR2, W2⟩ := okc m2 r e1
      have kps : KPS m m2 := zm_H_go (kpv i1) m2 r e1
      have k9 : Kt9c w w2 := yt9_fm_M_go (u0 := w) Kt9_rf w2 s e2
      have kt : KPT m m2 := zzm_H_go (u0 := m) KPT_rf m2 r e1
      have rs : (∃ PR3, REST Fv' AN TT ND UN FN PR3 w2) ∧ PER Fv' AN TT CC id id ND CN PN SN UN FN w2 ∧ (w2.1 52 = w.1 52 ∧ w2.1 14 = w.1 14 ∧ w2.1 9 = w.1 9 ∧ w2.2.2.1 13 = w.2.2.1 13) ∧ F w2 86 = F w 86 := by
        rcases ok2 w2 s e2 with f | ⟨-, q3, q4⟩
        · exact ⟨⟨PR, REST_fr rest (PRG_26 per.1) f (by decide) (by decide) (by decide)⟩, PER_fr per f (by decide) (by decide), ⟨f.1 52 (by decide), f.1 14 (by decide), f.1 9 (by decide), f.2.2.1 13 (by decide)⟩, FR.F f (by decide)⟩
        · have f := q4
          unfold CGR at f
          exact ⟨q3, PER_fr per f (by decide) (by decide), ⟨f.1 52 (by decide), f.1 14 (by decide), f.1 9 (by decide), f.2.2.1 13 (by decide)⟩, FR.F f (by decide)⟩
      obtain ⟨⟨PR3, r3⟩, p2, ⟨g1, g2, g3, g4⟩, e86⟩ := rs
      obtain ⟨u1, u2⟩ := PR_uq W2 fq2 r3.1.1.1
      subst u1
      subst u2
      have f87 : F w2 87 = F w 87 := congrArg Int32.toInt k9.1
      have f43 : F m2 943 = F m 943 := congrArg Int32.toInt kt.1
      have f44 : F m2 944 = F m 944 := congrArg Int32.toInt kt.2
      exact ⟨fun _ => TXr_b (h.1 q86) tb2 kps g1 g2 g3 g4, Or.inr ⟨by omega, by omega, by omega, by omega, T, Fv, P, _, Fv', AN, TT, CC, ND, CN, PN, SN, UN, FN, W2, p2, r3, fq2, tb2⟩⟩
    · rw [hm, hw]
      exact MCH_q h FQm_rf FQw_3
theorem clk_944 (q : 0 ≤ F m 944 ∧ F m 944 ≤ 1000000000) : PK (fun v (_ : Int32 ⊕ Nat) => 0 ≤ F v 944 ∧ F v 944 ≤ 1000000000) (hm_H_clock N m v1) := by
  have rv := ti_rng v1
  obtain ⟨x, hx⟩ : ∃ x : Int, v1 = I x ∧ (-2147483648 ≤ x ∧ x < 2147483648) := ⟨v1.toInt, I_of v1, rv⟩
  obtain ⟨hx, r1, r2⟩ := hx
  unfold hm_H_clock hb_H_clock_0 hb_H_clock_24
  refine pk_br (fun _ => pk_some q) (fun z1 => pk_br (fun _ => pk_some q) (fun z2 => pk_br (fun z3 => pk_br (fun _ => pk_some q) (fun _ => pk_ltq (pk_some ?_))) (fun _ => pk_some q)))
  have z1 := of_decide_eq_false z1
  have z3 := of_decide_eq_true z3
  rw [hx, show (0 : Int32) = I 0 from rfl, I_lt r1 r2 (by omega) (by omega)] at z1
  rw [hx, I_F (k := 944), show (1000000000 : Int32) = I 1000000000 from rfl, I_sub, I_le r1 r2 (by omega) (by omega)] at z3
  have e : F (upI m 944 (m.1 944 + v1)) 944 = F m 944 + x := by
    show ((upI m 944 (m.1 944 + v1)).1 944).toInt = _
    rw [upI_at, I_F (k := 944), hx, I_add]
    exact I_ti (by omega) (by omega)
  rw [e]
  omega
theorem clock_mch {sR : Int32 ⊕ Nat} (h : MCH m w) (ec : hm_H_clock N m v1 = some (m2, sR)) (ew : fm_M_clock N w v1 = some (w2, s)) (i1 : INVc m) : MCH m2 w2 := by
  rcases h.2 with ⟨q87, nb⟩ | ⟨q87, q86, q43, q44, T, Fv, P, PR, Fv', AN, TT, CC, ND, CN, PN, SN, UN, FN, W, per, rest, fq, tb⟩
  · have c1 : PK (fun v (_ : Int32 ⊕ Nat) => v = m) (hm_H_clock N m v1) := by
      unfold hm_H_clock hb_H_clock_0 hb_H_clock_24
      rw [decide_eq_true nb.2.1, br_tq]
      exact pk_br (fun _ => pk_some rfl) (fun _ => pk_br (fun _ => pk_some rfl) (fun _ => pk_br (fun _ => pk_some rfl) (fun _ => pk_some rfl)))
    have c2 : PK (fun v (_ : Int32) => FQw w v) (fm_M_clock N w v1) := by
      have t50 : ∀ t : Int32, t ≠ 0 → PK (fun v (_ : Int32) => FQw w v) (fb_M_clock_50 N () w v1 t) := fun t ht => by
        unfold fb_M_clock_50
        refine pk_ltq ?_
        rw [upI_at, decide_eq_false ht, br_fq]
        exact pk_some FQw_3u
      have z87 : w.1 87 = 0 := by rw [I_F' q87]; rfl
      unfold fm_M_clock fb_M_clock_0 fb_M_clock_34 fb_M_clock_38
      rw [decide_eq_true z87, br_tq, br_tq]
      exact pk_br (fun _ => t50 1 (by decide)) (fun _ => pk_br (fun _ => t50 1 (by decide)) (fun _ => t50 2 (by decide)))
    rw [c1 m2 _ ec]
    exact MCH_q h FQm_rf (c2 w2 s ew)
  · have main := clk_pp (N := N) (v := v1) (m := m) (w := w) (Fv := Fv) (P := P) (Fv' := Fv') (AN := AN) (PR := PR) ⟨fun e => absurd e q43, fun e => absurd e q87⟩ (fun _ => ⟨fq, tb⟩) q44 (fun e => absurd e q87)
    rcases main m2 _ w2 s ec ew with ⟨x, -, -, -, ⟨hm, hw⟩, fq2, tb2⟩ | ⟨k, -, -, hm, hw⟩
    · have W2 := pk_ok (clock_okc (N := N) (y := v1) W) m2 _ ec
      have kps : KPS m m2 := zm_H_clock (kpv i1) m2 _ ec
      have f : FR [3, 120] [] [] [] w w2 := pk_ok (clock_ok (N := N) (a := v1)) w2 s ew
      have f43 : F m2 943 = F m 943 := by rw [hm]; exact FR.F (FR.wi FR.rf (by simp) : FR [944] [] [] [] m (wi m 944 x)) (by decide)
      have f87 : F w2 87 = F w 87 := FR.F f (by decide)
      have f86 : F w2 86 = F w 86 := FR.F f (by decide)
      have b44 : 0 ≤ F m2 944 ∧ F m2 944 ≤ 1000000000 := by
        have := clk_944 (N := N) (v1 := v1) q44 m2 _ ec
        exact this
      exact ⟨fun _ => TXr_b (h.1 q86) tb2 kps (f.1 52 (by decide)) (f.1 14 (by decide)) (f.1 9 (by decide)) (f.2.2.1 13 (by decide)), Or.inr ⟨by omega, by omega, by omega, b44, T, Fv, P, PR, Fv', AN, TT, CC, ND, CN, PN, SN, UN, FN, W2, PER_fr per f (by decide) (by decide), REST_fr rest (PRG_26 per.1) f (by decide) (by decide) (by decide), fq2, tb2⟩⟩
    · rw [hm, hw]
      exact MCH_q h FQm_rf FQw_3
end
end
section
set_option maxRecDepth 100000
section
variable {T : TYc} {Fv Fv' : Int64 → Int64 → Prop} {P : Int64 → Prop} {AN : Nat} {TT : TY} {CC : CY} {pM pE : Nat → Nat} {ND CN PN SN UN FN N PR : Nat} {m w m2 w2 : MS} {v1 v2 v3 : Int32}
theorem snd_all (hN : 11000000 ≤ N) (n87 : F w 87 ≠ 0) (W : WRD T Fv P PR m) (rest : REST Fv' AN TT ND UN FN PR w) (per : PER Fv' AN TT CC pM pE ND CN PN SN UN FN w) (fq : FQs WTr PR Fv P Fv' (PWs AN) m w) (tb : TBz m w) : PP (RHs Fv P Fv' AN PR m w) (hm_H_send N m v1 v2 v3) (fm_M_send N w v1 v2 v3) := by
  obtain ⟨x1, e1, hx1⟩ : ∃ x1 : Int, v1 = I x1 ∧ (-2147483648 ≤ x1 ∧ x1 < 2147483648) := ⟨v1.toInt, I_of v1, ti_rng v1⟩
  obtain ⟨x2, e2, hx2⟩ : ∃ x2 : Int, v2 = I x2 ∧ (-2147483648 ≤ x2 ∧ x2 < 2147483648) := ⟨v2.toInt, I_of v2, ti_rng v2⟩
  obtain ⟨x3, e3, hx3⟩ : ∃ x3 : Int, v3 = I x3 ∧ (-2147483648 ≤ x3 ∧ x3 < 2147483648) := ⟨v3.toInt, I_of v3, ti_rng v3⟩
  subst e1
  subst e2
  subst e3
  have pr := rest.1.1.2
  have b1 : RHs Fv P Fv' AN PR m w m (Sum.inr 1) (wi w 3 1) () := Or.inr ⟨1, rfl, Or.inl rfl, rfl, rfl⟩
  have b2 : RHs Fv P Fv' AN PR m w m (Sum.inr 2) (wi w 3 2) () := Or.inr ⟨2, rfl, Or.inr rfl, rfl, rfl⟩
  have bad : ∀ (q : Int32) (x : Int), x = 1 ∨ x = 2 → fb_M_send_44 N () w q (I x2) (I x3) (I x) = some (wi w 3 x, ()) := fun q x h => by
    unfold fb_M_send_44
    rw [wi_e, lt_e, wi_s1, show decide (I x = 0) = false from decide_eq_false (fun z => by
      rw [lit0q, I_eq (by omega) (by omega) (by omega) (by omega)] at z
      omega), br_fq]
  have e14 : F w 14 = ((AN : Nat) : Int) := per.2.2.2.1
  have e22 : F m 22 = ((AN : Nat) : Int) := by
    obtain ⟨fa, na, a⟩ := tb.2.2.2
    rw [← e14]
    exact congrArg Int32.toInt (a.1.1.trans a.2.1.1.symm)
  have r22 := F_r m 22
  have r14 := F_r w 14
  have d1 : decide (I x2 = 1) = decide (x2 = 1) := by
    rw [show (1 : Int32) = I 1 from rfl, decE hx2.1 hx2.2 (by omega) (by omega)]
  have d2 : decide (I x2 = 2) = decide (x2 = 2) := by
    rw [show (2 : Int32) = I 2 from rfl, decE hx2.1 hx2.2 (by omega) (by omega)]
  have d0 : decide (I x2 = 0) = decide (x2 = 0) := by
    rw [show (0 : Int32) = I 0 from rfl, decE hx2.1 hx2.2 (by omega) (by omega)]
  have l0 : decide (I x2 < 0) = decide (x2 < 0) := by
    rw [lit0q, decL hx2.1 hx2.2 (by omega) (by omega)]
  have l2 : decide (I x2 ≤ 2) = decide (x2 ≤ 2) := by
    rw [show (2 : Int32) = I 2 from rfl, decI hx2.1 hx2.2 (by omega) (by omega)]
  have l2' : decide (2 ≤ I x2) = decide (2 ≤ x2) := by
    rw [show (2 : Int32) = I 2 from rfl, decI (by omega) (by omega) hx2.1 hx2.2]
  have m0 : decide (I x3 < 0) = decide (x3 < 0) := by
    rw [lit0q, decL hx3.1 hx3.2 (by omega) (by omega)]
  have m22 : decide (I x3 < m.1 22) = decide (x3 < ((AN : Nat) : Int)) := by
    rw [I_F (k := 22), decL hx3.1 hx3.2 r22.1 r22.2, e22]
  have m14 : decide (I x3 < w.1 14) = decide (x3 < ((AN : Nat) : Int)) := by
    rw [I_F (k := 14), decL hx3.1 hx3.2 r14.1 r14.2, e14]
  unfold hm_H_send hb_H_send_0 hb_H_send_35 fm_M_send fb_M_send_0 fb_M_send_26
  rw [isP_e (PR := PR) (fun _ => rest.1.1.1) pr hx1, bnd_so, show (1 : Int32) = I 1 from rfl, bad _ 1 (Or.inl rfl)]
  by_cases cq : 0 ≤ x1 ∧ x1 < ((PR : Nat) : Int)
  rotate_left
  · rw [find_0 W.1.1.1.1 pr hx1 cq, bnd_so, if_neg (fun z => cq z.2), show decide ((none : Option Nat) = none) = true from rfl, br_tq, show decide ((0 : Int32) = 0) = true from rfl, br_tq]
    exact pp_2s b1
  obtain ⟨p, rfl⟩ : ∃ p : Nat, x1 = ((p : Nat) : Int) := ⟨x1.toNat, by omega⟩
  have hp : p < PR := by omega
  rw [find_e W.1 hp, bnd_so, if_pos ⟨n87, cq⟩, show decide ((some p : Option Nat) = none) = false from rfl, br_fq, show decide ((I 1 : Int32) = 0) = false from rfl, br_fq, show decide (I x2 = I 1) = decide (x2 = 1) from d1, m0, m22, m14]
  have c45 : (x2 = 1 → 0 ≤ x3 ∧ x3 < ((AN : Nat) : Int)) → PP (RHs Fv P Fv' AN PR m w) (hb_H_send_45 N () m (I x2) (I x3) (some p)) (fb_M_send_30 N () w (I ((p : Nat) : Int)) (I x2) (I x3)) := fun hat => by
    unfold hb_H_send_45 hb_H_send_54 fb_M_send_30 fb_M_send_39
    rw [l0, l2, show (2 : Int32) = I 2 from rfl, bad _ 2 (Or.inr rfl)]
    by_cases z0 : x2 < 0
    · rw [decide_eq_true z0, br_tq, br_tq]
      exact pp_2s b2
    rw [decide_eq_false z0, br_fq, br_fq]
    by_cases z2 : x2 ≤ 2
    rotate_left
    · rw [decide_eq_false z2, br_fq, br_fq]
      exact pp_2s b2
    rw [decide_eq_true z2, br_tq, br_tq]
    unfold fb_M_send_44
    rw [show upI w 3 0 = wi w 3 0 from rfl, lt_e, show decide ((wi w 3 0).1 3 = 0) = true from rfl, br_tq, show decide (I x2 = I 2) = decide (x2 = 2) from d2, l2', d0]
    by_cases y2 : x2 = 2
    · rw [decide_eq_true y2, br_tq, decide_eq_true (show 2 ≤ x2 by omega), br_tq]
      exact sd_pair hN hp rest per fq tb hx3 (pk_ok (postPair_ok (N := N) W.1 W.2.1 hp hx3 (by omega)))
    · rw [decide_eq_false y2, br_fq, decide_eq_false (show ¬ 2 ≤ x2 by omega), br_fq]
      by_cases y0 : x2 = 0
      · rw [decide_eq_true y0, br_tq, br_tq]
        exact sd_lit (s := 0) hN hp rest per fq tb (Or.inl rfl) hx3 (W.2.1.2.2.2.2.1 x3 hx3).1
      · rw [decide_eq_false y0, br_fq, br_fq]
        have ha := hat (by omega)
        exact sd_lit (s := 1) hN hp rest per fq tb (Or.inr ⟨rfl, ha⟩) hx3 (W.2.1.2.2.2.2.2.1 x3 ha.1 (by rw [e22]; exact ha.2))
  by_cases c1 : x2 = 1
  · rw [decide_eq_true c1, br_tq, br_tq]
    by_cases y0 : x3 < 0
    · rw [decide_eq_true y0, br_tq, br_tq]
      exact pp_2s b1
    rw [decide_eq_false y0, br_fq, br_fq]
    by_cases y1 : x3 < ((AN : Nat) : Int)
    · rw [decide_eq_true y1, br_tq, br_tq]
      exact c45 (fun _ => ⟨by omega, y1⟩)
    · rw [decide_eq_false y1, br_fq, br_fq]
      exact pp_2s b1
  · rw [decide_eq_false c1, br_fq, br_fq]
    exact c45 (fun z => absurd z c1)
end
end
section
set_option maxRecDepth 100000
section
variable {N : Nat} {m w m2 w2 : MS} {v1 v2 v3 : Int32}
theorem send_mch (hN : 1000000000000000 ≤ N) (i1 : INVc m) (h : MCH m w) : PP (fun m2 (_ : Unit ⊕ Nat) w2 (_ : Unit) => MCH m2 w2) (hm_H_send N m v1 v2 v3) (fm_M_send N w v1 v2 v3) := by
  rcases h.2 with ⟨q87, nb⟩ | ⟨q87, q86, q43, q44, T, Fv, P, PR, Fv', AN, TT, CC, ND, CN, PN, SN, UN, FN, W, per, rest, fq, tb⟩
  · have np := np_of i1 nb.1
    have c1 : PK (fun v (_ : Unit ⊕ Nat) => v = m) (hm_H_send N m v1 v2 v3) := by
      have : OK (fun v (_ : Unit ⊕ Nat) => v = m) (hm_H_send N m (I v1.toInt) v2 v3) := by
        unfold hm_H_send hb_H_send_0 hb_H_send_35
        refine ok_bnd.mpr (ok_mono (nofind np (ti_rng v1)) (fun w r hw => ?_))
        obtain ⟨rfl, rfl⟩ := hw
        exact ok_br.mpr ⟨fun _ => so_u, fun z => absurd z (by decide)⟩
      rw [← I_of v1] at this
      exact pk_ok this
    have ok2 := pk_ok (send_ok (N := N) (a := v1) (b := v2) (c := v3) (w := w) (Fv := fun _ _ => True) (P := fun _ => True) (PR := 0) (Or.inl q87) (by omega))
    intro m2 r w2 s e1 e2
    rw [c1 m2 r e1]
    exact MCH_q h FQm_rf (FR3_q ((ok2 w2 s e2).2.2 q87))
  · have main := snd_all (N := N) (v1 := v1) (v2 := v2) (v3 := v3) (by omega) q87 W rest per fq tb
    have okc : PK (fun m2 (_ : Unit ⊕ Nat) => WRD T Fv P PR m2) (hm_H_send N m v1 v2 v3) := by
      have := pk_ok (send_okc (N := N) (x := v1.toInt) (z := v3.toInt) (y := v2) W (ti_rng v1) (ti_rng v3) (by omega))
      rw [← I_of v1, ← I_of v3] at this
      exact this
    have atm := per.2.2.1
    have e14 := per.2.2.2.1
    have h22 := per.2.2.2.2.1
    have p24 := rest.1.1.2
    have ok2 := pk_ok (send_ok (N := N) (a := v1) (b := v2) (c := v3) (w := w) (Fv := Fv') (P := PQ AN PR) (PR := PR) (Or.inr ⟨⟨rest.1, rest.2.1.1, rest.2.1.2.1⟩, atm, fun t ht => by
      intro s1
      rw [e14]
      rcases ht with q | q | q | q | q
      · omega
      · omega
      · omega
      · exact q.2
      · omega, PQ_s, PQ_b h22 p24, fun x x1 x2 => PQ_atom x1 (by omega) (by have := atm.2.1; omega)⟩) (by omega))
    intro m2 r w2 s e1 e2
    rcases main m2 r w2 s e1 e2 with ⟨-, -, fq2, tb2⟩ | ⟨k, -, -, hm, hw⟩
    · have W2 := okc m2 r e1
      have kps : KPS m m2 := zm_H_send (kpv i1) m2 r e1
      have kt : KPT m m2 := zzm_H_send (u0 := m) KPT_rf m2 r e1
      obtain ⟨cf, q1, -⟩ := ok2 w2 s e2
      obtain ⟨q2, q3⟩ := q1 q87
      have rv := REST_send rest (PRG_26 per.1) cf q2 (q3 rest.2.2)
      have f := cf.1
      have f87 : F w2 87 = F w 87 := FR.F f (by decide)
      have f86 : F w2 86 = F w 86 := FR.F f (by decide)
      have f43 : F m2 943 = F m 943 := congrArg Int32.toInt kt.1
      have f44 : F m2 944 = F m 944 := congrArg Int32.toInt kt.2
      exact ⟨fun _ => TXr_b (h.1 q86) tb2 kps (f.1 52 (by decide)) (f.1 14 (by decide)) (f.1 9 (by decide)) (f.2.2.1 13 (by decide)), Or.inr ⟨by omega, by omega, by omega, by omega, T, Fv, P, PR, Fv', AN, TT, CC, ND, CN, PN, SN, UN, FN, W2, PER_fr per f (by decide) (by decide), rv, fq2, tb2⟩⟩
    · rw [hm, hw]
      exact MCH_q h FQm_rf FQw_3
end
end
section
set_option maxRecDepth 100000
section
variable {Fv Fv' : Int64 → Int64 → Prop} {P P' : Int64 → Prop} {N PR q : Nat} {m w m2 w2 : MS} {v1 v2 : Int32}
end
end
section
set_option maxRecDepth 100000
section
variable {N q j r k : Nat} {m w : MS} {v1 v2 v3 : Int32}
end
end
section
set_option maxRecDepth 100000
section
variable {h : Nat → Int64} {Fv Fv' : Int64 → Int64 → Prop} {P P' : Int64 → Prop} {N p q k z : Nat} {m w w0 m2 w2 : MS} {t x : Int64} {T : List Int32} {r s : Int32}
end
end
section
set_option maxRecDepth 100000
section
variable {N : Nat} {m w : MS} {v1 v2 v3 : Int32}
end
end
section
set_option maxRecDepth 100000
section
variable {α β : Type} {u0 u w : MS} {k : Nat}
end
section
variable {u0 u : MS} {N : Nat}
end
end
