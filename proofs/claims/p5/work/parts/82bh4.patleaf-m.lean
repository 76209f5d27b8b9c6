section
set_option maxRecDepth 100000
section
variable {m0 w0 m w v u u0 : MS} {K nm Nk W : Nat → Nat} {T p n N : Nat} {sc t : SCT} {e : List Nat × List Nat × Nat} {own : Bool} {S : SG_M_rowPattern} {SC : SF_Pa_matched} {v1 v2 : Int32}
theorem bTm_l {α β : Type} {r : β} {f : MS → β → Option (MS × (α ⊕ Nat))} : bTm (some (m, (.inl r : β ⊕ Nat))) f = f m r := rfl
theorem pAt_e (h : WP w K T p) (h0 : w.1 67 = 0) : fb_M_patternAt_0 N S () w v1 = fb_M_patternAt_101 N S () w v1 (if K p = 34 then 1 else 0) (b2c (bPK (K p))) := by
  have k46 := h.1.1.k46 h.2.2
  obtain ⟨a, b, -⟩ := WP_i h
  unfold fb_M_patternAt_0
  rw [decide_eq_true h0, br_tq]
  simp only [isS_e (k := 34) (s := 19) h (by decide) rfl, isS_e (k := 22) (s := 2) h (by decide) rfl, isS_e (k := 24) (s := 4) h (by decide) rfl, isS_e (k := 20) (s := 0) h (by decide) rfl, bnd_s]
  rw [show ln 6 = 4002 from rfl, a, b, srt_dc h srK_1, srt_dc h srK_2, srt_dc h srK_4, srt_dc h srK_5]
  generalize K p = k at k46
  revert k46
  revert k
  intro k h
  match k, h with
  | 0, _ => rfl
  | 1, _ => rfl
  | 2, _ => rfl
  | 3, _ => rfl
  | 4, _ => rfl
  | 5, _ => rfl
  | 6, _ => rfl
  | 7, _ => rfl
  | 8, _ => rfl
  | 9, _ => rfl
  | 10, _ => rfl
  | 11, _ => rfl
  | 12, _ => rfl
  | 13, _ => rfl
  | 14, _ => rfl
  | 15, _ => rfl
  | 16, _ => rfl
  | 17, _ => rfl
  | 18, _ => rfl
  | 19, _ => rfl
  | 20, _ => rfl
  | 21, _ => rfl
  | 22, _ => rfl
  | 23, _ => rfl
  | 24, _ => rfl
  | 25, _ => rfl
  | 26, _ => rfl
  | 27, _ => rfl
  | 28, _ => rfl
  | 29, _ => rfl
  | 30, _ => rfl
  | 31, _ => rfl
  | 32, _ => rfl
  | 33, _ => rfl
  | 34, _ => rfl
  | 35, _ => rfl
  | 36, _ => rfl
  | 37, _ => rfl
  | 38, _ => rfl
  | 39, _ => rfl
  | 40, _ => rfl
  | 41, _ => rfl
  | 42, _ => rfl
  | 43, _ => rfl
  | 44, _ => rfl
  | 45, _ => rfl
  | k + 46, h => exact absurd h (by omega)
theorem cPt_e (h : CP m K T p) (h45 : K p ≠ 45) : hb_Pa_pattern_0 N SC () m = bTm (hm_Pa_opens N m (b2c (bPK (K p)))) (fun u10 r10 => br (decide (I (K p : Nat) = 20)) (lt (upI u10 665 ((u10.1 665) + 1)) (fun w12 => bTm (SC.2.2.2.2.2.2.2.2.2.2.2.2.2.2.2.2.2.1 w12) (fun u14 r14 => bnd (hm_Tr_add N u14 5 (m.1 665) r14 0 0) (fun u15 r15 => bTm (hm_Pa_need N u15 21) (fun u17 r17 => hb_Pa_pattern_162 N SC () u17 (r15)))))) (br (decide (I (K p : Nat) = 22)) (bTm (SC.2.2.2.2.2.2.2.2.2.2.2.2.2.2.2.2.1 u10 1) (fun u18 r18 => hb_Pa_pattern_162 N SC () u18 (r18))) (br (decide (I (K p : Nat) = 24)) (bTm (SC.2.2.2.2.2.2.2.2.2.2.2.2.2.2.2.1 u10 1) (fun u19 r19 => hb_Pa_pattern_162 N SC () u19 (r19))) (br (decide (I (K p : Nat) = 34)) (lt (upI u10 665 ((u10.1 665) + 1)) (fun w21 => bTm (hm_Pa_look N w21) (fun u22 r22 => br (decide (r22 = 1)) (hb_Pa_pattern_137 N SC () u22 ((m.1 665))) (bTm (hm_Pa_refuse N u22 2) (fun u23 r23 => hb_Pa_pattern_137 N SC () u23 ((m.1 665))))))) (bnd (hm_Pa_leaf N u10) (fun u24 r24 => hb_Pa_pattern_162 N SC () u24 (r24))))))) := by
  unfold hb_Pa_pattern_0
  rw [look_e h h45, bTm_l, bP_e (h.1.1.k46 h.2.2), bnd_s]
theorem pat_no (c : CTZ m0 w0 K T nm Nk) (h : RLP m0 w0 T p m w) (hb : bPK (K p) = false) : PP (PAZ N m0 w0 K T nm Nk p n own sc m w) (hm_Pa_pattern N SC m) (fm_M_patternAt N S w v1) := by
  have hc := RLP_c c h
  have hw := RLP_w c h
  unfold hm_Pa_pattern fm_M_patternAt
  have r : RFS (hb_Pa_pattern_0 N SC () m) := by
    by_cases h45 : K p = 45
    · unfold hb_Pa_pattern_0
      exact RFS_T (look_x hc h45)
    · rw [cPt_e hc h45, hb]
      exact RFS_T (opens_0 hc)
  refine pp_rf r (fun m2 => ?_)
  rw [pAt_e hw h.2.2.2.2.2.2, hb, pAt_101]
  rw [show decide (b2c false = 0) = true from rfl, br_tq]
  exact pk_bnd (fun v r z => pk_some (wrong_s (u0 := w) (by decide) v r z))
theorem pat_deep (c : CTZ m0 w0 K T nm Nk) (h : RLP m0 w0 T p m w) (hb : bPK (K p) = true) (hd : ¬ m.1 666 < 25) (hS0 : ∀ (u0 u : MS) a0, Kfc u0 u → KfE u0 (S.1 u a0)) (hS1 : ∀ (u0 u : MS) a0, Kfc u0 u → KfE u0 (S.2 u a0)) : PP (PAZ N m0 w0 K T nm Nk p n own sc m w) (hm_Pa_pattern N SC m) (fm_M_patternAt N S w v1) := by
  have hc := RLP_c c h
  have hw := RLP_w c h
  have h45 : K p ≠ 45 := fun z => by rw [z] at hb; cases hb
  unfold hm_Pa_pattern fm_M_patternAt
  have r : RFS (hb_Pa_pattern_0 N SC () m) := by
    rw [cPt_e hc h45, hb]
    exact RFS_T (opens_x hc hd)
  refine pp_rf r (fun m2 => ?_)
  rw [pAt_e hw h.2.2.2.2.2.2, hb, pAt_101]
  rw [show decide (b2c true = 0) = false from rfl, br_fq]
  refine pk_bnd (pk_mo (opn_x (N := N) (w := w) (by rw [← h.2.2.2.2.2.1]; exact hd)) (fun v r z => ?_))
  exact Kf_pk (pAtB_f (u0 := v) z (hS0 v) (hS1 v))
end
end
section
set_option maxRecDepth 100000
section
variable {m0 w0 m w v u u0 : MS} {K nm Nk W : Nat → Nat} {T p n N q : Nat} {sc sc2 t : SCT} {e : List Nat × List Nat × Nat} {own : Bool} {S : SG_M_rowPattern} {SC : SF_Pa_matched} {v1 v2 lg r : Int32}
theorem i_ps {a : Int32} : a + 1 - 1 = a := by
  rw [Int32.sub_eq_add_neg, Int32.add_assoc]
  have : (1 : Int32) + -1 = 0 := by decide
  rw [this, Int32.add_zero]
theorem cPt_leaf (h : CP m K T p) (ho : m.1 666 < 25) (hn : m.1 306 = I (n : Nat)) (h8 : n + 1 < 8016) (hk : K p = 1 ∨ K p = 2 ∨ K p = 3 ∨ K p = 4) : ∃ mf, hb_Pa_pattern_0 N SC () m = some (mf, .inl (I ((n + 1 : Nat) : Int))) ∧ mf.1 306 = I ((n + 1 : Nat) : Int) ∧ mf.1 665 = I ((p + 1 : Nat) : Int) ∧ PCF m mf ∧ KPO n m mf ∧ nod mf (n + 1) = (I (K p : Nat), I (p : Nat), m.2.2.1 7 p, 0, 0) ∧ mf.2.2.1 21 (n + 1) = 0 := by
  have hb : bPK (K p) = true := by rcases hk with z | z | z | z <;> rw [z] <;> rfl
  have h45 : K p ≠ 45 := by omega
  have dd : ∀ b : Nat, b < 100 → K p ≠ b → ∀ s : Int32, s = I (b : Nat) → decide (I (K p : Nat) = s) = false := fun b hb h17 s hs => by rw [I_dn (by omega) hb hs]; exact decide_eq_false h17
  have h1 : CP (upI m 666 (m.1 666 + 1)) K T p := ⟨h.1, by rw [upI_ne (by decide)]; exact h.2.1, h.2.2⟩
  rw [cPt_e h h45, hb, show b2c true = 1 from rfl, opens_e ho, bTm_l, dd 20 (by decide) (by omega) 20 rfl, br_fq, dd 22 (by decide) (by omega) 22 rfl, br_fq, dd 24 (by decide) (by omega) 24 rfl, br_fq, dd 34 (by decide) (by omega) 34 rfl, br_fq, lf_e h1 (by rw [upI_ne (by decide)]; exact hn) h8, bnd_s]
  unfold hb_Pa_pattern_162
  generalize hM : upI m 666 (m.1 666 + 1) = M
  have M7 : M.2.2.1 = m.2.2.1 := by rw [← hM]; rfl
  have Mi : ∀ k, k ≠ 666 → M.1 k = m.1 k := fun k hk => by rw [← hM]; exact upI_ne hk
  have M6 : M.1 666 = m.1 666 + 1 := by rw [← hM]; exact upI_at
  generalize hA : adN M n (I (K p : Nat)) (I (p : Nat)) (M.2.2.1 7 p) 0 0 = A
  have Ai : ∀ k, k ≠ 306 → A.1 k = M.1 k := fun k hk => by rw [← hA]; exact adN_i hk
  have An : A.1 306 = I ((n + 1 : Nat) : Int) := by rw [← hA]; exact adN_n
  have Ar : ∀ k, k < 16 ∨ 21 < k → A.2.2.1 k = m.2.2.1 k := fun k hk => by rw [← hA, adN_r hk, M7]
  have Ao : KPO n m A := fun j hj => by
    have := adN_o (m := M) (n := n) (a := I (K p : Nat)) (b := I (p : Nat)) (c := M.2.2.1 7 p) (d := 0) (f := 0) j hj
    rw [hA] at this
    unfold nod at this ⊢
    rw [M7] at this
    exact this
  have Ax := adN_nod (m := M) (n := n) (a := I (K p : Nat)) (b := I (p : Nat)) (c := M.2.2.1 7 p) (d := 0) (f := 0)
  rw [hA, M7] at Ax
  refine ⟨_, rfl, ?_, ?_, ⟨fun k hk => ?_, fun k hk => Ar k hk⟩, Ao, Ax.1, Ax.2⟩
  · rw [upI_ne (by decide), upI_ne (by decide)]; exact An
  · rw [upI_ne (by decide)]; exact upI_at
  · simp only [List.mem_cons, List.not_mem_nil, or_false] at hk
    by_cases z : k = 666
    · rw [z, upI_at, upI_ne (by decide), Ai _ (by decide), M6, i_ps]
    · rw [upI_ne z, upI_ne (by omega), Ai _ (by omega), Mi _ z]
theorem WNQ_kr (h : WNQ K T p sc2 lg w v) (f : Krc v u) : WNQ K T p sc2 lg w u := by
  obtain ⟨q1, q2, q3, q4, q5⟩ := h
  exact ⟨WP_e q1 (by rw [f.1 69 (by decide)]; exact q1.2.1) q1.2.2 (f.2 6 (by decide)) (f.2 7 (by decide)), RNs_e q2 (f.1 65 (by decide)) (fun k h1 h2 => f.2 k (by omega)), by rw [f.1 66 (by decide)]; exact q3, fun k hk => by rw [f.1 k (by simp only [List.mem_cons, List.not_mem_nil, or_false] at hk ⊢; omega)]; exact q4 k hk, fun k hk => by rw [f.2 k (by omega)]; exact q5 k hk⟩
theorem WNQ_J {g : Nat → Int64} {k : Nat} (h : WNQ K T p sc2 lg w v) : WNQ K T p sc2 lg w (upJ v k g) := ⟨h.1, RNs_e h.2.1 rfl (fun _ _ _ => rfl), h.2.2.1, h.2.2.2.1, h.2.2.2.2⟩
theorem WNQ_A {g : Nat → Int32} {k : Nat} (h : WNQ K T p sc2 lg w v) (hk : 23 ≤ k ∧ k < 59) : WNQ K T p sc2 lg w (upA v k g) := by
  obtain ⟨q1, q2, q3, q4, q5⟩ := h
  exact ⟨WP_e q1 q1.2.1 q1.2.2 (upA_no (by omega)) (upA_no (by omega)), RNs_e q2 rfl (fun j h1 h2 => upA_no (by omega)), q3, q4, fun j hj => by rw [upA_no (by omega)]; exact q5 j hj⟩
theorem WNQ_on {x : Int32} (h : WNQ K T p sc2 lg w v) (hl : q ≤ T) (hx : x = I (q : Nat)) : WNQ K T q sc2 lg w (upI v 69 x) := by
  obtain ⟨q1, q2, q3, q4, q5⟩ := h
  refine ⟨WP_e q1 (by rw [upI_at, hx]) hl rfl rfl, RNs_e q2 (upI_ne (by decide)) (fun _ _ _ => rfl), by rw [upI_ne (by decide)]; exact q3, fun k hk => ?_, q5⟩
  rw [upI_ne (fun z => hk (by rw [z]; decide))]
  exact q4 k hk
theorem fin_388 (h : WNQ K T p sc2 lg (upI w 70 (w.1 70 + 1)) v) : PK (fun w2 _ => WNQ K T p sc2 lg w w2) (fb_M_patternAt_388 N S () v r) := by
  obtain ⟨q1, q2, q3, q4, q5⟩ := h
  unfold fb_M_patternAt_388
  refine pk_ltq (pk_some ⟨WP_e q1 (by rw [upI_ne (by decide)]; exact q1.2.1) q1.2.2 rfl rfl, RNs_e q2 (upI_ne (by decide)) (fun _ _ _ => rfl), by rw [upI_ne (by decide)]; exact q3, fun k hk => ?_, q5⟩)
  by_cases z : k = 70
  · rw [z, upI_at, q4 70 (by decide), upI_at, i_ps]
  · rw [upI_ne z, q4 k hk, upI_ne z]
theorem on_1 (h : WNQ K T p sc2 lg (upI w 70 (w.1 70 + 1)) v) (hl : p < T) : PK (fun w2 _ => WNQ K T (p + 1) sc2 lg w w2) (lt (upI v 69 (v.1 69 + 1)) (fun w4 => fb_M_patternAt_388 N S () w4 r)) := pk_ltq (fin_388 (WNQ_on h hl (by rw [h.1.2.1, i_suc])))
theorem pB_leaf (h : WP w K T p) (h0 : w.1 70 < 25) (hn : RNs w sc) (hk : K p = 1 ∨ K p = 2 ∨ K p = 4) (hl : p < T) : PK (fun w2 _ => WNQ K T (p + 1) sc (w.1 66) w w2) (bnd (fm_M_opens N w) (fun u8 _ => pAtB N S () v1 0 u8)) := by
  have k46 := h.1.1.k46 h.2.2
  rw [opn_e h0, bnd_s]
  generalize hM : upI w 70 (w.1 70 + 1) = M
  have hM1 : WP M K T p := by rw [← hM]; exact WP_e h (by rw [upI_ne (by decide)]; exact h.2.1) h.2.2 rfl rfl
  have q0 : WNQ K T p sc (w.1 66) M M := by
    have := WNQ_0 (w := M) (sc := sc) hM1 (by rw [← hM]; exact RNs_e hn (upI_ne (by decide)) (fun _ _ _ => rfl))
    have e : M.1 66 = w.1 66 := by rw [← hM]; exact upI_ne (by decide)
    rw [e] at this
    exact this
  have fin : ∀ {v : MS} {r : Int32}, WNQ K T p sc (w.1 66) M v → PK (fun w2 _ => WNQ K T (p + 1) sc (w.1 66) w w2) (lt (upI v 69 (v.1 69 + 1)) (fun w4 => fb_M_patternAt_388 N S () w4 r)) := fun q => on_1 (by rw [hM]; exact q) hl
  obtain ⟨a, b, c⟩ := WP_i hM1
  have s2 : decide (M.2.2.1 6 p = 2) = decide (K p = 3) := srt_dc hM1 srK_2
  have s4 : decide (M.2.2.1 6 p = 4) = decide (K p = 1) := srt_dc hM1 srK_4
  have s1 : decide (M.2.2.1 6 p = 1) = decide (K p = 2) := srt_dc hM1 srK_1
  have s5 : decide (M.2.2.1 6 p = 5) = decide (K p = 4) := srt_dc hM1 srK_5
  unfold pAtB
  refine pk_ck (fun _ => ?_)
  rw [b, s2, decide_eq_false (by omega), br_fq, show decide ((0 : Int32) = 0) = true from rfl, br_tq]
  refine pk_ck (fun _ => ?_)
  rw [s4]
  rcases hk with z | z | z
  · rw [decide_eq_true z, br_tq]
    unfold fb_M_patternAt_160 fb_M_patternAt_178 fb_M_patternAt_199 fb_M_patternAt_239
    rw [show decide ((0 : Int32) = 0) = true from rfl, br_tq]
    refine pk_ltq (pk_ck (fun _ => ?_))
    have q1 : WNQ K T p sc (w.1 66) M (upI M 69 (M.1 69)) := WNQ_on q0 h.2.2 hM1.2.1
    have e6 : (upI M 69 (M.1 69)).2.2.1 6 ((upI M 69 (M.1 69)).1 69).toNatClampNeg = M.2.2.1 6 p := by rw [(WP_i q1.1).2.1]; rfl
    rw [e6, s4, decide_eq_true z, br_tq]
    refine pk_bnd (fun u5 r5 x5 => ?_)
    have q5 := WNQ_kr q1 (yr_fm_M_pattern Kr_rf u5 r5 x5)
    show PK _ _
    rw [br_tq]
    refine pk_ck (fun _ => pk_bnd (fun u2 r2 x2 => pk_ck (fun _ => pk_ck (fun _ => pk_ltq ?_))))
    exact fin (WNQ_J (WNQ_kr q5 (yr_fm_M_term Kr_rf u2 r2 x2)))
  · rw [decide_eq_false (by omega), br_fq]
    refine pk_ck (fun _ => ?_)
    rw [s1, decide_eq_true z, br_tq]
    refine pk_bnd (fun u5 r5 x5 => pk_ck (fun _ => pk_bnd (fun u2 r2 x2 => pk_ck (fun _ => pk_ltq ?_))))
    exact fin (WNQ_J (WNQ_kr (WNQ_kr q0 (yr_fm_M_pattern Kr_rf u5 r5 x5)) (yr_fm_M_term Kr_rf u2 r2 x2)))
  · rw [decide_eq_false (by omega), br_fq]
    refine pk_ck (fun _ => ?_)
    rw [s1, decide_eq_false (by omega), br_fq]
    refine pk_ck (fun _ => ?_)
    rw [s5, decide_eq_true z, br_tq]
    refine pk_bnd (fun u5 r5 x5 => pk_ck (fun _ => pk_ck (fun _ => pk_ltq ?_)))
    exact fin (WNQ_A (WNQ_kr q0 (yr_fm_M_pattern Kr_rf u5 r5 x5)) (by decide))
end
end
section
set_option maxRecDepth 100000
section
variable {m0 w0 m w v u u0 mf w2 : MS} {K nm Nk W : Nat → Nat} {T p n N q X n2 p2 ν : Nat} {sc sc2 t : SCT} {e : List Nat × List Nat × Nat} {own : Bool} {S : SG_M_rowPattern} {SC : SF_Pa_matched} {v1 v2 lg r : Int32}
theorem TWK_lt (c : CTZ m0 w0 K T nm Nk) (hp : p ≤ T) (h1 : 1 ≤ K p) (h2 : K p ≤ 44) : p < T := c.1.1.lt hp h1 h2
theorem WNQ_f (h : WNQ K T p sc2 lg w v) : WFP w v := ⟨h.2.2.2.1, h.2.2.2.2⟩
theorem RLP_on (h : RLP m0 w0 T p m w) (hm : mf.1 665 = I (q : Nat)) (hc : PCF m mf) (hw : WNQ K T q sc2 lg w w2) : RLP m0 w0 T q mf w2 := by
  refine ⟨Kc_tr h.1 (PCF_k hc), Kt_tr h.2.1 (WFP_k (WNQ_f hw)), hm, hw.1.2.1, hw.1.2.2, ?_, ?_⟩
  · rw [hc.1 666 (by decide), hw.2.2.2.1 70 (by decide)]; exact h.2.2.2.2.2.1
  · rw [hw.2.2.2.1 67 (by decide)]; exact h.2.2.2.2.2.2
theorem lgS_0 {g : Int32} : lgS sc 0 g = g := by
  cases sc with
  | nil => rfl
  | cons e t =>
    show lgX e 0 g = g
    unfold lgX
    rw [if_neg (fun z => absurd z.1 (Nat.lt_irrefl _))]
theorem SCX_0 (h : RNs w sc) : SCX sc sc 0 := by
  cases sc with
  | nil => exact absurd h.2.1.1 (by decide)
  | cons e t => exact SCX_rf
theorem pat_lf (c : CTZ m0 w0 K T nm Nk) (h : RLP m0 w0 T p m w) (hn : m.1 306 = I (n : Nat)) (hn2 : n ≤ 2 * p) (hR : RNs w sc) (hk : K p = 1 ∨ K p = 2 ∨ K p = 4) (ho : m.1 666 < 25) : PP (PAZ N m0 w0 K T nm Nk p n own sc m w) (hm_Pa_pattern N SC m) (fm_M_patternAt N S w v1) := by
  have hc := RLP_c c h
  have hw := RLP_w c h
  have t4 := c.1.1.1
  have hl : p < T := TWK_lt c h.2.2.2.2.1 (by omega) (by omega)
  have hb : bPK (K p) = true := by rcases hk with z | z | z <;> rw [z] <;> rfl
  unfold hm_Pa_pattern fm_M_patternAt
  obtain ⟨mf, e1, f1, f2, f3, f4, f5, f6⟩ := cPt_leaf (N := N) (SC := SC) hc ho hn (by omega) (by omega)
  rw [e1]
  refine pp_l ?_
  rw [pAt_e hw h.2.2.2.2.2.2, hb, pAt_101, show decide (b2c true = 0) = false from rfl, br_fq, if_neg (by omega)]
  refine pk_mo (pB_leaf (N := N) (S := S) (v1 := v1) hw (by rw [← h.2.2.2.2.2.1]; exact ho) hR hk hl) (fun w2 r q => ?_)
  have k3 : ∀ j, p ≤ j → j < p + 1 → K j ≠ 3 := fun j h1 h2 => by
    rw [show j = p by omega]; omega
  refine ⟨p + 1, n + 1, n + 1, sc, 0, fun _ => 32, rfl, ⟨by omega, Nat.le_refl _⟩, RLP_on h f2 f3 q, ⟨by omega, f1, by omega⟩, f4, f6, f3, q.2.1, SCO_0 hR, HDs_no (fun j h1 h2 h3 => absurd h3 (k3 j h1 h2)), ⟨by omega, by omega⟩, by rw [lgS_0]; exact q.2.2.1, WNQ_f q, ?_⟩
  exact ptn_leaf (k := K p) f5 (by omega) (Nat.le_refl _) (by omega) hk k3
theorem pB_name {x : Nat} (h : WP w K T p) (h0 : w.1 70 < 25) (hn : RNs w (e :: t)) (hk : K p = 3) (hl : p < T) (h7 : w.2.2.1 7 p = I (x : Nat)) (hx : x < 1400) (hu : UND w x ↔ nm x = 0) (ho : decide (v1 = 0) = !own) : PK (fun w2 _ => (nm x = 0 ∧ WNQ K T (p + 1) (e :: t) (w.1 66) w w2) ∨ (nm x ≠ 0 ∧ WNQ K T (p + 1) (rfP own x (e :: t)) (lgX e (rfX own x (e :: t)) (w.1 66)) w w2)) (bnd (fm_M_opens N w) (fun u8 _ => pAtB N S () v1 v2 u8)) := by
  rw [opn_e h0, bnd_s]
  generalize hM : upI w 70 (w.1 70 + 1) = M
  have hM1 : WP M K T p := by rw [← hM]; exact WP_e h (by rw [upI_ne (by decide)]; exact h.2.1) h.2.2 rfl rfl
  have hM2 : RNs M (e :: t) := by rw [← hM]; exact RNs_e hn (upI_ne (by decide)) (fun _ _ _ => rfl)
  have e66 : M.1 66 = w.1 66 := by rw [← hM]; exact upI_ne (by decide)
  have er : M.2.2.1 = w.2.2.1 := by rw [← hM]; rfl
  have hu2 : UND M x ↔ nm x = 0 := by
    unfold UND at hu ⊢
    rw [er]
    exact hu
  unfold pAtB
  refine pk_ck (fun _ => ?_)
  rw [(WP_i hM1).2.1, srt_dc hM1 srK_2, decide_eq_true hk, br_tq]
  refine pk_bnd (pk_mo (nP_m (N := N) (nm := nm) (own := own) hM1 hl hM2 (by rw [er]; exact h7) hx hu2 ho) (fun u r q => ?_))
  rw [e66] at q
  rcases q with ⟨q1, q2⟩ | ⟨q1, q2⟩
  · exact pk_mo (fin_388 (by rw [hM]; exact q2)) (fun w2 _ z => Or.inl ⟨q1, z⟩)
  · exact pk_mo (fin_388 (by rw [hM]; exact q2)) (fun w2 _ z => Or.inr ⟨q1, z⟩)
theorem rfX_le {x : Nat} (ok : SOK (e :: t)) (hx : x < 1400) : rfX own x (e :: t) ≤ 1400 ∧ tot (rfP own x (e :: t)) ≤ tot (e :: t) + 1 := by
  have l0 := nd_len 1400 _ ok.1.1 ok.1.2.1
  have new : x ∉ e.1 → e.1.length + 1 ≤ 1400 ∧ tot (bnS x (e :: t)) ≤ tot (e :: t) + 1 := fun nx => by
    have := (bnS_ok ok hx nx).1
    have l1 := nd_len 1400 _ this.1 this.2.1
    have l2 : (e.1 ++ [x]).length = e.1.length + 1 := by rw [List.length_append, List.length_singleton]
    have l1 : (e.1 ++ [x]).length ≤ 1400 := l1
    refine ⟨by omega, ?_⟩
    show tot t + (e.1 ++ [x]).length ≤ tot t + e.1.length + 1
    omega
  cases own with
  | false =>
    cases hf : fnb x (e :: t)
    · rw [(rf_n hf).1, (rf_n hf).2.1]
      exact new (fun z => by
        have : fnb x (e :: t) = true := fnb_e.mpr ⟨e, List.mem_cons_self, z⟩
        rw [hf] at this
        cases this)
    · rw [(rf_y hf).1, (rf_y hf).2.1, tot_hld]
      exact ⟨by omega, by omega⟩
  | true =>
    cases hf : e.1.contains x
    · rw [(ro_n (t := t) hf).1, (ro_n (t := t) hf).2.1]
      exact new (by simpa using hf)
    · rw [(ro_y (t := t) hf).1, (ro_y (t := t) hf).2.1]
      exact ⟨by omega, by omega⟩
theorem pat_nm (c : CTZ m0 w0 K T nm Nk) (h : RLP m0 w0 T p m w) (hn : m.1 306 = I (n : Nat)) (hn2 : n ≤ 2 * p) (hR : RNs w sc) (hk : K p = 3) (ho : m.1 666 < 25) (hv : decide (v1 = 0) = !own) : PP (PAZ N m0 w0 K T nm Nk p n own sc m w) (hm_Pa_pattern N SC m) (fm_M_patternAt N S w v1) := by
  have hc := RLP_c c h
  have hw := RLP_w c h
  have t4 := c.1.1.1
  have hl : p < T := TWK_lt c h.2.2.2.2.1 (by omega) (by omega)
  have hb : bPK (K p) = true := by rw [hk]; rfl
  obtain ⟨a7, b7, hx, hu⟩ := c.2.2.2 p hl hk
  have w7 : w.2.2.1 7 p = I (Nk p : Nat) := by rw [h.2.1.2 7 (by decide)]; exact b7
  have m7 : m.2.2.1 7 p = I (nm (Nk p) : Nat) := by rw [h.1.2 7 (by decide)]; exact a7
  have hu2 : UND w (Nk p) ↔ nm (Nk p) = 0 := by
    unfold UND at hu ⊢
    rw [h.2.1.2 16 (by decide), h.2.1.2 15 (by decide)]
    exact hu
  unfold hm_Pa_pattern fm_M_patternAt
  obtain ⟨mf, e1, f1, f2, f3, f4, f5, f6⟩ := cPt_leaf (N := N) (SC := SC) hc ho hn (by omega) (by omega)
  rw [e1]
  refine pp_l ?_
  rw [pAt_e hw h.2.2.2.2.2.2, hb, pAt_101, show decide (b2c true = 0) = false from rfl, br_fq]
  rw [hk, m7] at f5
  cases sc with
  | nil => exact absurd hR.2.1.1 (by decide)
  | cons e t =>
    have sl : t.length + 1 ≤ 27 := hR.2.1.2
    refine pk_mo (pB_name (N := N) (S := S) (nm := nm) (own := own) hw (by rw [← h.2.2.2.2.2.1]; exact ho) hR hk hl w7 hx hu2 hv) (fun w2 r q => ?_)
    have jp : ∀ j, p ≤ j → j < p + 1 → j = p := fun j a b => by omega
    rcases q with ⟨q1, q⟩ | ⟨q1, q⟩
    · rw [q1] at f5
      refine ⟨p + 1, n + 1, n + 1, e :: t, 0, fun _ => 32, rfl, ⟨by omega, Nat.le_refl _⟩, RLP_on h f2 f3 q, ⟨by omega, f1, by omega⟩, f4, f6, f3, q.2.1, SCO_rf, HDs_no (fun j _ _ _ => ⟨by show t.length + 1 ≤ 32 + 1; omega, Nat.le_refl _⟩), ⟨by omega, by omega⟩, by rw [lgS_0]; exact q.2.2.1, WNQ_f q, ?_⟩
      exact ptn_und f5 (by omega) (Nat.le_refl _) (by omega) (by omega) hk rfl
    · have dl := rfP_d (Nk := Nk) (K := K) (W := fun _ => rfL own (Nk p) (e :: t)) (p := p) (x := Nk p) (own := own) hR.2.2.2 (by omega) rfl hk rfl
      have xl := rfX_le (own := own) hR.2.2.2 hx
      refine ⟨p + 1, n + 1, n + 1, rfP own (Nk p) (e :: t), rfX own (Nk p) (e :: t), fun _ => rfL own (Nk p) (e :: t), rfl, ⟨by omega, Nat.le_refl _⟩, RLP_on h f2 f3 q, ⟨by omega, f1, by omega⟩, f4, f6, f3, q.2.1, ⟨dl.1, fun z => rfP_sn z⟩, dl.2, ⟨by omega, xl.1⟩, q.2.2.1, WNQ_f q, ?_⟩
      exact ptn_name c.2.2.1 f5 (by omega) (Nat.le_refl _) (by omega) hR.2.2.2 hx q1 (by omega) hk rfl
end
end
section
set_option maxRecDepth 100000
section
variable {m0 w0 m w v u u0 mf w2 : MS} {K nm Nk W : Nat → Nat} {T p n N q q2 X n2 p2 ν : Nat} {sc sc2 t : SCT} {e : List Nat × List Nat × Nat} {own : Bool} {S : SG_M_rowPattern} {SC : SF_Pa_matched} {v1 v2 lg r : Int32}
theorem HDs_ext : ∀ {a b : SCT}, p ≤ q → q2 ≤ p2 → (∀ j, p ≤ j → j < q → K j ≠ 3) → (∀ j, q2 ≤ j → j < p2 → K j ≠ 3) → HDs Nk K W q q2 a b → HDs Nk K W p p2 a b
  | [], [], _, _, g1, g2, h => fun j h1 h2 h3 => by
    by_cases z : j < q
    · exact absurd h3 (g1 j h1 z)
    · by_cases y : j < q2
      · exact h j (by omega) y h3
      · exact absurd h3 (g2 j (by omega) h2)
  | [], _ :: _, _, _, _, _, h => h.elim
  | _ :: _, [], _, _, _, _, h => h.elim
  | e :: t, e2 :: t2, l1, l2, g1, g2, h => ⟨⟨fun x hx => by
      rcases h.1.1 x hx with a | ⟨j, a1, a2, a3, a4⟩
      · exact Or.inl a
      · exact Or.inr ⟨j, ⟨by omega, by omega⟩, a2, a3, a4⟩, fun h60 j h1 h2 h3 h4 => by
      by_cases z : j < q
      · exact absurd h3 (g1 j h1 z)
      · by_cases y : q2 ≤ j
        · exact absurd h3 (g2 j y h2)
        · exact h.1.2.1 h60 j (by omega) (by omega) h3 h4, h.1.2.2⟩, HDs_ext l1 l2 g1 g2 h.2⟩
theorem pat_mn (c : CTZ m0 w0 K T nm Nk) (h : RLP m0 w0 T p m w) (hn : m.1 306 = I (n : Nat)) (hn2 : n ≤ 2 * p) (hR : RNs w sc) (hk : K p = 34) (ho : m.1 666 < 25) (hS0 : ∀ (u0 u : MS) a0, Kfc u0 u → KfE u0 (S.1 u a0)) (hS1 : ∀ (u0 u : MS) a0, Kfc u0 u → KfE u0 (S.2 u a0)) : PP (PAZ N m0 w0 K T nm Nk p n own sc m w) (hm_Pa_pattern N SC m) (fm_M_patternAt N S w v1) := by
  have hc := RLP_c c h
  have hw := RLP_w c h
  have t4 := c.1.1.1
  have hl : p < T := TWK_lt c h.2.2.2.2.1 (by omega) (by omega)
  have hb : bPK (K p) = true := by rw [hk]; rfl
  have ho2 : w.1 70 < 25 := by rw [← h.2.2.2.2.2.1]; exact ho
  unfold hm_Pa_pattern fm_M_patternAt
  have hr : fb_M_patternAt_0 N S () w v1 = fb_M_patternAt_178 N S () (upI w 70 (w.1 70 + 1)) 1 (I ((p + 1 : Nat) : Int)) := by
    rw [pAt_e hw h.2.2.2.2.2.2, hb, pAt_101, show decide (b2c true = 0) = false from rfl, br_fq, if_pos hk, opn_e ho2, bnd_s]
    have hM1 : WP (upI w 70 (w.1 70 + 1)) K T p := WP_e hw (by rw [upI_ne (by decide)]; exact hw.2.1) hw.2.2 rfl rfl
    unfold pAtB fb_M_patternAt_160
    obtain ⟨a, b, -⟩ := WP_i hM1
    rw [show ln 6 = 4002 from rfl, a, b, srt_dc hM1 srK_2, decide_eq_false (by omega), hM1.2.1, i_suc]
    rfl
  rw [hr, cPt_e hc (by omega), hb, show b2c true = 1 from rfl, opens_e ho, bTm_l, hk, show decide (I ((34 : Nat) : Int) = 20) = false from rfl, br_fq, show decide (I ((34 : Nat) : Int) = 22) = false from rfl, br_fq, show decide (I ((34 : Nat) : Int) = 24) = false from rfl, br_fq, show decide (I ((34 : Nat) : Int) = 34) = true from rfl, br_tq]
  generalize hM : upI w 70 (w.1 70 + 1) = M
  have hM1 : WP M K T p := by rw [← hM]; exact WP_e hw (by rw [upI_ne (by decide)]; exact hw.2.1) hw.2.2 rfl rfl
  have q0 : WNQ K T p sc (w.1 66) M M := by
    have := WNQ_0 (w := M) (sc := sc) hM1 (by rw [← hM]; exact RNs_e hR (upI_ne (by decide)) (fun _ _ _ => rfl))
    have e : M.1 66 = w.1 66 := by rw [← hM]; exact upI_ne (by decide)
    rw [e] at this
    exact this
  have q1 : WNQ K T (p + 1) sc (w.1 66) M (upI M 69 (I ((p + 1 : Nat) : Int))) := WNQ_on q0 hl rfl
  have o1 : (upI m 666 (m.1 666 + 1)).1 665 = I (p : Nat) := by rw [upI_ne (by decide)]; exact hc.2.1
  refine l_lt ?_
  rw [o1, i_suc, hc.2.1]
  generalize hC : upI (upI m 666 (m.1 666 + 1)) 665 (I ((p + 1 : Nat) : Int)) = C
  have hC1 : CP C K T (p + 1) := by rw [← hC]; exact ⟨hc.1, upI_at, hl⟩
  have flt : K (p + 1) ≠ 1 → PK (fun v (_ : Int32) => FLW v) (fb_M_patternAt_178 N S () M 1 (I ((p + 1 : Nat) : Int))) := fun hk1 => by
    unfold fb_M_patternAt_178
    refine pk_ltq (pk_ck (fun _ => ?_))
    rw [(WP_i q1.1).2.1, srt_dc q1.1 srK_4, decide_eq_false hk1, br_fq]
    refine pk_bnd (fun v r z => ?_)
    exact Kf_pk (yf_fb_M_patternAt_199 (u0 := v) (wrong_s (u0 := v) (by decide) v r z) (hS0 v) (hS1 v))
  by_cases k45 : K (p + 1) = 45
  · exact pp_rf (RFS_T (look_x hC1 k45)) (fun m2 => flt (by omega))
  · rw [look_e hC1 k45, bTm_l]
    have k46 := hC1.1.1.k46 hC1.2.2
    by_cases k1 : K (p + 1) = 1
    · have hl2 : p + 1 < T := TWK_lt c hl (by omega) (by omega)
      rw [k1, show decide (I ((1 : Nat) : Int) = 1) = true from rfl, br_tq]
      unfold hb_Pa_pattern_137 hb_Pa_pattern_162
      have Cn : C.1 306 = I (n : Nat) := by rw [← hC, upI_ne (by decide), upI_ne (by decide)]; exact hn
      rw [lf_e hC1 Cn (by omega), bnd_s]
      generalize hA : adN C n (I (K (p + 1) : Nat)) (I ((p + 1 : Nat) : Int)) (C.2.2.1 7 (p + 1)) 0 0 = A
      have An : A.1 306 = I ((n + 1 : Nat) : Int) := by rw [← hA]; exact adN_n
      have Bn : (upI A 665 (I ((p + 1 + 1 : Nat) : Int))).1 306 = I ((n + 1 : Nat) : Int) := by rw [upI_ne (by decide)]; exact An
      rw [add_e Bn (by omega), bnd_s]
      generalize hB : upI A 665 (I ((p + 1 + 1 : Nat) : Int)) = B at Bn
      have Ai : ∀ k, k ≠ 306 → k ≠ 665 → k ≠ 666 → B.1 k = m.1 k := fun k h1 h2 h3 => by rw [← hB, upI_ne h2, ← hA, adN_i h1, ← hC, upI_ne h2, upI_ne h3]
      have B6 : B.1 666 = m.1 666 + 1 := by rw [← hB, upI_ne (by decide), ← hA, adN_i (by decide), ← hC, upI_ne (by decide), upI_at]
      have B5 : B.1 665 = I ((p + 2 : Nat) : Int) := by rw [← hB, upI_at]
      have Br : ∀ k, k < 16 ∨ 21 < k → B.2.2.1 k = m.2.2.1 k := fun k hk => by rw [← hB]; show A.2.2.1 k = _; rw [← hA, adN_r hk, ← hC]; rfl
      have Bo : KPO n m B := fun j hj => by
        have := adN_o (m := C) (n := n) (a := I (K (p + 1) : Nat)) (b := I ((p + 1 : Nat) : Int)) (c := C.2.2.1 7 (p + 1)) (d := 0) (f := 0) j hj
        rw [hA] at this
        have e1 : B.2.2.1 = A.2.2.1 := by rw [← hB]; rfl
        have e2 : C.2.2.1 = m.2.2.1 := by rw [← hC]; rfl
        unfold nod at this ⊢
        rw [e1]
        rw [e2] at this
        exact this
      have Bx := adN_nod (m := B) (n := n + 1) (a := 17) (b := I (p : Nat)) (c := I ((n + 1 : Nat) : Int)) (d := 0) (f := 0)
      have Bp := adN_o (m := B) (n := n + 1) (a := 17) (b := I (p : Nat)) (c := I ((n + 1 : Nat) : Int)) (d := 0) (f := 0)
      have Di : ∀ k, k ≠ 306 → (adN B (n + 1) 17 (I (p : Nat)) (I ((n + 1 : Nat) : Int)) 0 0).1 k = B.1 k := fun k hk => adN_i hk
      have Dn : (adN B (n + 1) 17 (I (p : Nat)) (I ((n + 1 : Nat) : Int)) 0 0).1 306 = I ((n + 1 + 1 : Nat) : Int) := adN_n
      have Dr : ∀ k, k < 16 ∨ 21 < k → (adN B (n + 1) 17 (I (p : Nat)) (I ((n + 1 : Nat) : Int)) 0 0).2.2.1 k = B.2.2.1 k := fun k hk => adN_r hk
      generalize hD : adN B (n + 1) 17 (I (p : Nat)) (I ((n + 1 : Nat) : Int)) 0 0 = D at Bx Bp Di Dn Dr
      refine l_lt (pp_l ?_)
      have fw : PK (fun w2 (_ : Int32) => WNQ K T (p + 2) sc (w.1 66) w w2) (fb_M_patternAt_178 N S () M 1 (I ((p + 1 : Nat) : Int))) := by
        unfold fb_M_patternAt_178 fb_M_patternAt_199 fb_M_patternAt_239
        refine pk_ltq (pk_ck (fun _ => ?_))
        rw [(WP_i q1.1).2.1, srt_dc q1.1 srK_4, decide_eq_true k1, br_tq]
        refine pk_bnd (fun u5 r5 x5 => ?_)
        have q5 := WNQ_kr q1 (yr_fm_M_pattern Kr_rf u5 r5 x5)
        show PK _ _
        rw [show decide ((1 : Int32) = 0) = false from rfl, br_fq]
        refine pk_ck (fun _ => pk_bnd (fun u2 r2 x2 => pk_ck (fun _ => pk_ck (fun _ => pk_ltq ?_))))
        exact on_1 (by rw [hM]; exact WNQ_J (WNQ_kr q5 (yr_fm_M_term Kr_rf u2 r2 x2))) hl2
      refine pk_mo fw (fun w2 r q => ?_)
      have k3 : ∀ j, p ≤ j → j < p + 2 → K j ≠ 3 := fun j h1 h2 => by
        by_cases z : j = p
        · rw [z]; omega
        · rw [show j = p + 1 by omega]; omega
      have pcf : PCF m (upI D 666 (D.1 666 - 1)) := by
        refine ⟨fun k hk => ?_, fun k hk => (Dr k hk).trans (Br k hk)⟩
        simp only [List.mem_cons, List.not_mem_nil, or_false] at hk
        by_cases z : k = 666
        · rw [z, upI_at, Di _ (by decide), B6, i_ps]
        · rw [upI_ne z, Di _ (by omega), Ai _ (by omega) (by omega) z]
      refine ⟨p + 2, n + 2, n + 2, sc, 0, fun _ => 32, rfl, ⟨by omega, Nat.le_refl _⟩, RLP_on h (by rw [upI_ne (by decide), Di _ (by decide)]; exact B5) pcf q, ⟨by omega, by rw [upI_ne (by decide)]; exact Dn, by omega⟩, KPO_tr Bo Bp (by omega), Bx.2, pcf, q.2.1, SCO_0 hR, HDs_no (fun j h1 h2 h3 => absurd h3 (k3 j h1 h2)), ⟨by omega, by omega⟩, by rw [lgS_0]; exact q.2.2.1, WNQ_f q, ?_⟩
      exact ptn_neg (a := I (p : Nat)) (b := I ((n + 1 : Nat) : Int)) (c := 0) (g := 0) Bx.1 (by omega) (Nat.le_refl _) (by omega) k3
    · rw [I_dn (a := K (p + 1)) (b := 1) (s := 1) (by omega) (by decide) rfl, decide_eq_false k1, br_fq]
      exact pp_rf (RFS_T (rfs_e hC1)) (fun m2 => flt k1)
end
end
section
set_option maxRecDepth 100000
def PTS (N : Nat) (m0 w0 : MS) (K : Nat → Nat) (T : Nat) (nm Nk : Nat → Nat) (own : Bool) (v1 : Int32) (fc : MS → Option (MS × (Int32 ⊕ Nat))) (fw : MS → Int32 → Option (MS × Int32)) : Prop := ∀ (m w : MS) (p n : Nat) (sc : SCT), RLP m0 w0 T p m w → m.1 306 = I (n : Nat) → n ≤ 2 * p → RNs w sc → PP (PAZ N m0 w0 K T nm Nk p n own sc m w) (fc m) (fw w v1)
section
variable {m0 w0 m w v u u0 mf w2 : MS} {K nm Nk W : Nat → Nat} {T p n N q q2 X n2 p2 ν : Nat} {sc sc2 t : SCT} {e : List Nat × List Nat × Nat} {own : Bool} {S : SG_M_rowPattern} {SC : SF_Pa_matched} {v1 v2 lg r : Int32}
theorem WFP_rn (h : RNs w sc) (h65 : v.1 65 = w.1 65) (hr : v.2.2.1 = w.2.2.1) : RNs v sc := RNs_e h h65 (fun _ _ _ => by rw [hr])
theorem pat_gp (c : CTZ m0 w0 K T nm Nk) (h : RLP m0 w0 T p m w) (hn : m.1 306 = I (n : Nat)) (hn2 : n ≤ 2 * p) (hR : RNs w sc) (hk : K p = 20) (ho : m.1 666 < 25) (hS0 : ∀ (u0 u : MS) a0, Kfc u0 u → KfE u0 (S.1 u a0)) (hS1 : ∀ (u0 u : MS) a0, Kfc u0 u → KfE u0 (S.2 u a0)) (hP : PTS N m0 w0 K T nm Nk own v1 (SC.2.2.2.2.2.2.2.2.2.2.2.2.2.2.2.2.2.1) S.2) : PP (PAZ N m0 w0 K T nm Nk p n own sc m w) (hm_Pa_pattern N SC m) (fm_M_patternAt N S w v1) := by
  have hc := RLP_c c h
  have hw := RLP_w c h
  have t4 := c.1.1.1
  have hl : p < T := TWK_lt c h.2.2.2.2.1 (by omega) (by omega)
  have hb : bPK (K p) = true := by rw [hk]; rfl
  have ho2 : w.1 70 < 25 := by rw [← h.2.2.2.2.2.1]; exact ho
  unfold hm_Pa_pattern fm_M_patternAt
  have hr : fb_M_patternAt_0 N S () w v1 = bnd (S.2 (adv (upI w 70 (w.1 70 + 1)) p) v1) (fun u11 r11 => bnd (fm_M_needSign N u11 1) (fun u12 _ => fb_M_patternAt_388 N S () u12 (r11))) := by
    rw [pAt_e hw h.2.2.2.2.2.2, hb, pAt_101, show decide (b2c true = 0) = false from rfl, br_fq, if_neg (by omega), opn_e ho2, bnd_s]
    have hM1 : WP (upI w 70 (w.1 70 + 1)) K T p := WP_e hw (by rw [upI_ne (by decide)]; exact hw.2.1) hw.2.2 rfl rfl
    have h67 : (upI w 70 (w.1 70 + 1)).1 67 = 0 := by rw [upI_ne (by decide)]; exact h.2.2.2.2.2.2
    unfold pAtB
    obtain ⟨a, b, -⟩ := WP_i hM1
    rw [show ln 6 = 4002 from rfl, a, b, srt_dc hM1 srK_2, srt_dc hM1 srK_4, srt_dc hM1 srK_1, srt_dc hM1 srK_5, tkS_e (k := 20) (s := 0) hM1 h67 (by decide) rfl, if_pos hk, decide_eq_false (show ¬ K p = 3 by omega), decide_eq_false (show ¬ K p = 1 by omega), decide_eq_false (show ¬ K p = 2 by omega), decide_eq_false (show ¬ K p = 4 by omega)]
    rfl
  rw [hr, cPt_e hc (by omega), hb, show b2c true = 1 from rfl, opens_e ho, bTm_l, hk, show decide (I ((20 : Nat) : Int) = 20) = true from rfl, br_tq]
  have o1 : (upI m 666 (m.1 666 + 1)).1 665 = I (p : Nat) := by rw [upI_ne (by decide)]; exact hc.2.1
  refine l_lt ?_
  rw [o1, i_suc, hc.2.1]
  generalize hC : upI (upI m 666 (m.1 666 + 1)) 665 (I ((p + 1 : Nat) : Int)) = C
  generalize hD : adv (upI w 70 (w.1 70 + 1)) p = D
  have Ci : ∀ k, k ≠ 665 → k ≠ 666 → C.1 k = m.1 k := fun k h1 h2 => by rw [← hC, upI_ne h1, upI_ne h2]
  have C6 : C.1 666 = m.1 666 + 1 := by rw [← hC, upI_ne (by decide), upI_at]
  have C5 : C.1 665 = I ((p + 1 : Nat) : Int) := by rw [← hC, upI_at]
  have Cr : C.2.2.1 = m.2.2.1 := by rw [← hC]; rfl
  have Di : ∀ k, k ≠ 69 → k ≠ 70 → D.1 k = w.1 k := fun k h1 h2 => by rw [← hD]; unfold adv; rw [upI_ne h1, upI_ne h2]
  have D6 : D.1 70 = w.1 70 + 1 := by rw [← hD]; unfold adv; rw [upI_ne (by decide), upI_at]
  have D5 : D.1 69 = I ((p + 1 : Nat) : Int) := by rw [← hD]; unfold adv; rw [upI_at]
  have Dr : D.2.2.1 = w.2.2.1 := by rw [← hD]; rfl
  have rl : RLP m0 w0 T (p + 1) C D := ⟨⟨fun k hk => by rw [Ci k (by omega) (by omega)]; exact h.1.1 k hk, fun k hk => by rw [Cr]; exact h.1.2 k hk⟩, ⟨fun k hk => by rw [Di k (fun z => by rw [z] at hk; revert hk; decide) (fun z => by rw [z] at hk; revert hk; decide)]; exact h.2.1.1 k hk, fun k hk => by rw [Dr]; exact h.2.1.2 k hk⟩, C5, D5, hl, by rw [C6, D6, h.2.2.2.2.2.1], by rw [Di 67 (by decide) (by decide)]; exact h.2.2.2.2.2.2⟩
  have rn : RNs D sc := WFP_rn hR (Di 65 (by decide) (by decide)) Dr
  refine pp_bT (pp_mo (hP C D (p + 1) n sc rl (by rw [Ci 306 (by decide) (by decide)]; exact hn) (by omega) rn) (fun m2 z w2 r q => ?_))
  cases z with
  | inr k =>
    have q : FLW w2 := q
    have g : KfE w2 (bnd (fm_M_needSign N w2 1) (fun u12 _ => fb_M_patternAt_388 N S () u12 r)) := Kf_bnd (yf_fm_M_needSign q) (fun _ _ z => yf_fb_M_patternAt_388 z (hS0 w2) (hS1 w2))
    exact Kf_pk g
  | inl ε =>
    obtain ⟨p1, n1, ν1, sc1, X, W, a1, a2, a3, a4, a5, a6, a7, a8, a9, a10, a11, a12, a13, a14⟩ := q
    have c1 := RLP_c c a3
    have w1 := RLP_w c a3
    have p1T := a3.2.2.2.2.1
    show PP _ (bnd (hm_Tr_add N m2 5 (I (p : Nat)) ε 0 0) _) (bnd (fm_M_needSign N w2 1) _)
    rw [add_e a4.2.1 (by omega), bnd_s]
    have Ei : ∀ k, k ≠ 306 → (adN m2 n1 5 (I (p : Nat)) ε 0 0).1 k = m2.1 k := fun k hk => adN_i hk
    have En : (adN m2 n1 5 (I (p : Nat)) ε 0 0).1 306 = I ((n1 + 1 : Nat) : Int) := adN_n
    have Er : ∀ k, k < 16 ∨ 21 < k → (adN m2 n1 5 (I (p : Nat)) ε 0 0).2.2.1 k = m2.2.2.1 k := fun k hk => adN_r hk
    have Eo := adN_o (m := m2) (n := n1) (a := 5) (b := I (p : Nat)) (c := ε) (d := 0) (f := 0)
    have Ex := adN_nod (m := m2) (n := n1) (a := 5) (b := I (p : Nat)) (c := ε) (d := 0) (f := 0)
    generalize hE : adN m2 n1 5 (I (p : Nat)) ε 0 0 = E at Ei En Er Eo Ex
    have cE : CP E K T p1 := ⟨⟨c1.1.1, fun j hj => by rw [Er 6 (by decide)]; exact c1.1.2 j hj⟩, by rw [Ei _ (by decide)]; exact c1.2.1, c1.2.2⟩
    by_cases k21 : K p1 = 21
    · have hl1 : p1 < T := TWK_lt c p1T (by omega) (by omega)
      rw [need_e (s := 21) cE k21 (by decide) rfl, bTm_l, ndS_1 (s := 1) w1 a3.2.2.2.2.2.2 (by decide) rfl k21, bnd_s]
      unfold hb_Pa_pattern_162
      refine l_lt (pp_l ?_)
      unfold fb_M_patternAt_388
      refine pk_ltq (pk_some ?_)
      generalize hF : advc E p1 = F2
      have Fi : ∀ k, k ≠ 665 → F2.1 k = E.1 k := fun k hk => by rw [← hF]; unfold advc; exact upI_ne hk
      have F5 : F2.1 665 = I ((p1 + 1 : Nat) : Int) := by rw [← hF]; unfold advc; exact upI_at
      have Fr : F2.2.2.1 = E.2.2.1 := by rw [← hF]; rfl
      generalize hG : adv w2 p1 = G2
      have Gi : ∀ k, k ≠ 69 → G2.1 k = w2.1 k := fun k hk => by rw [← hG]; unfold adv; exact upI_ne hk
      have G5 : G2.1 69 = I ((p1 + 1 : Nat) : Int) := by rw [← hG]; unfold adv; exact upI_at
      have Gr : G2.2.2.1 = w2.2.2.1 := by rw [← hG]; rfl
      have pcf : PCF m (upI F2 666 (F2.1 666 - 1)) := by
        refine ⟨fun k hk => ?_, fun k hk => by show F2.2.2.1 k = _; rw [Fr, Er k hk, a7.2 k hk, Cr]⟩
        have hk2 := hk
        simp only [List.mem_cons, List.not_mem_nil, or_false] at hk2
        by_cases z : k = 666
        · rw [z, upI_at, Fi _ (by decide), Ei _ (by decide), a7.1 666 (by decide), C6, i_ps]
        · rw [upI_ne z, Fi _ (by omega), Ei _ (by omega), a7.1 k hk, Ci k (by omega) z]
      have wfp : WFP w (upI G2 70 (G2.1 70 - 1)) := by
        refine ⟨fun k hk => ?_, fun k hk => by show G2.2.2.1 k = _; rw [Gr, a13.2 k hk, Dr]⟩
        have hk2 := hk
        simp only [List.mem_cons, List.not_mem_nil, or_false] at hk2
        by_cases z : k = 70
        · rw [z, upI_at, Gi _ (by decide), a13.1 70 (by decide), D6, i_ps]
        · rw [upI_ne z, Gi _ (by omega), a13.1 k hk, Di k (by omega) z]
      have g1 : ∀ j, p ≤ j → j < p + 1 → K j ≠ 3 := fun j h1 h2 => by rw [show j = p by omega]; omega
      have g2 : ∀ j, p1 ≤ j → j < p1 + 1 → K j ≠ 3 := fun j h1 h2 => by rw [show j = p1 by omega]; omega
      have ko : KPO n1 m2 (upI F2 666 (F2.1 666 - 1)) := fun j hj => by
        have := Eo j hj
        unfold nod at this ⊢
        show (F2.2.2.1 16 j, F2.2.2.1 17 j, F2.2.2.1 18 j, F2.2.2.1 19 j, F2.2.2.1 20 j) = _ ∧ F2.2.2.1 21 j = _
        rw [Fr]
        exact this
      have kc : Kcc m2 (upI F2 666 (F2.1 666 - 1)) := ⟨fun k hk => by rw [upI_ne (by omega), Fi _ (by omega), Ei _ (by omega)], fun k hk => by show F2.2.2.1 k = _; rw [Fr, Er k (by omega)]⟩
      have nd : nod (upI F2 666 (F2.1 666 - 1)) (n1 + 1) = (5, I (p : Nat), ε, 0, 0) ∧ (upI F2 666 (F2.1 666 - 1)).2.2.1 21 (n1 + 1) = 0 := by
        unfold nod at Ex ⊢
        show (F2.2.2.1 16 (n1 + 1), F2.2.2.1 17 (n1 + 1), F2.2.2.1 18 (n1 + 1), F2.2.2.1 19 (n1 + 1), F2.2.2.1 20 (n1 + 1)) = _ ∧ F2.2.2.1 21 (n1 + 1) = _
        rw [Fr]
        exact Ex
      refine ⟨p1 + 1, n1 + 1, n1 + 1, sc1, X, W, rfl, ⟨by omega, Nat.le_refl _⟩, ⟨Kc_tr h.1 (PCF_k pcf), Kt_tr h.2.1 (WFP_k wfp), by rw [upI_ne (by decide)]; exact F5, by rw [upI_ne (by decide)]; exact G5, hl1, by rw [pcf.1 666 (by decide), wfp.1 70 (by decide)]; exact h.2.2.2.2.2.1, by rw [wfp.1 67 (by decide)]; exact h.2.2.2.2.2.2⟩, ⟨by omega, by rw [upI_ne (by decide), Fi _ (by decide)]; exact En, by omega⟩, ?_, nd.2, pcf, WFP_rn (v := upI G2 70 (G2.1 70 - 1)) a8 (by rw [upI_ne (by decide), Gi _ (by decide)]) Gr, a9, HDs_ext (by omega) (by omega) g1 g2 a10, ⟨by omega, a11.2⟩, ?_, wfp, ?_⟩
      · refine KPO_tr (k := n1) ?_ ko (by omega)
        intro j hj
        have := a5 j hj
        unfold nod at this ⊢
        rw [Cr] at this
        exact this
      · rw [upI_ne (by decide), Gi _ (by decide), a12, Di 66 (by decide) (by decide)]
      · rw [a1] at nd
        refine ptn_grp (μ := ν1) (q := p + 1) (q2 := p1) (X := X) nd.1 (by omega) (Nat.le_refl _) (by omega) (by omega) ⟨by omega, by omega, by omega⟩ g1 g2 (fun {m3} kx d cm => a14 d m3 cm (KPX_d ko kc kx (by omega) (by omega) (Nat.le_refl _)))
    · refine pp_rf (RFS_T (need_x (s := 21) cE k21 (by decide) rfl)) (fun mm => ?_)
      refine pk_bnd (pk_mo (ndS_0 (N := N) (s := 1) w1 a3.2.2.2.2.2.2 (by decide) rfl k21) (fun v r2 z => ?_))
      exact Kf_pk (yf_fb_M_patternAt_388 (u0 := v) z (hS0 v) (hS1 v))
end
end
section
set_option maxRecDepth 100000
section
variable {m0 w0 m w v u m2 m3 mi : MS} {K nm Nk W W2 : Nat → Nat} {T p n N q q2 X X2 n2 n3 ni li lo p2 ν μ Λ : Nat} {sc sc1 sc2 sc3 t : SCT} {own : Bool} {l : List Nat}
theorem PTN_w (h : ∀ j, p ≤ j → j < p2 → W2 j = W j) (q : PTN N K nm m2 lo n2 ν own p p2 sc sc2 X W) : PTN N K nm m2 lo n2 ν own p p2 sc sc2 X W2 := fun d m3 cm a b c e f g => by
  rw [wup_w h]
  exact q d m3 cm a b c e f g
theorem PRW_w : ∀ {l : List Nat} {p p2 : Nat} {sc sc2 : SCT} {X : Nat}, (∀ j, p ≤ j → j < p2 → W2 j = W j) → PRW N K nm m2 lo n2 own W l p p2 sc sc2 X → PRW N K nm m2 lo n2 own W2 l p p2 sc sc2 X
  | [], _, _, _, _, _, _, h => h
  | ν :: l, p, p2, sc, sc2, X, hw, ⟨q, q2, sc1, X1, X2, h1, g1, ⟨mi, li, ni, h2, h2b⟩, h3, h4, h5, h6, h7⟩ => by
    have := (PRW_len h6).1
    exact ⟨q, q2, sc1, X1, X2, h1, g1, ⟨mi, li, ni, PTN_w (fun j a b => hw j (by omega) (by omega)) h2, h2b⟩, h3, h4, h5, PRW_w (fun j a b => hw j (by omega) b) h6, h7⟩
theorem PRW_hd : ∀ {l : List Nat} {p p2 : Nat} {sc sc2 : SCT} {X : Nat}, PRW N K nm m2 lo n2 own W l p p2 sc sc2 X → l ≠ [] → l.headD 0 ≤ l.getLastD 0 ∧ 1 ≤ l.headD 0 ∧ l.getLastD 0 ≤ n2
  | [], _, _, _, _, _, _, h => absurd rfl h
  | [ν], _, _, _, _, _, ⟨_, _, _, _, _, _, _, _, h3, _⟩, _ => ⟨Nat.le_refl _, h3.1, h3.2⟩
  | ν :: μ :: l, p, p2, sc, sc2, X, ⟨q, q2, sc1, X1, X2, h1, g1, ⟨mi, li, ni, h2, hx, a, b, c⟩, h3, h4, h5, h6, h7⟩, _ => by
    obtain ⟨r1, r2, r3⟩ := PRW_hd h6 (fun z => by cases z)
    have r1 : μ ≤ (μ :: l).getLastD 0 := r1
    have c : ni < μ := c (fun z => by cases z)
    refine ⟨?_, h3.1, r3⟩
    show ν ≤ (μ :: l).getLastD 0
    omega
theorem PRW_up {y : Nat} (hn : n2 ≤ n3) (hk : Kcc m2 m3) : ∀ {l : List Nat} {p p2 : Nat} {sc sc2 : SCT} {X : Nat}, (∀ j, j ≤ n2 → nod m3 j = nod m2 j ∧ (j ≠ l.getLastD 0 → m3.2.2.1 21 j = m2.2.2.1 21 j)) → m3.2.2.1 21 (l.getLastD 0) = I (y : Nat) → PRW N K nm m2 lo n2 own W l p p2 sc sc2 X → ∀ {q : Nat} {sc3 : SCT} {Y : Nat} {l2 : List Nat}, l ≠ [] → (l2.headD 0 = y) → (l2 ≠ [] → n2 < y) → PRW N K nm m3 lo n3 own W l2 p2 q sc2 sc3 Y → PRW N K nm m3 lo n3 own W (l ++ l2) p q sc sc3 (max X Y)
  | [], _, _, _, _, _, _, _, _, _, _, _, _, h, _, _, _ => absurd rfl h
  | [ν], p, p2, sc, sc2, X, hs, hy, ⟨q, q2, sc1, X1, X2, h1, g1, ⟨mi, li, ni, h2, hx, a, b, c⟩, h3, h4, h5, h6, h7⟩, qq, sc3, Y, l2, _, hl2, hy2, hr => by
    obtain ⟨z1, z2, z3⟩ := h6
    subst z1
    subst z2
    subst z3
    obtain ⟨r1, r2, r3⟩ := PRW_len hr
    refine ⟨q, q2, sc2, X1, Y, ⟨h1.1, h1.2.1, r1⟩, g1, ⟨mi, li, ni, h2, ⟨fun j h0 hj => ⟨(hs j (by omega)).1.trans (hx.1 j h0 hj).1, fun z => ((hs j (by omega)).2 z).trans ((hx.1 j h0 hj).2 z)⟩, Kc_tr hx.2 hk⟩, ⟨a.1, by omega⟩, b, fun z => ?_⟩, ⟨h3.1, by omega⟩, ?_, h5, hr, ?_⟩
    · show ni < l2.headD 0
      rw [hl2]; have := hy2 z; omega
    · show m3.2.2.1 21 ν = I ((l2.headD 0 : Nat) : Int)
      rw [hl2]; exact hy
    · rw [h7]; omega
  | ν :: μ :: l, p, p2, sc, sc2, X, hs, hy, ⟨q, q2, sc1, X1, X2, h1, g1, ⟨mi, li, ni, h2, hx, a, b, c⟩, h3, h4, h5, h6, h7⟩, qq, sc3, Y, l2, _, hl2, hy2, hr => by
    obtain ⟨r1, r2, r3⟩ := PRW_len hr
    obtain ⟨d1, d2, d3⟩ := PRW_hd h6 (fun z => by cases z)
    have d1 : μ ≤ (μ :: l).getLastD 0 := d1
    have c2 : ni < μ := c (fun z => by cases z)
    have hs : ∀ j, j ≤ n2 → nod m3 j = nod m2 j ∧ (j ≠ (μ :: l).getLastD 0 → m3.2.2.1 21 j = m2.2.2.1 21 j) := hs
    have hy : m3.2.2.1 21 ((μ :: l).getLastD 0) = I (y : Nat) := hy
    have ih := PRW_up hn hk hs hy h6 (fun z => by cases z) hl2 hy2 hr
    refine ⟨q, q2, sc1, X1, max X2 Y, ⟨h1.1, h1.2.1, by omega⟩, g1, ⟨mi, li, ni, h2, ⟨fun j h0 hj => ⟨(hs j (by omega)).1.trans (hx.1 j h0 hj).1, fun z => ((hs j (by omega)).2 (by omega)).trans ((hx.1 j h0 hj).2 z)⟩, Kc_tr hx.2 hk⟩, ⟨a.1, by omega⟩, b, fun _ => c2⟩, ⟨h3.1, by omega⟩, ?_, h5, ih, ?_⟩
    · show m3.2.2.1 21 ν = I (μ : Nat)
      rw [(hs ν h3.2).2 (by omega)]
      exact h4
    · rw [h7]; omega
theorem PRW_1 (h : PTN N K nm m2 lo n2 ν own q q2 sc sc2 X W) (hq : q ≤ q2) (hν : 1 ≤ ν ∧ ν ≤ n2) (hlo : lo < ν) (h21 : m2.2.2.1 21 ν = 0) (ht : tot sc2 ≤ tot sc + (q2 - q)) (hl : sc2.length = sc.length) : PRW N K nm m2 lo n2 own W [ν] q q2 sc sc2 X := ⟨q, q2, sc2, X, 0, ⟨Nat.le_refl _, hq, Nat.le_refl _⟩, fun j a b => absurd b (by omega), ⟨m2, lo, n2, h, ⟨fun _ _ _ => ⟨rfl, fun _ => rfl⟩, Kc_rf⟩, ⟨Nat.le_refl _, Nat.le_refl _⟩, ⟨hlo, hν.2⟩, fun z => absurd rfl z⟩, hν, h21, ⟨ht, hl⟩, ⟨rfl, rfl, rfl⟩, by omega⟩
theorem PRW_snoc {Y : Nat} (hk : Kcc m2 m3) (hl : l ≠ []) (hs : ∀ j, j ≤ n2 → nod m3 j = nod m2 j ∧ (j ≠ l.getLastD 0 → m3.2.2.1 21 j = m2.2.2.1 21 j)) (hy : m3.2.2.1 21 (l.getLastD 0) = I (μ : Nat)) (h : PRW N K nm m2 lo n2 own W l p p2 sc sc2 X) (hg : ∀ j, p2 ≤ j → j < q → K j ≠ 3) (hq : p2 ≤ q ∧ q ≤ q2) (hp : PTN N K nm mi li ni μ own q q2 sc2 sc3 Y W) (hx : KPX li ni μ mi m3) (hμ : n2 < μ ∧ μ ≤ ni ∧ ni ≤ n3) (hli : lo ≤ li ∧ li < μ) (h21 : m3.2.2.1 21 μ = 0) (ht : tot sc3 ≤ tot sc2 + (q2 - q)) (hln : sc3.length = sc2.length) : PRW N K nm m3 lo n3 own W (l ++ [μ]) p q2 sc sc3 (max X Y) := by
  refine PRW_up (y := μ) (by omega) hk hs hy h hl rfl (fun _ => hμ.1) ?_
  exact ⟨q, q2, sc3, Y, 0, ⟨hq.1, hq.2, Nat.le_refl _⟩, hg, ⟨mi, li, ni, hp, hx, ⟨hli.1, hμ.2.2⟩, ⟨hli.2, hμ.2.1⟩, fun z => absurd rfl z⟩, ⟨by omega, by omega⟩, h21, ⟨ht, hln⟩, ⟨rfl, rfl, rfl⟩, by omega⟩
end
end
section
set_option maxRecDepth 100000
def RWI (N : Nat) (m0 w0 : MS) (K : Nat → Nat) (T : Nat) (nm Nk : Nat → Nat) (own : Bool) (mB wB : MS) (p0 n0 : Nat) (sc : SCT) (m w : MS) (p : Nat) (l : List Nat) : Prop := ∃ (n : Nat) (sc2 : SCT) (X : Nat) (W : Nat → Nat), l ≠ [] ∧ RLP m0 w0 T p m w ∧ (p0 < p ∧ m.1 306 = I (n : Nat) ∧ n + 2 * p0 + 1 ≤ n0 + 2 * p) ∧ KPO n0 mB m ∧ PCF mB m ∧ RNs w sc2 ∧ SCO own sc sc2 X ∧ HDs Nk K W p0 p sc sc2 ∧ (tot sc2 ≤ tot sc + (p - p0) ∧ X ≤ 1400) ∧ w.1 66 = lgS sc X (wB.1 66) ∧ WFP wB w ∧ PRW N K nm m n0 n own W l p0 p sc sc2 X ∧ m.2.2.1 21 (l.getLastD 0) = 0 ∧ n0 < l.headD 0
section
variable {m0 w0 m w v u mB wB m2 w2 m3 w3 : MS} {K nm Nk W : Nat → Nat} {T p n N q X n2 p0 n0 p2 ν : Nat} {sc sc1 sc2 sc3 t : SCT} {e : List Nat × List Nat × Nat} {own : Bool} {l : List Nat} {r v3 : Int32}
theorem SCX_len : ∀ {a b : SCT}, SCX a b X → b.length = a.length
  | [], [], h => h.elim
  | [], _ :: _, h => h.elim
  | _ :: _, [], h => h.elim
  | _ :: t, _ :: t2, h => by show t2.length + 1 = t.length + 1; rw [(BDs_len h.2.2).1]
theorem lgS_tr {X Y : Nat} {g : Int32} : ∀ {a b : SCT}, SCX a b X → lgS b Y (lgS a X g) = lgS a (max X Y) g
  | [], [], h => h.elim
  | [], _ :: _, h => h.elim
  | _ :: _, [], h => h.elim
  | e :: t, e2 :: t2, h => by
    show lgX e2 Y (lgX e X g) = lgX e (max X Y) g
    unfold lgX
    rw [h.2.1]
    by_cases a : 0 < Y ∧ 40 < max (max e.2.2 X) Y
    · rw [if_pos a, if_pos ⟨by omega, by omega⟩]
    · rw [if_neg a]
      by_cases b : 0 < X ∧ 40 < max e.2.2 X
      · rw [if_pos b, if_pos ⟨by omega, by omega⟩]
      · rw [if_neg b, if_neg (fun z => by
          by_cases y : 0 < Y
          · exact a ⟨y, by omega⟩
          · exact b ⟨by omega, by omega⟩)]
theorem RWI_1 (h : PAZ N m0 w0 K T nm Nk p n own sc m w m2 (.inl r) w2 v3) (hw : WFP w2 w3) (h69 : w3.1 69 = w2.1 69) (h66 : w3.1 66 = w2.1 66) (hr : ∀ k, 59 ≤ k → w3.2.2.1 k = w2.2.2.1 k) : ∃ ν p2, r = I (ν : Nat) ∧ RWI N m0 w0 K T nm Nk own m w p n sc m2 w3 p2 [ν] := by
  obtain ⟨p2, n2, ν, sc2, X, W, a1, a2, a3, a4, a5, a6, a7, a8, a9, a10, a11, a12, a13, a14⟩ := h
  refine ⟨ν, p2, a1, n2, sc2, X, W, (fun z => by cases z), ⟨a3.1, Kt_tr a3.2.1 (WFP_k hw), a3.2.2.1, by rw [h69]; exact a3.2.2.2.1, a3.2.2.2.2.1, by rw [hw.1 70 (by decide)]; exact a3.2.2.2.2.2.1, by rw [hw.1 67 (by decide)]; exact a3.2.2.2.2.2.2⟩, a4, a5, a7, RNs_e a8 (hw.1 65 (by decide)) (fun k h1 h2 => hr k h1), a9, a10, a11, by rw [h66]; exact a12, WFP_tr a13 hw, PRW_1 a14 (by omega) ⟨by omega, a2.2⟩ a2.1 a6 a11.1 (SCX_len a9.1), a6, a2.1⟩
end
section
variable {m0 w0 m w v u mB wB m2 w2 m3 w3 : MS} {K nm Nk W : Nat → Nat} {T p n N q X n2 p0 n0 p2 ν : Nat} {sc sc1 sc2 sc3 t : SCT} {e : List Nat × List Nat × Nat} {own : Bool} {l : List Nat} {r v1 : Int32} {fc : MS → Option (MS × (Int32 ⊕ Nat))} {fw : MS → Int32 → Option (MS × Int32)}
theorem getLastD_snoc {l : List Nat} {ν x : Nat} : (l ++ [ν]).getLastD x = ν := by
  rw [List.getLastD_eq_getLast?, List.getLast?_append]
  rfl
theorem headD_snoc {l : List Nat} {ν : Nat} (h : l ≠ []) : (l ++ [ν]).headD 0 = l.headD 0 := by
  cases l with
  | nil => exact absurd rfl h
  | cons a l => rfl
theorem RWI_next (c : CTZ m0 w0 K T nm Nk) (hn0 : n0 ≤ 2 * p0) (h : RWI N m0 w0 K T nm Nk own mB wB p0 n0 sc m w p l) (hk : K p = 26) (hP : PTS N m0 w0 K T nm Nk own v1 fc fw) : PP (fun m2 z w2 _ => match z with
    | .inr _ => FLW w2
    | .inl ε => ∃ ν p2, ε = I (ν : Nat) ∧ ∀ w3, WFP w2 w3 → w3.1 69 = w2.1 69 → w3.1 66 = w2.1 66 → (∀ k, 59 ≤ k → w3.2.2.1 k = w2.2.2.1 k) → RWI N m0 w0 K T nm Nk own mB wB p0 n0 sc (upA m2 21 (upd (m2.2.2.1 21) (l.getLastD 0) (I (ν : Nat)))) w3 p2 (l ++ [ν])) (fc (advc m p)) (fw (adv w p) v1) := by
  obtain ⟨n, sc1, X1, W1, b0, b1, b2, b3, b4, b5, b6, b7, b8, b9, b10, b11, b12, b13⟩ := h
  have hl : p < T := TWK_lt c b1.2.2.2.2.1 (by omega) (by omega)
  obtain ⟨d1, d2, d3⟩ := PRW_hd b11 b0
  have rl : RLP m0 w0 T (p + 1) (advc m p) (adv w p) := ⟨⟨fun k hk => by unfold advc; rw [upI_ne (by omega)]; exact b1.1.1 k hk, b1.1.2⟩, ⟨fun k hk => by unfold adv; rw [upI_ne (fun z => by rw [z] at hk; revert hk; decide)]; exact b1.2.1.1 k hk, b1.2.1.2⟩, upI_at, upI_at, hl, by unfold advc adv; rw [upI_ne (by decide), upI_ne (by decide)]; exact b1.2.2.2.2.2.1, by unfold adv; rw [upI_ne (by decide)]; exact b1.2.2.2.2.2.2⟩
  have rn : RNs (adv w p) sc1 := WFP_rn b5 (by unfold adv; exact upI_ne (by decide)) rfl
  refine pp_mo (hP (advc m p) (adv w p) (p + 1) n sc1 rl (by unfold advc; rw [upI_ne (by decide)]; exact b2.2.1) (by omega) rn) (fun m2 z w2 r q => ?_)
  cases z with
  | inr k => exact q
  | inl ε =>
    obtain ⟨p2, n2, ν, sc2, X, W, a1, a2, a3, a4, a5, a6, a7, a8, a9, a10, a11, a12, a13, a14⟩ := q
    refine ⟨ν, p2, a1, fun w3 hw h69 h66 hr => ?_⟩
    generalize hL : l.getLastD 0 = L at d1 d3 b12
    have r21 : (upA m2 21 (upd (m2.2.2.1 21) L (I (ν : Nat)))).2.2.1 21 = upd (m2.2.2.1 21) L (I (ν : Nat)) := upA_at
    have ro : ∀ k, k ≠ 21 → (upA m2 21 (upd (m2.2.2.1 21) L (I (ν : Nat)))).2.2.1 k = m2.2.2.1 k := fun k hk => upA_no hk
    have ri : ∀ k, (upA m2 21 (upd (m2.2.2.1 21) L (I (ν : Nat)))).1 k = m2.1 k := fun _ => rfl
    generalize hm3 : upA m2 21 (upd (m2.2.2.1 21) L (I (ν : Nat))) = m3 at r21 ro ri
    have nd3 : ∀ j, nod m3 j = nod m2 j := fun j => by
      unfold nod
      rw [ro 16 (by decide), ro 17 (by decide), ro 18 (by decide), ro 19 (by decide), ro 20 (by decide)]
    have ndm : ∀ j, nod (advc m p) j = nod m j := fun j => rfl
    have k2 : Kcc m m3 := by
      refine ⟨fun k hk => ?_, fun k hk => ?_⟩
      · rw [ri, a7.1 k (by simp only [List.mem_cons, List.not_mem_nil, or_false]; omega)]
        unfold advc
        exact upI_ne (by omega)
      · rw [ro k (by omega), a7.2 k (by omega)]; rfl
    have hs : ∀ j, j ≤ n → nod m3 j = nod m j ∧ (j ≠ L → m3.2.2.1 21 j = m.2.2.1 21 j) := fun j hj => ⟨by rw [nd3, (a5 j hj).1]; rfl, fun z => by rw [r21, upd_no z, (a5 j hj).2]; rfl⟩
    have pcf : PCF mB m3 := by
      refine ⟨fun k hk => ?_, fun k hk => ?_⟩
      · rw [ri, a7.1 k hk]
        unfold advc
        rw [upI_ne (fun z => hk (by rw [z]; decide))]
        exact b4.1 k hk
      · rw [ro k (by omega), a7.2 k hk]
        exact b4.2 k hk
    have wfp : WFP wB w3 := by
      refine WFP_tr b10 (WFP_tr ?_ (WFP_tr a13 hw))
      exact ⟨fun k hk => by unfold adv; exact upI_ne (fun z => hk (by rw [z]; decide)), fun _ _ => rfl⟩
    have tl := a3.2.2.2.2.1
    have gp : ∀ j, p ≤ j → j < p + 1 → K j ≠ 3 := fun j h1 h2 => by rw [show j = p by omega]; omega
    have wA : ∀ j, p0 ≤ j → j < p → (fun j => if j < p then W1 j else W j) j = W1 j := fun j _ h2 => if_pos h2
    have wB2 : ∀ j, p + 1 ≤ j → j < p2 → (fun j => if j < p then W1 j else W j) j = W j := fun j h1 _ => if_neg (by omega)
    refine ⟨n2, sc2, max X1 X, fun j => if j < p then W1 j else W j, (fun z => by simp at z), ⟨Kc_tr b1.1 k2, Kt_tr a3.2.1 (WFP_k hw), by rw [ri]; exact a3.2.2.1, by rw [h69]; exact a3.2.2.2.1, tl, by rw [ri, hw.1 70 (by decide)]; exact a3.2.2.2.2.2.1, by rw [hw.1 67 (by decide)]; exact a3.2.2.2.2.2.2⟩, ⟨by omega, by rw [ri]; exact a4.2.1, by omega⟩, fun j hj => ?_, pcf, RNs_e a8 (hw.1 65 (by decide)) (fun k h1 h2 => hr k h1), SCO_tr b6 a9, ?_, ⟨by omega, by omega⟩, ?_, wfp, ?_, ?_, ?_⟩
    · refine ⟨(hs j (by omega)).1.trans (b3 j hj).1, ((hs j (by omega)).2 (by omega)).trans (b3 j hj).2⟩
    · refine HDs_tr (p2 := p) (by omega) (by omega) (HDs_w wA b7) ?_
      exact HDs_ext (q := p + 1) (q2 := p2) (by omega) (Nat.le_refl _) gp (fun j h1 h2 => absurd h2 (by omega)) (HDs_w wB2 a10)
    · rw [h66, a12]
      have e1 : (adv w p).1 66 = w.1 66 := by unfold adv; exact upI_ne (by decide)
      rw [e1, b9, lgS_tr b6.1]
    · rw [← hL] at hs
      refine PRW_snoc (mi := m2) (li := n) (ni := n2) k2 b0 hs (by rw [r21, hL, upd_at]) (PRW_w wA b11) gp ⟨by omega, by omega⟩ (PTN_w wB2 a14) ⟨fun j h0 hj => ⟨nd3 j, fun _ => by rw [r21, upd_no (by omega)]⟩, ⟨fun k _ => ri k, fun k hk => ro k (by omega)⟩⟩ ⟨by omega, a2.2, Nat.le_refl _⟩ ⟨by omega, a2.1⟩ (by rw [r21, upd_no (by omega)]; exact a6) a11.1 (SCX_len a9.1)
    · rw [getLastD_snoc, r21, upd_no (by omega)]; exact a6
    · rw [headD_snoc b0]; exact b13
end
end
section
set_option maxRecDepth 100000
section
variable {α β γ : Type} {m0 w0 m w v u mB wB m2 w2 m3 w3 : MS} {K nm Nk W : Nat → Nat} {T p n N q X n2 p0 n0 p2 ν : Nat} {sc sc1 sc2 sc3 t : SCT} {own : Bool} {l : List Nat} {r v1 v2 v3 v4 : Int32} {S : SG_M_rowPattern} {SC : SF_Pa_matched} {fC : MS → Int32 → Option (MS × (Int32 ⊕ Nat))} {R : MS → Int32 ⊕ Nat → MS → Int32 → Prop}
theorem bTm_as {o : Option (MS × (β ⊕ Nat))} {f : MS → β → Option (MS × (γ ⊕ Nat))} {g : MS → γ → Option (MS × (α ⊕ Nat))} : bTm (bTm o f) g = bTm o (fun u r => bTm (f u r) g) := by
  cases o with
  | none => rfl
  | some x =>
    obtain ⟨x, z⟩ := x
    cases z <;> rfl
theorem bnd_as {o : Option (MS × β)} {f : MS → β → Option (MS × (γ ⊕ Nat))} {g : MS → γ → Option (MS × (α ⊕ Nat))} : bTm (bnd o f) g = bnd o (fun u r => bTm (f u r) g) := by
  cases o <;> rfl
theorem pp_bTn {δ : Type} {R : MS → α ⊕ Nat → MS → β → Prop} {o : Option (MS × (γ ⊕ Nat))} {f : MS → γ → Option (MS × (α ⊕ Nat))} {t : Option (MS × δ)} {g : MS → δ → Option (MS × β)} {Q : MS → γ ⊕ Nat → MS → δ → Prop} (h : PP Q o t) (h1 : ∀ m v w r, Q m (.inl v) w r → PP R (f m v) (g w r)) (h2 : ∀ m k w r, Q m (.inr k) w r → PK (fun v s => R m (.inr k) v s) (g w r)) : PP R (bTm o f) (bnd t g) := pp_bT (pp_mo h (fun m z w r q => by
  cases z with
  | inl v => exact h1 m v w r q
  | inr k => exact h2 m k w r q))
theorem gg_f {u0 : MS} (hS0 : ∀ (u0 u : MS) a0, Kfc u0 u → KfE u0 (S.1 u a0)) (hS1 : ∀ (u0 u : MS) a0, Kfc u0 u → KfE u0 (S.2 u a0)) (M : Nat) : ∀ (u : MS) a0 a1 a2 a3 a4 a5 a6, Kfc u0 u → KfE u0 ((gg_M_rowPattern N S M) u a0 a1 a2 a3 a4 a5 a6) := yf_gg_M_rowPattern (N := N) (hS0 u0) (hS1 u0) M
theorem row_lp (c : CTZ m0 w0 K T nm Nk) (hn0 : n0 ≤ 2 * p0) (hS0 : ∀ (u0 u : MS) a0, Kfc u0 u → KfE u0 (S.1 u a0)) (hS1 : ∀ (u0 u : MS) a0, Kfc u0 u → KfE u0 (S.2 u a0)) (hP : PTS N m0 w0 K T nm Nk own v1 (SC.2.2.2.2.2.2.2.2.2.2.2.2.2.2.2.2.2.1) S.2)
    (hE : ∀ (M : Nat) (m w : MS) (p k : Nat) (l : List Nat) (v8 : Int32), RWI N m0 w0 K T nm Nk own mB wB p0 n0 sc m w p l → K p ≠ 26 → l.length = k → k ≤ 8 → PP R (fC m (I ((l.headD 0 : Nat) : Int))) (fb_M_rowPattern_151 N S (gg_M_rowPattern N S M) w v1 v2 v3 v4 v8 (I (k : Nat))))
    (hF : ∀ (m : MS) (p : Nat) (φ : Int32), CP m K T p → K p = 26 → RFS (fC m φ)) (hW : ∀ m k w r, FLW w → R m (.inr k) w r)
    (hB : ∀ (M : Nat) (w : MS) (p : Nat) (v8 k : Int32), WP w K T p → w.1 67 = 0 → K p = 45 → PK (fun w2 _ => FLW w2) (fb_M_rowPattern_151 N S (gg_M_rowPattern N S M) w v1 v2 v3 v4 v8 k)) : ∀ (j k M M' : Nat) (m w : MS) (p : Nat) (l : List Nat) (v8 : Int32), k + j = 8 → 1 ≤ k → l.length = k → RWI N m0 w0 K T nm Nk own mB wB p0 n0 sc m w p l → PP R (bTm (hg_Pa_row N SC M m 1 8 (I ((l.headD 0 : Nat) : Int)) (I ((l.getLastD 0 : Nat) : Int)) (I (k : Nat))) fC) (fb_M_rowPattern_112 N S (gg_M_rowPattern N S M') w v1 v2 v3 v4 (I ((k : Int) - 1)) v8) := by
  have out : ∀ (k M' : Nat) (w : MS) (p : Nat) (v8 : Int32), WP w K T p → w.1 67 = 0 → K p ≠ 26 → ∀ {a : Option (MS × (Int32 ⊕ Nat))}, (∀ M, PP R a (fb_M_rowPattern_151 N S (gg_M_rowPattern N S M) w v1 v2 v3 v4 v8 (I (k : Nat)))) → PP R a (fb_M_rowPattern_140 N S (gg_M_rowPattern N S M') w v1 v2 v3 v4 v8 (I (k : Nat))) := fun k M' w p v8 hw h0 hk a h => by
    unfold fb_M_rowPattern_140
    rw [tkS_e (k := 26) (s := 6) hw h0 (by decide) rfl, if_neg hk, bnd_s]
    cases M' with
    | zero => exact pp_nr
    | succ M' =>
      show PP R a (fb_M_rowPattern_66 N S (gg_M_rowPattern N S M') w v1 v2 v3 v4 v8 (I (k : Nat)) 0)
      unfold fb_M_rowPattern_66
      rw [show decide ((0 : Int32) = 0) = true from rfl, br_tq]
      exact h M'
  intro j
  induction j with
  | zero =>
    intro k M M' m w p l v8 hkj hk1 hlk hI
    have hk8 : k = 8 := by omega
    obtain ⟨n, sc1, X1, W1, b0, b1, -⟩ := id hI
    have hc := RLP_c c b1
    have hw := RLP_w c b1
    have h0 := b1.2.2.2.2.2.2
    cases M with
    | zero => exact pp_nl
    | succ M =>
      show PP R (bTm (hb_Pa_row_23 N SC (hg_Pa_row N SC M) m 1 8 (I ((l.headD 0 : Nat) : Int)) (I ((l.getLastD 0 : Nat) : Int)) (I (k : Nat))) fC) _
      unfold hb_Pa_row_23 hb_Pa_row_78
      rw [hk8, show decide ((8 : Int32) ≤ I ((8 : Nat) : Int)) = true from rfl, br_tq, bTm_l]
      unfold fb_M_rowPattern_112
      rw [show decide (I (((8 : Nat) : Int) - 1) + 1 = 8) = true from rfl, br_tq, isS_e (k := 26) (s := 6) hw (by decide) rfl, bnd_s, show I (((8 : Nat) : Int) - 1) + 1 = I ((8 : Nat) : Int) from rfl]
      by_cases k26 : K p = 26
      · rw [if_pos k26, show decide ((1 : Int32) = 0) = false from rfl, br_fq]
        refine pp_rf (hF m p _ hc k26) (fun m2 => ?_)
        refine pk_mo (Q := fun w2 _ => FLW w2) (pk_bnd (fun v r z => ?_)) (fun w2 r z => hW _ _ _ _ z)
        exact Kf_pk (yf_fb_M_rowPattern_140 (u0 := v) (wrong_s (u0 := v) (by decide) v r z) (hS0 v) (hS1 v) (gg_f hS0 hS1 M'))
      · rw [if_neg k26, show decide ((0 : Int32) = 0) = true from rfl, br_tq]
        exact out 8 M' w p v8 hw h0 k26 (fun M2 => hE M2 m w p 8 l v8 hI k26 (by omega) (by omega))
  | succ j ih =>
    intro k M M' m w p l v8 hkj hk1 hlk hI
    obtain ⟨n, sc1, X1, W1, b0, b1, b2, b3, b4, b5, b6, b7, b8, b9, b10, b11, b12, b13⟩ := id hI
    have hc := RLP_c c b1
    have hw := RLP_w c b1
    have h0 := b1.2.2.2.2.2.2
    have t4 := c.1.1.1
    have pT := hc.2.2
    obtain ⟨d1, d2, d3⟩ := PRW_hd b11 b0
    cases M with
    | zero => exact pp_nl
    | succ M =>
      show PP R (bTm (hb_Pa_row_23 N SC (hg_Pa_row N SC M) m 1 8 (I ((l.headD 0 : Nat) : Int)) (I ((l.getLastD 0 : Nat) : Int)) (I (k : Nat))) fC) _
      unfold hb_Pa_row_23 hb_Pa_row_78
      rw [show (8 : Int32) = I 8 from rfl, decI (by omega) (by omega) (by omega) (by omega), decide_eq_false (by omega), br_fq]
      unfold fb_M_rowPattern_112
      rw [show I ((k : Int) - 1) + 1 = I (k : Nat) by rw [lit1q, I_add]; congr 1; omega, show (8 : Int32) = I ((8 : Nat) : Int) from rfl, I_dn (a := k) (b := 8) (by omega) (by decide) rfl, decide_eq_false (p := k = 8) (by omega), br_fq]
      by_cases k45 : K p = 45
      · refine pp_rf (RFS_T (RFS_T (look_x hc k45))) (fun m2 => ?_)
        exact fun w2 r e => hW _ _ _ _ (by
          have e9 := e
          unfold fb_M_rowPattern_140 at e9
          rw [tkS_e (k := 26) (s := 6) hw h0 (by decide) rfl, if_neg (by omega), bnd_s] at e9
          cases M' with
          | zero => cases e9
          | succ M' =>
            have e9 : fb_M_rowPattern_66 N S (gg_M_rowPattern N S M') w v1 v2 v3 v4 v8 (I (k : Nat)) 0 = some (w2, r) := e9
            unfold fb_M_rowPattern_66 at e9
            rw [show decide ((0 : Int32) = 0) = true from rfl, br_tq] at e9
            exact hB M' w p v8 (I (k : Nat)) hw h0 k45 w2 r e9)
      · rw [look_e hc k45, bTm_l]
        by_cases k26 : K p = 26
        · rw [k26, show decide (I ((26 : Nat) : Int) = 26) = true from rfl, br_tq]
          unfold fb_M_rowPattern_140
          rw [tkS_e (k := 26) (s := 6) hw h0 (by decide) rfl, if_pos k26, bnd_s]
          cases M' with
          | zero => exact pp_nr
          | succ M' =>
            show PP R _ (fb_M_rowPattern_66 N S (gg_M_rowPattern N S M') (adv w p) v1 v2 v3 v4 v8 (I (k : Nat)) 1)
            unfold fb_M_rowPattern_66
            have h1 : (adv w p).1 67 = 0 := by unfold adv; rw [upI_ne (by decide)]; exact h0
            rw [show decide ((1 : Int32) = 0) = false from rfl, br_fq, decide_eq_true h1, br_tq, hc.2.1, i_suc]
            show PP R (bTm (br (decide ((1 : Int32) = 0)) _ _) fC) _
            rw [show decide ((1 : Int32) = 0) = false from rfl, br_fq, bTm_as]
            refine pp_bTn (RWI_next (N := N) c hn0 hI k26 hP) (fun m2 ε w2 r q => ?_) (fun m2 kk w2 r q => ?_)
            · obtain ⟨ν, p3, e1, q⟩ := q
              rw [e1]
              unfold hb_Pa_row_67 hm_Pa_chain hb_Pa_chain_0
              rw [bnd_as, tnI (n := l.getLastD 0) rfl (by omega), i_suc]
              refine l_bnd ?_
              refine pk_ck (fun _ => pk_ltq (pk_some ?_))
              have nx : ∀ w3, WFP w2 w3 → w3.1 69 = w2.1 69 → w3.1 66 = w2.1 66 → (∀ k, 59 ≤ k → w3.2.2.1 k = w2.2.2.1 k) → PP R (bTm (hg_Pa_row N SC M (upA m2 21 (upd (m2.2.2.1 21) (l.getLastD 0) (I (ν : Nat)))) 1 (I 8) (I ((l.headD 0 : Nat) : Int)) (I (ν : Nat)) (I ((k + 1 : Nat) : Int))) fC) (fb_M_rowPattern_112 N S (gg_M_rowPattern N S M') w3 v1 v2 v3 v4 (I (k : Nat)) r) := fun w3 g1 g2 g3 g4 => by
                have := ih (k + 1) M M' _ w3 p3 (l ++ [ν]) r (by omega) (by omega) (by rw [List.length_append, List.length_singleton]; omega) (q w3 g1 g2 g3 g4)
                rw [headD_snoc b0, getLastD_snoc, show (((k + 1 : Nat) : Int) - 1) = (k : Int) by omega] at this
                exact this
              refine r_br (fun _ => r_ck (fun _ => r_lt ?_)) (fun _ => r_ck (fun _ => r_lt ?_))
              · exact nx _ ⟨fun _ _ => rfl, fun k hk => upA_no (by omega)⟩ rfl rfl (fun k hk => upA_no (by omega))
              · exact nx _ ⟨fun _ _ => rfl, fun k hk => upA_no (by omega)⟩ rfl rfl (fun k hk => upA_no (by omega))
            · have q : FLW w2 := q
              refine pk_mo (Q := fun w2 _ => FLW w2) (Kf_pk (u0 := w2) ?_) (fun w2 r z => hW _ _ _ _ z)
              refine Kf_br (Kf_ck (Kf_ltm (Kf_A q) (fun u h => ?_))) (Kf_ck (Kf_ltm (Kf_A q) (fun u h => ?_)))
              · exact yf_fb_M_rowPattern_112 h (hS0 w2) (hS1 w2) (gg_f hS0 hS1 M')
              · exact yf_fb_M_rowPattern_112 h (hS0 w2) (hS1 w2) (gg_f hS0 hS1 M')
        · have k46 := hc.1.1.k46 hc.2.2
          rw [I_dn (a := K p) (b := 26) (s := 26) (by omega) (by decide) rfl, decide_eq_false k26, br_fq, bTm_l]
          exact out k M' w p v8 hw h0 k26 (fun M2 => hE M2 m w p k l v8 hI k26 hlk (by omega))
end
end
section
set_option maxRecDepth 100000
section
variable {m0 w0 m w v u mB wB m2 w2 m3 w3 : MS} {K nm Nk W : Nat → Nat} {T p n N q X n2 p0 n0 p2 ν : Nat} {sc sc1 sc2 sc3 t : SCT} {own : Bool} {l : List Nat} {r v1 v2 v3 v4 : Int32} {S : SG_M_rowPattern} {SC SC1 SC2 : SF_Pa_matched}
theorem len_lp : ∀ (M : Nat) (a b : Int32), PK (fun v _ => v = u) (hg_Tr_length N M u a b)
  | 0, _, _ => pk_none
  | M + 1, a, b => by
    show PK _ (hb_Tr_length_4 N (hg_Tr_length N M) u a b)
    unfold hb_Tr_length_4
    exact pk_br (fun _ => pk_some rfl) (fun _ => pk_ck (fun _ => len_lp M _ _))
theorem len_s {x : Int32} : PK (fun v _ => v = u) (hm_Tr_length N u x) := len_lp N _ _
theorem row_end {k9 : Nat} {s9 z9 kd c9 : Int32} (c : CTZ m0 w0 K T nm Nk) (hn2 : n ≤ 2 * p) (h : RLP m0 w0 T p m w) (h1 : RLP m0 w0 T q m2 w2) (hk : K p ≠ 3) (hk9 : 20 ≤ k9 ∧ k9 ≤ 44) (hs9 : s9 = I (k9 : Nat)) (hz9 : z9 = I (svK k9 : Nat)) (hb : p < q ∧ m2.1 306 = I (n2 : Nat) ∧ n2 + 2 * p + 1 ≤ n + 2 * q) (hn : n ≤ n2) (ho : KPO n m m2) (hpc : PCF m m2) (hr : RNs w2 sc2) (hx : SCO own sc sc2 X) (hd : HDs Nk K W p q sc sc2) (ht : tot sc2 ≤ tot sc + (q - p) ∧ X ≤ 1400) (hg : w2.1 66 = lgS sc X (w.1 66)) (hf : WFP w w2) {φ : Int32} {v4 v6 : Int32}
    (hq : ∀ mf : MS, KPO n2 m2 mf → Kcc m2 mf → (∃ r7, nod mf (n2 + 1) = (kd, I (p : Nat), φ, r7, c9)) → K q = k9 → PTN N K nm mf n (n2 + 1) (n2 + 1) own p (q + 1) sc sc2 X W) : PP (PAZ N m0 w0 K T nm Nk p n own sc m w) (bTm (hm_Pa_need N m2 s9) (fun u1 r1 => bnd (hm_Tr_length N u1 φ) (fun u7 r7 => bnd (hm_Tr_add N u7 kd (I (p : Nat)) φ r7 c9) (fun u9 r9 => some (u9, .inl r9))))) (ck (inb v4 (ln 35)) (lt (upA w2 35 (upd (w2.2.2.1 35) v4.toNatClampNeg v6)) (fun w1 => bnd (fm_M_needSign N w1 z9) (fun u2 _ => some (u2, v4))))) := by
  have hc := RLP_c c h1
  have hw := RLP_w c h1
  have t4 := c.1.1.1
  have qT := h1.2.2.2.2.1
  refine r_ck (fun _ => r_lt ?_)
  generalize hw3 : upA w2 35 (upd (w2.2.2.1 35) v4.toNatClampNeg v6) = w3
  have r3 : ∀ k, k ≠ 35 → w3.2.2.1 k = w2.2.2.1 k := fun k hk => by rw [← hw3]; exact upA_no hk
  have i3 : ∀ k, w3.1 k = w2.1 k := fun k => by rw [← hw3]; rfl
  have hw3 : WP w3 K T q := WP_e hw (by rw [i3]; exact hw.2.1) hw.2.2 (r3 6 (by decide)) (r3 7 (by decide))
  have h0 : w3.1 67 = 0 := by rw [i3]; exact h1.2.2.2.2.2.2
  by_cases e9 : K q = k9
  · have hl : q < T := TWK_lt c qT (by omega) (by omega)
    rw [need_e hc e9 (by omega) hs9, bTm_l, ndS_1 hw3 h0 hk9 hz9 e9, bnd_s]
    refine l_bnd (pk_mo len_s (fun u7 r7 e7 => ?_))
    subst e7
    have An : (advc m2 q).1 306 = I (n2 : Nat) := by unfold advc; rw [upI_ne (by decide)]; exact hb.2.1
    show PP _ _ _
    rw [add_e An (by omega), bnd_s]
    refine pp_end ?_
    have Ei : ∀ k, k ≠ 306 → k ≠ 665 → (adN (advc m2 q) n2 kd (I (p : Nat)) φ r7 c9).1 k = m2.1 k := fun k h1 h2 => by rw [adN_i h1]; unfold advc; exact upI_ne h2
    have E5 : (adN (advc m2 q) n2 kd (I (p : Nat)) φ r7 c9).1 665 = I ((q + 1 : Nat) : Int) := by rw [adN_i (by decide)]; unfold advc; exact upI_at
    have En : (adN (advc m2 q) n2 kd (I (p : Nat)) φ r7 c9).1 306 = I ((n2 + 1 : Nat) : Int) := adN_n
    have Er : ∀ k, k < 16 ∨ 21 < k → (adN (advc m2 q) n2 kd (I (p : Nat)) φ r7 c9).2.2.1 k = m2.2.2.1 k := fun k hk => by rw [adN_r hk]; rfl
    have Eo : KPO n2 m2 (adN (advc m2 q) n2 kd (I (p : Nat)) φ r7 c9) := adN_o (m := advc m2 q)
    have Ex := adN_nod (m := advc m2 q) (n := n2) (a := kd) (b := I (p : Nat)) (c := φ) (d := r7) (f := c9)
    generalize hE : adN (advc m2 q) n2 kd (I (p : Nat)) φ r7 c9 = E at Ei E5 En Er Eo Ex
    have kc : Kcc m2 E := ⟨fun k hk => Ei k (by omega) (by omega), fun k hk => Er k (by omega)⟩
    have pcf : PCF m E := PCF_tr hpc ⟨fun k hk => Ei k (fun z => hk (by rw [z]; decide)) (fun z => hk (by rw [z]; decide)), Er⟩
    have wfp : WFP w (adv w3 q) := WFP_tr hf ⟨fun k hk => by unfold adv; rw [upI_ne (fun z => hk (by rw [z]; decide))]; exact i3 k, fun k hk => r3 k (by omega)⟩
    have g2 : ∀ j, q ≤ j → j < q + 1 → K j ≠ 3 := fun j h1 h2 => by rw [show j = q by omega]; omega
    refine ⟨q + 1, n2 + 1, n2 + 1, sc2, X, W, rfl, ⟨by omega, Nat.le_refl _⟩, ⟨Kc_tr h.1 (PCF_k pcf), Kt_tr h.2.1 (WFP_k wfp), E5, by unfold adv; exact upI_at, hl, by rw [pcf.1 666 (by decide), wfp.1 70 (by decide)]; exact h.2.2.2.2.2.1, by rw [wfp.1 67 (by decide)]; exact h.2.2.2.2.2.2⟩, ⟨by omega, En, by omega⟩, KPO_tr ho Eo hn, Ex.2, pcf, RNs_e hr (by unfold adv; rw [upI_ne (by decide)]; exact i3 65) (fun k h1 h2 => r3 k (by omega)), hx, HDs_ext (Nat.le_refl _) (by omega) (fun j h1 h2 => absurd h2 (by omega)) g2 hd, ⟨by omega, ht.2⟩, by unfold adv; rw [upI_ne (by decide), i3]; exact hg, wfp, hq E Eo kc ⟨r7, Ex.1⟩ e9⟩
  · refine pp_rf (RFS_T (need_x hc e9 (by omega) hs9)) (fun mm => ?_)
    exact pk_bnd (pk_mo (ndS_0 (N := N) hw3 h0 hk9 hz9 e9) (fun v r2 z => pk_some z))
end
end
section
set_option maxRecDepth 100000
section
variable {m0 w0 m w v u mB wB m2 w2 m3 w3 : MS} {K nm Nk W : Nat → Nat} {T p n N q X n2 p0 n0 p2 ν : Nat} {sc sc1 sc2 sc3 t : SCT} {own : Bool} {l : List Nat} {r v1 v2 v3 v4 : Int32} {S : SG_M_rowPattern} {SC1 SC2 SC3 : SF_Pa_matched}
theorem RWI_base (c : CTZ m0 w0 K T nm Nk) (hk : K p ≠ 3) {C D : MS} (hC : C = advc m p) (hD : WFP w D) (hD6 : D.1 66 = w.1 66) (h : RWI N m0 w0 K T nm Nk own C D (p + 1) n sc m2 w2 q l) : ∃ (n2 : Nat) (sc2 : SCT) (X : Nat) (W : Nat → Nat), l ≠ [] ∧ RLP m0 w0 T q m2 w2 ∧ (p < q ∧ m2.1 306 = I (n2 : Nat) ∧ n2 + 2 * p + 1 ≤ n + 2 * q) ∧ n ≤ n2 ∧ KPO n m m2 ∧ PCF m m2 ∧ RNs w2 sc2 ∧ SCO own sc sc2 X ∧ HDs Nk K W p q sc sc2 ∧ (tot sc2 ≤ tot sc + (q - p) ∧ X ≤ 1400) ∧ w2.1 66 = lgS sc X (w.1 66) ∧ WFP w w2 ∧ PRW N K nm m2 n n2 own W l (p + 1) q sc sc2 X := by
  obtain ⟨n2, sc2, X, W, b0, b1, b2, b3, b4, b5, b6, b7, b8, b9, b10, b11, b12, b13⟩ := h
  obtain ⟨d1, d2, d3⟩ := PRW_hd b11 b0
  have g1 : ∀ j, p ≤ j → j < p + 1 → K j ≠ 3 := fun j h1 h2 => by rw [show j = p by omega]; exact hk
  subst hC
  refine ⟨n2, sc2, X, W, b0, b1, ⟨by omega, b2.2.1, by omega⟩, by omega, fun j hj => b3 j hj, ?_, b5, b6, HDs_ext (by omega) (Nat.le_refl _) g1 (fun j h1 h2 => absurd h2 (by omega)) b7, ⟨by omega, b8.2⟩, by rw [b9, hD6], WFP_tr hD b10, b11⟩
  refine PCF_tr ?_ b4
  exact ⟨fun k hk => by unfold advc; exact upI_ne (fun z => hk (by rw [z]; decide)), fun _ _ => rfl⟩
theorem tup_pp (c : CTZ m0 w0 K T nm Nk) (h : RLP m0 w0 T p m w) (hn : m.1 306 = I (n : Nat)) (hn2 : n ≤ 2 * p) (hR : RNs w sc) (hk : K p = 22) (hS0 : ∀ (u0 u : MS) a0, Kfc u0 u → KfE u0 (S.1 u a0)) (hS1 : ∀ (u0 u : MS) a0, Kfc u0 u → KfE u0 (S.2 u a0)) (h1 : ∀ u a b d, SC1.2.2.2.2.2.2.2.2.2.2.2.2.2.2.2.2.2.2.2 u a b d = hm_Pa_rowUpTo N SC2 u a b d) (h2 : (∀ u a b, SC2.2.2.2.2.2.2.2.2.2.2.2.2.2.2.2.2.2.2.1 u a b = hm_Pa_row N SC3 u a b) ∨ ∀ u a b, SC2.2.2.2.2.2.2.2.2.2.2.2.2.2.2.2.2.2.2.1 u a b = none) (hP : PTS N m0 w0 K T nm Nk own v1 (SC3.2.2.2.2.2.2.2.2.2.2.2.2.2.2.2.2.2.1) S.2) (h45 : ∀ (w : MS) (p : Nat), WP w K T p → w.1 67 = 0 → K p = 45 → PK (fun w2 _ => FLW w2) (S.2 w v1)) : PP (PAZ N m0 w0 K T nm Nk p n own sc m w) (hm_Pa_tuple N SC1 m 1) (fm_M_rowPattern N S w v1) := by
  have hc := RLP_c c h
  have hw := RLP_w c h
  have t4 := c.1.1.1
  have hl : p < T := TWK_lt c h.2.2.2.2.1 (by omega) (by omega)
  unfold hm_Pa_tuple hb_Pa_tuple_0 fm_M_rowPattern fb_M_rowPattern_0 fb_M_rowPattern_15
  rw [isS_e (k := 22) (s := 2) hw (by decide) rfl, if_pos hk, bnd_s, show decide ((1 : Int32) = 0) = false from rfl, br_fq, br_fq]
  refine l_lt ?_
  rw [hc.2.1, i_suc]
  show PP _ (bTm (SC1.2.2.2.2.2.2.2.2.2.2.2.2.2.2.2.2.2.2.2 (advc m p) 1 8 23) _) _
  rw [h1]
  unfold hm_Pa_rowUpTo hb_Pa_rowUpTo_0 hb_Pa_rowUpTo_18 fb_M_rowPattern_27
  refine r_bnd (fun u13 r13 x13 => r_lt ?_)
  have f13 := yr_fm_M_pattern (u0 := w) Kr_rf u13 r13 x13
  have q13 := WNQ_kr (WNQ_0 hw hR) f13
  have qD : WNQ K T (p + 1) sc (w.1 66) w (upI u13 69 (u13.1 69 + 1)) := WNQ_on q13 hl (by rw [q13.1.2.1, i_suc])
  generalize hD : upI u13 69 (u13.1 69 + 1) = D at qD
  have cC : CP (advc m p) K T (p + 1) := advc_p hc hl
  have D0 : D.1 67 = 0 := by rw [qD.2.2.2.1 67 (by decide)]; exact h.2.2.2.2.2.2
  have rl : RLP m0 w0 T (p + 1) (advc m p) D := ⟨⟨fun k hk => by unfold advc; rw [upI_ne (by omega)]; exact h.1.1 k hk, h.1.2⟩, Kt_tr h.2.1 (WFP_k (WNQ_f qD)), cC.2.1, qD.1.2.1, hl, by unfold advc; rw [upI_ne (by decide), qD.2.2.2.1 70 (by decide)]; exact h.2.2.2.2.2.1, D0⟩
  have pC : PCF m (advc m p) := ⟨fun k hk => by unfold advc; exact upI_ne (fun z => hk (by rw [z]; decide)), fun _ _ => rfl⟩
  have g1 : ∀ j, p ≤ j → j < p + 1 → K j ≠ 3 := fun j h1 h2 => by rw [show j = p by omega]; omega
  rw [decide_eq_true D0, br_tq, isS_e (k := 23) (s := 3) qD.1 (by decide) rfl, bnd_s]
  have fG : ∀ (u0 u : MS) a0 a1 a2 a3 a4 a5 a6, Kfc u0 u → KfE u0 ((gg_M_rowPattern N S N) u a0 a1 a2 a3 a4 a5 a6) := fun u0 => gg_f (u0 := u0) hS0 hS1 N
  by_cases k45 : K (p + 1) = 45
  · refine pp_rf (RFS_T (RFS_T (look_x cC k45))) (fun mm => ?_)
    rw [if_neg (by omega), show decide ((0 : Int32) = 0) = true from rfl, br_tq]
    have key : ∀ M, PK (fun w2 (_ : Int32) => FLW w2) (gg_M_rowPattern N S M D v1 1 3 r13 (-1) 0 1) := fun M => by
      cases M with
      | zero => exact pk_none
      | succ M =>
        show PK _ (fb_M_rowPattern_66 N S (gg_M_rowPattern N S M) D v1 1 3 r13 (-1) 0 1)
        unfold fb_M_rowPattern_66
        rw [show decide ((1 : Int32) = 0) = false from rfl, br_fq, decide_eq_true D0, br_tq]
        refine pk_bnd (pk_mo (h45 D (p + 1) qD.1 D0 k45) (fun u10 r10 z => ?_))
        refine Kf_pk (u0 := u10) ?_
        refine Kf_br (Kf_ck (Kf_ltm (Kf_A z) (fun u h => ?_))) (Kf_ck (Kf_ltm (Kf_A z) (fun u h => ?_)))
        · exact yf_fb_M_rowPattern_112 h (hS0 u10) (hS1 u10) (gg_f hS0 hS1 M)
        · exact yf_fb_M_rowPattern_112 h (hS0 u10) (hS1 u10) (gg_f hS0 hS1 M)
    exact key N
  · rw [look_e cC k45, bTm_l]
    by_cases k23 : K (p + 1) = 23
    · rw [k23, show decide (I ((23 : Nat) : Int) = 23) = true from rfl, br_tq, if_pos rfl, show decide ((1 : Int32) = 0) = false from rfl, br_fq, bTm_as]
      unfold fb_M_rowPattern_194
      refine row_end (k9 := 23) (kd := 6) (c9 := 0) (φ := 0) (X := 0) (W := fun _ => 32) (sc2 := sc) c hn2 h rl (by omega) (by decide) rfl rfl ⟨by omega, by unfold advc; rw [upI_ne (by decide)]; exact hn, by omega⟩ (Nat.le_refl _) (fun _ _ => ⟨rfl, rfl⟩) pC qD.2.1 (SCO_0 hR) (HDs_no (fun j h1 h2 h3 => absurd h3 (g1 j h1 h2))) ⟨by omega, by omega⟩ (by rw [lgS_0]; exact qD.2.2.1) (WNQ_f qD) (fun mf ko kc hx kq => ?_)
      obtain ⟨r7, hx⟩ := hx
      refine ptn_tup (l := []) (q := p + 1) (q2 := p + 1) (a := I (p : Nat)) (c := r7) (g := 0) hx (by omega) (Nat.le_refl _) (by omega) ⟨by omega, by omega, by omega⟩ g1 (fun j h1 h2 => by rw [show j = p + 1 by omega]; omega) (by omega) (m1 := advc m p) (n1 := n) ⟨rfl, rfl, rfl⟩ ko kc (by omega)
    · have k46 := cC.1.1.k46 cC.2.2
      rw [I_dn (a := K (p + 1)) (b := 23) (s := 23) (by omega) (by decide) rfl, decide_eq_false k23, br_fq, if_neg k23, show decide ((0 : Int32) = 0) = true from rfl, br_tq, bTm_as]
      rcases h2 with h2 | h2
      rotate_left
      · rw [h2]; exact pp_nl
      rw [h2]
      unfold hm_Pa_row hb_Pa_row_0 hb_Pa_row_16
      rw [show decide ((1 : Int32) = 0) = false from rfl, br_fq, bTm_as]
      have first : ∀ M, PP (PAZ N m0 w0 K T nm Nk p n own sc m w) (bTm (SC3.2.2.2.2.2.2.2.2.2.2.2.2.2.2.2.2.2.1 (advc m p)) (fun u r => bTm (hg_Pa_row N SC3 N u 1 8 r r 1) (fun u3 r3 => bTm (bTm (hm_Pa_need N u3 23) (fun u1 r1 => some (u1, .inl r3))) (fun u4 r4 => bnd (hm_Tr_length N u4 r4) (fun u7 r7 => bnd (hm_Tr_add N u7 6 (I (p : Nat)) r4 r7 0) (fun u9 r9 => some (u9, .inl r9))))))) (gg_M_rowPattern N S M D v1 1 3 r13 (-1) 0 1) := fun M => by
        cases M with
        | zero => exact pp_nr
        | succ M =>
          show PP _ _ (fb_M_rowPattern_66 N S (gg_M_rowPattern N S M) D v1 1 3 r13 (-1) 0 1)
          unfold fb_M_rowPattern_66
          rw [show decide ((1 : Int32) = 0) = false from rfl, br_fq, decide_eq_true D0, br_tq]
          refine pp_bTn (hP (advc m p) D (p + 1) n sc rl (by unfold advc; rw [upI_ne (by decide)]; exact hn) (by omega) qD.2.1) (fun m2 ε w2 r10 q => ?_) (fun m2 kk w2 r10 q => ?_)
          · rw [show decide ((-1 : Int32) = -1) = true from rfl, br_tq]
            refine r_ck (fun _ => r_lt ?_)
            obtain ⟨ν, p2, e1, hI⟩ := RWI_1 (w3 := upA w2 36 (upd (w2.2.2.1 36) r13.toNatClampNeg r10)) q ⟨fun _ _ => rfl, fun k hk => upA_no (by omega)⟩ rfl rfl (fun k hk => upA_no (by omega))
            rw [e1]
            have := row_lp (N := N) (S := S) (SC := SC3) (v1 := v1) (v2 := 1) (v3 := 3) (v4 := r13) (R := PAZ N m0 w0 K T nm Nk p n own sc m w) (fC := fun u3 r3 => bTm (bTm (hm_Pa_need N u3 23) (fun u1 r1 => some (u1, .inl r3))) (fun u4 r4 => bnd (hm_Tr_length N u4 r4) (fun u7 r7 => bnd (hm_Tr_add N u7 6 (I (p : Nat)) r4 r7 0) (fun u9 r9 => some (u9, .inl r9))))) c (by omega) hS0 hS1 hP (fun M m5 w5 p5 k l v8 hI hk5 hlk hk8 => ?_) (fun m5 p5 φ cp k26 => RFS_T (RFS_T (need_x (k := 23) (s := 23) cp (by omega) (by decide) rfl))) (fun _ _ _ _ z => z) (fun M w5 p5 v8 k hw5 h05 k45 => ?_) 7 1 N M m2 _ p2 [ν] r10 (by omega) (by omega) rfl hI
            · exact this
            · obtain ⟨n2, sc2, X, W, b0, b1, b2, b3, b4, b5, b6, b7, b8, b9, b10, b11, b12⟩ := RWI_base c (by omega) rfl (WNQ_f qD) qD.2.2.1 hI
              have p5T := b1.2.2.2.2.1
              unfold fb_M_rowPattern_151 fb_M_rowPattern_194
              rw [show decide ((1 : Int32) = 0) = false from rfl, br_fq]
              show PP _ (bTm (bTm (hm_Pa_need N m5 23) (fun u1 r1 => some (u1, .inl (I ((l.headD 0 : Nat) : Int))))) _) _
              rw [bTm_as]
              refine row_end (k9 := 23) (kd := 6) (c9 := 0) (φ := I ((l.headD 0 : Nat) : Int)) c hn2 h b1 (by omega) (by decide) rfl rfl b2 b3 b4 b5 b6 b7 b8 b9 b10 b11 (fun mf ko kc hx kq => ?_)
              obtain ⟨r7, hx⟩ := hx
              exact ptn_tup (l := l) (q := p + 1) (q2 := p5) (a := I (p : Nat)) (c := r7) (g := 0) hx (by omega) (Nat.le_refl _) (by omega) ⟨by omega, by omega, by omega⟩ g1 (fun j h1 h2 => by rw [show j = p5 by omega]; omega) (by omega) (m1 := m5) (n1 := n2) b12 ko kc (by omega)
            · unfold fb_M_rowPattern_151 fb_M_rowPattern_194
              rw [show decide ((1 : Int32) = 0) = false from rfl, br_fq]
              refine pk_ck (fun _ => pk_ltq ?_)
              have hw6 : WP (upA w5 35 (upd (w5.2.2.1 35) r13.toNatClampNeg k)) K T p5 := WP_e hw5 hw5.2.1 hw5.2.2 (upA_no (by decide)) (upA_no (by decide))
              exact pk_bnd (pk_mo (ndS_0 (N := N) (k := 23) (s := 3) hw6 h05 (by decide) rfl (by omega)) (fun v r2 z => pk_some z))
          · have q : FLW w2 := q
            refine Kf_pk (u0 := w2) ?_
            refine Kf_br (Kf_ck (Kf_ltm (Kf_A q) (fun u h => ?_))) (Kf_ck (Kf_ltm (Kf_A q) (fun u h => ?_)))
            · exact yf_fb_M_rowPattern_112 h (hS0 w2) (hS1 w2) (gg_f hS0 hS1 M)
            · exact yf_fb_M_rowPattern_112 h (hS0 w2) (hS1 w2) (gg_f hS0 hS1 M)
      have := first N
      exact this
end
end
section
set_option maxRecDepth 100000
section
variable {m0 w0 m w v u mB wB m2 w2 m3 w3 : MS} {K nm Nk W : Nat → Nat} {T p n N q X n2 p0 n0 p2 ν : Nat} {sc sc1 sc2 sc3 t : SCT} {own : Bool} {l : List Nat} {r v1 v2 v3 v4 : Int32} {S : SG_M_rowPattern} {SC1 SC2 SC3 : SF_Pa_matched}
theorem lst_pp (c : CTZ m0 w0 K T nm Nk) (h : RLP m0 w0 T p m w) (hn : m.1 306 = I (n : Nat)) (hn2 : n ≤ 2 * p) (hR : RNs w sc) (hk : K p = 24) (hS0 : ∀ (u0 u : MS) a0, Kfc u0 u → KfE u0 (S.1 u a0)) (hS1 : ∀ (u0 u : MS) a0, Kfc u0 u → KfE u0 (S.2 u a0)) (h2 : (∀ u a b, SC1.2.2.2.2.2.2.2.2.2.2.2.2.2.2.2.2.2.2.1 u a b = hm_Pa_row N SC2 u a b) ∨ ∀ u a b, SC1.2.2.2.2.2.2.2.2.2.2.2.2.2.2.2.2.2.2.1 u a b = none) (hP : PTS N m0 w0 K T nm Nk own v1 (SC2.2.2.2.2.2.2.2.2.2.2.2.2.2.2.2.2.2.1) S.2) (hP1 : PTS N m0 w0 K T nm Nk own v1 (SC1.2.2.2.2.2.2.2.2.2.2.2.2.2.2.2.2.2.1) S.2) (h45 : ∀ (w : MS) (p : Nat), WP w K T p → w.1 67 = 0 → K p = 45 → PK (fun w2 _ => FLW w2) (S.2 w v1)) : PP (PAZ N m0 w0 K T nm Nk p n own sc m w) (hm_Pa_list N SC1 m 1) (fm_M_rowPattern N S w v1) := by
  have hc := RLP_c c h
  have hw := RLP_w c h
  have t4 := c.1.1.1
  have hl : p < T := TWK_lt c h.2.2.2.2.1 (by omega) (by omega)
  unfold hm_Pa_list hb_Pa_list_0 fm_M_rowPattern fb_M_rowPattern_0 fb_M_rowPattern_15
  rw [isS_e (k := 22) (s := 2) hw (by decide) rfl, if_neg (by omega), bnd_s, show decide ((0 : Int32) = 0) = true from rfl, br_tq, br_tq]
  refine l_lt ?_
  rw [hc.2.1, i_suc]
  show PP _ (bTm (hm_Pa_look N (advc m p)) _) _
  unfold fb_M_rowPattern_27
  refine r_bnd (fun u13 r13 x13 => r_lt ?_)
  have f13 := yr_fm_M_pattern (u0 := w) Kr_rf u13 r13 x13
  have q13 := WNQ_kr (WNQ_0 hw hR) f13
  have qD : WNQ K T (p + 1) sc (w.1 66) w (upI u13 69 (u13.1 69 + 1)) := WNQ_on q13 hl (by rw [q13.1.2.1, i_suc])
  generalize hD : upI u13 69 (u13.1 69 + 1) = D at qD
  have cC : CP (advc m p) K T (p + 1) := advc_p hc hl
  have D0 : D.1 67 = 0 := by rw [qD.2.2.2.1 67 (by decide)]; exact h.2.2.2.2.2.2
  have rl : RLP m0 w0 T (p + 1) (advc m p) D := ⟨⟨fun k hk => by unfold advc; rw [upI_ne (by omega)]; exact h.1.1 k hk, h.1.2⟩, Kt_tr h.2.1 (WFP_k (WNQ_f qD)), cC.2.1, qD.1.2.1, hl, by unfold advc; rw [upI_ne (by decide), qD.2.2.2.1 70 (by decide)]; exact h.2.2.2.2.2.1, D0⟩
  have pC : PCF m (advc m p) := ⟨fun k hk => by unfold advc; exact upI_ne (fun z => hk (by rw [z]; decide)), fun _ _ => rfl⟩
  have g1 : ∀ j, p ≤ j → j < p + 1 → K j ≠ 3 := fun j h1 h2 => by rw [show j = p by omega]; omega
  rw [decide_eq_true D0, br_tq, isS_e (k := 25) (s := 5) qD.1 (by decide) rfl, bnd_s]
  have flt : ∀ (M : Nat) (w5 : MS) (p5 : Nat) (v8 k : Int32), WP w5 K T p5 → w5.1 67 = 0 → K p5 ≠ 29 → K p5 ≠ 25 → PK (fun w2 (_ : Int32) => FLW w2) (fb_M_rowPattern_151 N S (gg_M_rowPattern N S M) w5 v1 0 5 r13 v8 k) := fun M w5 p5 v8 k hw5 h05 n29 n25 => by
    unfold fb_M_rowPattern_151 fb_M_rowPattern_194
    rw [show decide ((0 : Int32) = 0) = true from rfl, br_tq, tkS_e (k := 29) (s := 9) hw5 h05 (by decide) rfl, if_neg n29, bnd_s, show decide ((0 : Int32) = 0) = true from rfl, br_tq]
    refine pk_ck (fun _ => pk_ltq ?_)
    have hw6 : WP (upA w5 35 (upd (w5.2.2.1 35) r13.toNatClampNeg k)) K T p5 := WP_e hw5 hw5.2.1 hw5.2.2 (upA_no (by decide)) (upA_no (by decide))
    exact pk_bnd (pk_mo (ndS_0 (N := N) (k := 25) (s := 5) hw6 h05 (by decide) rfl n25) (fun v r2 z => pk_some z))
  by_cases k45 : K (p + 1) = 45
  · refine pp_rf (RFS_T (look_x cC k45)) (fun mm => ?_)
    rw [if_neg (by omega), show decide ((0 : Int32) = 0) = true from rfl, br_tq]
    have key : ∀ M, PK (fun w2 (_ : Int32) => FLW w2) (gg_M_rowPattern N S M D v1 0 5 r13 (-1) 0 1) := fun M => by
      cases M with
      | zero => exact pk_none
      | succ M =>
        show PK _ (fb_M_rowPattern_66 N S (gg_M_rowPattern N S M) D v1 0 5 r13 (-1) 0 1)
        unfold fb_M_rowPattern_66
        rw [show decide ((1 : Int32) = 0) = false from rfl, br_fq, decide_eq_true D0, br_tq]
        refine pk_bnd (pk_mo (h45 D (p + 1) qD.1 D0 k45) (fun u10 r10 z => ?_))
        refine Kf_pk (u0 := u10) ?_
        refine Kf_br (Kf_ck (Kf_ltm (Kf_A z) (fun u h => ?_))) (Kf_ck (Kf_ltm (Kf_A z) (fun u h => ?_)))
        · exact yf_fb_M_rowPattern_112 h (hS0 u10) (hS1 u10) (gg_f hS0 hS1 M)
        · exact yf_fb_M_rowPattern_112 h (hS0 u10) (hS1 u10) (gg_f hS0 hS1 M)
    exact key N
  · rw [look_e cC k45, bTm_l]
    by_cases k25 : K (p + 1) = 25
    · rw [k25, show decide (I ((25 : Nat) : Int) = 25) = true from rfl, br_tq, if_pos rfl, show decide ((1 : Int32) = 0) = false from rfl, br_fq]
      unfold fb_M_rowPattern_194 hb_Pa_list_35 hb_Pa_list_80
      rw [show decide ((0 : Int32) = 0) = true from rfl, br_tq]
      refine row_end (k9 := 25) (kd := 7) (c9 := 0) (φ := 0) (X := 0) (W := fun _ => 32) (sc2 := sc) c hn2 h rl (by omega) (by decide) rfl rfl ⟨by omega, by unfold advc; rw [upI_ne (by decide)]; exact hn, by omega⟩ (Nat.le_refl _) (fun _ _ => ⟨rfl, rfl⟩) pC qD.2.1 (SCO_0 hR) (HDs_no (fun j h1 h2 h3 => absurd h3 (g1 j h1 h2))) ⟨by omega, by omega⟩ (by rw [lgS_0]; exact qD.2.2.1) (WNQ_f qD) (fun mf ko kc hx kq => ?_)
      obtain ⟨r7, hx⟩ := hx
      have := ptn_lst (N := N) (K := K) (nm := nm) (W := fun _ => 32) (own := own) (sc := sc) (sc2 := sc) (sc3 := sc) (lo := n) (l := []) (q := p + 1) (q2 := p + 1) (q3 := p + 1) (p := p) (p2 := p + 1 + 1) (c0 := 0) (X := 0) (X3 := 0) (a := I (p : Nat)) (c := r7) (m2 := mf) (n2 := n + 1) (ν := n + 1) hx (by omega) (Nat.le_refl _) (by omega) ⟨by omega, by omega, by omega, by omega⟩ g1 (fun j h1 h2 => by rw [show j = p + 1 by omega]; omega) ⟨by omega, by omega⟩ (m1 := advc m p) (n1 := n) ⟨rfl, rfl, rfl⟩ ko kc (by omega) (Or.inl ⟨rfl, rfl, rfl, fun j h1 h2 => absurd h2 (by omega)⟩)
      exact this
    · have k46 := cC.1.1.k46 cC.2.2
      rw [I_dn (a := K (p + 1)) (b := 25) (s := 25) (by omega) (by decide) rfl, decide_eq_false k25, br_fq, if_neg k25, show decide ((0 : Int32) = 0) = true from rfl, br_tq]
      rcases h2 with h2 | h2
      rotate_left
      · rw [h2]; exact pp_nl
      rw [h2]
      unfold hm_Pa_row hb_Pa_row_0 hb_Pa_row_16
      rw [show decide ((1 : Int32) = 0) = false from rfl, br_fq, bTm_as]
      have first : ∀ M, PP (PAZ N m0 w0 K T nm Nk p n own sc m w) (bTm (SC2.2.2.2.2.2.2.2.2.2.2.2.2.2.2.2.2.2.1 (advc m p)) (fun u r => bTm (hg_Pa_row N SC2 N u 1 8 r r 1) (fun u17 r17 => hb_Pa_list_35 N SC1 () u17 1 (I (p : Nat)) r17))) (gg_M_rowPattern N S M D v1 0 5 r13 (-1) 0 1) := fun M => by
        cases M with
        | zero => exact pp_nr
        | succ M =>
          show PP _ _ (fb_M_rowPattern_66 N S (gg_M_rowPattern N S M) D v1 0 5 r13 (-1) 0 1)
          unfold fb_M_rowPattern_66
          rw [show decide ((1 : Int32) = 0) = false from rfl, br_fq, decide_eq_true D0, br_tq]
          refine pp_bTn (hP (advc m p) D (p + 1) n sc rl (by unfold advc; rw [upI_ne (by decide)]; exact hn) (by omega) qD.2.1) (fun m2 ε w2 r10 q => ?_) (fun m2 kk w2 r10 q => ?_)
          · rw [show decide ((-1 : Int32) = -1) = true from rfl, br_tq]
            refine r_ck (fun _ => r_lt ?_)
            obtain ⟨ν, p2, e1, hI⟩ := RWI_1 (w3 := upA w2 36 (upd (w2.2.2.1 36) r13.toNatClampNeg r10)) q ⟨fun _ _ => rfl, fun k hk => upA_no (by omega)⟩ rfl rfl (fun k hk => upA_no (by omega))
            rw [e1]
            have := row_lp (N := N) (S := S) (SC := SC2) (v1 := v1) (v2 := 0) (v3 := 5) (v4 := r13) (R := PAZ N m0 w0 K T nm Nk p n own sc m w) (fC := fun u17 r17 => hb_Pa_list_35 N SC1 () u17 1 (I (p : Nat)) r17) c (by omega) hS0 hS1 hP (fun M m5 w5 p5 k l v8 hI hk5 hlk hk8 => ?_) (fun m5 p5 φ cp k26 => ?_) (fun _ _ _ _ z => z) (fun M w5 p5 v8 k hw5 h05 k45 => flt M w5 p5 v8 k hw5 h05 (by omega) (by omega)) 7 1 N M m2 _ p2 [ν] r10 (by omega) (by omega) rfl hI
            · exact this
            · 
              have hI2 := hI
              obtain ⟨n2', sc2', X', W', z0, z1, z2, z3, z4, z5, z6, z7, z8, z9, z10, z11, z12, z13⟩ := hI2
              obtain ⟨d1, d2, d3⟩ := PRW_hd z11 z0
              obtain ⟨n2, sc2, X, W, b0, b1, b2, b3, b4, b5, b6, b7, b8, b9, b10, b11, b12⟩ := RWI_base c (by omega) rfl (WNQ_f qD) qD.2.2.1 hI
              have p5T := b1.2.2.2.2.1
              have c5 := RLP_c c b1
              have w5p := RLP_w c b1
              have h05 := b1.2.2.2.2.2.2
              have k46 := c5.1.1.k46 c5.2.2
              have hd0 : decide (I ((l.headD 0 : Nat) : Int) = 0) = false := by
                refine decide_eq_false (fun z => ?_)
                have := (PRW_hd b12 b0)
                have := (I_eq (x := ((l.headD 0 : Nat) : Int)) (y := 0) (by omega) (by omega) (by omega) (by omega)).mp z
                omega
              unfold hb_Pa_list_35
              rw [hd0, br_fq]
              by_cases q45 : K p5 = 45
              · exact pp_rf (RFS_T (look_x c5 q45)) (fun mm => flt M w5 p5 v8 _ w5p h05 (by omega) (by omega))
              · rw [look_e c5 q45, bTm_l]
                by_cases q29 : K p5 = 29
                · have hl5 : p5 < T := TWK_lt c p5T (by omega) (by omega)
                  rw [q29, show decide (I ((29 : Nat) : Int) = 29) = true from rfl, br_tq]
                  refine l_lt ?_
                  rw [c5.2.1, i_suc, show decide ((1 : Int32) = 0) = false from rfl, br_fq]
                  show PP _ (bTm (SC1.2.2.2.2.2.2.2.2.2.2.2.2.2.2.2.2.2.1 (advc m5 p5)) _) _
                  unfold fb_M_rowPattern_151 hb_Pa_list_78
                  rw [show decide ((0 : Int32) = 0) = true from rfl, br_tq, tkS_e (k := 29) (s := 9) w5p h05 (by decide) rfl, if_pos q29, bnd_s, show decide ((1 : Int32) = 0) = false from rfl, br_fq]
                  have rl5 : RLP m0 w0 T (p5 + 1) (advc m5 p5) (adv w5 p5) := ⟨⟨fun k hk => by unfold advc; rw [upI_ne (by omega)]; exact b1.1.1 k hk, b1.1.2⟩, ⟨fun k hk => by unfold adv; rw [upI_ne (fun z => by rw [z] at hk; revert hk; decide)]; exact b1.2.1.1 k hk, b1.2.1.2⟩, upI_at, upI_at, hl5, by unfold advc adv; rw [upI_ne (by decide), upI_ne (by decide)]; exact b1.2.2.2.2.2.1, by unfold adv; rw [upI_ne (by decide)]; exact h05⟩
                  have rn5 : RNs (adv w5 p5) sc2 := WFP_rn b6 (by unfold adv; exact upI_ne (by decide)) rfl
                  refine pp_bTn (hP1 (advc m5 p5) (adv w5 p5) (p5 + 1) n2 sc2 rl5 (by unfold advc; rw [upI_ne (by decide)]; exact b2.2.1) (by omega) rn5) (fun m12 ε w12 r12 q => ?_) (fun m12 kk w12 r12 q => ?_)
                  · obtain ⟨p3, n3, ν3, sc3, X3, W3, a1, a2, a3, a4, a5, a6, a7, a8, a9, a10, a11, a12, a13, a14⟩ := q
                    have p3T := a3.2.2.2.2.1
                    have gB : ∀ j, p5 ≤ j → j < p5 + 1 → K j ≠ 3 := fun j h1 h2 => by rw [show j = p5 by omega]; omega
                    have wA : ∀ j, p ≤ j → j < p5 → (fun j => if j < p5 then W j else W3 j) j = W j := fun j _ h2 => if_pos h2
                    have wA1 : ∀ j, p + 1 ≤ j → j < p5 → (fun j => if j < p5 then W j else W3 j) j = W j := fun j _ h2 => if_pos h2
                    have wB2 : ∀ j, p5 + 1 ≤ j → j < p3 → (fun j => if j < p5 then W j else W3 j) j = W3 j := fun j h1 _ => if_neg (by omega)
                    have ko5 : KPO n2 m5 m12 := fun j hj => a5 j hj
                    have kc5 : Kcc m5 m12 := Kc_tr (v := advc m5 p5) ⟨fun k hk => by unfold advc; exact upI_ne (by omega), fun _ _ => rfl⟩ (PCF_k a7)
                    have pc5 : PCF m5 m12 := PCF_tr (v := advc m5 p5) ⟨fun k hk => by unfold advc; exact upI_ne (fun z => hk (by rw [z]; decide)), fun _ _ => rfl⟩ a7
                    have wf5 : WFP w5 w12 := WFP_tr (v := adv w5 p5) ⟨fun k hk => by unfold adv; exact upI_ne (fun z => hk (by rw [z]; decide)), fun _ _ => rfl⟩ a13
                    have e66 : (adv w5 p5).1 66 = w5.1 66 := by unfold adv; exact upI_ne (by decide)
                    obtain ⟨f1, f2, f3⟩ := PRW_hd b12 b0
                    have z21 : m5.2.2.1 21 (l.getLastD 0) = 0 := z12
                    have fin : ∀ w6 : MS, (∀ k, w6.1 k = w12.1 k) → (∀ k, k ≠ 37 → w6.2.2.1 k = w12.2.2.1 k) → PP (PAZ N m0 w0 K T nm Nk p n own sc m w) (hb_Pa_list_80 N SC1 () m12 (I (p : Nat)) (I ((l.headD 0 : Nat) : Int)) ε) (fb_M_rowPattern_186 N S (gg_M_rowPattern N S M) w6 5 r13 (I (k : Nat))) := fun w6 i6 r6 => by
                      unfold fb_M_rowPattern_186 fb_M_rowPattern_194 hb_Pa_list_80
                      refine r_ck (fun _ => r_lt ?_)
                      generalize hw7 : upA w6 38 (upd (w6.2.2.1 38) r13.toNatClampNeg (vp_nar .boolean 1)) = w7
                      have i7 : ∀ k, w7.1 k = w12.1 k := fun k => by rw [← hw7]; exact i6 k
                      have r7 : ∀ k, k ≠ 37 → k ≠ 38 → w7.2.2.1 k = w12.2.2.1 k := fun k h1 h2 => by rw [← hw7, upA_no h2]; exact r6 k h1
                      have wf7 : WFP w12 w7 := ⟨fun k _ => i7 k, fun k hk => r7 k (by omega) (by omega)⟩
                      rw [a1]
                      refine row_end (k9 := 25) (kd := 7) (c9 := I (ν3 : Nat)) (φ := I ((l.headD 0 : Nat) : Int)) (q := p3) (n2 := n3) (sc2 := sc3) (X := max X X3) (W := fun j => if j < p5 then W j else W3 j) c hn2 h ⟨a3.1, Kt_tr a3.2.1 (WFP_k wf7), a3.2.2.1, by rw [i7]; exact a3.2.2.2.1, p3T, by rw [i7]; exact a3.2.2.2.2.2.1, by rw [i7]; exact a3.2.2.2.2.2.2⟩ (by omega) (by decide) rfl rfl ⟨by omega, a4.2.1, by omega⟩ (by omega) (KPO_tr b4 ko5 b3) (PCF_tr b5 pc5) (RNs_e a8 (i7 65) (fun k h1 h2 => r7 k (by omega) (by omega))) (SCO_tr b7 a9) ?_ ⟨by omega, by omega⟩ (by rw [i7, a12, e66, b10, lgS_tr b7.1]) (WFP_tr b11 (WFP_tr wf5 wf7)) (fun mf ko kc hx kq => ?_)
                      · refine HDs_tr (p2 := p5) (by omega) (by omega) (HDs_w wA b8) ?_
                        exact HDs_ext (q := p5 + 1) (q2 := p3) (by omega) (Nat.le_refl _) gB (fun j h1 h2 => absurd h2 (by omega)) (HDs_w wB2 a10)
                      · obtain ⟨r9, hx⟩ := hx
                        have pr := PRW_up (y := 0) (n3 := n3) (m3 := m12) (own := own) (by omega) kc5 (fun j hj => ⟨(ko5 j hj).1, fun _ => (ko5 j hj).2⟩) (by rw [(ko5 _ f3).2]; exact z21) (PRW_w wA1 b12) (q := p5) (sc3 := sc2) (Y := 0) (l2 := []) b0 rfl (fun z => absurd rfl z) ⟨rfl, rfl, rfl⟩
                        rw [List.append_nil, Nat.max_eq_left (Nat.zero_le X)] at pr
                        exact ptn_lst (l := l) (q := p + 1) (q2 := p5) (q3 := p3) (c0 := ν3) (X3 := X3) (a := I (p : Nat)) (c := r9) hx (by omega) (Nat.le_refl _) (by omega) ⟨by omega, by omega, by omega, by omega⟩ g1 (fun j h1 h2 => by rw [show j = p3 by omega]; omega) ⟨by omega, by omega⟩ (m1 := m12) (n1 := n3) pr ko kc (by omega) (Or.inr ⟨by omega, a2.2, p5 + 1, n2, b3, ⟨by omega, by omega⟩, gB, PTN_w wB2 a14⟩)
                    refine r_br (fun _ => ?_) (fun _ => r_ck (fun _ => r_lt ?_))
                    · exact fin w12 (fun _ => rfl) (fun _ _ => rfl)
                    · exact fin _ (fun _ => rfl) (fun k hk => upA_no hk)
                  · have q : FLW w12 := q
                    refine Kf_pk (u0 := w12) ?_
                    refine Kf_br ?_ (Kf_ck (Kf_ltm (Kf_A q) (fun u h => ?_)))
                    · exact yf_fb_M_rowPattern_186 q (hS0 w12) (hS1 w12) (gg_f hS0 hS1 M)
                    · exact yf_fb_M_rowPattern_186 h (hS0 w12) (hS1 w12) (gg_f hS0 hS1 M)
                · rw [I_dn (a := K p5) (b := 29) (s := 29) (by omega) (by decide) rfl, decide_eq_false q29, br_fq]
                  unfold hb_Pa_list_80 fb_M_rowPattern_151 fb_M_rowPattern_194
                  rw [show decide ((0 : Int32) = 0) = true from rfl, br_tq, tkS_e (k := 29) (s := 9) w5p h05 (by decide) rfl, if_neg q29, bnd_s, show decide ((0 : Int32) = 0) = true from rfl, br_tq]
                  refine row_end (k9 := 25) (kd := 7) (c9 := 0) (φ := I ((l.headD 0 : Nat) : Int)) c hn2 h b1 (by omega) (by decide) rfl rfl b2 b3 b4 b5 b6 b7 b8 b9 b10 b11 (fun mf ko kc hx kq => ?_)
                  obtain ⟨r7, hx⟩ := hx
                  have := ptn_lst (N := N) (K := K) (nm := nm) (W := W) (own := own) (sc := sc) (sc2 := sc2) (sc3 := sc2) (lo := n) (l := l) (q := p + 1) (q2 := p5) (q3 := p5) (p := p) (p2 := p5 + 1) (c0 := 0) (X := X) (X3 := 0) (a := I (p : Nat)) (c := r7) (m2 := mf) (n2 := n2 + 1) (ν := n2 + 1) hx (by omega) (Nat.le_refl _) (by omega) ⟨by omega, by omega, by omega, by omega⟩ g1 (fun j h1 h2 => by rw [show j = p5 by omega]; omega) ⟨by omega, by omega⟩ (m1 := m5) (n1 := n2) b12 ko kc (by omega) (Or.inl ⟨rfl, rfl, rfl, fun j h1 h2 => absurd h2 (by omega)⟩)
                  rw [Nat.max_eq_left (Nat.zero_le X)] at this
                  exact this
            · 
              show RFS (hb_Pa_list_35 N SC1 () m5 1 (I (p : Nat)) φ)
              unfold hb_Pa_list_35 hb_Pa_list_80
              cases hφ : decide (φ = 0)
              · rw [br_fq, look_e cp (by omega), bTm_l, k26, show decide (I ((26 : Nat) : Int) = 29) = false from rfl, br_fq]
                exact RFS_T (need_x (k := 25) (s := 25) cp (by omega) (by decide) rfl)
              · rw [br_tq]
                exact RFS_T (need_x (k := 25) (s := 25) cp (by omega) (by decide) rfl)
          · have q : FLW w2 := q
            refine Kf_pk (u0 := w2) ?_
            refine Kf_br (Kf_ck (Kf_ltm (Kf_A q) (fun u h => ?_))) (Kf_ck (Kf_ltm (Kf_A q) (fun u h => ?_)))
            · exact yf_fb_M_rowPattern_112 h (hS0 w2) (hS1 w2) (gg_f hS0 hS1 M)
            · exact yf_fb_M_rowPattern_112 h (hS0 w2) (hS1 w2) (gg_f hS0 hS1 M)
      have := first N
      exact this
end
end
section
set_option maxRecDepth 100000
section
variable {m0 w0 m w v u : MS} {K nm Nk W : Nat → Nat} {T p n N : Nat} {sc t : SCT} {own : Bool} {v1 : Int32} {S : SG_M_rowPattern} {SC : SF_Pa_matched}
theorem pat_wr (c : CTZ m0 w0 K T nm Nk) (h : RLP m0 w0 T p m w) (hn : m.1 306 = I (n : Nat)) (hR : RNs w sc) {fc : Option (MS × (Int32 ⊕ Nat))} {fw : Option (MS × Int32)} (hS0 : ∀ (u0 u : MS) a0, Kfc u0 u → KfE u0 (S.1 u a0)) (hS1 : ∀ (u0 u : MS) a0, Kfc u0 u → KfE u0 (S.2 u a0)) (hP : PP (PAZ N m0 w0 K T nm Nk p n own sc (upI m 666 (m.1 666 + 1)) (upI w 70 (w.1 70 + 1))) fc fw) : PP (PAZ N m0 w0 K T nm Nk p n own sc m w) (bTm fc (fun u18 r18 => hb_Pa_pattern_162 N SC () u18 r18)) (bnd fw (fun u10 r10 => fb_M_patternAt_388 N S () u10 r10)) := by
  refine pp_bTn hP (fun m2 ε w2 r q => ?_) (fun m2 k w2 r q => ?_)
  · obtain ⟨p2, n2, ν, sc2, X, W, a1, a2, a3, a4, a5, a6, a7, a8, a9, a10, a11, a12, a13, a14⟩ := q
    unfold hb_Pa_pattern_162 fb_M_patternAt_388
    refine l_lt (r_lt (pp_end ?_))
    have pcf : PCF m (upI m2 666 (m2.1 666 - 1)) := by
      refine ⟨fun k hk => ?_, fun k hk => a7.2 k hk⟩
      by_cases z : k = 666
      · rw [z, upI_at, a7.1 666 (by decide), upI_at, i_ps]
      · rw [upI_ne z, a7.1 k hk, upI_ne z]
    have wfp : WFP w (upI w2 70 (w2.1 70 - 1)) := by
      refine ⟨fun k hk => ?_, fun k hk => a13.2 k hk⟩
      by_cases z : k = 70
      · rw [z, upI_at, a13.1 70 (by decide), upI_at, i_ps]
      · rw [upI_ne z, a13.1 k hk, upI_ne z]
    have e66 : (upI w 70 (w.1 70 + 1)).1 66 = w.1 66 := upI_ne (by decide)
    refine ⟨p2, n2, ν, sc2, X, W, a1, a2, ⟨Kc_tr h.1 (PCF_k pcf), Kt_tr h.2.1 (WFP_k wfp), by rw [upI_ne (by decide)]; exact a3.2.2.1, by rw [upI_ne (by decide)]; exact a3.2.2.2.1, a3.2.2.2.2.1, by rw [pcf.1 666 (by decide), wfp.1 70 (by decide)]; exact h.2.2.2.2.2.1, by rw [wfp.1 67 (by decide)]; exact h.2.2.2.2.2.2⟩, ⟨a4.1, by rw [upI_ne (by decide)]; exact a4.2.1, a4.2.2⟩, fun j hj => a5 j hj, a6, pcf, WFP_rn a8 (upI_ne (by decide)) rfl, a9, a10, a11, by rw [upI_ne (by decide), a12, e66], wfp, ?_⟩
    intro d m3 cm kx
    exact a14 d m3 cm ⟨fun j h0 hj => kx.1 j h0 hj, ⟨fun k hk => (kx.2.1 k hk).trans (upI_ne (by omega)), fun k hk => kx.2.2 k hk⟩⟩
  · have q : FLW w2 := q
    exact Kf_pk (yf_fb_M_patternAt_388 (u0 := w2) q (hS0 w2) (hS1 w2))
theorem rcS (N d : Nat) : (∀ (u0 u : MS) a0, Kfc u0 u → KfE u0 ((rc_M_rowPattern N d).1 u a0)) ∧ (∀ (u0 u : MS) a0, Kfc u0 u → KfE u0 ((rc_M_rowPattern N d).2 u a0)) := ⟨fun u0 => (yf_rc_M_rowPattern (u0 := u0) (N := N) d).1, fun u0 => (yf_rc_M_rowPattern (u0 := u0) (N := N) d).2⟩
theorem rc45 (N : Nat) : ∀ (d : Nat) (w : MS) (p : Nat), WP w K T p → w.1 67 = 0 → K p = 45 → PK (fun w2 _ => FLW w2) ((rc_M_rowPattern N d).2 w v1)
  | 0, _, _, _, _, _ => pk_none
  | d + 1, w, p, hw, h0, hk => by
    show PK _ (fm_M_patternAt N (rc_M_rowPattern N d) w v1)
    unfold fm_M_patternAt
    rw [pAt_e hw h0, hk, pAt_101, show decide (b2c (bPK 45) = 0) = true from rfl, br_tq]
    exact pk_bnd (fun v r z => pk_some (wrong_s (u0 := w) (by decide) v r z))
theorem pB_row (h : WP w K T p) (h67 : w.1 67 = 0) (h0 : w.1 70 < 25) (hk : K p = 22 ∨ K p = 24) : fm_M_patternAt N S w v1 = bnd (S.1 (upI w 70 (w.1 70 + 1)) v1) (fun u10 r10 => fb_M_patternAt_388 N S () u10 r10) := by
  have hb : bPK (K p) = true := by rcases hk with z | z <;> rw [z] <;> rfl
  unfold fm_M_patternAt
  rw [pAt_e h h67, hb, pAt_101, show decide (b2c true = 0) = false from rfl, br_fq, if_neg (by omega), opn_e h0, bnd_s]
  have hM1 : WP (upI w 70 (w.1 70 + 1)) K T p := WP_e h (by rw [upI_ne (by decide)]; exact h.2.1) h.2.2 rfl rfl
  have h672 : (upI w 70 (w.1 70 + 1)).1 67 = 0 := by rw [upI_ne (by decide)]; exact h67
  unfold pAtB
  obtain ⟨a, b, -⟩ := WP_i hM1
  rw [show ln 6 = 4002 from rfl, a, b, srt_dc hM1 srK_2, srt_dc hM1 srK_4, srt_dc hM1 srK_1, srt_dc hM1 srK_5, tkS_e (k := 20) (s := 0) hM1 h672 (by decide) rfl, if_neg (by omega), decide_eq_false (show ¬ K p = 3 by omega), decide_eq_false (show ¬ K p = 1 by omega), decide_eq_false (show ¬ K p = 2 by omega), decide_eq_false (show ¬ K p = 4 by omega)]
  rfl
theorem pts_all (c : CTZ m0 w0 K T nm Nk) (hv : decide (v1 = 0) = !own) : ∀ (d D : Nat), PTS N m0 w0 K T nm Nk own v1 ((hrc_Pa_matched N D).2.2.2.2.2.2.2.2.2.2.2.2.2.2.2.2.2.1) ((rc_M_rowPattern N d).2) := by
  intro d
  induction d using Nat.strongRecOn with
  | _ d ih =>
    intro D m w p n sc h hn hn2 hR
    cases d with
    | zero => exact pp_nr
    | succ d =>
      cases D with
      | zero => exact pp_nl
      | succ D =>
        show PP _ (hm_Pa_pattern N (hrc_Pa_matched N D) m) (fm_M_patternAt N (rc_M_rowPattern N d) w v1)
        have hc := RLP_c c h
        have hw := RLP_w c h
        have k46 := hc.1.1.k46 hc.2.2
        cases hb : bPK (K p) with
        | false => exact pat_no c h hb
        | true =>
          by_cases ho : m.1 666 < 25
          · have ho2 : w.1 70 < 25 := by rw [← h.2.2.2.2.2.1]; exact ho
            have kk : K p = 1 ∨ K p = 2 ∨ K p = 3 ∨ K p = 4 ∨ K p = 20 ∨ K p = 22 ∨ K p = 24 ∨ K p = 34 := by
              have : ∀ k, k < 46 → bPK k = true → k = 1 ∨ k = 2 ∨ k = 3 ∨ k = 4 ∨ k = 20 ∨ k = 22 ∨ k = 24 ∨ k = 34 := by decide
              exact this _ k46 hb
            by_cases k3 : K p = 3
            · exact pat_nm c h hn hn2 hR k3 ho hv
            by_cases k34 : K p = 34
            · exact pat_mn c h hn hn2 hR k34 ho (rcS N d).1 (rcS N d).2
            by_cases k20 : K p = 20
            · exact pat_gp c h hn hn2 hR k20 ho (rcS N d).1 (rcS N d).2 (ih d (by omega) D)
            by_cases k22 : K p = 22
            · rw [pB_row hw h.2.2.2.2.2.2 ho2 (Or.inl k22)]
              unfold hm_Pa_pattern
              rw [cPt_e hc (by omega), hb, show b2c true = 1 from rfl, opens_e ho, bTm_l, k22, show decide (I ((22 : Nat) : Int) = 20) = false from rfl, br_fq, show decide (I ((22 : Nat) : Int) = 22) = true from rfl, br_tq]
              refine pat_wr c h hn hR (rcS N d).1 (rcS N d).2 ?_
              have h' : RLP m0 w0 T p (upI m 666 (m.1 666 + 1)) (upI w 70 (w.1 70 + 1)) := ⟨⟨fun k hk => by rw [upI_ne (by omega)]; exact h.1.1 k hk, h.1.2⟩, ⟨fun k hk => by rw [upI_ne (fun z => by rw [z] at hk; revert hk; decide)]; exact h.2.1.1 k hk, h.2.1.2⟩, by rw [upI_ne (by decide)]; exact h.2.2.1, by rw [upI_ne (by decide)]; exact h.2.2.2.1, h.2.2.2.2.1, by rw [upI_at, upI_at, h.2.2.2.2.2.1], by rw [upI_ne (by decide)]; exact h.2.2.2.2.2.2⟩
              have hR' : RNs (upI w 70 (w.1 70 + 1)) sc := WFP_rn hR (upI_ne (by decide)) rfl
              have hn' : (upI m 666 (m.1 666 + 1)).1 306 = I (n : Nat) := by rw [upI_ne (by decide)]; exact hn
              cases D with
              | zero => exact pp_nl
              | succ D =>
                cases d with
                | zero => exact pp_nr
                | succ d =>
                  show PP _ (hm_Pa_tuple N (hrc_Pa_matched N D) (upI m 666 (m.1 666 + 1)) 1) (fm_M_rowPattern N (rc_M_rowPattern N d) (upI w 70 (w.1 70 + 1)) v1)
                  cases D with
                  | zero => exact pp_nl
                  | succ D =>
                    cases D with
                    | zero => exact tup_pp (SC2 := hrc_Pa_matched N 0) (SC3 := hrc_Pa_matched N 0) c h' hn' hn2 hR' k22 (rcS N d).1 (rcS N d).2 (fun _ _ _ _ => rfl) (Or.inr (fun _ _ _ => rfl)) (ih d (by omega) 0) (fun w p => rc45 N d w p)
                    | succ D => exact tup_pp (SC2 := hrc_Pa_matched N (D + 1)) (SC3 := hrc_Pa_matched N D) c h' hn' hn2 hR' k22 (rcS N d).1 (rcS N d).2 (fun _ _ _ _ => rfl) (Or.inl (fun _ _ _ => rfl)) (ih d (by omega) D) (fun w p => rc45 N d w p)
            by_cases k24 : K p = 24
            · rw [pB_row hw h.2.2.2.2.2.2 ho2 (Or.inr k24)]
              unfold hm_Pa_pattern
              rw [cPt_e hc (by omega), hb, show b2c true = 1 from rfl, opens_e ho, bTm_l, k24, show decide (I ((24 : Nat) : Int) = 20) = false from rfl, br_fq, show decide (I ((24 : Nat) : Int) = 22) = false from rfl, br_fq, show decide (I ((24 : Nat) : Int) = 24) = true from rfl, br_tq]
              refine pat_wr c h hn hR (rcS N d).1 (rcS N d).2 ?_
              have h' : RLP m0 w0 T p (upI m 666 (m.1 666 + 1)) (upI w 70 (w.1 70 + 1)) := ⟨⟨fun k hk => by rw [upI_ne (by omega)]; exact h.1.1 k hk, h.1.2⟩, ⟨fun k hk => by rw [upI_ne (fun z => by rw [z] at hk; revert hk; decide)]; exact h.2.1.1 k hk, h.2.1.2⟩, by rw [upI_ne (by decide)]; exact h.2.2.1, by rw [upI_ne (by decide)]; exact h.2.2.2.1, h.2.2.2.2.1, by rw [upI_at, upI_at, h.2.2.2.2.2.1], by rw [upI_ne (by decide)]; exact h.2.2.2.2.2.2⟩
              have hR' : RNs (upI w 70 (w.1 70 + 1)) sc := WFP_rn hR (upI_ne (by decide)) rfl
              have hn' : (upI m 666 (m.1 666 + 1)).1 306 = I (n : Nat) := by rw [upI_ne (by decide)]; exact hn
              cases D with
              | zero => exact pp_nl
              | succ D =>
                cases d with
                | zero => exact pp_nr
                | succ d =>
                  show PP _ (hm_Pa_list N (hrc_Pa_matched N D) (upI m 666 (m.1 666 + 1)) 1) (fm_M_rowPattern N (rc_M_rowPattern N d) (upI w 70 (w.1 70 + 1)) v1)
                  cases D with
                  | zero => exact lst_pp (SC2 := hrc_Pa_matched N 0) c h' hn' hn2 hR' k24 (rcS N d).1 (rcS N d).2 (Or.inr (fun _ _ _ => rfl)) (ih d (by omega) 0) (ih d (by omega) 0) (fun w p => rc45 N d w p)
                  | succ D => exact lst_pp (SC2 := hrc_Pa_matched N D) c h' hn' hn2 hR' k24 (rcS N d).1 (rcS N d).2 (Or.inl (fun _ _ _ => rfl)) (ih d (by omega) D) (ih d (by omega) (D + 1)) (fun w p => rc45 N d w p)
            exact pat_lf c h hn hn2 hR (by omega) ho
          · exact pat_deep c h hb ho (rcS N d).1 (rcS N d).2
end
end
section
set_option maxRecDepth 100000
def Ksc (u w : MS) : Prop := w.1 714 < 1000000000
def KsE {α : Type} (u : MS) (o : Option (MS × α)) : Prop := ∀ w r, o = some (w, r) → Ksc u w
section
variable {α β : Type} {u0 u w : MS} {k : Nat}
theorem Ks_some {r : α} (h : Ksc u0 w) : KsE u0 (some (w, r)) := fun _ _ e => by injection e with e; injection e with e1 _; exact e1 ▸ h
end
section
variable {u0 u : MS} {N : Nat}
theorem ys_hb_Cm_fault_0 {G : Unit} {v1 v2 : Int32} (h : Ksc u0 u) : KsE u0 (hb_Cm_fault_0 N G u v1 v2) := by
  unfold hb_Cm_fault_0
  refine Ks_some ?_
  unfold Ksc at h ⊢
  rw [upI_at]
  split
  · rename_i z
    exact Int32.lt_trans z h
  · exact h
theorem fault_s {v1 v2 : Int32} (hv : v1 * 16 + v2 < 1000000000) : KsE u0 (hm_Cm_fault N u v1 v2) := by
  unfold hm_Cm_fault hb_Cm_fault_0
  refine Ks_some ?_
  unfold Ksc
  rw [upI_at]
  split
  · exact hv
  · rename_i z
    exact Int32.lt_of_le_of_lt (Int32.not_lt.mp z) hv
end
end
section
set_option maxRecDepth 100000
section
variable {α β : Type} {u0 u w : MS} {k : Nat}
end
section
variable {u0 u : MS} {N : Nat}
end
end
