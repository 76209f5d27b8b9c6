set_option maxRecDepth 100000
section
variable {m0 w0 m w v u u0 : MS} {K nm Nk W : Nat → Nat} {T p n N q : Nat} {sc sc2 t : SCT} {e : List Nat × List Nat × Nat} {own : Bool} {S : SG_M_rowPattern} {SC : SF_Pa_matched} {v1 v2 lg r : Int32}
theorem i_ps {a : Int32} : a + 1 - 1 = a := by
  rw [Int32.sub_eq_add_neg, Int32.add_assoc]
  have : (1 : Int32) + -1 = 0 := by decide
  rw [this, Int32.add_zero]
theorem cPt_leaf (h : CP m K T p) (ho : m.1 666 < 25) (hn : m.1 306 = I (n : Nat)) (h8 : n + 1 < 8016) (hk : K p = 1 ∨ K p = 2 ∨ K p = 3 ∨ K p = 4) : ∃ mf, hb_Pa_pattern_0 N SC () m = some (mf, .inl (I ((n + 1 : Nat) : Int))) ∧ mf.1 306 = I ((n + 1 : Nat) : Int) ∧ mf.1 665 = I ((p + 1 : Nat) : Int) ∧ PCF m mf ∧ KPO n m mf ∧ nod mf (n + 1) = (I (K p : Nat), I (p : Nat), m.2.2.1 7 p, 0, 0) ∧ mf.2.2.1 21 (n + 1) = 0 := by
  have hb : bPK (K p) = true := by rcases hk with z | z | z | z <;> rw [z] <;> rfl
  have h45 : K p ≠ 45 := by omega
  have dd : ∀ b : Nat, b < 100 → K p ≠ b → ∀ s : Int32, s = I (b : Nat) → decide (I (K p : Nat) = s) = false := fun b hb h17 s hs => by rw [I_dn (by omega) hb hs]; exact decide_eq_false h17
  have h1 : CP (upI m 666 (m.1 666 + 1)) K T p := ⟨h.1, by rw [upI_ne (by decide)]; exact h.2.1, h.2.2⟩
  rw [cPt_e h h45, hb, show b2c true = 1 from rfl, opens_e ho, bTm_l, dd 20 (by decide) (by omega) 20 rfl, br_fq, dd 22 (by decide) (by omega) 22 rfl, br_fq, dd 24 (by decide) (by omega) 24 rfl, br_fq, dd 34 (by decide) (by omega) 34 rfl, br_fq, lf_e h1 (by rw [upI_ne (by decide)]; exact hn) h8, bnd_s]
  unfold hb_Pa_pattern_162
  generalize hM : upI m 666 (m.1 666 + 1) = M
  have M7 : M.2.2.1 = m.2.2.1 := by rw [← hM]; rfl
  have Mi : ∀ k, k ≠ 666 → M.1 k = m.1 k := fun k hk => by rw [← hM]; exact upI_ne hk
  have M6 : M.1 666 = m.1 666 + 1 := by rw [← hM]; exact upI_at
  generalize hA : adN M n (I (K p : Nat)) (I (p : Nat)) (M.2.2.1 7 p) 0 0 = A
  have Ai : ∀ k, k ≠ 306 → A.1 k = M.1 k := fun k hk => by rw [← hA]; exact adN_i hk
  have An : A.1 306 = I ((n + 1 : Nat) : Int) := by rw [← hA]; exact adN_n
  have Ar : ∀ k, k < 16 ∨ 21 < k → A.2.2.1 k = m.2.2.1 k := fun k hk => by rw [← hA, adN_r hk, M7]
  have Ao : KPO n m A := fun j hj => by
    have := adN_o (m := M) (n := n) (a := I (K p : Nat)) (b := I (p : Nat)) (c := M.2.2.1 7 p) (d := 0) (f := 0) j hj
    rw [hA] at this
    unfold nod at this ⊢
    rw [M7] at this
    exact this
  have Ax := adN_nod (m := M) (n := n) (a := I (K p : Nat)) (b := I (p : Nat)) (c := M.2.2.1 7 p) (d := 0) (f := 0)
  rw [hA, M7] at Ax
  refine ⟨_, rfl, ?_, ?_, ⟨fun k hk => ?_, fun k hk => Ar k hk⟩, Ao, Ax.1, Ax.2⟩
  · rw [upI_ne (by decide), upI_ne (by decide)]; exact An
  · rw [upI_ne (by decide)]; exact upI_at
  · simp only [List.mem_cons, List.not_mem_nil, or_false] at hk
    by_cases z : k = 666
    · rw [z, upI_at, upI_ne (by decide), Ai _ (by decide), M6, i_ps]
    · rw [upI_ne z, upI_ne (by omega), Ai _ (by omega), Mi _ z]
theorem WNQ_kr (h : WNQ K T p sc2 lg w v) (f : Krc v u) : WNQ K T p sc2 lg w u := by
  obtain ⟨q1, q2, q3, q4, q5⟩ := h
  exact ⟨WP_e q1 (by rw [f.1 69 (by decide)]; exact q1.2.1) q1.2.2 (f.2 6 (by decide)) (f.2 7 (by decide)), RNs_e q2 (f.1 65 (by decide)) (fun k h1 h2 => f.2 k (by omega)), by rw [f.1 66 (by decide)]; exact q3, fun k hk => by rw [f.1 k (by simp only [List.mem_cons, List.not_mem_nil, or_false] at hk ⊢; omega)]; exact q4 k hk, fun k hk => by rw [f.2 k (by omega)]; exact q5 k hk⟩
theorem WNQ_J {g : Nat → Int64} {k : Nat} (h : WNQ K T p sc2 lg w v) : WNQ K T p sc2 lg w (upJ v k g) := ⟨h.1, RNs_e h.2.1 rfl (fun _ _ _ => rfl), h.2.2.1, h.2.2.2.1, h.2.2.2.2⟩
theorem WNQ_A {g : Nat → Int32} {k : Nat} (h : WNQ K T p sc2 lg w v) (hk : 23 ≤ k ∧ k < 59) : WNQ K T p sc2 lg w (upA v k g) := by
  obtain ⟨q1, q2, q3, q4, q5⟩ := h
  exact ⟨WP_e q1 q1.2.1 q1.2.2 (upA_no (by omega)) (upA_no (by omega)), RNs_e q2 rfl (fun j h1 h2 => upA_no (by omega)), q3, q4, fun j hj => by rw [upA_no (by omega)]; exact q5 j hj⟩
theorem WNQ_on {x : Int32} (h : WNQ K T p sc2 lg w v) (hl : q ≤ T) (hx : x = I (q : Nat)) : WNQ K T q sc2 lg w (upI v 69 x) := by
  obtain ⟨q1, q2, q3, q4, q5⟩ := h
  refine ⟨WP_e q1 (by rw [upI_at, hx]) hl rfl rfl, RNs_e q2 (upI_ne (by decide)) (fun _ _ _ => rfl), by rw [upI_ne (by decide)]; exact q3, fun k hk => ?_, q5⟩
  rw [upI_ne (fun z => hk (by rw [z]; decide))]
  exact q4 k hk
theorem fin_388 (h : WNQ K T p sc2 lg (upI w 70 (w.1 70 + 1)) v) : PK (fun w2 _ => WNQ K T p sc2 lg w w2) (fb_M_patternAt_388 N S () v r) := by
  obtain ⟨q1, q2, q3, q4, q5⟩ := h
  unfold fb_M_patternAt_388
  refine pk_lt (pk_some ⟨WP_e q1 (by rw [upI_ne (by decide)]; exact q1.2.1) q1.2.2 rfl rfl, RNs_e q2 (upI_ne (by decide)) (fun _ _ _ => rfl), by rw [upI_ne (by decide)]; exact q3, fun k hk => ?_, q5⟩)
  by_cases z : k = 70
  · rw [z, upI_at, q4 70 (by decide), upI_at, i_ps]
  · rw [upI_ne z, q4 k hk, upI_ne z]
theorem on_1 (h : WNQ K T p sc2 lg (upI w 70 (w.1 70 + 1)) v) (hl : p < T) : PK (fun w2 _ => WNQ K T (p + 1) sc2 lg w w2) (lt (upI v 69 (v.1 69 + 1)) (fun w4 => fb_M_patternAt_388 N S () w4 r)) := pk_lt (fin_388 (WNQ_on h hl (by rw [h.1.2.1, i_suc])))
theorem pB_leaf (h : WP w K T p) (h0 : w.1 70 < 25) (hn : RNs w sc) (hk : K p = 1 ∨ K p = 2 ∨ K p = 4) (hl : p < T) : PK (fun w2 _ => WNQ K T (p + 1) sc (w.1 66) w w2) (bnd (fm_M_opens N w) (fun u8 _ => pAtB N S () v1 0 u8)) := by
  have k46 := h.1.1.k46 h.2.2
  rw [opn_e h0, bnd_s]
  generalize hM : upI w 70 (w.1 70 + 1) = M
  have hM1 : WP M K T p := by rw [← hM]; exact WP_e h (by rw [upI_ne (by decide)]; exact h.2.1) h.2.2 rfl rfl
  have q0 : WNQ K T p sc (w.1 66) M M := by
    have := WNQ_0 (w := M) (sc := sc) hM1 (by rw [← hM]; exact RNs_e hn (upI_ne (by decide)) (fun _ _ _ => rfl))
    have e : M.1 66 = w.1 66 := by rw [← hM]; exact upI_ne (by decide)
    rw [e] at this
    exact this
  have fin : ∀ {v : MS} {r : Int32}, WNQ K T p sc (w.1 66) M v → PK (fun w2 _ => WNQ K T (p + 1) sc (w.1 66) w w2) (lt (upI v 69 (v.1 69 + 1)) (fun w4 => fb_M_patternAt_388 N S () w4 r)) := fun q => on_1 (by rw [hM]; exact q) hl
  obtain ⟨a, b, c⟩ := WP_i hM1
  have s2 : decide (M.2.2.1 6 p = 2) = decide (K p = 3) := srt_dc hM1 srK_2
  have s4 : decide (M.2.2.1 6 p = 4) = decide (K p = 1) := srt_dc hM1 srK_4
  have s1 : decide (M.2.2.1 6 p = 1) = decide (K p = 2) := srt_dc hM1 srK_1
  have s5 : decide (M.2.2.1 6 p = 5) = decide (K p = 4) := srt_dc hM1 srK_5
  unfold pAtB
  refine pk_ck (fun _ => ?_)
  rw [b, s2, decide_eq_false (by omega), br_fq, show decide ((0 : Int32) = 0) = true from rfl, br_tq]
  refine pk_ck (fun _ => ?_)
  rw [s4]
  rcases hk with z | z | z
  · rw [decide_eq_true z, br_tq]
    unfold fb_M_patternAt_160 fb_M_patternAt_178 fb_M_patternAt_199 fb_M_patternAt_239
    rw [show decide ((0 : Int32) = 0) = true from rfl, br_tq]
    refine pk_lt (pk_ck (fun _ => ?_))
    have q1 : WNQ K T p sc (w.1 66) M (upI M 69 (M.1 69)) := WNQ_on q0 h.2.2 hM1.2.1
    have e6 : (upI M 69 (M.1 69)).2.2.1 6 ((upI M 69 (M.1 69)).1 69).toNatClampNeg = M.2.2.1 6 p := by rw [(WP_i q1.1).2.1]; rfl
    rw [e6, s4, decide_eq_true z, br_tq]
    refine pk_bnd (fun u5 r5 x5 => ?_)
    have q5 := WNQ_kr q1 (yr_fm_M_pattern Kr_rf u5 r5 x5)
    show PK _ _
    rw [br_tq]
    refine pk_ck (fun _ => pk_bnd (fun u2 r2 x2 => pk_ck (fun _ => pk_ck (fun _ => pk_lt ?_))))
    exact fin (WNQ_J (WNQ_kr q5 (yr_fm_M_term Kr_rf u2 r2 x2)))
  · rw [decide_eq_false (by omega), br_fq]
    refine pk_ck (fun _ => ?_)
    rw [s1, decide_eq_true z, br_tq]
    refine pk_bnd (fun u5 r5 x5 => pk_ck (fun _ => pk_bnd (fun u2 r2 x2 => pk_ck (fun _ => pk_lt ?_))))
    exact fin (WNQ_J (WNQ_kr (WNQ_kr q0 (yr_fm_M_pattern Kr_rf u5 r5 x5)) (yr_fm_M_term Kr_rf u2 r2 x2)))
  · rw [decide_eq_false (by omega), br_fq]
    refine pk_ck (fun _ => ?_)
    rw [s1, decide_eq_false (by omega), br_fq]
    refine pk_ck (fun _ => ?_)
    rw [s5, decide_eq_true z, br_tq]
    refine pk_bnd (fun u5 r5 x5 => pk_ck (fun _ => pk_ck (fun _ => pk_lt ?_)))
    exact fin (WNQ_A (WNQ_kr q0 (yr_fm_M_pattern Kr_rf u5 r5 x5)) (by decide))
end
