set_option maxRecDepth 100000
section
variable {m0 w0 m w v u u0 : MS} {K nm Nk W : Nat → Nat} {T p n N : Nat} {sc t : SCT} {e : List Nat × List Nat × Nat} {own : Bool} {S : SG_M_rowPattern} {SC : SF_Pa_matched} {v1 v2 : Int32}
theorem bTm_l {α β : Type} {r : β} {f : MS → β → Option (MS × (α ⊕ Nat))} : bTm (some (m, (.inl r : β ⊕ Nat))) f = f m r := rfl
theorem pAt_e (h : WP w K T p) (h0 : w.1 67 = 0) : fb_M_patternAt_0 N S () w v1 = fb_M_patternAt_101 N S () w v1 (if K p = 34 then 1 else 0) (b2c (bPK (K p))) := by
  have k46 := h.1.1.k46 h.2.2
  obtain ⟨a, b, -⟩ := WP_i h
  unfold fb_M_patternAt_0
  rw [decide_eq_true h0, br_tq]
  simp only [isS_e (k := 34) (s := 19) h (by decide) rfl, isS_e (k := 22) (s := 2) h (by decide) rfl, isS_e (k := 24) (s := 4) h (by decide) rfl, isS_e (k := 20) (s := 0) h (by decide) rfl, bnd_s]
  rw [show ln 6 = 4002 from rfl, a, b, srt_dc h srK_1, srt_dc h srK_2, srt_dc h srK_4, srt_dc h srK_5]
  generalize K p = k at k46
  revert k46
  revert k
  intro k h
  match k, h with
  | 0, _ => rfl
  | 1, _ => rfl
  | 2, _ => rfl
  | 3, _ => rfl
  | 4, _ => rfl
  | 5, _ => rfl
  | 6, _ => rfl
  | 7, _ => rfl
  | 8, _ => rfl
  | 9, _ => rfl
  | 10, _ => rfl
  | 11, _ => rfl
  | 12, _ => rfl
  | 13, _ => rfl
  | 14, _ => rfl
  | 15, _ => rfl
  | 16, _ => rfl
  | 17, _ => rfl
  | 18, _ => rfl
  | 19, _ => rfl
  | 20, _ => rfl
  | 21, _ => rfl
  | 22, _ => rfl
  | 23, _ => rfl
  | 24, _ => rfl
  | 25, _ => rfl
  | 26, _ => rfl
  | 27, _ => rfl
  | 28, _ => rfl
  | 29, _ => rfl
  | 30, _ => rfl
  | 31, _ => rfl
  | 32, _ => rfl
  | 33, _ => rfl
  | 34, _ => rfl
  | 35, _ => rfl
  | 36, _ => rfl
  | 37, _ => rfl
  | 38, _ => rfl
  | 39, _ => rfl
  | 40, _ => rfl
  | 41, _ => rfl
  | 42, _ => rfl
  | 43, _ => rfl
  | 44, _ => rfl
  | 45, _ => rfl
  | k + 46, h => exact absurd h (by omega)
theorem cPt_e (h : CP m K T p) (h45 : K p ≠ 45) : hb_Pa_pattern_0 N SC () m = bTm (hm_Pa_opens N m (b2c (bPK (K p)))) (fun u10 r10 => br (decide (I (K p : Nat) = 20)) (lt (upI u10 665 ((u10.1 665) + 1)) (fun w12 => bTm (SC.2.2.2.2.2.2.2.2.2.2.2.2.2.2.2.2.2.1 w12) (fun u14 r14 => bnd (hm_Tr_add N u14 5 (m.1 665) r14 0 0) (fun u15 r15 => bTm (hm_Pa_need N u15 21) (fun u17 r17 => hb_Pa_pattern_162 N SC () u17 (r15)))))) (br (decide (I (K p : Nat) = 22)) (bTm (SC.2.2.2.2.2.2.2.2.2.2.2.2.2.2.2.2.1 u10 1) (fun u18 r18 => hb_Pa_pattern_162 N SC () u18 (r18))) (br (decide (I (K p : Nat) = 24)) (bTm (SC.2.2.2.2.2.2.2.2.2.2.2.2.2.2.2.1 u10 1) (fun u19 r19 => hb_Pa_pattern_162 N SC () u19 (r19))) (br (decide (I (K p : Nat) = 34)) (lt (upI u10 665 ((u10.1 665) + 1)) (fun w21 => bTm (hm_Pa_look N w21) (fun u22 r22 => br (decide (r22 = 1)) (hb_Pa_pattern_137 N SC () u22 ((m.1 665))) (bTm (hm_Pa_refuse N u22 2) (fun u23 r23 => hb_Pa_pattern_137 N SC () u23 ((m.1 665))))))) (bnd (hm_Pa_leaf N u10) (fun u24 r24 => hb_Pa_pattern_162 N SC () u24 (r24))))))) := by
  unfold hb_Pa_pattern_0
  rw [look_e h h45, bTm_l, bP_e (h.1.1.k46 h.2.2), bnd_s]
theorem pat_no (c : CTZ m0 w0 K T nm Nk) (h : RLP m0 w0 T p m w) (hb : bPK (K p) = false) : PP (PAZ N m0 w0 K T nm Nk p n own sc m w) (hm_Pa_pattern N SC m) (fm_M_patternAt N S w v1) := by
  have hc := RLP_c c h
  have hw := RLP_w c h
  unfold hm_Pa_pattern fm_M_patternAt
  have r : RFS (hb_Pa_pattern_0 N SC () m) := by
    by_cases h45 : K p = 45
    · unfold hb_Pa_pattern_0
      exact RFS_T (look_x hc h45)
    · rw [cPt_e hc h45, hb]
      exact RFS_T (opens_0 hc)
  refine pp_rf r (fun m2 => ?_)
  rw [pAt_e hw h.2.2.2.2.2.2, hb, pAt_101]
  rw [show decide (b2c false = 0) = true from rfl, br_tq]
  exact pk_bnd (fun v r z => pk_some (wrong_s (u0 := w) (by decide) v r z))
theorem pat_deep (c : CTZ m0 w0 K T nm Nk) (h : RLP m0 w0 T p m w) (hb : bPK (K p) = true) (hd : ¬ m.1 666 < 25) (hS0 : ∀ (u0 u : MS) a0, Kfc u0 u → KfE u0 (S.1 u a0)) (hS1 : ∀ (u0 u : MS) a0, Kfc u0 u → KfE u0 (S.2 u a0)) : PP (PAZ N m0 w0 K T nm Nk p n own sc m w) (hm_Pa_pattern N SC m) (fm_M_patternAt N S w v1) := by
  have hc := RLP_c c h
  have hw := RLP_w c h
  have h45 : K p ≠ 45 := fun z => by rw [z] at hb; cases hb
  unfold hm_Pa_pattern fm_M_patternAt
  have r : RFS (hb_Pa_pattern_0 N SC () m) := by
    rw [cPt_e hc h45, hb]
    exact RFS_T (opens_x hc hd)
  refine pp_rf r (fun m2 => ?_)
  rw [pAt_e hw h.2.2.2.2.2.2, hb, pAt_101]
  rw [show decide (b2c true = 0) = false from rfl, br_fq]
  refine pk_bnd (pk_mo (opn_x (N := N) (w := w) (by rw [← h.2.2.2.2.2.1]; exact hd)) (fun v r z => ?_))
  exact Kf_pk (pAtB_f (u0 := v) z (hS0 v) (hS1 v))
end
