set_option maxRecDepth 100000
section
variable {u v w : MS} {N : Nat} {x y : Int32}
theorem fits_nar {x : Int32} : fits .byte (.int (vp_nar .byte x)) = true := by
  obtain ⟨h1, h2⟩ := nar_rng (x := x)
  show (decide ((-128 : Int32) ≤ vp_nar .byte x) && decide (vp_nar .byte x ≤ (127 : Int32))) = true
  rw [Bool.and_eq_true]
  exact ⟨decide_eq_true (Int32.le_iff_toInt_le.mpr h1), decide_eq_true (Int32.le_iff_toInt_le.mpr h2)⟩
theorem app_loop : ∀ (k M : Nat) (v : MS), k + 1 ≤ M → k ≤ 4 → (0 ≤ F v 81 ∧ F v 81 ≤ 4000) → TPB v → OK (fun w _ => FR [81] [] [5] [] v w ∧ (0 ≤ F w 81 ∧ F w 81 ≤ 4000) ∧ TPB w) (hg_To_append N M v x (I (8 * ((k : Nat) : Int) - 8)))
  | 0, M, v, hM, hk, h81, hT => by
    obtain ⟨M, rfl⟩ : ∃ M2, M = M2 + 1 := ⟨M - 1, by omega⟩
    show OK _ (hb_To_append_3 N (hg_To_append N M) v x (I (8 * ((0 : Nat) : Int) - 8)))
    unfold hb_To_append_3 hb_To_append_46
    rw [lit0q]
    exact k_lt ⟨by decide, by decide⟩ ⟨by decide, by decide⟩ (fun _ => ok_some.mpr ⟨FR.rf, h81, hT⟩) (fun z => absurd z (by decide))
  | k + 1, M, v, hM, hk, h81, hT => by
    obtain ⟨M, rfl⟩ : ∃ M2, M = M2 + 1 := ⟨M - 1, by omega⟩
    show OK _ (hb_To_append_3 N (hg_To_append N M) v x (I (8 * ((k + 1 : Nat) : Int) - 8)))
    unfold hb_To_append_3 hb_To_append_46
    rw [lit0q]
    refine k_lt ⟨by omega, by omega⟩ ⟨by decide, by decide⟩ (fun _ => ok_some.mpr ⟨FR.rf, h81, hT⟩) (fun _ => ?_)
    rw [I_F (k := 81), show (4000 : Int32) = I 4000 from rfl]
    refine k_le ⟨by decide, by decide⟩ (FRG1 v _) (fun _ => ok_some.mpr ⟨FR.rf, h81, hT⟩) (fun h4 => ?_)
    have h4' : F v 81 < 4000 := h4
    obtain ⟨t, ht⟩ : ∃ t : Nat, F v 81 = ((t : Nat) : Int) := ⟨(F v 81).toNat, by omega⟩
    refine e_in ⟨by omega, by omega⟩ (by decide) (ok_lt.mpr (ok_lt.mpr ?_))
    rw [ht, tnI (n := t) rfl (by omega), show (-8 : Int32) = I (-8) from rfl, I_add, show 8 * ((k + 1 : Nat) : Int) - 8 + -8 = 8 * ((k : Nat) : Int) - 8 by omega]
    generalize hb : vp_nar .byte _ = by0
    have hf : fits .byte (.int by0) = true := by rw [← hb]; exact fits_nar
    have e1 : (upA v 5 (upd (v.2.2.1 5) t by0)).1 81 = I ((t : Nat) : Int) := by
      show v.1 81 = _
      rw [I_F, ht]
    rw [e1, lit1q, I_add, show ((t : Nat) : Int) + 1 = ((t + 1 : Nat) : Int) by omega, wi_e, I_of by0, wa_e]
    have fr : FR [81] [] [5] [] v (wi (wa v 5 t by0.toInt) 81 ((t + 1 : Nat) : Int)) := FR.wi (FR.wa FR.rf (by simp)) (by simp)
    have e81 : F (wi (wa v 5 t by0.toInt) 81 ((t + 1 : Nat) : Int)) 81 = ((t + 1 : Nat) : Int) := by rw [F_wi (by omega) (by omega), if_pos rfl]
    have tp : TPB (wi (wa v 5 t by0.toInt) 81 ((t + 1 : Nat) : Int)) := fun j hj => by
      show fits .byte (.int (upd (v.2.2.1 5) t (I by0.toInt) j)) = true
      unfold upd
      by_cases e : j = t
      · rw [if_pos e, ← I_of by0]; exact hf
      · rw [if_neg e]; exact hT j hj
    exact ok_mono (app_loop k M _ (by omega) (by omega) (by rw [e81]; omega) tp) (fun w _ hw => ⟨FR.tr fr hw.1, hw.2⟩)
theorem INV_tape (h : INVc u) (f : FR [81] [] [5] [] u w) (h81 : 0 ≤ F w 81 ∧ F w 81 ≤ 4000) (ht : TPB w) : INVc w := by
  have h1 := h.1
  have hc : CST w := ⟨h81, ht, WD_fr f h1.1.2.2.1 (by simp) (by simp), by rw [FRc_F f (by simp)]; exact h1.1.2.2.2⟩
  have hw : WR0 w := ⟨⟨fun j hj => by rw [FRc_A f (by simp), FRc_A f (by simp)]; exact h1.2.1.1.1 j hj, h1.2.1.1.2⟩, fun j hj => by rw [FRc_A f (by simp), FRc_A f (by simp)]; exact h1.2.1.2 j hj⟩
  refine ⟨STA_fr h1 f hc hw (fun j hj => by rw [FRc_A f (by simp), FRc_A f (by simp)]; exact h1.2.2.2.1 j hj) (by simp) (by simp), ?_⟩
  have fc : FC 0 [81] [] [5] [] [] [] [] u w := ⟨fun k _ hk => f.1 k hk, fun k _ hk => f.2.1 k hk, fun k _ hk => f.2.2.1 k hk, fun k _ _ => f.2.2.2 k (by simp), fun r k _ _ => f.1 _ (by simp [pq]; omega), fun r k _ _ => f.2.1 _ (by simp), fun r k _ _ => f.2.2.1 _ (by simp [pq]; omega), fun r k _ _ => f.2.2.2 _ (by simp)⟩
  rcases h.2 with ⟨h10, np⟩ | ⟨T, Fv, P, PR, W⟩
  · obtain ⟨⟨n1, n2⟩, n3, n4, ⟨n5, n6⟩, n7, n8, n9⟩ := np
    refine Or.inl ⟨by rw [FRc_F f (by simp)]; exact h10, ⟨by rw [FRc_F f (by simp)]; exact n1, n2⟩, fun r hr => absurd hr (by omega), by rw [FRc_F f (by simp)]; exact n4, ⟨by rw [FRc_F f (by simp)]; exact n5, by rw [FRc_F f (by simp), FRc_F f (by simp)]; exact n6⟩, fun i hi => ?_, by rw [FRc_F f (by simp)]; exact n8, fun i hi => ?_⟩
    · rw [FRc_F f (by simp), n5] at hi
      have : ((cEc u 0 : Nat) : Int) = 0 := rfl
      omega
    · rw [FRc_F f (by simp)] at hi
      rw [FRc_A f (by simp)]
      exact n9 i hi
  · exact Or.inr ⟨T, Fv, P, PR, WRD_g W fc (DWc_g0 W.1 fc (by simp) (by simp)) (by simp) (by simp)⟩
theorem append_okc (h : INVc u) (hN : 10 ≤ N) : OK (fun w _ => INVc w) (hm_To_append N u x) := by
  unfold hm_To_append hb_To_append_0
  have e : (24 : Int32) = I (8 * ((4 : Nat) : Int) - 8) := rfl
  rw [e]
  exact ok_mono (app_loop 4 N u (by omega) (by omega) h.1.1.1 h.1.1.2.1) (fun w _ hw => INV_tape h hw.1 hw.2.1 hw.2.2)
theorem invc_feed {a b c d e : Int32} (h : INVc u) (hN : 10 ≤ N) : OK (fun w _ => INVc w) (hm_H_feed N u a b c d e) := by
  unfold hm_H_feed hb_H_feed_0
  refine ok_br.mpr ⟨fun _ => ?_, fun _ => ok_some.mpr h⟩
  refine ok_bnd.mpr (ok_mono (append_okc h hN) (fun w1 _ h1 => ok_bnd.mpr (ok_mono (append_okc h1 hN) (fun w2 _ h2 => ok_bnd.mpr (ok_mono (append_okc h2 hN) (fun w3 _ h3 => ok_bnd.mpr (ok_mono (append_okc h3 hN) (fun w4 _ h4 => ok_bnd.mpr (ok_mono (append_okc h4 hN) (fun w5 _ h5 => ok_some.mpr h5))))))))))
theorem invc_back (h : INVc u) : OK (fun w _ => INVc w) (hm_H_back N u y) := by
  unfold hm_H_back hb_H_back_0 hb_H_back_15
  have ry := ti_rng y
  have h81 := h.1.1.1
  rw [I_of y, lit0q, I_F (k := 81)]
  refine k_lt ry ⟨by decide, by decide⟩ (fun _ => ok_some.mpr h) (fun h0 => k_le ry (FRG1 u _) (fun h1 => ok_lt.mpr (ok_some.mpr ?_)) (fun _ => ok_some.mpr h))
  rw [I_sub, wi_e]
  have hr : RG (F u 81 - y.toInt) := ⟨by omega, by omega⟩
  refine INV_tape h (FR.wi FR.rf (by simp)) ?_ (fun j hj => h.1.1.2.1 j hj)
  rw [F_wi hr.1 hr.2, if_pos rfl]
  omega
end
