section
variable {u : MS} {N : Nat}
theorem readTokens_ok (hN : 200000 ≤ N) (h5 : 0 ≤ F u 5 ∧ F u 5 ≤ 4000) (hb : BYT u) (ts : TBS u) (z0 : TB0 u) : OK (fun x _ => RTQ u x) (fm_M_readTokens N u) := by
  unfold fm_M_readTokens fb_M_readTokens_0
  refine ok_lt.mpr (ok_lt.mpr (ok_lt.mpr ?_))
  show OK _ (bnd (fm_M_allFirstAtoms N (wi (wi (wi u 10 0) 11 1) 9 0)) (fun u18 _ => (gg_M_readTokens N N).1 u18))
  have f1 : FR [9, 10, 11] [] [] [] u (wi (wi (wi u 10 0) 11 1) 9 0) := FR.wi (FR.wi (FR.wi FR.rf (by decide)) (by decide)) (by decide)
  have x9 : F (wi (wi (wi u 10 0) 11 1) 9 0) 9 = 0 := wi_eq ⟨by decide, by decide⟩
  have x10 : F (wi (wi (wi u 10 0) 11 1) 9 0) 10 = 0 := by rw [wi_ne (by decide), wi_ne (by decide)]; exact wi_eq ⟨by decide, by decide⟩
  have xA : ∀ r i, A (wi (wi (wi u 10 0) 11 1) 9 0) r i = A u r i := fun _ _ => rfl
  generalize wi (wi (wi u 10 0) 11 1) 9 0 = v at *
  refine ok_bnd.mpr (ok_mono (firstA_ok hN (fun i hi => by rw [xA]; exact ts.1 i hi) (by rw [xA]; exact z0.1)) (fun w _ hw => ?_))
  obtain ⟨b1, b2, b3, b4, b5, b6⟩ := hw
  have fw : FR [9, 10, 11, 14, 17, 20] [] [6, 7, 8, 12, 13, 15, 16, 18, 19] [] u w := FR.tr (FR.mo f1 (by decide) (by decide) (by decide) (by decide)) (FR.mo b1 (by decide) (by decide) (by decide) (by decide))
  have w5 : F w 5 = F u 5 := fw.F (by decide)
  have w16 : A w 16 0 = 0 := by rw [b1.A (by decide), xA]; exact z0.2.1
  have w19 : A w 19 0 = 0 := by rw [b1.A (by decide), xA]; exact z0.2.2
  have w13 : A w 13 0 = 0 := by rw [b5 0 (by omega)]; rfl
  have e22 : (F w 14).toNat = 22 := by omega
  have e20 : (F w 20).toNat = 0 := by omega
  have o22 := faO_mo 22 (by omega)
  have c22 : faO 22 = 139 := rfl
  refine (read_loop hN h5 hb ts (F u 5 + 2).toNat).1 w 0 0 (fun _ => 0) N ⟨fw, ⟨(b1.F (by decide)).trans x9, (b1.F (by decide)).trans x10⟩, ⟨rfl, fun i hi => by omega⟩, (show ((0 : Nat) : Int) ≤ 0 ∧ ((0 : Nat) : Int) ≤ F w 5 ∧ (0 : Int) ≤ F w 5 + 1 by omega), fun z => by omega, ⟨w13, w16, w19⟩, ⟨by omega, ⟨by omega, ?_⟩, ?_⟩, ⟨⟨by omega, by omega, fun s hs => ?_⟩, by omega, ?_⟩, 0, 0, ⟨b3, ⟨by omega, fun k hk => ?_⟩, fun _ => false, Nat.zero_le _, fun c hc => by cases hc⟩, ?_, by omega, by omega, fun _ => by omega⟩ (by omega) (by omega) (by omega)
  · rw [e22]
    refine ⟨by omega, fun k hk => ?_⟩
    rw [b5 k hk]
    have q1 := o22 k hk
    refine ⟨by omega, by omega, fun q => ?_⟩
    rw [b5 (k + 1) (by omega)]
    have := (fa_f k (by omega)).2.2.1
    omega
  · rw [e22, b5 22 (Nat.le_refl _)]; omega
  · obtain rfl : s = 0 := by omega
    rw [w19]; exact ⟨by omega, by omega, fun q => by omega⟩
  · rw [e20, w19]; omega
  · obtain rfl : k = 0 := by omega
    rw [w16]; exact ⟨by omega, by omega, fun q => by omega⟩
  · show A w 16 0 ≤ 0
    omega
end
