section
variable {u v w x : MS} {N TN SN g : Nat} {bw : Nat → Nat} {p n q c f h y : Int}
theorem PGN_49 {i : Nat} (hv : PGN TN bw v p n q c f h) (hy : 0 ≤ y ∧ y < 4002) : PGN TN bw (wa v 49 i y) p n q c f h := by
  obtain ⟨e, e2, k44, ngd, k49, nm⟩ := hv
  have ry : RG y := ⟨by omega, by omega⟩
  refine ⟨e, e2, fun j => by rw [wa_rne (by decide)]; exact k44 j, fun j hj => ?_, fun j => ?_, nm⟩
  · rw [wa_rne (by decide), wa_rne (by decide), wa_rne (by decide)]; exact ngd j hj
  · by_cases z : j = i
    · rw [z, wa_eq ry]; exact hy
    · rw [wa_ne z]; exact k49 j
theorem function0_ok (tk : TKW u TN SN bw) (hN : 20000 ≤ N) (tb : TBL u) (at' : ATM u) (hv : FNQ TN SN bw u v g) : OK (fun x _ => FNQ TN SN bw u x (g + 1) ∨ FLT TN u x) (fm_M_function0 N v) := by
  have hT := tk.1.1
  obtain ⟨b0, b1, ⟨p, n, q, c, f, h, b2, b3, b4⟩, b5, b6⟩ := hv
  have hp0 : 0 ≤ p := b2.2.2.2.2.2.1.1
  have hg : g < 700 := by omega
  unfold fm_M_function0 fb_M_function0_0
  have e52 : v.1 52 + 1 = I ((g + 1 : Nat) : Int) := by rw [I_F' b5, lit1q, I_add]; rfl
  have z0 : ∀ (w : MS) (k i : Nat), upA w k (upd (w.2.2.1 k) i 0) = wa w k i 0 := fun _ _ _ => rfl
  have eg : (I ((g : Nat) : Int)).toNatClampNeg = g := by rw [I_tn (by omega) (by omega)]; omega
  rw [e52, I_F' b5, wi_e]
  have e69 : F (wi v 52 ((g + 1 : Nat) : Int)) 69 = p := (wi_ne (by decide)).trans b2.1.1
  refine ok_lt.mpr (k_in (k := 49) (n := 1000) rfl (by decide) (by omega) (ok_lt.mpr (k_in (k := 51) (n := 1000) rfl (by decide) (by omega) (ok_lt.mpr ?_))))
  rw [eg, I_F' e69, wa_e, z0]
  have fr1 : FR [52] [] [] [] v (wi v 52 ((g + 1 : Nat) : Int)) := FR.wi FR.rf (by decide)
  have pg1 : PGN TN bw (wi v 52 ((g + 1 : Nat) : Int)) p n q c f h := PGN_fr b2 fr1 (by decide) (by decide)
  have pg2 := PGN_49 (i := g) (y := p) pg1 (by omega)
  have fr3 : FR [] [] [51] [] (wa (wi v 52 ((g + 1 : Nat) : Int)) 49 g p) (wa (wa (wi v 52 ((g + 1 : Nat) : Int)) 49 g p) 51 g 0) := FR.wa FR.rf (by decide)
  have pg3 := PGN_fr pg2 fr3 (by decide) (by decide)
  have fr : FR [52] [] [49, 51] [] v (wa (wa (wi v 52 ((g + 1 : Nat) : Int)) 49 g p) 51 g 0) := FR.wa (FR.wa (FR.wi FR.rf (by decide)) (by decide)) (by decide)
  have f52 : F (wa (wa (wi v 52 ((g + 1 : Nat) : Int)) 49 g p) 51 g 0) 52 = ((g + 1 : Nat) : Int) := by rw [F_wa, F_wa]; exact wi_eq ⟨by omega, by omega⟩
  generalize wa (wa (wi v 52 ((g + 1 : Nat) : Int)) 49 g p) 51 g 0 = W at *
  have m1 : (-1 : Int32) = I (-1) := rfl
  rw [m1]
  refine fn_loop tk hN tb at' 4100 W 0 (-1) p n q c f h ⟨FR.tr b0 (FR.mo fr (by decide) (by decide) (by decide) (by decide)), (fr.F (by decide)).trans b1, pg3, f52, fun _ => rfl, fun z => by omega, ⟨b3, b4, fun z => by omega⟩, fun z1 z2 z3 => ?_⟩ (by omega) N (by omega)
  obtain ⟨Bd, q1, q2⟩ := b6 (by rw [← fr.F (k := 72) (by decide)]; exact z1) (by rw [← fr.F (k := 66) (by decide)]; exact z2) z3
  have ey : EQY v W := EQY_fr fr (by decide) (by decide)
  have my : mks W = mks v := mks_c (fun k hk => fr.F (by
    have : ∀ k, k ∈ [32, 39, 46, 56, 58] → k ∉ [52] := by decide
    exact this k hk))
  refine ⟨Bd, FNT_eqy (y := 0) (i0 := 0) q1 ey (fun i => by rw [q2]; exact Nat.le_refl _) (Or.inl rfl) (fun f _ => ⟨fr.A (by decide), fr.A (by decide)⟩), 0, ⟨fun _ => mks W, fun _ => 0, 0, 0, 0, ⟨fun j hj => by omega, fun j hj => by omega, fun z => by omega⟩, ⟨by rw [q2, my], rfl⟩, fun j hj => by omega, fun z => by omega, by omega, by omega, by omega⟩, fun z => by omega⟩
def PRQ (TN SN : Nat) (bw : Nat → Nat) (u x : MS) : Prop := (∃ G : Nat, 0 < G ∧ FNQ TN SN bw u x G ∧ x.2.2.1 6 (x.1 69).toNatClampNeg = 0) ∨ FLT TN u x
theorem program_loop (tk : TKW u TN SN bw) (hN : 20000 ≤ N) (tb : TBL u) (at' : ATM u) : ∀ (i : Nat) (v : MS) (g : Nat), FNQ TN SN bw u v g → 700 < i + g → OK (fun x _ => PRQ TN SN bw u x) (gg_M_program N (i + 1) v 1) := by
  have hT := tk.1.1
  have stop : ∀ (m : Nat) (w : MS), gg_M_program N (m + 1) w 0 = some (w, ()) := fun m w => rfl
  intro i
  induction i with
  | zero =>
    intro v g hv hi
    obtain ⟨b0, b1, ⟨p, n, q, c, f, h, b2, b3, b4⟩, b5, b6⟩ := hv
    omega
  | succ i ih =>
    intro v g hv hi
    show OK _ (fb_M_program_52 N (gg_M_program N (i + 1)) v 1)
    unfold fb_M_program_52 fb_M_program_95 fb_M_program_90 fb_M_program_91
    rw [br10]
    refine k_F (y := 0) rfl ⟨by decide, by decide⟩ (fun _ => ?_) (fun z => absurd hv.2.1 z)
    refine ok_bnd.mpr (ok_mono (function0_ok tk hN tb at' hv) (fun x _ hx => ?_))
    rcases hx with hx | hx
    · have hx' := hx
      obtain ⟨b0, b1, ⟨p, n, q, c, f, h, b2, b3, b4⟩, b5, b6⟩ := hx'
      have hp0 : 0 ≤ p := b2.2.2.2.2.2.1.1
      have e69 : F x 69 = p := b2.1.1
      refine k_F (y := 0) rfl ⟨by decide, by decide⟩ (fun _ => ?_) (fun z => absurd b1 z)
      refine k_at (k := 6) (n := 4002) rfl (by decide) (by omega) (ok_br.mpr ⟨fun z6 => ?_, fun _ => ?_⟩)
      · rw [stop]; exact ok_some.mpr (Or.inl ⟨_, Nat.succ_pos _, hx, of_decide_eq_true z6⟩)
      · exact ih x (g + 1) hx (by omega)
    · refine k_F (y := 0) rfl ⟨by decide, by decide⟩ (fun z => absurd z hx.2.1) (fun _ => ?_)
      rw [stop]; exact ok_some.mpr (Or.inr hx)
def prS (u : MS) : MS := wi (wi (wi (wi (wi (wi (wi (wi (wi (wi u 69 0) 70 0) 32 0) 39 0) 46 0) 52 0) 56 0) 58 0) 66 0) 73 0
theorem prS_F {k : Nat} (h : k ∉ [69, 70, 32, 39, 46, 52, 56, 58, 66, 73]) : F (prS u) k = F u k := by
  unfold prS
  simp only [List.mem_cons, List.not_mem_nil, or_false, not_or] at h
  obtain ⟨h1, h2, h3, h4, h5, h6, h7, h8, h9, h10⟩ := h
  rw [wi_ne h10, wi_ne h9, wi_ne h8, wi_ne h7, wi_ne h6, wi_ne h5, wi_ne h4, wi_ne h3, wi_ne h2, wi_ne h1]
theorem prS_0 {k : Nat} (h : k ∈ [69, 70, 32, 39, 46, 52, 56, 58, 66, 73]) : F (prS u) k = 0 := by
  have m : ∀ k, k ∈ [69, 70, 32, 39, 46, 52, 56, 58, 66, 73] → k = 69 ∨ k = 70 ∨ k = 32 ∨ k = 39 ∨ k = 46 ∨ k = 52 ∨ k = 56 ∨ k = 58 ∨ k = 66 ∨ k = 73 := by decide
  rcases m k h with z | z | z | z | z | z | z | z | z | z <;> (rw [z]; rfl)
theorem prS_FR : FR PfJ [] [] [] u (prS u) := by
  unfold prS
  exact FR.wi (FR.wi (FR.wi (FR.wi (FR.wi (FR.wi (FR.wi (FR.wi (FR.wi (FR.wi FR.rf (by decide)) (by decide)) (by decide)) (by decide)) (by decide)) (by decide)) (by decide)) (by decide)) (by decide)) (by decide)
theorem program_ok (hN : 20000 ≤ N) (hT : TN ≤ 4000) (tk : F u 67 = 0 → TKW u TN SN bw) (tb : TBL u) (at' : ATM u) (h0 : F u 75 = 0 ∧ F u 77 = 0 ∧ F u 83 = 0) (h71 : 0 ≤ F u 71 ∧ F u 71 < 4002) (k44 : K44 u) (k49 : K49 u) : OK (fun x _ => PRQ TN SN bw u x) (fm_M_program N u) := by
  unfold fm_M_program fb_M_program_0
  refine ok_lt.mpr (ok_lt.mpr (ok_lt.mpr (ok_lt.mpr (ok_lt.mpr (ok_lt.mpr (ok_lt.mpr (ok_lt.mpr (ok_lt.mpr (ok_lt.mpr ?_)))))))))
  show OK _ (gg_M_program N N (prS u) 1)
  have pr : PRO u (prS u) := FR.mo prS_FR (by decide) (by decide) (by decide) (by decide)
  have pA : ∀ r i, A (prS u) r i = A u r i := fun _ _ => rfl
  by_cases z : F u 67 = 0
  · have tku := tk z
    have b0 := bw_top tku (i := 0) (by omega)
    obtain ⟨N', rfl⟩ : ∃ N', N = N' + 1 := ⟨N - 1, by omega⟩
    refine program_loop tku hN tb at' N' (prS u) 0 ⟨pr, (prS_F (by decide)).trans z, ⟨0, 0, 0, 0, 0, 0, ⟨⟨prS_0 (by decide), prS_0 (by decide), prS_0 (by decide), prS_0 (by decide), prS_0 (by decide), prS_0 (by decide), prS_0 (by decide), (prS_F (by decide)).trans h0.1, (prS_F (by decide)).trans h0.2.1, (prS_F (by decide)).trans h0.2.2, prS_0 (by decide)⟩, ⟨by rw [prS_F (by decide)]; exact h71, Or.inl (prS_0 (by decide))⟩, k44, fun i hi => ?_, k49, ?_⟩, by omega, by omega⟩, prS_0 (by decide), fun _ _ _ => ⟨fun _ _ => 0, ⟨fun _ => rfl, fun f hf => by omega⟩, ?_⟩⟩ (by omega)
    · rw [prS_0 (by decide)] at hi; omega
    · unfold NM
      have : (0 : Int).toNat = 0 := rfl
      rw [this]
      omega
    · funext i
      unfold mks
      rw [prS_0]
      · rfl
      · split
        · decide
        · split
          · decide
          · split
            · decide
            · split
              · decide
              · decide
  · obtain ⟨N', rfl⟩ : ∃ N', N = N' + 1 := ⟨N - 1, by omega⟩
    show OK _ (fb_M_program_52 (N' + 1) (gg_M_program (N' + 1) N') (prS u) 1)
    unfold fb_M_program_52 fb_M_program_95
    rw [br10]
    have z' : F (prS u) 67 ≠ 0 := by rw [prS_F (by decide)]; exact z
    refine k_F (y := 0) rfl ⟨by decide, by decide⟩ (fun y => absurd y z') (fun _ => ok_some.mpr (Or.inr ⟨pr, z', ⟨?_, ?_, ?_, ?_⟩, k44, k49⟩))
    · rw [prS_0 (by decide)]; omega
    · rw [prS_0 (by decide)]; omega
    · rw [prS_F (by decide)]; exact h71.1
    · rw [prS_F (by decide)]; exact h71.2
end
