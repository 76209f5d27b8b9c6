set_option maxRecDepth 100000
section
variable {T : Nat → Option (Nat × Nat × List Nat × Nat × Nat)} {Fv : Int64 → Int64 → Prop} {P : Int64 → Prop} {u v w w1 : MS} {PR N q r n B W Y i h m g x j wb nb cb rk c f i2 h2 m2 k a U d : Nat} {L : List Nat} {ow kd : Nat → Nat} {t rest : Int64} {gi gl ga ki kl ka kj : List Nat}
theorem WRD_w (W : WRD T Fv P PR u) (k : WQ Fv P PR u w) : WRD T Fv P PR w := by
  obtain ⟨g1, g2, g3, g4, g5, g6⟩ := W
  have s := SCQ_w k.2.1
  exact ⟨k.1, CTX_s s g2, WFT_s s g3, CDT_s s g4, fun r hr hal => PSQ_w (g5 r hr (fun e => hal (k.2.2.en e))) k.2.1, ALN_k g6 (k.2.1.2.2.2.1 1948 (by omega) (by simp)) (fun r hr h1 => LNB_w h1 k.2.1)⟩
theorem WRD_g (W : WRD T Fv P PR u) (f : FC 0 gi gl ga [] [] [] [] u w) (d : DWc Fv P PR w) (h1 : ∀ k, k ∈ [22, 442, 449] → k ∉ gi) (h2 : ∀ k, k ∈ [3, 23, 25, 29, 30, 31, 32, 1948] → k ∉ ga) : WRD T Fv P PR w := by
  obtain ⟨g1, g2, g3, g4, g5, g6⟩ := W
  have s : SCQ u w := SCQ_f f h1 (fun k hk => h2 k (by simp at hk ⊢; omega))
  have hI : ∀ r k, k < 100 → w.1 (pq r k) = u.1 (pq r k) := fun r k hk => f.2.2.2.2.1 r k hk (by simp)
  have hA : ∀ r k, k < 100 → w.2.2.1 (pq r k) = u.2.2.1 (pq r k) := fun r k hk => f.2.2.2.2.2.2.1 r k hk (by simp)
  refine ⟨d, CTX_s s g2, WFT_s s g3, CDT_s s g4, fun r hr hal => PSQ_s (g5 r hr (fun e => hal ?_)) (hA r 30 (by omega)) (hA r 37 (by omega)) (fun k hk => hI r k (by simp at hk; omega)) (f.2.2.2.2.2.1 r 10 (by omega) (by simp)) (f.2.2.1 23 (by omega) (h2 23 (by simp))), ALN_k g6 (f.2.2.1 1948 (by omega) (h2 1948 (by simp))) (fun r hr h1 => LNB_fc h1 (fun k hk => hI r k (by simp at hk; omega)))⟩
  rw [show F w (pq r 9) = F u (pq r 9) from congrArg _ (hI r 9 (by omega))]; exact e
theorem DWc_g0 (dw : DWc Fv P PR u) (f : FC 0 gi gl ga [] [] [] [] u w) (h1 : ∀ k, k ∈ [942, 950, 953, 955, 956] → k ∉ gi) (h2 : ∀ k, k ∈ [1948, 53, 54] → k ∉ ga) : DWc Fv P PR w := by
  refine DWc_gl dw f (by simp) (by simp) (fun hr => ?_) (fun k hk => h1 k (by simp at hk ⊢; omega)) (by rw [f.Fg (by omega) (h1 950 (by simp))]; exact dw.1.2.2.1) (by rw [f.Fg (by omega) (h1 956 (by simp))]; exact dw.1.2.2.2.1.2) h2
  have s := (dw.2 0 hr).1
  unfold SMQ
  rw [f.Fq (by omega) (by simp), f.Fq (by omega) (by simp), f.Fq (by omega) (by simp), f.Fq (by omega) (by simp)]; exact s
theorem W22 (W : WRD T Fv P PR u) (hr : r < PR) (hal : F u (pq r 9) ≠ 3) : 0 ≤ F u (pq r 21) ∧ F u (pq r 21) ≤ 60 := by
  obtain ⟨j, wb, nb, cb, rk, i, h, m, L, x, st, -⟩ := W.2.2.2.2.1 r hr hal
  have := st.2.1; omega
theorem go_okc {y : Int32} {x : Int} (W : WRD T Fv P PR u) (hx : RG x) (hN : 600000000010 ≤ N) : OK (fun w _ => ∃ PR2, WRD T Fv P PR2 w) (hm_H_go N u (I x) y) := by
  have me : ∀ {z : Nat}, OK (fun w _ => ∃ PR2, WRD T Fv P PR2 w) (some (u, (.inr z : Int32 ⊕ Nat))) := fun {z} => ok_some.mpr ⟨PR, W⟩
  unfold hm_H_go hb_H_go_0 hb_H_go_11 hb_H_go_71
  rw [I_of y, lit0q, I_lit (n := 500)]
  refine k_lt (ti_rng _) ⟨by decide, by decide⟩ (fun _ => me) (fun h0 => k_le (ti_rng _) ⟨by decide, by decide⟩ (fun h5 => ?_) (fun _ => me))
  have h5 : y.toInt ≤ 500 := h5
  refine ok_bnd.mpr (ok_mono (findc_ok (N := N) W.1.1 hx) (fun w r hw => ?_))
  obtain ⟨rfl, hr⟩ := hw
  rcases r with _ | jj
  · exact ok_br.mpr ⟨fun _ => me, fun z => absurd z (by decide)⟩
  · refine ok_br.mpr ⟨fun z => absurd z (by simp), fun _ => ?_⟩
    rw [bo_s]
    refine k_F (y := 3) rfl ⟨by decide, by decide⟩ (fun _ => me) (fun hal => ?_)
    have g81 : OK (fun w _ => ∃ PR2, WRD T Fv P PR2 w) (hb_H_go_81 N () w (I y.toInt) jj) := by
      unfold hb_H_go_81
      exact ok_bnd.mpr (ok_mono (goOn_ok (N := N) W (hr jj rfl) hal ⟨h0, h5⟩ hN) (fun w _ hw => ok_some.mpr hw))
    refine ok_br.mpr ⟨fun _ => ?_, fun _ => g81⟩
    obtain ⟨r, e⟩ := isReady_any (N := N) (u := w) (q := jj)
    rw [e, bnd_so]
    exact ok_br.mpr ⟨fun _ => me, fun _ => g81⟩
theorem clock_okc {y : Int32} (W : WRD T Fv P PR u) : OK (fun w _ => WRD T Fv P PR w) (hm_H_clock N u y) := by
  have me : ∀ {z : Nat}, OK (fun w _ => WRD T Fv P PR w) (some (u, (.inr z : Int32 ⊕ Nat))) := fun {z} => ok_some.mpr W
  unfold hm_H_clock hb_H_clock_0 hb_H_clock_24
  refine ok_br.mpr ⟨fun _ => me, fun _ => ok_br.mpr ⟨fun _ => me, fun _ => ok_br.mpr ⟨fun _ => ok_br.mpr ⟨fun _ => me, fun _ => ok_lt.mpr (ok_some.mpr ?_)⟩, fun _ => me⟩⟩⟩
  rw [I_of (u.1 944 + y), wi_e]
  have f : FC 0 [944] [] [] [] [] [] [] u (wi u 944 (u.1 944 + y).toInt) := FC.wi_g FC.rf (by omega) (by simp)
  exact WRD_g W f (DWc_g0 W.1 f (by simp) (by simp)) (by simp) (by simp)
theorem postPair_ok {x : Int} (d : DWc Fv P PR u) (cx : CTX Fv P u) (hq : q < PR) (hx : RG x) (hN : 3000000 ≤ N) : OK (fun w _ => WQ Fv P PR u w) (hm_Wl_postPair N u q (I x)) := by
  unfold hm_Wl_postPair hb_Wl_postPair_0 hb_Wl_postPair_17
  refine k_F (y := 3) rfl ⟨by decide, by decide⟩ (fun _ => ok_some.mpr (WQ.rf d)) (fun hal => ?_)
  obtain ⟨n0, ow0, kd0, B0, W0, Y0, p0⟩ := (d.2 q hq).2.2 hal
  have sm := (d.2 q hq).1
  have hq24 := d.1.1.2
  rw [I_F (k := pq q 7), p0.2.2.2.1.1, show (30 : Int32) = I 30 from rfl]
  have pb := PTQ_b p0
  refine k_lt ⟨by omega, by omega⟩ ⟨by decide, by decide⟩ (fun hY => ?_) (fun _ => ok_some.mpr (WQ.rf d))
  rw [show hm_Pr_want N u q 3 = hm_Pr_want N u q (I 3) from rfl]
  refine ok_bnd.mpr (ok_mono (want_ok (N := N) p0 cx ⟨by decide, by decide⟩ (by omega)) (fun w r hw => ?_))
  obtain ⟨hr, U, ow2, kd2, p2, hU, f2, sB, sW⟩ := hw
  have fc := FC_want f2
  have hal2 : F w (pq q 9) ≠ 3 := by rw [fc.Fq (by omega) (by simp)]; exact hal
  have sm2 : SMQ w q := SMQ_up sm (fc.Fq (by omega) (by simp)) (fc.Fq (by omega) (by simp)) (by rw [fc.Fq (by omega) (by simp)]; exact Int.le_refl _) hal
  have d2 : DWc Fv P PR w := DWc_fc d fc hq hal hal2 sm2 ⟨U, ow2, kd2, B0, W0, Y0, p2⟩ (by simp) (by simp)
  have w44 : w.2.2.2 44 = u.2.2.2 44 := f2.2.2.2 44 (by simp; unfold pq; omega)
  have wf2 : WFR u w := fc.W (by simp) (by simp) (by simp) (by simp) (by simp) (by simp) w44
  have st2 : ST3 u w := ST3.of fc (by simp) (by simp)
  have cx2 : CTX Fv P w := CTX_fr cx (fc.1 22 (by omega) (by simp)) (fc.2.2.1 3 (by omega) (by simp))
  rcases hr with rfl | rfl
  · refine ok_br.mpr ⟨fun _ => ?_, fun y => absurd y (by decide)⟩
    exact ok_bnd.mpr (ok_mono (endsBy_any (N := N) (a := 20) d2 cx2 hq (by omega)) (fun w3 _ hw3 => ok_some.mpr (WQ.tr ⟨d2, wf2, st2⟩ hw3)))
  · refine ok_br.mpr ⟨fun y => absurd y (by decide), fun _ => ?_⟩
    have hU := hU rfl
    have hU : (U : Int) + 3 ≤ 500 := hU
    have e4 : w.1 (pq q 4) = I ((U : Nat) : Int) := by rw [I_F, p2.1.1]
    rw [e4, show hm_Te_make N w 8 2 = hm_Te_make N w (I 8) (I 2) from rfl, e_make, bnd_so]
    refine e_in ⟨by omega, by omega⟩ (by decide) (ok_lt.mpr ?_)
    rw [tnI (n := U) rfl (by omega), wj_e, lit0q, e_make, bnd_so, lit1q, I_add]
    refine e_in ⟨by omega, by omega⟩ (by decide) (ok_lt.mpr ?_)
    rw [tnI (n := U + 1) (by omega) (by omega), wj_e, I_lit (n := 4), show Int32.ofNat q = I ((q : Nat) : Int) from rfl, e_make, bnd_so, I_lit (n := 2), I_add]
    refine e_in ⟨by show 0 ≤ _ + (2 : Int); omega, by show _ + (2 : Int) < _; omega⟩ (by decide) (ok_lt.mpr (ok_lt.mpr ?_))
    rw [tnI (n := U + 2) (by show _ + (2 : Int) = _; omega) (by omega), wj_e]
    have row : ∀ k, (wj (wj (wj w (pq q 2) U (mk 8 2)) (pq q 2) (U + 1) (mk 0 x)) (pq q 2) (U + 2) (mk 4 ((q : Nat) : Int))).2.2.2 (pq q 2) k = if k = U + 2 then mk 4 ((q : Nat) : Int) else if k = U + 1 then mk 0 x else if k = U then mk 8 2 else w.2.2.2 (pq q 2) k := fun k => by rw [CEL.row, CEL.row, CEL.row]
    have cl : CEL q w (wj (wj (wj w (pq q 2) U (mk 8 2)) (pq q 2) (U + 1) (mk 0 x)) (pq q 2) (U + 2) (mk 4 ((q : Nat) : Int))) := CEL.rf.put.put.put
    have j44 : (wj (wj (wj w (pq q 2) U (mk 8 2)) (pq q 2) (U + 1) (mk 0 x)) (pq q 2) (U + 2) (mk 4 ((q : Nat) : Int))).2.2.2 44 = w.2.2.2 44 := cl.2.2.1 44 (by unfold pq; omega)
    show OK _ (bnd (hm_Te_make N (upI (wj (wj (wj w (pq q 2) U (mk 8 2)) (pq q 2) (U + 1) (mk 0 x)) (pq q 2) (U + 2) (mk 4 ((q : Nat) : Int))) (pq q 4) _) _ _) _)
    generalize wj (wj (wj w (pq q 2) U (mk 8 2)) (pq q 2) (U + 1) (mk 0 x)) (pq q 2) (U + 2) (mk 4 ((q : Nat) : Int)) = y at cl row j44 ⊢
    rw [show y.1 (pq q 4) = I ((U : Nat) : Int) by rw [cl.2.1]; exact e4, I_lit (n := 3), I_add, show ((U : Nat) : Int) + (OfNat.ofNat 3 : Int) = ((U + 3 : Nat) : Int) by show _ + (3 : Int) = _; omega, wi_e, I_lit (n := 5), e_make, bnd_so]
    have nh : ∀ {s y : Int}, s = 0 ∨ s = 4 → RG y → ¬ isH (mk s y) ∧ P (mk s y) := fun {s y} hs hy => ⟨nh_mk2 (by omega), by
      rcases hs with rfl | rfl
      · exact (cx.2.2.2.2.1 y hy).1
      · exact (cx.2.2.2.2.1 y hy).2.2⟩
    have z0 : ∀ {t : Int64}, (¬ isH t ∧ P t) → SZc (w.2.2.2 (pq q 2)) U ow2 kd2 Fv P 1 t 0 := fun ht => Or.inl ⟨ht.1, ht.2, rfl⟩
    obtain ⟨ow3, kd3, k1, k2, k3⟩ := TUP_new (k := 2) (s := fun _ => 0) (f0 := 1) (h2 := y.2.2.2 (pq q 2)) p2.1.2.2 (fun i hi => by rw [row, if_neg (by omega), if_neg (by omega), if_neg (by omega)]) (by rw [row, if_neg (by omega), if_neg (by omega), if_pos rfl]; rfl) (fun j hj => by
      rcases (show j = 0 ∨ j = 1 by omega) with rfl | rfl
      · rw [row, if_neg (by omega), if_pos (by omega)]; exact z0 (nh (Or.inl rfl) hx)
      · rw [row, if_pos (by omega)]; exact z0 (nh (Or.inr rfl) ⟨by omega, by omega⟩)) (by decide) (by omega)
    have f3 : FC q [] [] [] [4] [] [] [2] w (wi y (pq q 4) ((U + 3 : Nat) : Int)) := FC.wi_q (FC.mo cl.1 (by simp) (by simp) (by simp) (by simp) (by simp) (by simp) (by simp)) (by omega) (by simp)
    have p3 := PTQ_cells p2 f3 (by rw [F_wi (by omega) (by omega), if_pos rfl]) (by omega) k1 k3
    refine ok_bnd.mpr (ok_mono (comes_ok (N := N) p3 (by omega) k2) (fun w4 _ h4 => ok_some.mpr ?_))
    obtain ⟨f4, p4, q4⟩ := h4
    have f5 : FC q [] [] [] [4, 7] [] [] [2, 6] w w4 := FC.tr (FC.mo f3 (by simp) (by simp) (by simp) (by simp) (by simp) (by simp) (by simp)) (FC.mo f4 (by simp) (by simp) (by simp) (by simp) (by simp) (by simp) (by simp))
    have hal4 : F w4 (pq q 9) ≠ 3 := by rw [f5.Fq (by omega) (by simp)]; exact hal2
    have le7 : F w (pq q 7) ≤ F w4 (pq q 7) := by rw [p4.2.2.2.1.1, p2.2.2.2.1.1]; omega
    have sm4 : SMQ w4 q := SMQ_up sm2 (f5.Fq (by omega) (by simp)) (f5.Fq (by omega) (by simp)) le7 hal2
    exact ⟨DWc_fc d2 f5 hq hal2 hal4 sm4 ⟨_, _, _, _, _, _, p4⟩ (by simp) (by simp), WFR.tr wf2 (f5.W (by simp) (by simp) (by simp) (by simp) (by simp) (by simp) (q4.trans j44)), ST3.tr st2 (ST3.of f5 (by simp) (fun _ => le7))⟩
theorem send_okc {x z : Int} {y : Int32} (W : WRD T Fv P PR u) (hx : RG x) (hz : RG z) (hN : 3000000 ≤ N) : OK (fun w _ => WRD T Fv P PR w) (hm_H_send N u (I x) y (I z)) := by
  have me : ∀ {z : Nat}, OK (fun w _ => WRD T Fv P PR w) (some (u, (.inr z : Unit ⊕ Nat))) := fun {z} => ok_some.mpr W
  have s112 : ∀ w, WQ Fv P PR u w → OK (fun w _ => WRD T Fv P PR w) (hb_H_send_112 N () w) := fun w hw => by
    unfold hb_H_send_112
    exact ok_bnd.mpr (ok_mono (settle_ok (N := N) hw.1 (CTX_w W.2.1 hw.2.1) hN) (fun w2 _ hw2 => ok_some.mpr (WRD_w W (WQ.tr hw hw2))))
  have s91 : ∀ (jj : Nat) (s : Int), jj < PR → (s = 0 ∨ s = 1) → (s = 1 → 0 ≤ z ∧ z < F u 22) → OK (fun w _ => WRD T Fv P PR w) (hb_H_send_91 N () u (I z) (some jj) (I s)) := fun jj s hj hs h1 => by
    unfold hb_H_send_91
    rw [e_make, bnd_so, bo_s, lit0q]
    refine ok_bnd.mpr (ok_mono (postc_ok (N := N) (a := 0) (v3 := 0) (v4 := 0) W.1 W.2.1 hj (Or.inl rfl) ⟨by decide, by decide⟩ ⟨by decide, by decide⟩ (fun _ => Or.inl ⟨rfl, nh_mk2 (by omega), ?_⟩) hN) (fun w _ hw => s112 w hw.1))
    rcases hs with rfl | rfl
    · exact (W.2.1.2.2.2.2.1 z hz).1
    · exact W.2.1.2.2.2.2.2.1 z (h1 rfl).1 (h1 rfl).2
  have s45 : ∀ (jj : Nat), jj < PR → (y = 1 → 0 ≤ z ∧ z < F u 22) → OK (fun w _ => WRD T Fv P PR w) (hb_H_send_45 N () u y (I z) (some jj)) := fun jj hj h1 => by
    unfold hb_H_send_45 hb_H_send_54
    rw [bo_s]
    have y1 : decide (y < 0) = false → decide (y ≤ 2) = true → decide (y = 2) = false → decide (y = 0) = false → y = 1 := fun a b c d => by
      have a := of_decide_eq_false a
      have b := of_decide_eq_true b
      have c := of_decide_eq_false c
      have d := of_decide_eq_false d
      rw [I_of y] at a b c d ⊢
      have r := ti_rng y
      have a2 : ¬ y.toInt < 0 := fun z => a ((I_lt r.1 r.2 (by decide) (by decide)).mpr z)
      have b2 : y.toInt ≤ 2 := (I_le r.1 r.2 (by decide) (by decide)).mp b
      have c2 : y.toInt ≠ 2 := fun z => c (by rw [z]; rfl)
      have d2 : y.toInt ≠ 0 := fun z => d (by rw [z]; rfl)
      rw [show y.toInt = 1 by omega]; rfl
    refine ok_br.mpr ⟨fun _ => me, fun c1 => ok_br.mpr ⟨fun c2 => ok_br.mpr ⟨fun _ => ?_, fun c3 => ok_br.mpr ⟨fun _ => s91 jj 0 hj (Or.inl rfl) (fun z => absurd z (by decide)), fun c4 => s91 jj 1 hj (Or.inr rfl) (fun _ => h1 (y1 c1 c2 c3 c4))⟩⟩, fun _ => me⟩⟩
    exact ok_bnd.mpr (ok_mono (postPair_ok (N := N) W.1 W.2.1 hj hz hN) (fun w _ hw => s112 w hw))
  unfold hm_H_send hb_H_send_0 hb_H_send_35
  refine ok_bnd.mpr (ok_mono (findc_ok (N := N) W.1.1 hx) (fun w r hw => ?_))
  obtain ⟨rfl, hr⟩ := hw
  rcases r with _ | jj
  · exact ok_br.mpr ⟨fun _ => me, fun z => absurd z (by decide)⟩
  · refine ok_br.mpr ⟨fun z => absurd z (by simp), fun _ => ok_br.mpr ⟨fun _ => ?_, fun c1 => s45 jj (hr jj rfl) (fun e => absurd e (of_decide_eq_false c1))⟩⟩
    rw [lit0q, I_F (k := 22)]
    exact k_lt hz ⟨by decide, by decide⟩ (fun _ => me) (fun h0 => k_lt hz (FRG1 w _) (fun h1 => s45 jj (hr jj rfl) (fun _ => ⟨h0, h1⟩)) (fun _ => me))
theorem of_any {y : Int32} {z : Int} (h21 : F u (pq q 21) ≤ 60) (hz : 0 ≤ z ∧ z ≤ 4) : ∃ r, hm_Fr_of N u q y (I z) = some (u, r) := by
  unfold hm_Fr_of hb_Fr_of_0 hb_Fr_of_26 hb_Fr_of_12 hb_Fr_of_26
  rw [I_of y, lit0q, I_F (k := pq q 21)]
  have r := ti_rng y
  rw [decL r.1 r.2 (by decide) (by decide), decL r.1 r.2 (FRG1 u _).1 (FRG1 u _).2]
  by_cases h0 : y.toInt < 0
  · rw [decide_eq_true h0, br_tq]; exact ⟨_, rfl⟩
  · rw [decide_eq_false h0, br_fq]
    by_cases h1 : y.toInt < F u (pq q 21)
    · rw [decide_eq_true h1, br_tq, I_lit (n := 5), I_mul, I_add, (I_inb (by show _ ≤ _ * (5 : Int) + _; omega) (by show _ * (5 : Int) + _ < _; omega)).mpr ⟨by show 0 ≤ _ * (5 : Int) + _; omega, by show _ * (5 : Int) + _ < _; omega⟩, ck_t]
      exact ⟨_, rfl⟩
    · rw [decide_eq_false h1, br_fq]; exact ⟨_, rfl⟩
theorem namesIn_any {y : Int32} (h21 : F u (pq q 21) ≤ 60) : ∃ r, hm_Fr_namesIn N u q y = some (u, r) := by
  unfold hm_Fr_namesIn hb_Fr_namesIn_0 hb_Fr_namesIn_25
  rw [I_lit (n := 2)]
  obtain ⟨r1, e1⟩ := of_any (N := N) (y := y) (z := 2) h21 (by omega)
  obtain ⟨r2, e2⟩ := of_any (N := N) (y := y + 1) (z := 2) h21 (by omega)
  rw [e2, bnd_so, e1, bnd_so, bnd_so]
  exact br_any ⟨_, rfl⟩ ⟨_, rfl⟩
theorem waitsIn_any {y : Int32} (h21 : F u (pq q 21) ≤ 60) : ∃ r, hm_Fr_waitsIn N u q y = some (u, r) := by
  unfold hm_Fr_waitsIn hb_Fr_waitsIn_0 hb_Fr_waitsIn_25
  rw [I_lit (n := 3)]
  obtain ⟨r1, e1⟩ := of_any (N := N) (y := y) (z := 3) h21 (by omega)
  obtain ⟨r2, e2⟩ := of_any (N := N) (y := y + 1) (z := 3) h21 (by omega)
  rw [e2, bnd_so, e1, bnd_so, bnd_so]
  exact br_any ⟨_, rfl⟩ ⟨_, rfl⟩
theorem frame_okc {x : Int} {y z : Int32} (W : WRD T Fv P PR u) (hx : RG x) : OK (fun w _ => w = u) (hm_H_frame N u (I x) y z) := by
  unfold hm_H_frame hb_H_frame_0 hb_H_frame_40
  refine ok_bnd.mpr (ok_mono (findc_ok (N := N) W.1.1 hx) (fun w r hw => ?_))
  obtain ⟨rfl, hr⟩ := hw
  rcases r with _ | jj
  · exact ok_br.mpr ⟨fun _ => ok_some.mpr rfl, fun z => absurd z (by decide)⟩
  · refine ok_br.mpr ⟨fun z => absurd z (by simp), fun _ => ?_⟩
    rw [bo_s]
    refine k_F (y := 3) rfl ⟨by decide, by decide⟩ (fun _ => ok_some.mpr rfl) (fun hal => ?_)
    have h21 := (W22 W (hr jj rfl) hal).2
    obtain ⟨r0, e0⟩ := of_any (N := N) (y := (w.1 (pq jj 21) - 1) - y) (z := 0) h21 (by omega)
    obtain ⟨r1, e1⟩ := of_any (N := N) (y := (w.1 (pq jj 21) - 1) - y) (z := 1) h21 (by omega)
    obtain ⟨r2, e2⟩ := namesIn_any (N := N) (y := (w.1 (pq jj 21) - 1) - y) h21
    obtain ⟨r3, e3⟩ := waitsIn_any (N := N) (y := (w.1 (pq jj 21) - 1) - y) h21
    have e0 : hm_Fr_of N w jj ((w.1 (pq jj 21) - 1) - y) 0 = some (w, r0) := e0
    have e1 : hm_Fr_of N w jj ((w.1 (pq jj 21) - 1) - y) 1 = some (w, r1) := e1
    rw [e0, e1, e2, e3, bnd_so, bnd_so, bnd_so, bnd_so]
    exact ok_br.mpr ⟨fun _ => ok_some.mpr rfl, fun _ => ok_br.mpr ⟨fun _ => ok_br.mpr ⟨fun _ => ok_some.mpr rfl, fun _ => ok_br.mpr ⟨fun _ => ok_some.mpr rfl, fun _ => ok_br.mpr ⟨fun _ => ok_some.mpr rfl, fun _ => ok_br.mpr ⟨fun _ => ok_some.mpr rfl, fun _ => ok_some.mpr rfl⟩⟩⟩⟩, fun _ => ok_some.mpr rfl⟩⟩
end
