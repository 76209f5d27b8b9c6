set_option maxRecDepth 100000
section
variable {Fv : Int64 → Int64 → Prop} {P : Int64 → Prop} {u v w m m2 : MS} {PR N q r n B W Y : Nat} {ow kd : Nat → Nat} {t : Int64} {h h2 : Nat → Int64} {src : Option Nat} {gi gl ga ki kl ka kj : List Nat}
theorem postc_ok {a : Nat} {v3 v4 : Int} (d : DWc Fv P PR u) (cx : CTX Fv P u) (hq : q < PR) (ha : a = 0 ∨ a = 4 ∨ a = 5) (h3 : RG v3) (h4 : RG v4) (hs : F u (pq q 9) ≠ 3 → SRCc Fv P PR u q t src) (hN : 3000000 ≤ N) : OK (fun w _ => WQ Fv P PR u w ∧ F w 956 = F u 956) (hm_Wl_post N u q (I ((a : Nat) : Int)) (I v3) (I v4) t src) := by
  by_cases e : F u (pq q 9) = 3
  · unfold hm_Wl_post hb_Wl_post_0 hb_Wl_post_17
    exact k_F (y := 3) rfl ⟨by decide, by decide⟩ (fun _ => ok_some.mpr ⟨WQ.rf d, rfl⟩) (fun z => absurd e z)
  · exact ok_mono (post_ok d cx hq ha h3 h4 (hs e) hN) (fun w _ hw => ⟨⟨hw.1, hw.2.1, hw.2.2.2⟩, hw.2.2.1⟩)
def SMLc (Fv : Int64 → Int64 → Prop) (P : Int64 → Prop) (u : MS) (q : Nat) (t : Int64) (src : Option Nat) : Prop := ∀ j, src = some j → F u (pq j 9) ≠ 3 → j ≠ q → ∃ n ow kd f0 s, n ≤ 512 ∧ HPc (u.2.2.2 (pq j 2)) n ow kd Fv P ∧ SZc (u.2.2.2 (pq j 2)) n ow kd Fv P f0 t s ∧ s ≤ 500
theorem signalc_ok {x : Int} (d : DWc Fv P PR u) (cx : CTX Fv P u) (hq : q < PR) (hx : RG x) (hs : F u (pq q 9) ≠ 3 → SRCc Fv P PR u q t src) (hz : F u (pq q 9) ≠ 3 → SMLc Fv P u q t src) (hN : 3000000 ≤ N) : OK (fun w _ => WQ Fv P PR u w ∧ F w 956 = F u 956) (hm_Wl_signal N u (I x) q t src) := by
  unfold hm_Wl_signal hb_Wl_signal_0
  refine k_F (y := 3) rfl ⟨by decide, by decide⟩ (fun _ => ok_some.mpr ⟨WQ.rf d, rfl⟩) (fun hal => ?_)
  have hs0 := hs hal
  have hz0 := hz hal
  refine k_F (y := 0) rfl ⟨by decide, by decide⟩ (fun _ => ?_) (fun _ => ?_)
  · rw [lit1q, I_lit (n := 4), e_make, bnd_so]
    have main : OK (fun w _ => WQ Fv P PR u w ∧ F w 956 = F u 956) (hb_Wl_signal_59 N () u q t src) := by
      unfold hb_Wl_signal_59 hb_Wl_signal_70 hb_Wl_signal_121
      have en : ∀ {u1 : MS} {hq1 n2 : Nat} {ow2 kd2 : Nat → Nat} {t1 : Int64}, DWo Fv P PR q u1 → WFR u u1 → F u1 956 = F u 956 → ST3 u u1 → F u1 (pq q 9) ≠ 3 → hq1 < PR → (hq1 = q ∨ F u1 (pq hq1 9) = 3) → n2 ≤ 512 → HPc (u1.2.2.2 (pq hq1 2)) n2 ow2 kd2 Fv P → GT n2 ow2 kd2 P t1 → OK (fun w _ => WQ Fv P PR u w ∧ F w 956 = F u 956) (bnd (hm_Wl_endsWith N u1 q t1 hq1) (fun u10 _ => some (u10, ()))) := by
        intro u1 hq1 n2 ow2 kd2 t1 d1 wf e9 st hal1 hh hh2 hn g gt
        refine ok_bnd.mpr (ok_mono (endsWith_ok (N := N) d1 hq hal1 hh hh2 hn g gt) (fun w3 _ hw3 => ok_some.mpr ?_))
        obtain ⟨k1, k2, k3, k4, k5, k6, k7⟩ := hw3
        exact ⟨⟨k1, WFR.tr wf k2, ST3.tr st (ST3.ends k3 k4 k7)⟩, by rw [k5]; exact e9⟩
      rcases hs0 with ⟨rfl, c1, c2⟩ | ⟨j, ns, os, ks, rfl, hj, hns, g, gt, hjq⟩
      · obtain ⟨n0, ow0, kd0, B0, W0, Y0, p0⟩ := (d.2 q hq).2.2 hal
        exact ok_br.mpr ⟨fun _ => en (DWo_of d) WFR.rf rfl ST3.rf hal hq (Or.inl rfl) (by have := p0.1.2.1; omega) p0.1.2.2 (Or.inl ⟨c1, c2⟩), fun y => absurd y (by decide)⟩
      · refine ok_br.mpr ⟨fun y => absurd y (by simp), fun _ => ok_br.mpr ⟨fun y => ?_, fun y => ?_⟩⟩
        · have ejq : j = q := by have := of_decide_eq_true y; injection this
          subst ejq
          exact en (DWo_of d) WFR.rf rfl ST3.rf hal hq (Or.inl rfl) hns g gt
        · have ejq : j ≠ q := fun e => of_decide_eq_false y (by rw [e])
          rw [bo_s]
          refine k_F (y := 3) rfl ⟨by decide, by decide⟩ (fun e3 => ?_) (fun e3 => ?_)
          · exact en (DWo_of d) WFR.rf rfl ST3.rf hal hj (Or.inr e3) hns g gt
          · obtain ⟨n1, ow1, kd1, f0, s, hn1, g1, z1, hs1⟩ := hz0 j rfl e3 ejq
            refine ok_lt.mpr ?_
            rw [lit0q, wi_e]
            generalize hw1 : wi u (pq q 4) 0 = w1
            have f1 : FC q [] [] [] [4] [] [] [2] u w1 := by rw [← hw1]; exact FC.wi_q FC.rf (by omega) (by simp)
            have e1 : F w1 (pq q 4) = ((0 : Nat) : Int) := by rw [← hw1, F_wi (by omega) (by omega), if_pos rfl]; rfl
            have j1 : w1.2.2.2 = u.2.2.2 := by rw [← hw1]; rfl
            refine ok_bnd.mpr (ok_mono (copyIn_ok (N := N) (s0 := 0) (owd := fun _ => 0) (kdd := fun _ => 0) g1 cx.1 hn1 (by omega) (fun i hi => by rw [j1]) (fun e => absurd (pq_e (by omega) (by omega) e).1 ejq) z1 e1 HP_0 (by omega)) (fun w2 r hw2 => ?_))
            obtain ⟨f2, e2, k2, ow2, kd2, g2, o2, t2, r2, f3, z2⟩ := hw2
            have fc2 : FC q [] [] [] [4] [] [] [2] w1 w2 := FC.ofq (ki := [4]) (kj := [2]) f2 (by simp) (by simp)
            have fc := FC.tr f1 fc2
            have hal1 : F w2 (pq q 9) ≠ 3 := by rw [fc.Fq (by omega) (by simp)]; exact hal
            have sm2 : SMQ w2 q := SMQ_up (d.2 q hq).1 (fc.Fq (by omega) (by simp)) (fc.Fq (by omega) (by simp)) (by rw [fc.Fq (by omega) (by simp)]; exact Int.le_refl _) hal
            have q5 : w2.2.2.2 44 = u.2.2.2 44 := by rw [f2.2.2.2 44 (by simp; unfold pq; omega), j1]
            exact en (DWo_fc (DWo_of d) fc hq hal hal1 sm2 (by simp) (by simp)) (fc.W (by simp) (by simp) (by simp) (by simp) (by simp) (by simp) q5) (fc.Fg (by omega) (by simp)) (ST3.of fc (by simp) (by simp)) hal1 hq (Or.inl rfl) (by omega) g2 r2
    have mid : ∀ t0 : Int32, OK (fun w _ => WQ Fv P PR u w ∧ F w 956 = F u 956) (hb_Wl_signal_43 N () u (I x) q t src t0) := by
      intro t0
      unfold hb_Wl_signal_43
      exact ok_br.mpr ⟨fun _ => main, fun _ => ok_br.mpr ⟨fun _ => main, fun _ => ok_some.mpr ⟨WQ.rf d, rfl⟩⟩⟩
    exact ok_br.mpr ⟨fun _ => mid _, fun _ => mid _⟩
  · rw [lit0q, I_lit (n := 4)]
    exact ok_bnd.mpr (ok_mono (postc_ok (N := N) (a := 4) (v4 := 0) d cx hq (Or.inr (Or.inl rfl)) hx ⟨by decide, by decide⟩ hs hN) (fun w _ hw => ok_some.mpr hw))
theorem SRC_end (e : EPQ Fv P PR u r) (hal : F u (pq q 9) ≠ 3) : SRCc Fv P PR u q (u.2.1 (pq r 16)) (rf (u.1 (pq r 17))) ∧ SMLc Fv P u q (u.2.1 (pq r 16)) (rf (u.1 (pq r 17))) := by
  obtain ⟨hq, n, ow, kd, e1, e2, e3, e4, e5, e6⟩ := e
  refine ⟨Or.inr ⟨hq, n, ow, kd, e1, e2, e4, e5, e6, fun z => absurd (z ▸ e3) hal⟩, fun j hj h3 => ?_⟩
  rw [e1] at hj
  injection hj with hj
  exact absurd (hj ▸ e3) h3
theorem cEc_mono : ∀ k, (∀ r, F m (pq r 9) = 3 → F m2 (pq r 9) = 3) → cEc m k ≤ cEc m2 k
  | 0, _ => Nat.le_refl _
  | k + 1, h => by
    have := cEc_mono k h
    show cEc m k + _ ≤ cEc m2 k + _
    by_cases e : F m (pq k 9) = 3
    · rw [if_pos e, if_pos (h k e)]; omega
    · rw [if_neg e]; omega
theorem tellWatchers_ok (d : DWc Fv P PR u) (cx : CTX Fv P u) (hq : q < PR) (he : F u (pq q 9) = 3) (hN : 3000000 ≤ N) : OK (fun w _ => WQ Fv P PR u w ∧ F w 956 = F u 956) (hm_Wl_tellWatchers N u q) := by
  unfold hm_Wl_tellWatchers hb_Wl_tellWatchers_0
  have hPR := d.1.1.2
  have gen : ∀ (M i k : Nat) (w : MS), i ≤ 200 → 200 - i < M → k ≤ i → WQ Fv P PR u w → F w 956 = F u 956 → OK (fun w _ => WQ Fv P PR u w ∧ F w 956 = F u 956) (hg_Wl_tellWatchers N M w q (I ((k : Nat) : Int)) (I ((i : Nat) : Int))) := by
    intro M
    induction M with
    | zero => intro i _ _ _ h; omega
    | succ M ih =>
      intro i k w hi hM hk wq e956
      show OK _ (hb_Wl_tellWatchers_4 N (hg_Wl_tellWatchers N M) w q (I ((k : Nat) : Int)) (I ((i : Nat) : Int)))
      unfold hb_Wl_tellWatchers_4
      have s := wq.1.1.2.2.1
      rw [I_F (k := 950)]
      refine k_le (FRG1 w _) ⟨by omega, by omega⟩ (fun hh => ok_lt.mpr (ok_some.mpr ?_)) (fun h1 => ?_)
      · rw [wi_e]
        have f2 : FC 0 [950] [] [49, 50, 51] [] [] [] [] w (wi w 950 ((k : Nat) : Int)) := FC.wi_g FC.rf (by omega) (by simp)
        refine ⟨WQ.tr wq (WQ_wt wq.1 f2 ?_ rfl), by rw [f2.Fg (by omega) (by simp)]; exact e956⟩
        rw [F_wi (by omega) (by omega), if_pos rfl]; omega
      · have nx : ∀ (w2 : MS) (k2 : Nat), k2 ≤ i + 1 → WQ Fv P PR u w2 → F w2 956 = F u 956 → OK (fun w _ => WQ Fv P PR u w ∧ F w 956 = F u 956) (hb_Wl_tellWatchers_92 N (hg_Wl_tellWatchers N M) w2 q (I ((k2 : Nat) : Int)) (I ((i : Nat) : Int))) := by
          intro w2 k2 hk2 f2 hj2
          unfold hb_Wl_tellWatchers_92
          rw [lit1q, I_add, show ((i : Nat) : Int) + 1 = ((i + 1 : Nat) : Int) by omega]
          exact ih (i + 1) k2 w2 (by omega) (by omega) (by omega) f2 hj2
        have kp : OK (fun w _ => WQ Fv P PR u w ∧ F w 956 = F u 956) (hb_Wl_tellWatchers_70 N (hg_Wl_tellWatchers N M) w q (I ((k : Nat) : Int)) (I ((i : Nat) : Int))) := by
          unfold hb_Wl_tellWatchers_70
          refine e_in ⟨by omega, by omega⟩ (by decide) ?_
          refine ok_br.mpr ⟨fun _ => nx w k (by omega) wq e956, fun _ => ?_⟩
          refine ok_bnd.mpr (ok_mono (keepWatch_ok (N := N) ⟨by omega, by omega⟩ ⟨by omega, by omega⟩) (fun w2 _ hw => ?_))
          rw [lit1q, I_add (x := ((k : Nat) : Int)), show ((k : Nat) : Int) + 1 = ((k + 1 : Nat) : Int) by omega]
          have f2 : FC 0 [950] [] [49, 50, 51] [] [] [] [] w w2 := FC.mo hw.1 (by simp) (by simp) (by simp) (by simp) (by simp) (by simp) (by simp)
          exact nx w2 (k + 1) (by omega) (WQ.tr wq (WQ_wt wq.1 f2 (by rw [hw.1.Fg (by omega) (by simp)]; exact s) hw.2.1)) (by rw [hw.1.Fg (by omega) (by simp)]; exact e956)
        refine e_in ⟨by omega, by omega⟩ (by decide) ?_
        rw [I_A (k := 49)]
        refine ok_bnd.mpr (ok_mono (findc_ok (N := N) wq.1.1 (ARG1 w _ _)) (fun w2 r hw => ?_))
        obtain ⟨rfl, hr⟩ := hw
        refine e_in ⟨by omega, by omega⟩ (by decide) ?_
        refine ok_br.mpr ⟨fun _ => ?_, fun _ => kp⟩
        rcases r with _ | j
        · exact ok_br.mpr ⟨fun _ => kp, fun z => absurd z (by decide)⟩
        · refine ok_br.mpr ⟨fun z => absurd z (by simp), fun _ => e_in ⟨by omega, by omega⟩ (by decide) ?_⟩
          rw [bo_s, I_A (k := 51), I_lit (n := 5), show Int32.ofNat q = I ((q : Nat) : Int) from rfl]
          have eq := (wq.1.2 q hq).2.1 (wq.2.2.en he)
          refine ok_bnd.mpr (ok_mono (postc_ok (N := N) (a := 5) wq.1 (CTX_w cx wq.2.1) (hr j rfl) (Or.inr (Or.inr rfl)) ⟨by omega, by omega⟩ (ARG1 w2 _ _) (fun hal => (SRC_end eq hal).1) hN) (fun w3 _ hw3 => ?_))
          exact nx w3 k (by omega) (WQ.tr wq hw3.1) (by rw [hw3.2]; exact e956)
  rw [lit0q, show (0 : Int) = ((0 : Nat) : Int) from rfl]
  exact gen N 0 0 u (by omega) (by omega) (by omega) (WQ.rf d) rfl
theorem settle_ok (d : DWc Fv P PR u) (cx : CTX Fv P u) (hN : 3000000 ≤ N) : OK (fun w _ => WQ Fv P PR u w) (hm_Wl_settle N u) := by
  have hPR := d.1.1.2
  unfold hm_Wl_settle
  have inn : ∀ (G : (MS → Option (MS × Unit)) × (MS → Nat → Int32 → Option (MS × Unit))) (k : Nat), (∀ w, WQ Fv P PR u w → F w 956 = ((k + 1 : Nat) : Int) → OK (fun w _ => WQ Fv P PR u w) (G.1 w)) → ∀ (w : MS) (q i : Nat), WQ Fv P PR u w → F w 956 = ((k : Nat) : Int) → F w 956 < F w 955 → q < PR → F w (pq q 9) = 3 → i ≤ 24 → (∀ w2, WQ Fv P PR u w2 → F w2 956 = ((k : Nat) : Int) → F w2 956 < F w2 955 → F w2 (pq q 9) = 3 → i < 24 → OK (fun w _ => WQ Fv P PR u w) (G.2 w2 q (I ((i + 1 : Nat) : Int)))) → OK (fun w _ => WQ Fv P PR u w) (hb_Wl_settle_40 N G w q (I ((i : Nat) : Int))) := by
    intro G k hG1 w q i wq ek el hq he hi hG2
    unfold hb_Wl_settle_40
    have sm := (wq.1.2 q hq).1
    have s := sm.1
    have g14 := wq.1.1.2.2.1
    have g16 := wq.1.1.2.2.2.1
    have hce := cEc_le w PR
    rw [I_F (k := pq q 15)]
    refine k_le (FRG1 w _) ⟨by omega, by omega⟩ (fun _ => ok_lt.mpr ?_) (fun h1 => ?_)
    · rw [lit0q, wi_e]
      generalize hw1 : wi w (pq q 15) 0 = w1
      have f1 : FC q [] [] [] [15] [] [14] [] w w1 := by rw [← hw1]; exact FC.wi_q FC.rf (by omega) (by simp)
      have e15 : F w1 (pq q 15) = 0 := by rw [← hw1, F_wi (by omega) (by omega), if_pos rfl]
      have wq1 := WQ_lk wq.1 hq f1 (by omega) (by rw [← hw1]; rfl)
      have wq2 := WQ.tr wq wq1
      have e9 : F w1 956 = F w 956 := f1.Fg (by omega) (by simp)
      refine ok_bnd.mpr (ok_mono (tellWatchers_ok (N := N) wq1.1 (CTX_w cx wq2.2.1) hq (wq1.2.2.en he) hN) (fun w2 _ hw2 => ?_))
      unfold hb_Wl_settle_104
      refine ok_lt.mpr ?_
      have wq3 := WQ.tr wq2 hw2.1
      have e92 : F w2 956 = ((k : Nat) : Int) := by rw [hw2.2, e9]; exact ek
      have hm := cEc_mono (m := w) (m2 := w2) PR (fun r hr => hw2.1.2.2.en (wq1.2.2.en hr))
      have a1 := hw2.1.1.1.2.2.2.1.1
      rw [I_F (k := 956), e92, lit1q, I_add, wi_e]
      have e93 : F (wi w2 956 ((k : Nat) + 1)) 956 = ((k + 1 : Nat) : Int) := by rw [F_wi (by omega) (by omega), if_pos rfl]; rfl
      have f2 : FC 0 [956] [] [] [] [] [] [] w2 (wi w2 956 ((k : Nat) + 1)) := FC.wi_g FC.rf (by omega) (by simp)
      refine hG1 _ (WQ.tr wq3 ⟨DWc_gl hw2.1.1 f2 (by simp) (by simp) (fun h0 => ?_) (by simp) ?_ ?_ (by simp), f2.W (by simp) (by simp) (by simp) (by simp) (by simp) (by simp) rfl, ST3.of f2 (by simp) (by simp)⟩) e93
      · unfold SMQ
        rw [f2.Fq (by omega) (by simp), f2.Fq (by omega) (by simp), f2.Fq (by omega) (by simp), f2.Fq (by omega) (by simp)]; exact (hw2.1.1.2 0 h0).1
      · rw [f2.Fg (by omega) (by simp)]; exact hw2.1.1.1.2.2.1
      · rw [e93, a1]; omega
    · refine e_in ⟨by omega, by omega⟩ (by decide) ?_
      rw [I_A (k := pq q 14)]
      refine ok_bnd.mpr (ok_mono (findc_ok (N := N) wq.1.1 (ARG1 w _ _)) (fun w2 r hw => ?_))
      obtain ⟨rfl, hr⟩ := hw
      have nx : ∀ w2, WQ Fv P PR u w2 → F w2 956 = ((k : Nat) : Int) → F w2 956 < F w2 955 → F w2 (pq q 9) = 3 → OK (fun w _ => WQ Fv P PR u w) (hb_Wl_settle_88 N G w2 q (I ((i : Nat) : Int))) := by
        intro w2 a b c d
        unfold hb_Wl_settle_88
        rw [lit1q, I_add, show ((i : Nat) : Int) + 1 = ((i + 1 : Nat) : Int) by omega]
        exact hG2 w2 a b c d (by omega)
      rcases r with _ | j
      · exact ok_br.mpr ⟨fun _ => nx w2 wq ek el he, fun z => absurd z (by decide)⟩
      · refine ok_br.mpr ⟨fun z => absurd z (by simp), fun _ => ?_⟩
        rw [bo_s, show Int32.ofNat q = I ((q : Nat) : Int) from rfl]
        refine ok_bnd.mpr (ok_mono (removeLinkc_ok (N := N) wq.1 (hr j rfl) ⟨by omega, by omega⟩ (by omega)) (fun w3 _ hw3 => ?_))
        obtain ⟨wq3, e3, f3⟩ := hw3
        have he3 := wq3.2.2.en he
        have eq := (wq3.1.2 q hq).2.1 he3
        have wq4 := WQ.tr wq wq3
        refine ok_bnd.mpr (ok_mono (signalc_ok (N := N) wq3.1 (CTX_w cx wq4.2.1) (hr j rfl) ⟨by omega, by omega⟩ (fun hal => (SRC_end eq hal).1) (fun hal => (SRC_end eq hal).2) hN) (fun w5 _ hw5 => ?_))
        have hm := cEc_mono (m := w2) (m2 := w5) PR (fun r hr => hw5.1.2.2.en (wq3.2.2.en hr))
        have a1 := hw5.1.1.1.2.2.2.1.1
        exact nx w5 (WQ.tr wq4 hw5.1) (by rw [hw5.2, e3]; exact ek) (by rw [hw5.2, e3, a1]; omega) (hw5.1.2.2.en he3)
  have out : ∀ (G : (MS → Option (MS × Unit)) × (MS → Nat → Int32 → Option (MS × Unit))) (k : Nat), k ≤ 24 → (∀ w q, WQ Fv P PR u w → F w 956 = ((k : Nat) : Int) → F w 956 < F w 955 → q < PR → F w (pq q 9) = 3 → k < 24 → OK (fun w _ => WQ Fv P PR u w) (G.2 w q (I ((0 : Nat) : Int)))) → ∀ w, WQ Fv P PR u w → F w 956 = ((k : Nat) : Int) → OK (fun w _ => WQ Fv P PR u w) (hb_Wl_settle_0 N G w) := by
    intro G k hk hG w wq ek
    unfold hb_Wl_settle_0
    have g16 := wq.1.1.2.2.2.1
    have hce := cEc_le w PR
    rw [I_F (k := 955), I_F (k := 956), ek]
    refine k_le (FRG1 w _) ⟨by omega, by omega⟩ (fun _ => ok_some.mpr wq) (fun h1 => ?_)
    refine e_in ⟨by omega, by omega⟩ (by decide) ?_
    obtain ⟨r, r1, r2, r3⟩ := wq.1.1.2.2.2.2.1 k h1
    rw [tnI (n := k) rfl (by omega), I_A (k := 54), r1]
    refine e_in ⟨by omega, by omega⟩ (by decide) ?_
    rw [tnI (n := r) rfl (by omega), wq.1.1.2.1 r r2]
    refine ok_br.mpr ⟨fun z => absurd z (by simp), fun _ => ?_⟩
    rw [bo_s]
    refine ok_lt.mpr ?_
    rw [m1I, wi_e]
    generalize hw1 : wi w (pq r 12) (-1) = w1
    have f1 : FC r [] [] [] [12] [] [] [] w w1 := by rw [← hw1]; exact FC.wi_q FC.rf (by omega) (by simp)
    have e9 : F w1 956 = F w 956 := f1.Fg (by omega) (by simp)
    have e5 : F w1 955 = F w 955 := f1.Fg (by omega) (by simp)
    have st : ST3 w w1 := ST3.of f1 (by simp) (by simp)
    refine hG w1 r (WQ.tr wq ⟨DWc_gl wq.1 f1 (by simp) (by simp) (fun h0 => ?_) (by simp) ?_ ?_ (by simp), f1.W (by simp) (by simp) (by simp) (by simp) (by simp) (by simp) (by rw [← hw1]; rfl), st⟩) (by rw [e9]; exact ek) (by rw [e9, e5, ek]; exact h1) r2 (st.en r3) (by omega)
    · unfold SMQ
      rw [f1.Fq (by omega) (by simp), f1.Fq (by omega) (by simp), f1.Fq (by omega) (by simp), f1.Fq (by omega) (by simp)]; exact (wq.1.2 r h0).1
    · rw [f1.Fg (by omega) (by simp)]; exact wq.1.1.2.2.1
    · rw [e9]; exact g16.2
  have gen : ∀ (M : Nat), (∀ (k : Nat), k ≤ 24 → (24 - k) * 30 < M → ∀ w, WQ Fv P PR u w → F w 956 = ((k : Nat) : Int) → OK (fun w _ => WQ Fv P PR u w) ((hg_Wl_settle N M).1 w)) ∧ (∀ (k i : Nat), k < 24 → i ≤ 24 → (23 - k) * 30 + (26 - i) < M → ∀ w q, WQ Fv P PR u w → F w 956 = ((k : Nat) : Int) → F w 956 < F w 955 → q < PR → F w (pq q 9) = 3 → OK (fun w _ => WQ Fv P PR u w) ((hg_Wl_settle N M).2 w q (I ((i : Nat) : Int)))) := by
    intro M
    induction M with
    | zero => exact ⟨fun _ _ h => by omega, fun _ _ _ _ h => by omega⟩
    | succ M ih =>
      refine ⟨fun k hk hM w wq ek => ?_, fun k i hk hi hM w q wq ek el hq he => ?_⟩
      · show OK _ (hb_Wl_settle_0 N (hg_Wl_settle N M) w)
        exact out _ k hk (fun w2 q wq2 ek2 el2 hq2 he2 hk2 => ih.2 k 0 hk2 (by omega) (by omega) w2 q wq2 ek2 el2 hq2 he2) w wq ek
      · show OK _ (hb_Wl_settle_40 N (hg_Wl_settle N M) w q (I ((i : Nat) : Int)))
        exact inn _ k (fun w2 wq2 ek2 => ih.1 (k + 1) (by omega) (by omega) w2 wq2 ek2) w q i wq ek el hq he hi (fun w2 a b c e hi2 => ih.2 k (i + 1) hk (by omega) (by omega) w2 q a b c hq e)
  have g16 := d.1.2.2.2.1
  have hce := cEc_le u PR
  exact out (hg_Wl_settle N N) (F u 956).toNat (by omega) (fun w q wq ek el hq he hk => (gen N).2 _ 0 hk (by omega) (by omega) w q wq ek el hq he) u (WQ.rf d) (by omega)
end
