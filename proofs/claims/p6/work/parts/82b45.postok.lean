set_option maxRecDepth 100000
def SRCc (Fv : Int64 → Int64 → Prop) (P : Int64 → Prop) (PR : Nat) (u : MS) (q : Nat) (t : Int64) (s : Option Nat) : Prop := (s = none ∧ ¬ isH t ∧ P t) ∨ ∃ j n ow kd, s = some j ∧ j < PR ∧ n ≤ 512 ∧ HPc (u.2.2.2 (pq j 2)) n ow kd Fv P ∧ GT n ow kd P t ∧ (j = q → ∃ B W Y, PTQ u q n ow kd Fv P B (W + 1) Y ∧ t = u.2.2.2 (pq q 35) W)
section
variable {Fv : Int64 → Int64 → Prop} {P : Int64 → Prop} {u v w m m2 : MS} {PR N q r n B W Y : Nat} {ow kd : Nat → Nat} {t : Int64} {h h2 : Nat → Int64} {src : Option Nat}
def ST3 (u w : MS) : Prop := ∀ r, (F w (pq r 9) = F u (pq r 9) ∨ F w (pq r 9) = 3) ∧ F u (pq r 7) ≤ F w (pq r 7)
theorem ST3.rf : ST3 u u := fun _ => ⟨Or.inl rfl, Int.le_refl _⟩
theorem ST3.tr (a : ST3 u v) (b : ST3 v w) : ST3 u w := fun r => ⟨by
  rcases (b r).1 with e | e
  · rcases (a r).1 with e2 | e2
    · exact Or.inl (e.trans e2)
    · exact Or.inr (e.trans e2)
  · exact Or.inr e, Int.le_trans (a r).2 (b r).2⟩
theorem ST3.en (a : ST3 u w) (h : F u (pq r 9) = 3) : F w (pq r 9) = 3 := by
  rcases (a r).1 with e | e
  · rw [e]; exact h
  · exact e
theorem ST3.of {gi gl ga ki kl ka kj : List Nat} (f : FC q gi gl ga ki kl ka kj u w) (h9 : 9 ∉ ki) (h7 : 7 ∈ ki → F u (pq q 7) ≤ F w (pq q 7)) : ST3 u w := by
  intro r
  by_cases e : r = q
  · subst e
    refine ⟨Or.inl (f.Fq (by omega) h9), ?_⟩
    by_cases e7 : 7 ∈ ki
    · exact h7 e7
    · rw [f.Fq (by omega) e7]; exact Int.le_refl _
  · exact ⟨Or.inl (f.Fo e (by omega)), by rw [f.Fo e (by omega)]; exact Int.le_refl _⟩
theorem ST3.ends (h3 : F w (pq q 9) = 3) (ho : ∀ r, r ≠ q → F w (pq r 9) = F u (pq r 9)) (f : ∀ r, w.1 (pq r 7) = u.1 (pq r 7)) : ST3 u w := fun r => ⟨by
  by_cases e : r = q
  · exact Or.inr (by rw [e]; exact h3)
  · exact Or.inl (ho r e), by rw [show F w (pq r 7) = F u (pq r 7) from congrArg _ (f r)]; exact Int.le_refl _⟩
theorem bo_s {α β : Type} {j : α} {f : α → Option β} : bo (some j) f = f j := rfl
theorem FC_want (f : FR [pq q 4, pq q 5] [] [] [pq q 2, pq q 3, pq q 33, pq q 35, pq q 6] u w) : FC q [] [] [] [4, 5] [] [] [2, 3, 33, 35, 6] u w := FC.ofq (ki := [4, 5]) (kj := [2, 3, 33, 35, 6]) f (by simp) (by simp)
theorem SMQ_up (s : SMQ u q) (h1 : F w (pq q 15) = F u (pq q 15)) (h2 : F w (pq q 8) = F u (pq q 8)) (h3 : F u (pq q 7) ≤ F w (pq q 7)) (h4 : F u (pq q 9) ≠ 3) : SMQ w q := by
  obtain ⟨s1, s2, s3⟩ := s
  refine ⟨by rw [h1]; exact s1, by rw [h2]; exact s2, fun _ => ?_⟩
  rw [h2]
  have := s3 h4
  omega
theorem post_81 {U a s f0 : Nat} {v3 v4 : Int} {c : Int64} {hs : Nat → Int64} {ns : Nat} {os ks : Nat → Nat} (cx : CTX Fv P u) (p : PTQ u q U ow kd Fv P B W Y) (hY : Y < 30) (hU : U + a + s ≤ 500) (ha : a = 0 ∨ a = 4 ∨ a = 5) (h3 : RG v3) (h4 : RG v4)
    (hsrc : (src = none ∧ ¬ isH c ∧ P c ∧ s = 0) ∨ ∃ j, src = some j ∧ HPc hs ns os ks Fv P ∧ ns ≤ 512 ∧ (∀ i, i < ns → u.2.2.2 (pq j 2) i = hs i) ∧ (j = q → ns ≤ U) ∧ SZc hs ns os ks Fv P f0 c s) (hN : 600 ≤ N) :
    OK (fun w _ => FC q [] [] [] [4, 7] [] [] [2, 6] u w ∧ (∃ n2 ow2 kd2, PTQ w q n2 ow2 kd2 Fv P B W (Y + 1)) ∧ w.2.2.2 44 = u.2.2.2 44) (hb_Wl_post_81 N () u q (I ((a : Nat) : Int)) (I v3) (I v4) src c) := by
  unfold hb_Wl_post_81
  refine ok_lt.mpr ?_
  rw [I_F (k := pq q 4), p.1.1, I_add, wi_e]
  generalize hw1 : wi u (pq q 4) ((U : Int) + (a : Int)) = w1
  have f1 : FC q [] [] [] [4] [] [] [2] u w1 := by rw [← hw1]; exact FC.wi_q FC.rf (by omega) (by simp)
  have e1 : F w1 (pq q 4) = ((U + a : Nat) : Int) := by rw [← hw1, F_wi (by omega) (by omega), if_pos rfl]; omega
  have j1 : w1.2.2.2 = u.2.2.2 := by rw [← hw1]; rfl
  have hole : HPc (w1.2.2.2 (pq q 2)) (U + a) (owH U ow) kd Fv P := by rw [j1]; exact HP_holec a p.1.2.2 (fun _ _ => rfl)
  have p1 : PTQ w1 q (U + a) (owH U ow) kd Fv P B W Y := PTQ_cells p f1 e1 (by omega) hole (fun t gt => GT_hole a gt)
  have hno : ∀ j, j < a → U + j < owH U ow (U + j) := fun j hj => by unfold owH; rw [if_pos (by omega)]; omega
  have cx1 : CTX Fv P w1 := by rw [← hw1]; exact CTX_fr cx (if_neg (by unfold pq; omega)) rfl
  rcases hsrc with ⟨rfl, c1, c2, rfl⟩ | ⟨j, rfl, g, hn, hr, hq, z⟩
  · refine ok_br.mpr ⟨fun _ => ?_, fun y => absurd y (by decide)⟩
    have zc : SZc (w1.2.2.2 (pq q 2)) (U + a) (owH U ow) kd Fv P 1 c 0 := Or.inl ⟨c1, c2, rfl⟩
    refine ok_mono (post_120 (N := N) cx1 p1 hY (by omega) ha hno (Or.inl ⟨c1, c2⟩) zc h3 h4) (fun w _ hw => ?_)
    obtain ⟨f2, ⟨ow2, kd2, p2⟩, q2⟩ := hw
    exact ⟨FC.tr (FC.mo f1 (by simp) (by simp) (by simp) (by simp) (by simp) (by simp) (by simp)) f2, ⟨_, ow2, kd2, p2⟩, by rw [q2, j1]⟩
  · refine ok_br.mpr ⟨fun y => absurd y (by simp), fun _ => ?_⟩
    rw [bo_s]
    refine ok_bnd.mpr (ok_mono (copyIn_ok (N := N) (s0 := U + a) (owd := owH U ow) (kdd := kd) g cx.1 hn (by omega) (fun i hi => by rw [j1]; exact hr i hi) (fun e => by have := (pq_e (by omega) (by omega) e).1; have := hq this; omega) z e1 hole hN) (fun w2 r hw2 => ?_))
    obtain ⟨f2, e2, k2, ow2, kd2, g2, o2, t2, r2, f3, z2⟩ := hw2
    have fc2 : FC q [] [] [] [4] [] [] [2] w1 w2 := FC.ofq (ki := [4]) (kj := [2]) f2 (by simp) (by simp)
    have p2 : PTQ w2 q (U + a + s) ow2 kd2 Fv P B W Y := PTQ_cells p1 fc2 e2 (by omega) g2 t2
    have cx2 : CTX Fv P w2 := CTX_fr cx1 (fc2.1 22 (by omega) (by simp)) (fc2.2.2.1 3 (by omega) (by simp))
    refine ok_mono (post_120 (N := N) cx2 p2 hY rfl ha (fun j hj => by rw [(o2 (U + j) (by omega)).1]; exact hno j hj) r2 z2 h3 h4) (fun w _ hw => ?_)
    obtain ⟨f4, ⟨ow4, kd4, p4⟩, q4⟩ := hw
    have q5 : w2.2.2.2 44 = w1.2.2.2 44 := f2.2.2.2 44 (by simp; unfold pq; omega)
    exact ⟨FC.tr (FC.mo (FC.tr f1 fc2) (by simp) (by simp) (by simp) (by simp) (by simp) (by simp) (by simp)) f4, ⟨_, ow4, kd4, p4⟩, by rw [q4, q5, j1]⟩
theorem post_ok {a : Nat} {v3 v4 : Int} (d : DWc Fv P PR u) (cx : CTX Fv P u) (hq : q < PR) (ha : a = 0 ∨ a = 4 ∨ a = 5) (h3 : RG v3) (h4 : RG v4) (hs : SRCc Fv P PR u q t src) (hN : 3000000 ≤ N) : OK (fun w _ => DWc Fv P PR w ∧ WFR u w ∧ F w 956 = F u 956 ∧ ST3 u w) (hm_Wl_post N u q (I ((a : Nat) : Int)) (I v3) (I v4) t src) := by
  unfold hm_Wl_post hb_Wl_post_0 hb_Wl_post_17
  refine k_F (y := 3) rfl ⟨by decide, by decide⟩ (fun _ => ok_some.mpr ⟨d, WFR.rf, rfl, ST3.rf⟩) (fun hal => ?_)
  obtain ⟨n0, ow0, kd0, B0, W0, Y0, p0⟩ := (d.2 q hq).2.2 hal
  have sm := (d.2 q hq).1
  rw [I_F (k := pq q 7), p0.2.2.2.1.1, I_lit (n := 30)]
  have pb := PTQ_b p0
  refine k_lt ⟨by omega, by omega⟩ ⟨by decide, by decide⟩ (fun hY => ?_) (fun _ => ok_some.mpr ⟨d, WFR.rf, rfl, ST3.rf⟩)
  have hY : ((Y0 : Nat) : Int) < 30 := hY
  have main : ∀ (u1 : MS) (n1 : Nat) (ow1 kd1 : Nat → Nat) (B1 W1 Y1 s f0 : Nat), DWc Fv P PR u1 → CTX Fv P u1 → WFR u u1 → F u1 956 = F u 956 → ST3 u u1 → F u1 (pq q 9) ≠ 3 → SMQ u1 q → PTQ u1 q n1 ow1 kd1 Fv P B1 W1 Y1 → Y1 < 30 → s ≤ 1100 → ((src = none ∧ ¬ isH t ∧ P t ∧ s = 0) ∨ ∃ j ns os ks, src = some j ∧ j < PR ∧ HPc (u1.2.2.2 (pq j 2)) ns os ks Fv P ∧ ns ≤ 512 ∧ SZc (u1.2.2.2 (pq j 2)) ns os ks Fv P f0 t s ∧ (j = q → ns = n1 ∧ os = ow1 ∧ ks = kd1 ∧ 1 ≤ W1 ∧ t = u1.2.2.2 (pq q 35) (W1 - 1))) → OK (fun w _ => DWc Fv P PR w ∧ WFR u w ∧ F w 956 = F u 956 ∧ ST3 u w) (hb_Wl_post_41 N () u1 q (I ((a : Nat) : Int)) (I v3) (I v4) t src (I ((s : Nat) : Int))) := by
    intro u1 n1 ow1 kd1 B1 W1 Y1 s f0 d1 cx1 wf e956 st3 hal1 sm1 p1 hY1 hs1 hsrc
    have pb1 := PTQ_b p1
    unfold hb_Wl_post_41
    rw [I_add]
    refine ok_bnd.mpr (ok_mono (want_ok (N := N) p1 cx1 (by omega) (by omega)) (fun w r hw => ?_))
    obtain ⟨hr, U, ow2, kd2, p2, hU, f2, sB, sW⟩ := hw
    have fc := FC_want f2
    have i2 : ∀ k, k < 100 → k ∉ [4, 5] → F w (pq q k) = F u1 (pq q k) := fun k h1 h2 => fc.Fq h1 h2
    have hal2 : F w (pq q 9) ≠ 3 := by rw [i2 9 (by omega) (by simp)]; exact hal1
    have sm2 : SMQ w q := SMQ_up sm1 (i2 15 (by omega) (by simp)) (i2 8 (by omega) (by simp)) (by rw [i2 7 (by omega) (by simp)]; exact Int.le_refl _) hal1
    have d2 : DWc Fv P PR w := DWc_fc d1 fc hq hal1 hal2 sm2 ⟨U, ow2, kd2, B1, W1, Y1, p2⟩ (by simp) (by simp)
    have w44 : w.2.2.2 44 = u1.2.2.2 44 := f2.2.2.2 44 (by simp; unfold pq; omega)
    have wf2 : WFR u w := WFR.tr wf (fc.W (by simp) (by simp) (by simp) (by simp) (by simp) (by simp) w44)
    have e9562 : F w 956 = F u 956 := by rw [fc.Fg (by omega) (by simp)]; exact e956
    have st2 : ST3 u w := ST3.tr st3 (ST3.of fc (by simp) (by simp))
    have cx2 : CTX Fv P w := CTX_fr cx1 (fc.1 22 (by omega) (by simp)) (fc.2.2.1 3 (by omega) (by simp))
    rcases hr with rfl | rfl
    · refine ok_br.mpr ⟨fun _ => ?_, fun y => absurd y (by decide)⟩
      refine ok_bnd.mpr (ok_mono (endsBy_ok (N := N) (a := 20) d2 cx2 hq hal2 (by omega)) (fun w3 _ hw3 => ok_some.mpr ?_))
      obtain ⟨k1, k2, k3, k4, k5, k6, k7⟩ := hw3
      exact ⟨k1, WFR.tr wf2 k2, by rw [k5]; exact e9562, ST3.tr st2 (ST3.ends k3 k4 k7)⟩
    · refine ok_br.mpr ⟨fun y => absurd y (by decide), fun _ => ?_⟩
      have hU := hU rfl
      have hUn := p2.1.2.1
      have fin : ∀ (c : Int64) (hs2 : Nat → Int64) (ns : Nat) (os ks : Nat → Nat), ((src = none ∧ ¬ isH c ∧ P c ∧ s = 0) ∨ ∃ j, src = some j ∧ HPc hs2 ns os ks Fv P ∧ ns ≤ 512 ∧ (∀ i, i < ns → w.2.2.2 (pq j 2) i = hs2 i) ∧ (j = q → ns ≤ U) ∧ SZc hs2 ns os ks Fv P f0 c s) → OK (fun w _ => DWc Fv P PR w ∧ WFR u w ∧ F w 956 = F u 956 ∧ ST3 u w) (hb_Wl_post_81 N () w q (I ((a : Nat) : Int)) (I v3) (I v4) src c) := by
        intro c hs2 ns os ks hc
        refine ok_mono (post_81 (N := N) (f0 := f0) (hs := hs2) (ns := ns) (os := os) (ks := ks) (s := s) cx2 p2 hY1 (by omega) ha h3 h4 hc (by omega)) (fun w3 _ hw3 => ?_)
        obtain ⟨f3, ⟨n3, ow3, kd3, p3⟩, q3⟩ := hw3
        have hal3 : F w3 (pq q 9) ≠ 3 := by rw [f3.Fq (by omega) (by simp)]; exact hal2
        have sm3 : SMQ w3 q := SMQ_up sm2 (f3.Fq (by omega) (by simp)) (f3.Fq (by omega) (by simp)) (by rw [p3.2.2.2.1.1, p2.2.2.2.1.1]; omega) hal2
        refine ⟨DWc_fc d2 f3 hq hal2 hal3 sm3 ⟨n3, ow3, kd3, B1, W1, Y1 + 1, p3⟩ (by simp) (by simp), WFR.tr wf2 (f3.W (by simp) (by simp) (by simp) (by simp) (by simp) (by simp) q3), by rw [f3.Fg (by omega) (by simp)]; exact e9562, ST3.tr st2 (ST3.of f3 (by simp) (fun _ => by rw [p3.2.2.2.1.1, p2.2.2.2.1.1]; omega))⟩
      rcases hsrc with ⟨rfl, c1, c2, c3⟩ | ⟨j, ns, os, ks, rfl, hj, g, hns, z, hjq⟩
      · refine ok_br.mpr ⟨fun y => absurd y (by simp), fun _ => ?_⟩
        exact fin t (fun _ => 0) 0 (fun _ => 0) (fun _ => 0) (Or.inl ⟨rfl, c1, c2, c3⟩)
      · refine ok_br.mpr ⟨fun y => ?_, fun y => ?_⟩
        · have ejq : j = q := by have := of_decide_eq_true y; injection this
          obtain ⟨rfl, rfl, rfl, hW, rfl⟩ := hjq ejq
          subst ejq
          have eW : F w (pq j 26) = ((W1 : Nat) : Int) := p2.2.2.1.1
          have hb : hm_Fr_below N w j 0 = some (w, w.2.2.2 (pq j 35) (W1 - 1)) := by
            unfold hm_Fr_below hb_Fr_below_0 hb_Fr_below_23
            obtain ⟨l2, b1, b2, b3⟩ := p2.2.2.2.2.2.1
            rw [I_F (k := pq j 26), eW, lit0q, lit1q, I_sub, I_sub, decI (by decide) (by decide) (by omega) (by omega), decide_eq_true (by omega), br_tq, lnQ_e b1, (I_inb (by omega) (by omega)).mpr ⟨by omega, by omega⟩, ck_t, tnI (n := W1 - 1) (by omega) (by omega)]
          rw [hb, bnd_so]
          have sl := sW (W1 - 1) (by omega)
          exact fin _ (w.2.2.2 (pq j 2)) U ow2 kd2 (Or.inr ⟨j, rfl, p2.1.2.2, by omega, fun _ _ => rfl, fun _ => Nat.le_refl _, sl.2.2 f0 s z⟩)
        · have ejq : j ≠ q := fun e => of_decide_eq_false y (by rw [e])
          refine fin t (u1.2.2.2 (pq j 2)) ns os ks (Or.inr ⟨j, rfl, g, hns, fun i _ => by rw [fc.jo ejq (by omega)], fun e => absurd e ejq, z⟩)
  rcases hs with ⟨rfl, c1, c2⟩ | ⟨j, ns, os, ks, rfl, hj, hns, g, gt, hjq⟩
  · refine ok_br.mpr ⟨fun _ => ?_, fun y => absurd y (by decide)⟩
    rw [lit0q, show (0 : Int) = ((0 : Nat) : Int) from rfl]
    exact main u n0 ow0 kd0 B0 W0 Y0 0 0 d cx WFR.rf rfl ST3.rf hal sm p0 (by omega) (by omega) (Or.inl ⟨rfl, c1, c2, rfl⟩)
  · refine ok_br.mpr ⟨fun y => absurd y (by simp), fun _ => ?_⟩
    obtain ⟨f0, s, z⟩ := HP_szc g gt
    have hsm := SZ_max g z
    rw [bo_s]
    refine ok_bnd.mpr (ok_mono (size_ok (N := N) (b := pq j 2) (by unfold pq; omega) rfl hns cx.1.1 (by omega) z (by omega)) (fun w r hw => ?_))
    obtain ⟨f1, rfl⟩ := hw
    have fc : FC q [] [] [] [] [] [] [] u w := FC.of f1 (by simp) (by simp) (by simp) (by simp)
    have row : ∀ r k, k < 100 → w.2.2.2 (pq r k) = u.2.2.2 (pq r k) := fun r k hk => fc.2.2.2.2.2.2.2 r k hk (by simp)
    have int : ∀ r k, k < 100 → w.1 (pq r k) = u.1 (pq r k) := fun r k hk => fc.2.2.2.2.1 r k hk (by simp)
    have hal1 : F w (pq q 9) ≠ 3 := by rw [fc.Fq (by omega) (by simp)]; exact hal
    have sm1 : SMQ w q := SMQ_up sm (fc.Fq (by omega) (by simp)) (fc.Fq (by omega) (by simp)) (by rw [fc.Fq (by omega) (by simp)]; exact Int.le_refl _) hal
    have pw : ∀ {n1 ow1 kd1 B1 W1 Y1}, PTQ u q n1 ow1 kd1 Fv P B1 W1 Y1 → PTQ w q n1 ow1 kd1 Fv P B1 W1 Y1 := fun p => PTQ_same p (fun k hk => int q k (by simp at hk; omega)) (fun k hk => row q k (by simp at hk; omega))
    have d1 : DWc Fv P PR w := DWc_fc d fc hq hal hal1 sm1 ⟨n0, ow0, kd0, B0, W0, Y0, pw p0⟩ (by simp) (by simp)
    have cx1 : CTX Fv P w := CTX_fr cx (fc.1 22 (by omega) (by simp)) (fc.2.2.1 3 (by omega) (by simp))
    have wf : WFR u w := fc.W (by simp) (by simp) (by simp) (by simp) (by simp) (by simp) (FRj f1 (by simp))
    have st : ST3 u w := ST3.of fc (by simp) (by simp)
    by_cases ejq : j = q
    · obtain ⟨B2, W2, Y2, p2, et⟩ := hjq ejq
      subst ejq
      have eY : Y2 = Y0 := by have a := p2.2.2.2.1.1; have b := p0.2.2.2.1.1; omega
      exact main w ns os ks B2 (W2 + 1) Y2 s f0 d1 cx1 wf (fc.Fg (by omega) (by simp)) st hal1 sm1 (pw p2) (by omega) (by omega) (Or.inr ⟨j, ns, os, ks, rfl, hj, by rw [row j 2 (by omega)]; exact g, hns, by rw [row j 2 (by omega)]; exact z, fun _ => ⟨rfl, rfl, rfl, by omega, by rw [row j 35 (by omega)]; exact et⟩⟩)
    · exact main w n0 ow0 kd0 B0 W0 Y0 s f0 d1 cx1 wf (fc.Fg (by omega) (by simp)) st hal1 sm1 (pw p0) (by omega) (by omega) (Or.inr ⟨j, ns, os, ks, rfl, hj, by rw [row j 2 (by omega)]; exact g, hns, by rw [row j 2 (by omega)]; exact z, fun e => absurd e ejq⟩)
end
