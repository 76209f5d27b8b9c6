set_option maxRecDepth 100000
section
variable {Fv : Int64 → Int64 → Prop} {P : Int64 → Prop} {u v w m m2 : MS} {PR N q r n B W Y : Nat} {ow kd : Nat → Nat} {t : Int64} {h h2 : Nat → Int64} {src : Option Nat} {gi gl ga ki kl ka kj : List Nat}
theorem DWc_gl2 (d : DWc Fv P PR u) (f : FC q gi gl ga ki kl ka [] u w) (hki : ∀ k, k ∈ [4, 7, 9, 17, 24, 26, 43, 45] → k ∉ ki) (hkl : 16 ∉ kl) (hs : q < PR → SMQ w q) (hg : ∀ k, k ∈ [942, 955] → k ∉ gi) (h950 : 0 ≤ F w 950 ∧ F w 950 ≤ 200) (h956 : 0 ≤ F w 956 ∧ F w 956 ≤ F u 955) (hga : ∀ k, k ∈ [1948, 54] → k ∉ ga) (h53 : (0 ≤ F w 953 ∧ F w 953 ≤ 200) ∧ ∀ i : Nat, (i : Int) < F w 953 → 0 ≤ A w 53 i ∧ A w 53 i ≤ 100) : DWc Fv P PR w := by
  obtain ⟨⟨⟨g11, g12⟩, g13, g14, ⟨g15, g16⟩, g17, g18, g19⟩, d2⟩ := d
  have i9 : ∀ r k, k ∈ [4, 7, 9, 17, 24, 26, 43, 45] → w.1 (pq r k) = u.1 (pq r k) := fun r k hk => f.2.2.2.2.1 r k (by simp at hk; omega) (fun _ => hki k hk)
  have f9 : ∀ r k, k ∈ [4, 7, 9, 17, 24, 26, 43, 45] → F w (pq r k) = F u (pq r k) := fun r k hk => congrArg _ (i9 r k hk)
  have st : ∀ r, F w (pq r 9) = F u (pq r 9) := fun r => f9 r 9 (by simp)
  have gF : ∀ k, k ∈ [942, 955] → F w k = F u k := fun k hk => f.Fg (by simp at hk; omega) (hg k hk)
  have gA : ∀ k i, k ∈ [1948, 54] → A w k i = A u k i := fun k i hk => f.ag (by simp at hk; omega) (hga k hk)
  have hce : cEc w PR = cEc u PR := cEc_eq PR (fun r _ => st r)
  have rj : ∀ r k, k < 100 → w.2.2.2 (pq r k) = u.2.2.2 (pq r k) := fun r k hk => f.2.2.2.2.2.2.2 r k hk (by simp)
  have rl : ∀ r, w.2.1 (pq r 16) = u.2.1 (pq r 16) := fun r => f.2.2.2.2.2.1 r 16 (by omega) (fun _ => hkl)
  refine ⟨⟨⟨by rw [gF 942 (by simp)]; exact g11, g12⟩, fun r hr => by rw [f.2.2.1 1948 (by omega) (hga 1948 (by simp))]; exact g13 r hr, h950, ⟨by rw [gF 955 (by simp), hce]; exact g15, by rw [gF 955 (by simp)]; exact h956⟩, fun i hi => ?_, h53⟩, fun r hr => ?_⟩
  · rw [gF 955 (by simp)] at hi
    obtain ⟨r, r1, r2, r3⟩ := g17 i hi
    exact ⟨r, by rw [gA 54 i (by simp)]; exact r1, r2, by rw [st]; exact r3⟩
  · obtain ⟨s1, s2, s3⟩ := d2 r hr
    refine ⟨?_, fun z => ?_, fun z => ?_⟩
    · by_cases e : r = q
      · rw [e]; exact hs (e ▸ hr)
      · unfold SMQ
        rw [f.Fo e (by omega), f.Fo e (by omega), f.Fo e (by omega), f.Fo e (by omega)]; exact s1
    · rw [st] at z
      obtain ⟨hq2, n, ow, kd, e1, e2, e3, e4, e5, e6⟩ := s2 z
      exact ⟨hq2, n, ow, kd, by rw [i9 r 17 (by simp)]; exact e1, e2, by rw [st]; exact e3, e4, by rw [rj hq2 2 (by omega)]; exact e5, by rw [rl]; exact e6⟩
    · rw [st] at z
      obtain ⟨n, ow, kd, B, W, Y, p⟩ := s3 z
      exact ⟨n, ow, kd, B, W, Y, PTQ_same p (fun k hk => i9 r k (by simp at hk ⊢; omega)) (fun k hk => rj r k (by simp at hk; omega))⟩
theorem DWc_gl (d : DWc Fv P PR u) (f : FC q gi gl ga ki kl ka [] u w) (hki : ∀ k, k ∈ [4, 7, 9, 17, 24, 26, 43, 45] → k ∉ ki) (hkl : 16 ∉ kl) (hs : q < PR → SMQ w q) (hg : ∀ k, k ∈ [942, 953, 955] → k ∉ gi) (h950 : 0 ≤ F w 950 ∧ F w 950 ≤ 200) (h956 : 0 ≤ F w 956 ∧ F w 956 ≤ F u 955) (hga : ∀ k, k ∈ [1948, 53, 54] → k ∉ ga) : DWc Fv P PR w := by
  have g18 := d.1.2.2.2.2.2
  have e1 : F w 953 = F u 953 := f.Fg (by omega) (hg 953 (by simp))
  have e2 : ∀ i, A w 53 i = A u 53 i := fun i => f.ag (by omega) (hga 53 (by simp))
  refine DWc_gl2 d f hki hkl hs (fun k hk => hg k (by simp at hk ⊢; omega)) h950 h956 (fun k hk => hga k (by simp at hk ⊢; omega)) ?_
  rw [e1]; simp only [e2]; exact g18
def WQ (Fv : Int64 → Int64 → Prop) (P : Int64 → Prop) (PR : Nat) (u w : MS) : Prop := DWc Fv P PR w ∧ WFR u w ∧ ST3 u w
theorem WQ.tr (a : WQ Fv P PR u v) (b : WQ Fv P PR v w) : WQ Fv P PR u w := ⟨b.1, WFR.tr a.2.1 b.2.1, ST3.tr a.2.2 b.2.2⟩
theorem WQ.rf (d : DWc Fv P PR u) : WQ Fv P PR u u := ⟨d, WFR.rf, ST3.rf⟩
theorem findc_ok {x : Int} (g : GLQ PR u) (hx : RG x) : OK (fun w r => w = u ∧ ∀ j, r = some j → j < PR) (hm_Wl_find N u (I x)) := by
  obtain ⟨⟨g1, g1b⟩, g2, -⟩ := g
  unfold hm_Wl_find hb_Wl_find_0 hb_Wl_find_12 hb_Wl_find_22
  rw [lit0q, I_F (k := 942), g1]
  refine k_lt hx ⟨by decide, by decide⟩ (fun _ => ok_some.mpr ⟨rfl, fun _ z => by cases z⟩) (fun h0 => ?_)
  refine k_lt hx ⟨by omega, by omega⟩ (fun h1 => ?_) (fun _ => ok_some.mpr ⟨rfl, fun _ z => by cases z⟩)
  refine e_in ⟨h0, by omega⟩ (by decide) (ok_some.mpr ⟨rfl, fun j hj => ?_⟩)
  rw [tnI (n := x.toNat) (by omega) (by omega), g2 x.toNat (by omega)] at hj
  injection hj with hj
  omega
theorem findc_at {j : Nat} (g : GLQ PR u) (hj : j < PR) : hm_Wl_find N u (I ((j : Nat) : Int)) = some (u, some j) := by
  obtain ⟨⟨g1, g1b⟩, g2, -⟩ := g
  unfold hm_Wl_find hb_Wl_find_0 hb_Wl_find_12 hb_Wl_find_22
  rw [lit0q, I_F (k := 942), g1, decL (by omega) (by omega) (by decide) (by decide), decide_eq_false (by omega), br_fq, decL (by omega) (by omega) (by omega) (by omega), decide_eq_true (by omega), br_tq, (I_inb (by omega) (by omega)).mpr ⟨by omega, by omega⟩, ck_t, tnI (n := j) rfl (by omega), g2 j hj]
theorem namedc_ok {x : Int} (g : GLQ PR u) (hx : RG x) (hN : 100 ≤ N) : OK (fun w r => w = u ∧ ∀ j, r = some j → j < PR ∧ F u (pq j 9) ≠ 3) (hm_Wl_named N u (I x)) := by
  obtain ⟨⟨g1, g1b⟩, g2, -⟩ := g
  unfold hm_Wl_named hb_Wl_named_0
  have gen : ∀ (M i : Nat), i ≤ PR → PR - i < M → OK (fun w r => w = u ∧ ∀ j, r = some j → j < PR ∧ F u (pq j 9) ≠ 3) (hg_Wl_named N M u (I x) (I ((i : Nat) : Int))) := by
    intro M
    induction M with
    | zero => intro i _ h; omega
    | succ M ih =>
      intro i hi hM
      show OK _ (hb_Wl_named_2 N (hg_Wl_named N M) u (I x) (I ((i : Nat) : Int)))
      unfold hb_Wl_named_2 hb_Wl_named_39
      rw [I_F (k := 942), g1]
      refine k_le ⟨by omega, by omega⟩ ⟨by omega, by omega⟩ (fun _ => ok_some.mpr ⟨rfl, fun _ z => by cases z⟩) (fun h1 => ?_)
      refine e_in ⟨by omega, by omega⟩ (by decide) ?_
      have nx : OK (fun w r => w = u ∧ ∀ j, r = some j → j < PR ∧ F u (pq j 9) ≠ 3) (hg_Wl_named N M u (I x) (I ((i : Nat) : Int) + 1)) := by
        rw [lit1q, I_add, show ((i : Nat) : Int) + 1 = ((i + 1 : Nat) : Int) by omega]
        exact ih (i + 1) (by omega) (by omega)
      rw [tnI (n := i) rfl (by omega), g2 i (by omega)]
      refine ok_br.mpr ⟨fun z => absurd z (by simp), fun _ => ?_⟩
      rw [bo_s, I_F (k := pq i 12)]
      refine k_eq (FRG1 u _) hx (fun _ => ?_) (fun _ => nx)
      exact k_F (y := 3) rfl ⟨by decide, by decide⟩ (fun _ => nx) (fun z => ok_some.mpr ⟨rfl, fun j hj => by injection hj with hj; subst hj; exact ⟨by omega, z⟩⟩)
  rw [lit0q, show (0 : Int) = ((0 : Nat) : Int) from rfl]
  exact gen N 0 (by omega) (by omega)
theorem seekLink_ok {x : Int} (hl : 0 ≤ F u (pq q 15) ∧ F u (pq q 15) ≤ 24) (hx : RG x) (hN : 100 ≤ N) : OK (fun w r => w = u ∧ (r = I (-1) ∨ ∃ i : Nat, r = I ((i : Nat) : Int) ∧ (i : Int) < F u (pq q 15))) (hm_Pr_seekLink N u q (I x)) := by
  unfold hm_Pr_seekLink hb_Pr_seekLink_0
  have gen : ∀ (M i : Nat), i ≤ 24 → 24 - i < M → OK (fun w r => w = u ∧ (r = I (-1) ∨ ∃ i : Nat, r = I ((i : Nat) : Int) ∧ (i : Int) < F u (pq q 15))) (hg_Pr_seekLink N M u q (I x) (I ((i : Nat) : Int))) := by
    intro M
    induction M with
    | zero => intro i _ h; omega
    | succ M ih =>
      intro i hi hM
      show OK _ (hb_Pr_seekLink_2 N (hg_Pr_seekLink N M) u q (I x) (I ((i : Nat) : Int)))
      unfold hb_Pr_seekLink_2
      rw [I_F (k := pq q 15)]
      refine k_le (FRG1 u _) ⟨by omega, by omega⟩ (fun _ => ok_some.mpr ⟨rfl, Or.inl rfl⟩) (fun h1 => ?_)
      refine e_in ⟨by omega, by omega⟩ (by decide) ?_
      rw [I_A (k := pq q 14)]
      refine k_eq (ARG1 u _ _) hx (fun _ => ok_some.mpr ⟨rfl, Or.inr ⟨i, rfl, h1⟩⟩) (fun _ => ?_)
      rw [lit1q, I_add, show ((i : Nat) : Int) + 1 = ((i + 1 : Nat) : Int) by omega]
      exact ih (i + 1) (by omega) (by omega)
  rw [lit0q, show (0 : Int) = ((0 : Nat) : Int) from rfl]
  exact gen N 0 (by omega) (by omega)
theorem WQ_lk (d : DWc Fv P PR u) (hq : q < PR) (f : FC q [] [] [] [15] [] [14] [] u w) (hl : 0 ≤ F w (pq q 15) ∧ F w (pq q 15) ≤ 24) (h44 : w.2.2.2 = u.2.2.2) : WQ Fv P PR u w := by
  have s := (d.2 q hq).1
  have g14 := d.1.2.2.1
  have g16 := d.1.2.2.2.1.2
  refine ⟨DWc_gl d f (by simp) (by simp) (fun _ => ⟨hl, ?_⟩) (by simp) ?_ ?_ (by simp), f.W (by simp) (by simp) (by simp) (by simp) (by simp) (by simp) (by rw [h44]), ST3.of f (by simp) (by simp)⟩
  · rw [f.Fq (by omega) (by simp), f.Fq (by omega) (by simp), f.Fq (by omega) (by simp)]; exact s.2
  · rw [f.Fg (by omega) (by simp)]; exact g14
  · rw [f.Fg (by omega) (by simp)]; exact g16
theorem addLinkc_ok {x : Int} (d : DWc Fv P PR u) (hq : q < PR) : OK (fun w _ => WQ Fv P PR u w ∧ F w 956 = F u 956 ∧ FC q [] [] [] [15] [] [14] [] u w) (hm_Pr_addLink N u q (I x)) := by
  have s := (d.2 q hq).1.1
  unfold hm_Pr_addLink hb_Pr_addLink_0 hb_Pr_addLink_29
  rw [I_F (k := pq q 15), I_lit (n := 24)]
  refine k_le ⟨by decide, by decide⟩ (FRG1 u _) (fun _ => ok_some.mpr ⟨WQ.rf d, rfl, FC.rf⟩) (fun h1 => ?_)
  have h1 : F u (pq q 15) < 24 := h1
  refine e_in ⟨s.1, by omega⟩ (by decide) (ok_lt.mpr (ok_lt.mpr (ok_some.mpr ?_)))
  rw [tnI (n := (F u (pq q 15)).toNat) (by omega) (by omega), wa_e]
  rw [show (wa u (pq q 14) (F u (pq q 15)).toNat x).1 (pq q 15) = I (F u (pq q 15)) from I_F, lit1q, I_add, wi_e]
  generalize hz : wi (wa u (pq q 14) (F u (pq q 15)).toNat x) (pq q 15) (F u (pq q 15) + 1) = z
  have f : FC q [] [] [] [15] [] [14] [] u z := by rw [← hz]; exact FC.wi_q (FC.wa_q FC.rf (by omega) (by simp)) (by omega) (by simp)
  have e : F z (pq q 15) = F u (pq q 15) + 1 := by rw [← hz, F_wi (by omega) (by omega), if_pos rfl]
  exact ⟨WQ_lk d hq f (by omega) (by rw [← hz]; rfl), f.Fg (by omega) (by simp), f⟩
theorem removeLinkc_ok {x : Int} (d : DWc Fv P PR u) (hq : q < PR) (hx : RG x) (hN : 100 ≤ N) : OK (fun w _ => WQ Fv P PR u w ∧ F w 956 = F u 956 ∧ FC q [] [] [] [15] [] [14] [] u w) (hm_Pr_removeLink N u q (I x)) := by
  have s := (d.2 q hq).1.1
  unfold hm_Pr_removeLink hb_Pr_removeLink_0 hb_Pr_removeLink_44
  refine ok_bnd.mpr (ok_mono (seekLink_ok (N := N) s hx hN) (fun w r hw => ?_))
  obtain ⟨rfl, rfl | ⟨i, rfl, hi⟩⟩ := hw
  · exact ok_br.mpr ⟨fun _ => ok_some.mpr ⟨WQ.rf d, rfl, FC.rf⟩, fun z => absurd z (by decide)⟩
  · rw [m1I]
    refine k_eq ⟨by omega, by omega⟩ ⟨by decide, by decide⟩ (fun z => absurd z (by omega)) (fun _ => ?_)
    rw [I_F (k := pq q 15), lit1q, I_add, I_sub, I_sub]
    refine e_cp ⟨by omega, by omega, by omega, by omega, by omega⟩ (by decide) (by decide) (ok_lt.mpr (ok_lt.mpr (ok_some.mpr ?_)))
    generalize va_cpy _ _ _ _ _ = g
    rw [show (upA w (pq q 14) g).1 (pq q 15) = I (F w (pq q 15)) from I_F, I_sub, wi_e]
    generalize hz : wi (upA w (pq q 14) g) (pq q 15) (F w (pq q 15) - 1) = z
    have f : FC q [] [] [] [15] [] [14] [] w z := by rw [← hz]; exact FC.wi_q (FC.A_q FC.rf (by omega) (by simp)) (by omega) (by simp)
    have e : F z (pq q 15) = F w (pq q 15) - 1 := by rw [← hz, F_wi (by omega) (by omega), if_pos rfl]
    exact ⟨WQ_lk d hq f (by omega) (by rw [← hz]; rfl), f.Fg (by omega) (by simp), f⟩
theorem WQ_wt (d : DWc Fv P PR u) (f : FC 0 [950] [] [49, 50, 51] [] [] [] [] u w) (hl : 0 ≤ F w 950 ∧ F w 950 ≤ 200) (h44 : w.2.2.2 = u.2.2.2) : WQ Fv P PR u w := by
  have g16 := d.1.2.2.2.1.2
  refine ⟨DWc_gl d f (by simp) (by simp) (fun h0 => ?_) (by simp) hl ?_ (by simp), f.W (by simp) (by simp) (by simp) (by simp) (by simp) (by simp) (by rw [h44]), ST3.of f (by simp) (by simp)⟩
  · unfold SMQ
    rw [f.Fq (by omega) (by simp), f.Fq (by omega) (by simp), f.Fq (by omega) (by simp), f.Fq (by omega) (by simp)]; exact (d.2 0 h0).1
  · rw [f.Fg (by omega) (by simp)]; exact g16
theorem keepWatch_ok {a b : Int} (ha : 0 ≤ a ∧ a < 200) (hb : 0 ≤ b ∧ b < 200) : OK (fun w _ => FC 0 [] [] [49, 50, 51] [] [] [] [] u w ∧ w.2.2.2 = u.2.2.2 ∧ ∀ i : Nat, b < (i : Int) → A w 49 i = A u 49 i ∧ A w 50 i = A u 50 i) (hm_Wl_keepWatch N u (I a) (I b)) := by
  unfold hm_Wl_keepWatch hb_Wl_keepWatch_0
  refine e_in ⟨ha.1, by omega⟩ (by decide) (e_in ⟨hb.1, by omega⟩ (by decide) (ok_lt.mpr (e_in ⟨ha.1, by omega⟩ (by decide) (e_in ⟨hb.1, by omega⟩ (by decide) (ok_lt.mpr (e_in ⟨ha.1, by omega⟩ (by decide) (e_in ⟨hb.1, by omega⟩ (by decide) (ok_lt.mpr (ok_some.mpr ⟨FC.A_g (FC.A_g (FC.A_g FC.rf (by omega) (by simp)) (by omega) (by simp)) (by omega) (by simp), rfl, fun i hi => ⟨?_, ?_⟩⟩)))))))))
  · have : i ≠ (I b).toNatClampNeg := by rw [tnI (n := b.toNat) (by omega) (by omega)]; omega
    show (upd (u.2.2.1 49) _ _ i).toInt = _
    unfold upd
    rw [if_neg this]; rfl
  · have : i ≠ (I b).toNatClampNeg := by rw [tnI (n := b.toNat) (by omega) (by omega)]; omega
    show (upd (u.2.2.1 50) _ _ i).toInt = _
    unfold upd
    rw [if_neg this]; rfl
theorem removeWatchc_ok {x y : Int} (d : DWc Fv P PR u) (hx : RG x) (hy : RG y) (hN : 300 ≤ N) : OK (fun w _ => WQ Fv P PR u w ∧ F w 956 = F u 956) (hm_Wl_removeWatch N u (I x) (I y)) := by
  have s := d.1.2.2.1
  unfold hm_Wl_removeWatch hb_Wl_removeWatch_0
  have gen : ∀ (M i k : Nat) (w : MS), i ≤ 200 → 200 - i < M → k ≤ i → FC 0 [] [] [49, 50, 51] [] [] [] [] u w → w.2.2.2 = u.2.2.2 → OK (fun w _ => WQ Fv P PR u w ∧ F w 956 = F u 956) (hg_Wl_removeWatch N M w (I x) (I y) (I ((k : Nat) : Int)) (I ((i : Nat) : Int))) := by
    intro M
    induction M with
    | zero => intro i _ _ _ h; omega
    | succ M ih =>
      intro i k w hi hM hk f hj
      show OK _ (hb_Wl_removeWatch_5 N (hg_Wl_removeWatch N M) w (I x) (I y) (I ((k : Nat) : Int)) (I ((i : Nat) : Int)))
      unfold hb_Wl_removeWatch_5 hb_Wl_removeWatch_36 hb_Wl_removeWatch_46
      have e : F w 950 = F u 950 := f.Fg (by omega) (by simp)
      rw [I_F (k := 950), e]
      refine k_le (FRG1 u _) ⟨by omega, by omega⟩ (fun hh => ok_lt.mpr (ok_some.mpr ?_)) (fun h1 => ?_)
      · rw [wi_e]
        have f2 : FC 0 [950] [] [49, 50, 51] [] [] [] [] u (wi w 950 ((k : Nat) : Int)) := FC.wi_g (FC.mo f (by simp) (by simp) (by simp) (by simp) (by simp) (by simp) (by simp)) (by omega) (by simp)
        refine ⟨WQ_wt d f2 ?_ hj, f2.Fg (by omega) (by simp)⟩
        rw [F_wi (by omega) (by omega), if_pos rfl]; omega
      · refine e_in ⟨by omega, by omega⟩ (by decide) ?_
        rw [tnI (n := i) rfl (by omega)]
        have nx : ∀ (w2 : MS) (k2 : Nat), k2 ≤ i + 1 → FC 0 [] [] [49, 50, 51] [] [] [] [] u w2 → w2.2.2.2 = u.2.2.2 → OK (fun w _ => WQ Fv P PR u w ∧ F w 956 = F u 956) (hg_Wl_removeWatch N M w2 (I x) (I y) (I ((k2 : Nat) : Int)) (I ((i : Nat) : Int) + 1)) := by
          intro w2 k2 hk2 f2 hj2
          rw [lit1q, I_add, show ((i : Nat) : Int) + 1 = ((i + 1 : Nat) : Int) by omega]
          exact ih (i + 1) k2 w2 (by omega) (by omega) (by omega) f2 hj2
        have kp : OK (fun w _ => WQ Fv P PR u w ∧ F w 956 = F u 956) (bnd (hm_Wl_keepWatch N w (I ((i : Nat) : Int)) (I ((k : Nat) : Int))) (fun u1 _ => hg_Wl_removeWatch N M u1 (I x) (I y) (I ((k : Nat) : Int) + 1) (I ((i : Nat) : Int) + 1))) := by
          refine ok_bnd.mpr (ok_mono (keepWatch_ok (N := N) ⟨by omega, by omega⟩ ⟨by omega, by omega⟩) (fun w2 _ hw => ?_))
          rw [lit1q, I_add (x := ((k : Nat) : Int)), show ((k : Nat) : Int) + 1 = ((k + 1 : Nat) : Int) by omega, ← lit1q]
          exact nx w2 (k + 1) (by omega) (FC.tr f hw.1) (hw.2.1.trans hj)
        rw [I_A (k := 49)]
        refine k_eq (ARG1 w _ _) hx (fun _ => ?_) (fun _ => kp)
        refine e_in ⟨by omega, by omega⟩ (by decide) ?_
        rw [I_A (k := 51)]
        exact k_eq (ARG1 w _ _) hy (fun _ => nx w k (by omega) f hj) (fun _ => kp)
  rw [lit0q, show (0 : Int) = ((0 : Nat) : Int) from rfl]
  exact gen N 0 0 u (by omega) (by omega) (by omega) FC.rf rfl
theorem addWatchc_ok {x y z : Int} (d : DWc Fv P PR u) : OK (fun w _ => WQ Fv P PR u w ∧ F w 956 = F u 956) (hm_Wl_addWatch N u (I x) (I y) (I z)) := by
  have s := d.1.2.2.1
  unfold hm_Wl_addWatch hb_Wl_addWatch_0 hb_Wl_addWatch_50
  have e : u.1 950 = I (F u 950) := I_F
  rw [e, I_lit (n := 200)]
  refine k_le ⟨by decide, by decide⟩ (FRG1 u _) (fun _ => ok_some.mpr ⟨WQ.rf d, rfl⟩) (fun h1 => ?_)
  have h1 : F u 950 < 200 := h1
  refine e_in ⟨s.1, by omega⟩ (by decide) (ok_lt.mpr ?_)
  generalize hw1 : upA u 49 _ = w1
  have f1 : FC 0 [950] [] [49, 50, 51] [] [] [] [] u w1 := by rw [← hw1]; exact FC.A_g FC.rf (by omega) (by simp)
  have i1 : w1.1 = u.1 := by rw [← hw1]; rfl
  have j1 : w1.2.2.2 = u.2.2.2 := by rw [← hw1]; rfl
  rw [i1, e]
  refine e_in ⟨s.1, by omega⟩ (by decide) (ok_lt.mpr ?_)
  generalize hw2 : upA w1 50 _ = w2
  have f2 : FC 0 [950] [] [49, 50, 51] [] [] [] [] u w2 := by rw [← hw2]; exact FC.A_g f1 (by omega) (by simp)
  have i2 : w2.1 = u.1 := by rw [← hw2]; exact i1
  have j2 : w2.2.2.2 = u.2.2.2 := by rw [← hw2]; exact j1
  rw [i2, e]
  refine e_in ⟨s.1, by omega⟩ (by decide) (ok_lt.mpr (ok_lt.mpr (ok_some.mpr ?_)))
  generalize hw3 : upA w2 51 _ = w3
  have f3 : FC 0 [950] [] [49, 50, 51] [] [] [] [] u w3 := by rw [← hw3]; exact FC.A_g f2 (by omega) (by simp)
  have i3 : w3.1 = u.1 := by rw [← hw3]; exact i2
  have j3 : w3.2.2.2 = u.2.2.2 := by rw [← hw3]; exact j2
  rw [i3, e, lit1q, I_add, wi_e]
  have f4 := FC.wi_g (x := F u 950 + 1) f3 (k := 950) (by omega) (by simp)
  refine ⟨WQ_wt d f4 ?_ j3, f4.Fg (by omega) (by simp)⟩
  rw [F_wi (by omega) (by omega), if_pos rfl]; omega
theorem watchesOf_ok {x : Int} (d : DWc Fv P PR u) (hx : RG x) (hN : 300 ≤ N) : OK (fun w _ => w = u) (hm_Wl_watchesOf N u (I x)) := by
  have s := d.1.2.2.1
  unfold hm_Wl_watchesOf hb_Wl_watchesOf_0
  have gen : ∀ (M i : Nat) (y : Int32), i ≤ 200 → 200 - i < M → OK (fun w _ => w = u) (hg_Wl_watchesOf N M u (I x) y (I ((i : Nat) : Int))) := by
    intro M
    induction M with
    | zero => intro i _ _ h; omega
    | succ M ih =>
      intro i y hi hM
      show OK _ (hb_Wl_watchesOf_4 N (hg_Wl_watchesOf N M) u (I x) y (I ((i : Nat) : Int)))
      unfold hb_Wl_watchesOf_4 hb_Wl_watchesOf_28
      rw [I_F (k := 950)]
      refine k_le (FRG1 u _) ⟨by omega, by omega⟩ (fun _ => ok_some.mpr rfl) (fun h1 => ?_)
      refine e_in ⟨by omega, by omega⟩ (by decide) ?_
      rw [I_A (k := 49)]
      have nx : ∀ y, OK (fun w (_ : Int32) => w = u) (hg_Wl_watchesOf N M u (I x) y (I ((i : Nat) : Int) + 1)) := fun y => by
        rw [lit1q, I_add, show ((i : Nat) : Int) + 1 = ((i + 1 : Nat) : Int) by omega]
        exact ih (i + 1) y (by omega) (by omega)
      exact k_eq (ARG1 u _ _) hx (fun _ => nx _) (fun _ => nx _)
  rw [lit0q, show (0 : Int) = ((0 : Nat) : Int) from rfl]
  exact gen N 0 _ (by omega) (by omega)
end
