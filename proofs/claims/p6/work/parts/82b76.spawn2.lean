set_option maxRecDepth 100000
section
variable {T : Nat → Option (Nat × Nat × List Nat × Nat × Nat)} {Fv : Int64 → Int64 → Prop} {P : Int64 → Prop} {u v w w1 : MS} {PR N q r n B W Y i h m g x j wb nb cb rk c f i2 h2 m2 k a U d : Nat} {L : List Nat} {ow kd : Nat → Nat} {t rest : Int64} {gi gl ga ki kl ka kj : List Nat}
theorem MI_born (M : MIc T Fv P PR q u i h m L g x j wb nb cb rk) (hI : ∀ r k, r ≠ PR → k < 100 → w.1 (pq r k) = u.1 (pq r k)) (hA : ∀ r k, r ≠ PR → k < 100 → w.2.2.1 (pq r k) = u.2.2.1 (pq r k)) (hg : ∀ k, k ∈ [22, 442, 449, 1105, 1106, 1107, 1108, 1109, 1112, 1113, 1114] → w.1 k = u.1 k) (hga : ∀ k, k ∈ [3, 23, 25, 29, 30, 31, 32] → w.2.2.1 k = u.2.2.1 k) (hL : ∀ r, r ≠ PR → w.2.1 (pq r 10) = u.2.1 (pq r 10)) (dw : DWc Fv P (PR + 1) w) (al : ALN w) (ps : F w (pq PR 9) ≠ 3 → PSQ T w PR) : MIc T Fv P (PR + 1) q w i h m L g x j wb nb cb rk ∧ PHc T w q i x rk = PHc T u q i x rk ∧ F w 1109 = F u 1109 ∧ F w 1108 = F u 1108 := by
  obtain ⟨⟨g1, g2, g3, g4, g5, g6, g7, g8⟩, s9, st, ⟨t1, t2⟩, ⟨b1, b2⟩, gd, xx, un⟩ := M
  have hq : q ≠ PR := by omega
  have s : SCQ u w := ⟨fun k hk => hg k (by simp at hk ⊢; omega), hga⟩
  have fq : ∀ k, k < 100 → F w (pq q k) = F u (pq q k) := fun k hk => congrArg _ (hI q k hq hk)
  have fg : ∀ k, k ∈ [22, 442, 449, 1105, 1106, 1107, 1108, 1109, 1112, 1113, 1114] → F w k = F u k := fun k hk => congrArg _ (hg k hk)
  refine ⟨⟨⟨dw, CTX_s s g2, WFT_s s g3, CDT_s s g4, fun r hr hrq hal => ?_, al, by omega, by rw [fg 1106 (by simp), fg 1107 (by simp)]; exact g8⟩, by rw [fq 9 (by omega)]; exact s9, STc_s st (hA q 30 hq (by omega)) (hA q 37 hq (by omega)) (hI q 21 hq (by omega)) (hI q 28 hq (by omega)), ⟨t1, by rw [fg 1105 (by simp)]; exact t2⟩, ⟨by rw [fq 26 (by omega)]; exact b1, by rw [fq 24 (by omega)]; exact b2⟩, GDS_s gd (fun k hk => hg k (by simp at hk ⊢; omega)) (hga 23 (by simp)), fun z1 z2 => by rw [fq 8 (by omega), fq 7 (by omega)]; exact xx z1 z2, UN_k un (hL q hq) (hga 23 (by simp))⟩, ?_, fg 1109 (by simp), fg 1108 (by simp)⟩
  · by_cases e : r = PR
    · rw [e] at hal ⊢; exact ps hal
    · refine PSQ_s (g5 r (by omega) hrq (fun z => hal ?_)) (hA r 30 e (by omega)) (hA r 37 e (by omega)) (fun k hk => hI r k e (by simp at hk; omega)) (hL r e) (hga 23 (by simp))
      rw [show F w (pq r 9) = F u (pq r 9) from congrArg _ (hI r 9 e (by omega))]; exact z
  · unfold PHc
    rw [fq 8 (by omega), fg 1106 (by simp), fg 1107 (by simp)]
theorem ALN_b (al : ALN u) (hP : PR < 24) (h48 : w.2.2.1 1948 = u.2.2.1 1948) (hI : ∀ r k, r ≠ PR → k < 100 → w.1 (pq r k) = u.1 (pq r k)) (ln : LNB w PR) : ALN w := ALN_k al h48 (fun r _ h1 => by
  by_cases e : r = PR
  · rw [e]; exact ln
  · exact LNB_fc h1 (fun k hk => hI r k e (by simp at hk; omega)))
theorem fin170 (M : MIc T Fv P PR q u i h m L g x j wb nb cb rk) (hx : x < i) (t9 : F u 1109 = 0) (t8 : F u 1108 = 0) (hf : PHc T u q i x rk ≤ c) (hk : 1 ≤ h) (t2 : T (i + 2) = some (h - 1 + 1, m, L, g, x)) (hr : r < 24) : OK (fun w _ => PDQc T Fv P PR q c w) (hb_Ma_spawn_170 N () u q r) := by
  obtain ⟨n, ow, kd, Y, p⟩ := MI_p M
  unfold hb_Ma_spawn_170
  rw [I_lit (n := 4), show Int32.ofNat r = I ((r : Nat) : Int) from rfl, e_make, bnd_so]
  exact ansP (y := 1) (k := 1) M hx t9 t8 hf p (GT_nu M.1.2.1 (Or.inr (Or.inr rfl)) ⟨by omega, by omega⟩) rfl hk t2
theorem spawn_ok (M : MIc T Fv P PR q u i h m L g x j wb nb cb rk) (hx : x < i) (t9 : F u 1109 = 0) (t8 : F u 1108 = 0) (hf : PHc T u q i x rk ≤ c) (hk : 1 ≤ h) (t2 : T (i + 2) = some (h - 1 + 1, m, L, g, x)) (hN : 3000000 ≤ N) : OK (fun w _ => ∃ PR2, PDQc T Fv P PR2 q c w) (hm_Ma_spawn N u q) := by
  obtain ⟨n, ow, kd, Y, p⟩ := MI_p M
  obtain ⟨b0, g0⟩ := below_0 (N := N) M p hk
  have cx := M.1.2.1
  have dw := M.1.1
  have hq2 := M.1.2.2.2.2.2.2.1
  have hPR := M.1.1.1.1.2
  have no : ∀ v1, OK (fun w _ => ∃ PR2, PDQc T Fv P PR2 q c w) (hb_Ma_spawn_59 N () u q v1 none) := fun v1 => ok_br.mpr ⟨fun _ => ok_mono (errP (N := N) (a := 11) M t9 t8 hf (by omega)) (fun w _ hw => ⟨PR, hw⟩), fun z => absurd z (by decide)⟩
  have n42 : ∀ v1, OK (fun w _ => ∃ PR2, PDQc T Fv P PR2 q c w) (hb_Ma_spawn_42 N () u q v1) := fun v1 => by
    unfold hb_Ma_spawn_42 hb_Ma_spawn_43
    exact ok_br.mpr ⟨fun _ => no v1, fun z => absurd z (by decide)⟩
  unfold hm_Ma_spawn hb_Ma_spawn_0
  rw [b0, bnd_so, e_tag, bnd_so, I_lit (n := 3)]
  refine k_eq (so_r _) ⟨by decide, by decide⟩ (fun e3 => ?_) (fun _ => n42 _)
  have e3 : so (u.2.2.2 (pq q 35) (wb + h - 1)) = 3 := e3
  generalize u.2.2.2 (pq q 35) (wb + h - 1) = t at g0 e3 ⊢
  obtain ⟨a1, a2, a3, a4, a5⟩ := fun_at p.1.2.2 g0 e3
  have pn := p.1.2.1
  rw [valI, a1]
  refine e_in ⟨by omega, by omega⟩ (by decide) ?_
  rw [tnI (n := vn t) rfl (by omega), valI]
  obtain ⟨ta, te, tk, tT, tw, ti⟩ := fun_info (N := N) M.1.2.2.2.1 a2
  rw [(tw u q ⟨fun _ _ => rfl, fun _ _ => rfl⟩).1, bnd_so, lit0q]
  refine k_eq ⟨by have := (M.1.2.2.1 _ _ _ _ _ _ tT).2.1; omega, by have := (M.1.2.2.1 _ _ _ _ _ _ tT).2.1; omega⟩ ⟨by decide, by decide⟩ (fun e0 => ?_) (fun _ => n42 _)
  have e0 : ta = 0 := by omega
  subst e0
  have tb := (M.1.2.2.1 _ _ _ _ _ _ tT)
  show OK _ (br (decide ((1 : Int32) = 0)) _ _)
  refine ok_br.mpr ⟨fun z => absurd z (by decide), fun _ => ?_⟩
  refine ok_bnd.mpr (ok_mono (bornc_ok (N := N) dw M.1.2.2.2.2.2.1) (fun w0 r0 hw0 => ?_))
  rcases hw0 with ⟨rfl, rfl⟩ | ⟨rfl, hP, d0, f0, al0, z0, p0⟩
  · exact no _
  have hne : q ≠ PR := by omega
  unfold hb_Ma_spawn_59
  refine ok_br.mpr ⟨fun z => absurd z (by simp), fun _ => ?_⟩
  rw [valI, a1]
  refine e_in ⟨by omega, by omega⟩ (by decide) ?_
  rw [bo_s, tnI (n := vn t) rfl (by omega), f0.jo hne (by omega), valI]
  have sc0 : SCQ u w0 := SCQ_f f0 (by simp) (by simp)
  obtain ⟨-, ent, fn, efn⟩ := tw w0 q sc0
  rw [efn, bnd_so, ent, bnd_so, lit0q]
  refine ok_bnd.mpr (ok_mono (open_ok (N := N) (q := PR) (j := 0) (B := 0) (W := 0) (s := 0) (z0 21 (by simp)) (by omega) (z0 24 (by simp)) (z0 26 (by simp)) (by omega)) (fun w1 _ hw1 => ?_))
  obtain ⟨f1, o1, -, o3, o4, o5, o6, o7⟩ := hw1
  have fu1 : FC PR [942] [] [1948] R100 R100 R100 R100 u w1 := FC.tr f0 (FC.all f1 (by simp) (by simp) (by simp))
  have p1 : PTQ w1 PR 0 (fun _ => 0) (fun _ => 0) Fv P 0 0 0 := PTQ_same p0 (fun k hk => f1.2.2.2.2.1 PR k (by simp at hk; omega) (fun _ => by simp at hk ⊢; omega)) (fun k hk => f1.jq (by simp at hk; omega) (by simp))
  obtain ⟨fz, s, z⟩ := HP_szc p.1.2.2 g0
  have zm := SZ_max p.1.2.2 z
  have z1 : SZc (w1.2.2.2 (pq q 2)) n ow kd Fv P fz t s := by rw [fu1.jo hne (by omega)]; exact z
  have hp1 : HPc (w1.2.2.2 (pq q 2)) n ow kd Fv P := by rw [fu1.jo hne (by omega)]; exact p.1.2.2
  refine ok_bnd.mpr (ok_mono (size_ok (N := N) (b := pq q 2) (by unfold pq; omega) rfl (by omega) cx.1.1 (by omega) z1 (by omega)) (fun w2 r2 h2 => ?_))
  obtain ⟨f2, rfl⟩ := h2
  have f2c : FC PR [] [] [] [] [] [] [] w1 w2 := FC.of f2 (by simp) (by simp) (by simp) (by simp)
  have p2 : PTQ w2 PR 0 (fun _ => 0) (fun _ => 0) Fv P 0 0 0 := PTQ_same p1 (fun k hk => f2c.2.2.2.2.1 PR k (by simp at hk; omega) (by simp)) (fun k hk => f2c.jq (by simp at hk; omega) (by simp))
  have c2 : CTX Fv P w2 := CTX_fr cx ((f2c.1 22 (by omega) (by simp)).trans (fu1.1 22 (by omega) (by simp))) ((f2c.2.2.1 3 (by omega) (by simp)).trans (fu1.2.2.1 3 (by omega) (by simp)))
  refine ok_bnd.mpr (ok_mono (want_ok (N := N) (x := ((s : Nat) : Int)) p2 c2 ⟨by omega, by omega⟩ (by omega)) (fun w3 r3 h3 => ?_))
  obtain ⟨hr, U, ow3, kd3, p3, hU, f3, -, -⟩ := h3
  have f3c := FC_want f3
  have fu3 : FC PR [942] [] [1948] R100 R100 R100 R100 u w3 := FC.tr (FC.tr fu1 (FC.all f2c (by simp) (by simp) (by simp))) (FC.all f3c (by simp) (by simp) (by simp))
  have f03 : FC PR [] [] [] [4, 5, 21] [] [30] [2, 3, 33, 35, 6] w0 w3 := FC.tr (FC.tr (FC.mo f1 (by simp) (by simp) (by simp) (by simp) (by simp) (by simp) (by simp)) (FC.mo f2c (by simp) (by simp) (by simp) (by simp) (by simp) (by simp) (by simp))) (FC.mo f3c (by simp) (by simp) (by simp) (by simp) (by simp) (by simp) (by simp))
  have h90 : F w0 (pq PR 9) ≠ 3 := by rw [z0 9 (by simp)]; decide
  have h93 : F w3 (pq PR 9) = 0 := by rw [f03.Fq (by omega) (by simp)]; exact z0 9 (by simp)
  have d3 : DWc Fv P (PR + 1) w3 := DWc_fc d0 f03 (by omega) h90 (by rw [h93]; decide) (SMQ_up (d0.2 PR (by omega)).1 (f03.Fq (by omega) (by simp)) (f03.Fq (by omega) (by simp)) (by rw [f03.Fq (by omega) (by simp)]; exact Int.le_refl _) h90) ⟨_, _, _, _, _, _, p3⟩ (by simp) (by simp)
  have c3 : CTX Fv P w3 := CTX_fr c2 (f3c.1 22 (by omega) (by simp)) (f3c.2.2.1 3 (by omega) (by simp))
  have ln0 : LNB w0 PR := by
    rcases al0 PR hP with z | ⟨-, z⟩
    · rw [d0.1.2.1 PR (by omega)] at z; cases z
    · exact z
  have ln3 : LNB w3 PR := LNB_k ln0 f03 (by simp)
  rcases hr with rfl | rfl
  · refine ok_br.mpr ⟨fun _ => ?_, fun z => absurd z (by decide)⟩
    refine ok_bnd.mpr (ok_mono (endsBy_ok (N := N) (a := 20) d3 c3 (by omega) (by rw [h93]; decide) (by omega)) (fun w4 _ h4 => ?_))
    obtain ⟨k1, k2, k3, k4, k5, ⟨k6, k7, k8⟩, k9⟩ := h4
    have hI : ∀ r k, r ≠ PR → k < 100 → w4.1 (pq r k) = u.1 (pq r k) := fun r k hr hk => (k6 r k hr hk).trans (fu3.2.2.2.2.1 r k hk (fun e => absurd e hr))
    have hA : ∀ r k, r ≠ PR → k < 100 → w4.2.2.1 (pq r k) = u.2.2.1 (pq r k) := fun r k hr hk => (k8 _ (by unfold pq; omega)).trans (fu3.2.2.2.2.2.2.1 r k hk (fun e => absurd e hr))
    obtain ⟨M4, ph, s9, s8⟩ := MI_born M hI hA (fun k hk => (k2.2.1 k (by simp at hk; omega) (by simp at hk ⊢; omega)).trans (fu3.1 k (by simp at hk; omega) (by simp at hk ⊢; omega))) (fun k hk => (k8 k (by simp at hk; omega)).trans (fu3.2.2.1 k (by simp at hk; omega) (by simp at hk ⊢; omega))) (fun r hr => (k2.2.2.2.2.2.1 r 10 (by omega) (by simp)).trans (fu3.2.2.2.2.2.1 r 10 (by omega) (fun e => absurd e hr))) k1 (ALN_b al0 hP ((k8 1948 (by omega)).trans (f03.2.2.1 1948 (by omega) (by simp))) (fun r k hr hk => (k6 r k hr hk).trans (f03.2.2.2.2.1 r k hk (fun e => absurd e hr))) (LNB_w ln3 k2)) (fun z => absurd k3 z)
    exact ok_mono (fin170 M4 hx (by rw [s9]; exact t9) (by rw [s8]; exact t8) (by rw [ph]; exact hf) hk t2 hP) (fun w _ hw => ⟨PR + 1, hw⟩)
  · refine ok_br.mpr ⟨fun z => absurd z (by decide), fun _ => ?_⟩
    have hU := hU rfl
    have hpn := p3.1.2.1
    have eh : w3.2.2.2 (pq q 2) = u.2.2.2 (pq q 2) := fu3.jo hne (by omega)
    have hpq : pq q 2 ≠ pq PR 2 := by unfold pq; omega
    have z3 : SZc (w3.2.2.2 (pq q 2)) n ow kd Fv P fz t s := by rw [eh]; exact z
    have hp3 : HPc (w3.2.2.2 (pq q 2)) n ow kd Fv P := by rw [eh]; exact p.1.2.2
    refine ok_bnd.mpr (ok_mono (copyIn_hd (N := N) (q := PR) (b := pq q 2) hp3 cx.1 (by omega) (by omega) (fun _ _ => rfl) (fun e => absurd e hpq) z3 p3.1.1 p3.1.2.2 (by omega)) (fun w4 r4 h4 => ?_))
    obtain ⟨f4, e4, r4a, ow4, kd4, g4, -, gt4, gr4, -, sr4, hd4⟩ := h4
    have f4c : FC PR [] [] [] [4] [] [] [2] w3 w4 := FC.ofq (ki := [4]) (kj := [2]) f4 (by simp) (by simp)
    have p4 := PTQ_cells p3 f4c e4 (by omega) g4 gt4
    have e34 : so r4 = 3 := by rw [sr4]; exact e3
    have ht : isH t := Or.inl e3
    obtain ⟨v4, hd4⟩ := hd4 ht
    have vr : vn r4 = U := by unfold vn; rw [v4]; rfl
    have pr2 : prt t = 2 := by unfold prt; rw [if_neg (by rw [e3]; decide), if_neg (by rw [e3]; decide)]
    have q0 : w4.2.2.2 (pq PR 2) (vn r4) = u.2.2.2 (pq q 2) (vn t) := by rw [vr, ← eh]; exact hd4 0 (by omega)
    have q1 : w4.2.2.2 (pq PR 2) (vn r4 + 1) = u.2.2.2 (pq q 2) (vn t + 1) := by rw [vr, ← eh]; exact hd4 1 (by omega)
    have fu4 : FC PR [942] [] [1948] R100 R100 R100 R100 u w4 := FC.tr fu3 (FC.all f4c (by simp) (by simp) (by simp))
    have ln4 : LNB w4 PR := LNB_k ln3 f4c (by simp)
    refine ok_bnd.mpr (ok_mono (hold_ok (N := N) (r := PR) (q := q) (B := 0) (k := tk) p4 ln4 gr4 e34 (by omega) tb.2.1.2.1 (by rw [q0, q1, fu4.Fg (by omega) (by simp), (SCQ_f fu4 (by simp) (by simp)).A (k := 32) (by simp), (SCQ_f fu4 (by simp) (by simp)).A (k := 23) (by simp)]; exact ti) (by omega)) (fun w5 _ h5 => ?_))
    obtain ⟨f5, p5, ln5⟩ := h5
    have fu5 : FC PR [942] [] [1948] R100 R100 R100 R100 u w5 := FC.tr fu4 (FC.all f5 (by simp) (by simp) (by simp))
    have f05 : FC PR [] [] [] [4, 5, 21, 24, 26, 42, 43, 45] [] [30, 32] [2, 3, 33, 35, 6] w0 w5 := FC.tr (FC.tr (FC.mo f03 (by simp) (by simp) (by simp) (by simp) (by simp) (by simp) (by simp)) (FC.mo f4c (by simp) (by simp) (by simp) (by simp) (by simp) (by simp) (by simp))) (FC.mo f5 (by simp) (by simp) (by simp) (by simp) (by simp) (by simp) (by simp))
    have h95 : F w5 (pq PR 9) = 0 := by rw [f05.Fq (by omega) (by simp)]; exact z0 9 (by simp)
    have d5 : DWc Fv P (PR + 1) w5 := DWc_fc d0 f05 (by omega) h90 (by rw [h95]; decide) (SMQ_up (d0.2 PR (by omega)).1 (f05.Fq (by omega) (by simp)) (f05.Fq (by omega) (by simp)) (by rw [f05.Fq (by omega) (by simp)]; exact Int.le_refl _) h90) ⟨_, _, _, _, _, _, p5⟩ (by simp) (by simp)
    have f15 : FC PR [] [] [] [4, 5, 24, 26, 42, 43, 45] [] [32] [2, 3, 33, 35, 6] w1 w5 := FC.tr (FC.tr (FC.mo f2c (by simp) (by simp) (by simp) (by simp) (by simp) (by simp) (by simp)) (FC.tr (FC.mo f3c (by simp) (by simp) (by simp) (by simp) (by simp) (by simp) (by simp)) (FC.mo f4c (by simp) (by simp) (by simp) (by simp) (by simp) (by simp) (by simp)))) (FC.mo f5 (by simp) (by simp) (by simp) (by simp) (by simp) (by simp) (by simp))
    have ps : PSQ T w5 PR := by
      refine ⟨0, 0, 0, 0, 0, te, 0, tk, [], 0, ⟨⟨rfl, rfl, rfl, rfl⟩, ⟨by rw [f15.Fq (by omega) (by simp)]; exact o1, by omega⟩, ⟨by rw [f15.aq (by omega) (by simp)]; exact o3, by rw [f15.aq (by omega) (by simp)]; exact o4⟩, ?_, trivial⟩, ?_, tT, Or.inl rfl, p5.2.2.1.1, p5.2.1.1, fun z => absurd rfl z⟩
      · rw [f05.Fq (by omega) (by simp)]; exact z0 28 (by simp)
      · rw [f15.aq (by omega) (by simp), o5, I_ti (by omega) (by omega)]
    obtain ⟨M5, ph, s9, s8⟩ := MI_born M (fun r k hr hk => fu5.2.2.2.2.1 r k hk (fun e => absurd e hr)) (fun r k hr hk => fu5.2.2.2.2.2.2.1 r k hk (fun e => absurd e hr)) (fun k hk => fu5.1 k (by simp at hk; omega) (by simp at hk ⊢; omega)) (fun k hk => fu5.2.2.1 k (by simp at hk; omega) (by simp at hk ⊢; omega)) (fun r hr => fu5.2.2.2.2.2.1 r 10 (by omega) (fun e => absurd e hr)) d5 (ALN_b al0 hP (f05.2.2.1 1948 (by omega) (by simp)) (fun r k hr hk => f05.2.2.2.2.1 r k hk (fun e => absurd e hr)) ln5) (fun _ => ps)
    exact ok_mono (fin170 M5 hx (by rw [s9]; exact t9) (by rw [s8]; exact t8) (by rw [ph]; exact hf) hk t2 hP) (fun w _ hw => ⟨PR + 1, hw⟩)
theorem predefined_ok {y : Int} (M : MIc T Fv P PR q u i h m L g x j wb nb cb rk) (hx : x < i) (t9 : F u 1109 = 0) (t8 : F u 1108 = 0) (hf : PHc T u q i x rk ≤ c) (hr : RG y) (hk : tkc y ≤ h) (t2 : T (i + 2) = some (h - tkc y + 1, m, L, g, x)) (hN : 1000000010 ≤ N) : OK (fun w _ => ∃ PR2, OPQ T Fv P PR2 q c w) (hm_Ma_predefined N u q (I y)) := by
  by_cases e : y = 1
  · subst e
    rw [pre1]
    refine ok_bnd.mpr (ok_mono (spawn_ok (N := N) M hx t9 t8 hf hk t2 (by omega)) (fun w _ hw => ?_))
    obtain ⟨PR2, hw⟩ := hw
    have a := pre_fin (N := N) (T := T) (Fv := Fv) (P := P) (PR := PR2) (q := q) (c := c) (o := some (w, ())) (ok_some.mpr hw)
    rw [bnd_so] at a
    exact ok_mono a (fun w _ hw => ⟨PR2, hw⟩)
  · exact ok_mono (pre_ok (N := N) M hx t9 t8 hf hr e hk t2 hN) (fun w _ hw => ⟨PR, hw⟩)
end
