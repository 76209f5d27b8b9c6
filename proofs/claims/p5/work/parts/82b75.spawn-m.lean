section
set_option maxRecDepth 100000
def R100 : List Nat := List.range 100
theorem R100_in {k : Nat} (h : k < 100) : k ∈ R100 := List.mem_range.mpr h
section
variable {T : Nat → Option (Nat × Nat × List Nat × Nat × Nat)} {Fv : Int64 → Int64 → Prop} {P : Int64 → Prop} {u v w w1 : MS} {PR N q r n B W Y i h m g x j wb nb cb rk c f i2 h2 m2 k a U d : Nat} {L : List Nat} {ow kd : Nat → Nat} {t rest : Int64} {gi gl ga ki kl ka kj : List Nat}
theorem FC.uq (a : FC q gi gl ga ki kl ka kj u w) {y : Int32} (h1 : k < 100) (h2 : k ∈ ki) : FC q gi gl ga ki kl ka kj u (upI w (pq q k) y) := by rw [I_of y]; exact FC.wi_q a h1 h2
theorem FC.lq (a : FC q gi gl ga ki kl ka kj u w) {y : Int64} (h1 : k < 100) (h2 : k ∈ kl) : FC q gi gl ga ki kl ka kj u (upL w (pq q k) y) := FC.wl_q a h1 h2
theorem clearc_ok : OK (fun w _ => FC r [] [] [] [4, 5, 7, 8, 9, 11, 12, 13, 15, 17, 21, 24, 26, 28, 29] [10, 16] [] [] u w ∧ (∀ k, k ∈ [4, 5, 7, 8, 9, 13, 15, 21, 24, 26, 28] → F w (pq r k) = 0) ∧ w.2.2.2 = u.2.2.2 ∧ w.2.2.1 = u.2.2.1) (hm_Pr_clear N u r) := by
  unfold hm_Pr_clear hb_Pr_clear_0 hm_Fr_clear hb_Fr_clear_0
  simp only [lt_e, bnd_so]
  refine ok_some.mpr ⟨FC.uq (FC.lq (FC.uq (FC.uq (FC.uq (FC.uq (FC.lq (FC.uq (FC.uq (FC.uq (FC.uq (FC.uq (FC.uq (FC.uq (FC.uq (FC.uq (FC.uq (FC.rf) (by omega) (by simp)) (by omega) (by simp)) (by omega) (by simp)) (by omega) (by simp)) (by omega) (by simp)) (by omega) (by simp)) (by omega) (by simp)) (by omega) (by simp)) (by omega) (by simp)) (by omega) (by simp)) (by omega) (by simp)) (by omega) (by simp)) (by omega) (by simp)) (by omega) (by simp)) (by omega) (by simp)) (by omega) (by simp)) (by omega) (by simp), fun k hk => ?_, rfl, rfl⟩
  simp only [List.mem_cons, List.not_mem_nil, or_false] at hk
  rcases hk with rfl | rfl | rfl | rfl | rfl | rfl | rfl | rfl | rfl | rfl | rfl <;> simp [F, upI, upL, pq]
theorem FC.all (a : FC q gi gl ga ki kl ka kj u w) (h1 : ∀ k, k ∈ gi → k ∈ [942]) (h2 : ∀ k, k ∈ gl → False) (h3 : ∀ k, k ∈ ga → k ∈ [1948]) : FC q [942] [] [1948] R100 R100 R100 R100 u w := by
  obtain ⟨a1, a2, a3, a4, a5, a6, a7, a8⟩ := a
  exact ⟨fun k x y => a1 k x (fun z => y (h1 k z)), fun k x y => a2 k x (fun z => (h2 k z).elim), fun k x y => a3 k x (fun z => y (h3 k z)), a4, fun r k x y => a5 r k x (fun e _ => y e (R100_in x)), fun r k x y => a6 r k x (fun e _ => y e (R100_in x)), fun r k x y => a7 r k x (fun e _ => y e (R100_in x)), fun r k x y => a8 r k x (fun e _ => y e (R100_in x))⟩
theorem DWc_new (dw : DWc Fv P PR u) (hP : PR < 24) (f : FC PR [942] [] [1948] R100 R100 R100 R100 u w) (e942 : F w 942 = ((PR + 1 : Nat) : Int)) (e48 : ∀ r, r < PR + 1 → rf (w.2.2.1 1948 r) = some r) (h9 : F w (pq PR 9) ≠ 3) (sm : SMQ w PR) (lv : LVQ Fv P w PR) : DWc Fv P (PR + 1) w := by
  obtain ⟨⟨⟨g11, g12⟩, g13, g14, ⟨g15, g16⟩, g17, g18, g19⟩, d2⟩ := dw
  have st : ∀ r, r ≠ PR → F w (pq r 9) = F u (pq r 9) := fun r hr => f.Fo hr (by omega)
  have gF : ∀ k, k ∈ [950, 953, 955, 956] → F w k = F u k := fun k hk => f.Fg (by simp at hk; omega) (by simp at hk ⊢; omega)
  have gA : ∀ k i, k ∈ [53, 54] → A w k i = A u k i := fun k i hk => f.ag (by simp at hk; omega) (by simp at hk ⊢; omega)
  have hce : cEc w (PR + 1) = cEc u PR := by
    show cEc w PR + _ = _
    rw [if_neg h9, cEc_eq (m := u) PR (fun r hr => st r (by omega))]; rfl
  refine ⟨⟨⟨e942, by omega⟩, e48, by rw [gF 950 (by simp)]; exact g14, ⟨by rw [gF 955 (by simp), hce]; exact g15, by rw [gF 955 (by simp), gF 956 (by simp)]; exact g16⟩, fun i hi => ?_, by rw [gF 953 (by simp)]; exact g18, fun i hi => ?_⟩, fun r hr => ?_⟩
  · rw [gF 955 (by simp)] at hi
    obtain ⟨r, r1, r2, r3⟩ := g17 i hi
    exact ⟨r, by rw [gA 54 i (by simp)]; exact r1, by omega, by rw [st r (by omega)]; exact r3⟩
  · rw [gF 953 (by simp)] at hi
    rw [gA 53 i (by simp)]; exact g19 i hi
  · by_cases e : r = PR
    · rw [e]; exact ⟨sm, fun z => absurd z h9, fun _ => lv⟩
    · obtain ⟨s1, s2, s3⟩ := d2 r (by omega)
      refine ⟨?_, fun z => ?_, fun z => ?_⟩
      · unfold SMQ
        rw [f.Fo e (by omega), f.Fo e (by omega), f.Fo e (by omega), f.Fo e (by omega)]; exact s1
      · rw [st r e] at z
        obtain ⟨hq2, n, ow, kd, e1, e2, e3, e4, e5, e6⟩ := s2 z
        have hne : hq2 ≠ PR := by omega
        exact ⟨hq2, n, ow, kd, by rw [f.2.2.2.2.1 r 17 (by omega) (fun y => absurd y e)]; exact e1, by omega, by rw [st hq2 hne]; exact e3, e4, by rw [f.jo hne (by omega)]; exact e5, by rw [f.2.2.2.2.2.1 r 16 (by omega) (fun y => absurd y e)]; exact e6⟩
      · rw [st r e] at z
        obtain ⟨n, ow, kd, B, W, Y, p⟩ := s3 z
        exact ⟨n, ow, kd, B, W, Y, PTQ_same p (fun k hk => f.2.2.2.2.1 r k (by simp at hk; omega) (fun y => absurd y e)) (fun k hk => f.jo e (by simp at hk; omega))⟩
theorem rf_of (h : r < 24) : rf (Int32.ofNat r) = some r := rf_some h
theorem FC_newP : FC r [942] [] [1948] R100 R100 R100 R100 u (newP u r) := by
  refine ⟨fun k hk _ => nP_o1 (by unfold pq; omega), fun k hk _ => nP_o2 (by unfold pq; omega), fun k hk y => nP_o3 (by unfold pq; omega) (by simp at y; exact y), fun k hk _ => nP_o4 (by unfold pq; omega), fun s k hk y => nP_o1 ?_, fun s k hk y => nP_o2 ?_, fun s k hk y => nP_o3 ?_ (by unfold pq; omega), fun s k hk y => nP_o4 ?_⟩ <;> (have : s ≠ r := fun e => y e (R100_in hk)) <;> (unfold pq; omega)
theorem LNB_newP : LNB (newP u r) r := by
  have e : ∀ k, k < 100 → F (newP u r) (pq r k) = (nwi k).toInt := fun k hk => congrArg _ (nP_1 hk)
  refine ⟨⟨0, by omega, by rw [e 45 (by omega)]; rfl⟩, ⟨0, by omega, by rw [e 43 (by omega)]; rfl, by rw [e 42 (by omega)]; rfl⟩, 0, by omega, by rw [e 47 (by omega)]; rfl, ?_⟩
  rw [e 47 (by omega), e 28 (by omega)]; decide
def BRN (Fv : Int64 → Int64 → Prop) (P : Int64 → Prop) (PR : Nat) (u w : MS) : Prop := PR < 24 ∧ DWc Fv P (PR + 1) w ∧ FC PR [942] [] [1948] R100 R100 R100 R100 u w ∧ ALN w ∧ (∀ k, k ∈ [4, 5, 7, 8, 9, 13, 15, 21, 24, 26, 28] → F w (pq PR k) = 0) ∧ PTQ w PR 0 (fun _ => 0) (fun _ => 0) Fv P 0 0 0
theorem born43 (dw : DWc Fv P PR u) (hP : PR < 24) (al : ALN u) (f : FC PR [942] [] [1948] R100 R100 R100 R100 u v) (e42 : F v 942 = ((PR : Nat) : Int)) (e48 : rf (v.2.2.1 1948 PR) = some PR) (e48o : ∀ r, r ≠ PR → v.2.2.1 1948 r = u.2.2.1 1948 r) (ln : LNB v PR) : OK (fun w r => r = some PR ∧ BRN Fv P PR u w) (hb_Wl_born_43 N () v) := by
  unfold hb_Wl_born_43
  rw [I_F (k := 942), e42]
  refine e_in ⟨by omega, by omega⟩ (by decide) ?_
  rw [tnI (n := PR) rfl (by omega), e48, bo_s]
  refine ok_bnd.mpr (ok_mono (clearc_ok (N := N)) (fun w1 _ hw1 => ok_lt.mpr (ok_some.mpr ⟨rfl, ?_⟩)))
  obtain ⟨f1, z1, j1, a1⟩ := hw1
  rw [I_F (k := 942), f1.Fg (by omega) (by simp), e42, lit1q, I_add, show ((PR : Nat) : Int) + 1 = ((PR + 1 : Nat) : Int) by omega, wi_e]
  have fA : FC PR [942] [] [1948] R100 R100 R100 R100 u (wi w1 942 ((PR + 1 : Nat) : Int)) := FC.wi_g (FC.tr f (FC.all f1 (by simp) (by simp) (by simp))) (by omega) (by simp)
  have zq : ∀ k, k ∈ [4, 5, 7, 8, 9, 13, 15, 21, 24, 26, 28] → F (wi w1 942 ((PR + 1 : Nat) : Int)) (pq PR k) = 0 := fun k hk => by rw [F_wi (by omega) (by omega), if_neg (by unfold pq; omega)]; exact z1 k hk
  have ln1 : LNB w1 PR := by
    obtain ⟨⟨a, b1, b2⟩, ⟨b, b3, b4, b5⟩, c, b6, b7, b8⟩ := ln
    refine ⟨⟨a, b1, by rw [f1.Fq (by omega) (by simp)]; exact b2⟩, ⟨b, b3, by rw [f1.Fq (by omega) (by simp)]; exact b4, by rw [f1.Fq (by omega) (by simp)]; exact b5⟩, c, b6, by rw [f1.Fq (by omega) (by simp)]; exact b7, ?_⟩
    rw [z1 28 (by simp), f1.Fq (by omega) (by simp), b7]; omega
  have ln2 : LNB (wi w1 942 ((PR + 1 : Nat) : Int)) PR := LNB_g ln1 (by omega)
  have e1948 : ∀ r, (wi w1 942 ((PR + 1 : Nat) : Int)).2.2.1 1948 r = v.2.2.1 1948 r := fun r => by show w1.2.2.1 1948 r = _; rw [a1]
  have e942 : F (wi w1 942 ((PR + 1 : Nat) : Int)) 942 = ((PR + 1 : Nat) : Int) := by rw [F_wi (by omega) (by omega), if_pos rfl]
  generalize wi w1 942 ((PR + 1 : Nat) : Int) = w2 at fA zq ln2 e1948 e942 ⊢
  have pt : PTQ w2 PR 0 (fun _ => 0) (fun _ => 0) Fv P 0 0 0 := by
    obtain ⟨⟨a, b1, b2⟩, ⟨b, b3, b4, b5⟩, c⟩ := ln2
    have pa := p2_le b1
    have pb := p2_le b3
    refine ⟨⟨zq 4 (by simp), by omega, HP_0⟩, ⟨zq 24 (by simp), fun i hi => absurd hi (by omega)⟩, ⟨zq 26 (by simp), fun i hi => absurd hi (by omega)⟩, ⟨zq 7 (by simp), fun i hi => absurd hi (by omega)⟩, ⟨_, b4, by omega, by omega⟩, ⟨_, b2, by omega, by omega⟩, by omega⟩
  have h9 := zq 9 (by simp)
  refine ⟨hP, DWc_new dw hP fA e942 (fun r hr => ?_) (by rw [h9]; decide) ?_ ⟨_, _, _, _, _, _, pt⟩, fA, fun r hr => ?_, zq, pt⟩
  · rw [e1948]
    by_cases e : r = PR
    · rw [e]; exact e48
    · rw [e48o r e]; exact dw.1.2.1 r (by omega)
  · exact ⟨by rw [zq 15 (by simp)]; decide, by rw [zq 8 (by simp)]; decide, fun _ => by rw [zq 8 (by simp), zq 7 (by simp)]; decide⟩
  · rw [e1948]
    by_cases e : r = PR
    · rw [e]; exact Or.inr ⟨e48, ln2⟩
    · rw [e48o r e]
      rcases al r hr with z | ⟨z1, z2⟩
      · exact Or.inl z
      · exact Or.inr ⟨z1, LNB_o z2 fA e⟩
theorem bornc_ok (dw : DWc Fv P PR u) (al : ALN u) : OK (fun w r => (r = none ∧ w = u) ∨ (r = some PR ∧ BRN Fv P PR u w)) (hm_Wl_born N u) := by
  have g1 := dw.1.1.1
  have g2 := dw.1.1.2
  unfold hm_Wl_born hb_Wl_born_0
  rw [I_F (k := 942), g1, I_lit (n := 24)]
  refine k_lt ⟨by omega, by omega⟩ ⟨by decide, by decide⟩ (fun h1 => ?_) (fun _ => ok_some.mpr (Or.inl ⟨rfl, rfl⟩))
  have hP : PR < 24 := by have : ((PR : Nat) : Int) < 24 := h1; omega
  refine e_in ⟨by omega, by omega⟩ (by decide) ?_
  rw [tnI (n := PR) rfl (by omega)]
  have mo : ∀ {o : Option (MS × Option Nat)}, OK (fun w r => r = some PR ∧ BRN Fv P PR u w) o → OK (fun w r => (r = none ∧ w = u) ∨ (r = some PR ∧ BRN Fv P PR u w)) o := fun hh => ok_mono hh (fun w r hw => Or.inr hw)
  rcases al PR hP with z | ⟨z1, z2⟩
  · rw [z]
    refine ok_br.mpr ⟨fun _ => ok_lt.mpr (mo ?_), fun y => absurd y (by decide)⟩
    refine born43 dw hP al FC_newP (by show ((newP u PR).1 942).toInt = _; rw [nP_o1 (by unfold pq; omega)]; exact g1) (by rw [nP_1948]; show rf (if PR = PR then _ else _) = _; rw [if_pos rfl]; exact rf_of hP) (fun r hr => by rw [nP_1948]; exact if_neg hr) LNB_newP
  · rw [z1]
    refine ok_br.mpr ⟨fun y => absurd y (by simp), fun _ => mo ?_⟩
    exact born43 dw hP al FC.rf g1 z1 (fun _ _ => rfl) z2
end
end
section
set_option maxRecDepth 100000
section
variable {T : Nat → Option (Nat × Nat × List Nat × Nat × Nat)} {Fv : Int64 → Int64 → Prop} {P : Int64 → Prop} {u v w w1 : MS} {PR N q r n B W Y i h m g x j wb nb cb rk c f i2 h2 m2 k a U d : Nat} {L : List Nat} {ow kd : Nat → Nat} {t rest : Int64} {gi gl ga ki kl ka kj : List Nat}
theorem MI_born (M : MIc T Fv P PR q u i h m L g x j wb nb cb rk) (hI : ∀ r k, r ≠ PR → k < 100 → w.1 (pq r k) = u.1 (pq r k)) (hA : ∀ r k, r ≠ PR → k < 100 → w.2.2.1 (pq r k) = u.2.2.1 (pq r k)) (hg : ∀ k, k ∈ [22, 442, 449, 1105, 1106, 1107, 1108, 1109, 1112, 1113, 1114] → w.1 k = u.1 k) (hga : ∀ k, k ∈ [3, 23, 25, 29, 30, 31, 32] → w.2.2.1 k = u.2.2.1 k) (hL : ∀ r, r ≠ PR → w.2.1 (pq r 10) = u.2.1 (pq r 10)) (dw : DWc Fv P (PR + 1) w) (al : ALN w) (ps : F w (pq PR 9) ≠ 3 → PSQ T w PR) : MIc T Fv P (PR + 1) q w i h m L g x j wb nb cb rk ∧ PHc T w q i x rk = PHc T u q i x rk ∧ F w 1109 = F u 1109 ∧ F w 1108 = F u 1108 := by
  obtain ⟨⟨g1, g2, g3, g4, g5, g6, g7, g8⟩, s9, st, ⟨t1, t2⟩, ⟨b1, b2⟩, gd, xx, un⟩ := M
  have hq : q ≠ PR := by omega
  have s : SCQ u w := ⟨fun k hk => hg k (by simp at hk ⊢; omega), hga⟩
  have fq : ∀ k, k < 100 → F w (pq q k) = F u (pq q k) := fun k hk => congrArg _ (hI q k hq hk)
  have fg : ∀ k, k ∈ [22, 442, 449, 1105, 1106, 1107, 1108, 1109, 1112, 1113, 1114] → F w k = F u k := fun k hk => congrArg _ (hg k hk)
  refine ⟨⟨⟨dw, CTX_s s g2, WFT_s s g3, CDT_s s g4, fun r hr hrq hal => ?_, al, by omega, by rw [fg 1106 (by simp), fg 1107 (by simp)]; exact g8⟩, by rw [fq 9 (by omega)]; exact s9, STc_s st (hA q 30 hq (by omega)) (hA q 37 hq (by omega)) (hI q 21 hq (by omega)) (hI q 28 hq (by omega)), ⟨t1, by rw [fg 1105 (by simp)]; exact t2⟩, ⟨by rw [fq 26 (by omega)]; exact b1, by rw [fq 24 (by omega)]; exact b2⟩, GDS_s gd (fun k hk => hg k (by simp at hk ⊢; omega)) (hga 23 (by simp)), fun z1 z2 => by rw [fq 8 (by omega), fq 7 (by omega)]; exact xx z1 z2, UN_k un (hL q hq) (hga 23 (by simp))⟩, ?_, fg 1109 (by simp), fg 1108 (by simp)⟩
  · by_cases e : r = PR
    · rw [e] at hal ⊢; exact ps hal
    · refine PSQ_s (g5 r (by omega) hrq (fun z => hal ?_)) (hA r 30 e (by omega)) (hA r 37 e (by omega)) (fun k hk => hI r k e (by simp at hk; omega)) (hL r e) (hga 23 (by simp))
      rw [show F w (pq r 9) = F u (pq r 9) from congrArg _ (hI r 9 e (by omega))]; exact z
  · unfold PHc
    rw [fq 8 (by omega), fg 1106 (by simp), fg 1107 (by simp)]
theorem ALN_b (al : ALN u) (hP : PR < 24) (h48 : w.2.2.1 1948 = u.2.2.1 1948) (hI : ∀ r k, r ≠ PR → k < 100 → w.1 (pq r k) = u.1 (pq r k)) (ln : LNB w PR) : ALN w := ALN_k al h48 (fun r _ h1 => by
  by_cases e : r = PR
  · rw [e]; exact ln
  · exact LNB_fc h1 (fun k hk => hI r k e (by simp at hk; omega)))
theorem fin170 (M : MIc T Fv P PR q u i h m L g x j wb nb cb rk) (hx : x < i) (t9 : F u 1109 = 0) (t8 : F u 1108 = 0) (hf : PHc T u q i x rk ≤ c) (hk : 1 ≤ h) (t2 : T (i + 2) = some (h - 1 + 1, m, L, g, x)) (hr : r < 24) : OK (fun w _ => PDQc T Fv P PR q c w) (hb_Ma_spawn_170 N () u q r) := by
  obtain ⟨n, ow, kd, Y, p⟩ := MI_p M
  unfold hb_Ma_spawn_170
  rw [I_lit (n := 4), show Int32.ofNat r = I ((r : Nat) : Int) from rfl, e_make, bnd_so]
  exact ansP (y := 1) (k := 1) M hx t9 t8 hf p (GT_nu M.1.2.1 (Or.inr (Or.inr rfl)) ⟨by omega, by omega⟩) rfl hk t2
theorem spawn_ok (M : MIc T Fv P PR q u i h m L g x j wb nb cb rk) (hx : x < i) (t9 : F u 1109 = 0) (t8 : F u 1108 = 0) (hf : PHc T u q i x rk ≤ c) (hk : 1 ≤ h) (t2 : T (i + 2) = some (h - 1 + 1, m, L, g, x)) (hN : 3000000 ≤ N) : OK (fun w _ => ∃ PR2, PDQc T Fv P PR2 q c w) (hm_Ma_spawn N u q) := by
  obtain ⟨n, ow, kd, Y, p⟩ := MI_p M
  obtain ⟨b0, g0⟩ := below_0 (N := N) M p hk
  have cx := M.1.2.1
  have dw := M.1.1
  have hq2 := M.1.2.2.2.2.2.2.1
  have hPR := M.1.1.1.1.2
  have no : ∀ v1, OK (fun w _ => ∃ PR2, PDQc T Fv P PR2 q c w) (hb_Ma_spawn_59 N () u q v1 none) := fun v1 => ok_br.mpr ⟨fun _ => ok_mono (errP (N := N) (a := 11) M t9 t8 hf (by omega)) (fun w _ hw => ⟨PR, hw⟩), fun z => absurd z (by decide)⟩
  have n42 : ∀ v1, OK (fun w _ => ∃ PR2, PDQc T Fv P PR2 q c w) (hb_Ma_spawn_42 N () u q v1) := fun v1 => by
    unfold hb_Ma_spawn_42 hb_Ma_spawn_43
    exact ok_br.mpr ⟨fun _ => no v1, fun z => absurd z (by decide)⟩
  unfold hm_Ma_spawn hb_Ma_spawn_0
  rw [b0, bnd_so, e_tag, bnd_so, I_lit (n := 3)]
  refine k_eq (so_r _) ⟨by decide, by decide⟩ (fun e3 => ?_) (fun _ => n42 _)
  have e3 : so (u.2.2.2 (pq q 35) (wb + h - 1)) = 3 := e3
  generalize u.2.2.2 (pq q 35) (wb + h - 1) = t at g0 e3 ⊢
  obtain ⟨a1, a2, a3, a4, a5⟩ := fun_at p.1.2.2 g0 e3
  have pn := p.1.2.1
  rw [valI, a1]
  refine e_in ⟨by omega, by omega⟩ (by decide) ?_
  rw [tnI (n := vn t) rfl (by omega), valI]
  obtain ⟨ta, te, tk, tT, tw, ti⟩ := fun_info (N := N) M.1.2.2.2.1 a2
  rw [(tw u q ⟨fun _ _ => rfl, fun _ _ => rfl⟩).1, bnd_so, lit0q]
  refine k_eq ⟨by have := (M.1.2.2.1 _ _ _ _ _ _ tT).2.1; omega, by have := (M.1.2.2.1 _ _ _ _ _ _ tT).2.1; omega⟩ ⟨by decide, by decide⟩ (fun e0 => ?_) (fun _ => n42 _)
  have e0 : ta = 0 := by omega
  subst e0
  have tb := (M.1.2.2.1 _ _ _ _ _ _ tT)
  show OK _ (br (decide ((1 : Int32) = 0)) _ _)
  refine ok_br.mpr ⟨fun z => absurd z (by decide), fun _ => ?_⟩
  refine ok_bnd.mpr (ok_mono (bornc_ok (N := N) dw M.1.2.2.2.2.2.1) (fun w0 r0 hw0 => ?_))
  rcases hw0 with ⟨rfl, rfl⟩ | ⟨rfl, hP, d0, f0, al0, z0, p0⟩
  · exact no _
  have hne : q ≠ PR := by omega
  unfold hb_Ma_spawn_59
  refine ok_br.mpr ⟨fun z => absurd z (by simp), fun _ => ?_⟩
  rw [valI, a1]
  refine e_in ⟨by omega, by omega⟩ (by decide) ?_
  rw [bo_s, tnI (n := vn t) rfl (by omega), f0.jo hne (by omega), valI]
  have sc0 : SCQ u w0 := SCQ_f f0 (by simp) (by simp)
  obtain ⟨-, ent, fn, efn⟩ := tw w0 q sc0
  rw [efn, bnd_so, ent, bnd_so, lit0q]
  refine ok_bnd.mpr (ok_mono (open_ok (N := N) (q := PR) (j := 0) (B := 0) (W := 0) (s := 0) (z0 21 (by simp)) (by omega) (z0 24 (by simp)) (z0 26 (by simp)) (by omega)) (fun w1 _ hw1 => ?_))
  obtain ⟨f1, o1, -, o3, o4, o5, o6, o7⟩ := hw1
  have fu1 : FC PR [942] [] [1948] R100 R100 R100 R100 u w1 := FC.tr f0 (FC.all f1 (by simp) (by simp) (by simp))
  have p1 : PTQ w1 PR 0 (fun _ => 0) (fun _ => 0) Fv P 0 0 0 := PTQ_same p0 (fun k hk => f1.2.2.2.2.1 PR k (by simp at hk; omega) (fun _ => by simp at hk ⊢; omega)) (fun k hk => f1.jq (by simp at hk; omega) (by simp))
  obtain ⟨fz, s, z⟩ := HP_szc p.1.2.2 g0
  have zm := SZ_max p.1.2.2 z
  have z1 : SZc (w1.2.2.2 (pq q 2)) n ow kd Fv P fz t s := by rw [fu1.jo hne (by omega)]; exact z
  have hp1 : HPc (w1.2.2.2 (pq q 2)) n ow kd Fv P := by rw [fu1.jo hne (by omega)]; exact p.1.2.2
  refine ok_bnd.mpr (ok_mono (size_ok (N := N) (b := pq q 2) (by unfold pq; omega) rfl (by omega) cx.1.1 (by omega) z1 (by omega)) (fun w2 r2 h2 => ?_))
  obtain ⟨f2, rfl⟩ := h2
  have f2c : FC PR [] [] [] [] [] [] [] w1 w2 := FC.of f2 (by simp) (by simp) (by simp) (by simp)
  have p2 : PTQ w2 PR 0 (fun _ => 0) (fun _ => 0) Fv P 0 0 0 := PTQ_same p1 (fun k hk => f2c.2.2.2.2.1 PR k (by simp at hk; omega) (by simp)) (fun k hk => f2c.jq (by simp at hk; omega) (by simp))
  have c2 : CTX Fv P w2 := CTX_fr cx ((f2c.1 22 (by omega) (by simp)).trans (fu1.1 22 (by omega) (by simp))) ((f2c.2.2.1 3 (by omega) (by simp)).trans (fu1.2.2.1 3 (by omega) (by simp)))
  refine ok_bnd.mpr (ok_mono (want_ok (N := N) (x := ((s : Nat) : Int)) p2 c2 ⟨by omega, by omega⟩ (by omega)) (fun w3 r3 h3 => ?_))
  obtain ⟨hr, U, ow3, kd3, p3, hU, f3, -, -⟩ := h3
  have f3c := FC_want f3
  have fu3 : FC PR [942] [] [1948] R100 R100 R100 R100 u w3 := FC.tr (FC.tr fu1 (FC.all f2c (by simp) (by simp) (by simp))) (FC.all f3c (by simp) (by simp) (by simp))
  have f03 : FC PR [] [] [] [4, 5, 21] [] [30] [2, 3, 33, 35, 6] w0 w3 := FC.tr (FC.tr (FC.mo f1 (by simp) (by simp) (by simp) (by simp) (by simp) (by simp) (by simp)) (FC.mo f2c (by simp) (by simp) (by simp) (by simp) (by simp) (by simp) (by simp))) (FC.mo f3c (by simp) (by simp) (by simp) (by simp) (by simp) (by simp) (by simp))
  have h90 : F w0 (pq PR 9) ≠ 3 := by rw [z0 9 (by simp)]; decide
  have h93 : F w3 (pq PR 9) = 0 := by rw [f03.Fq (by omega) (by simp)]; exact z0 9 (by simp)
  have d3 : DWc Fv P (PR + 1) w3 := DWc_fc d0 f03 (by omega) h90 (by rw [h93]; decide) (SMQ_up (d0.2 PR (by omega)).1 (f03.Fq (by omega) (by simp)) (f03.Fq (by omega) (by simp)) (by rw [f03.Fq (by omega) (by simp)]; exact Int.le_refl _) h90) ⟨_, _, _, _, _, _, p3⟩ (by simp) (by simp)
  have c3 : CTX Fv P w3 := CTX_fr c2 (f3c.1 22 (by omega) (by simp)) (f3c.2.2.1 3 (by omega) (by simp))
  have ln0 : LNB w0 PR := by
    rcases al0 PR hP with z | ⟨-, z⟩
    · rw [d0.1.2.1 PR (by omega)] at z; cases z
    · exact z
  have ln3 : LNB w3 PR := LNB_k ln0 f03 (by simp)
  rcases hr with rfl | rfl
  · refine ok_br.mpr ⟨fun _ => ?_, fun z => absurd z (by decide)⟩
    refine ok_bnd.mpr (ok_mono (endsBy_ok (N := N) (a := 20) d3 c3 (by omega) (by rw [h93]; decide) (by omega)) (fun w4 _ h4 => ?_))
    obtain ⟨k1, k2, k3, k4, k5, ⟨k6, k7, k8⟩, k9⟩ := h4
    have hI : ∀ r k, r ≠ PR → k < 100 → w4.1 (pq r k) = u.1 (pq r k) := fun r k hr hk => (k6 r k hr hk).trans (fu3.2.2.2.2.1 r k hk (fun e => absurd e hr))
    have hA : ∀ r k, r ≠ PR → k < 100 → w4.2.2.1 (pq r k) = u.2.2.1 (pq r k) := fun r k hr hk => (k8 _ (by unfold pq; omega)).trans (fu3.2.2.2.2.2.2.1 r k hk (fun e => absurd e hr))
    obtain ⟨M4, ph, s9, s8⟩ := MI_born M hI hA (fun k hk => (k2.2.1 k (by simp at hk; omega) (by simp at hk ⊢; omega)).trans (fu3.1 k (by simp at hk; omega) (by simp at hk ⊢; omega))) (fun k hk => (k8 k (by simp at hk; omega)).trans (fu3.2.2.1 k (by simp at hk; omega) (by simp at hk ⊢; omega))) (fun r hr => (k2.2.2.2.2.2.1 r 10 (by omega) (by simp)).trans (fu3.2.2.2.2.2.1 r 10 (by omega) (fun e => absurd e hr))) k1 (ALN_b al0 hP ((k8 1948 (by omega)).trans (f03.2.2.1 1948 (by omega) (by simp))) (fun r k hr hk => (k6 r k hr hk).trans (f03.2.2.2.2.1 r k hk (fun e => absurd e hr))) (LNB_w ln3 k2)) (fun z => absurd k3 z)
    exact ok_mono (fin170 M4 hx (by rw [s9]; exact t9) (by rw [s8]; exact t8) (by rw [ph]; exact hf) hk t2 hP) (fun w _ hw => ⟨PR + 1, hw⟩)
  · refine ok_br.mpr ⟨fun z => absurd z (by decide), fun _ => ?_⟩
    have hU := hU rfl
    have hpn := p3.1.2.1
    have eh : w3.2.2.2 (pq q 2) = u.2.2.2 (pq q 2) := fu3.jo hne (by omega)
    have hpq : pq q 2 ≠ pq PR 2 := by unfold pq; omega
    have z3 : SZc (w3.2.2.2 (pq q 2)) n ow kd Fv P fz t s := by rw [eh]; exact z
    have hp3 : HPc (w3.2.2.2 (pq q 2)) n ow kd Fv P := by rw [eh]; exact p.1.2.2
    refine ok_bnd.mpr (ok_mono (copyIn_hd (N := N) (q := PR) (b := pq q 2) hp3 cx.1 (by omega) (by omega) (fun _ _ => rfl) (fun e => absurd e hpq) z3 p3.1.1 p3.1.2.2 (by omega)) (fun w4 r4 h4 => ?_))
    obtain ⟨f4, e4, r4a, ow4, kd4, g4, -, gt4, gr4, -, sr4, hd4⟩ := h4
    have f4c : FC PR [] [] [] [4] [] [] [2] w3 w4 := FC.ofq (ki := [4]) (kj := [2]) f4 (by simp) (by simp)
    have p4 := PTQ_cells p3 f4c e4 (by omega) g4 gt4
    have e34 : so r4 = 3 := by rw [sr4]; exact e3
    have ht : isH t := Or.inl e3
    obtain ⟨v4, hd4⟩ := hd4 ht
    have vr : vn r4 = U := by unfold vn; rw [v4]; rfl
    have pr2 : prt t = 2 := by unfold prt; rw [if_neg (by rw [e3]; decide), if_neg (by rw [e3]; decide)]
    have q0 : w4.2.2.2 (pq PR 2) (vn r4) = u.2.2.2 (pq q 2) (vn t) := by rw [vr, ← eh]; exact hd4 0 (by omega)
    have q1 : w4.2.2.2 (pq PR 2) (vn r4 + 1) = u.2.2.2 (pq q 2) (vn t + 1) := by rw [vr, ← eh]; exact hd4 1 (by omega)
    have fu4 : FC PR [942] [] [1948] R100 R100 R100 R100 u w4 := FC.tr fu3 (FC.all f4c (by simp) (by simp) (by simp))
    have ln4 : LNB w4 PR := LNB_k ln3 f4c (by simp)
    refine ok_bnd.mpr (ok_mono (hold_ok (N := N) (r := PR) (q := q) (B := 0) (k := tk) p4 ln4 gr4 e34 (by omega) tb.2.1.2.1 (by rw [q0, q1, fu4.Fg (by omega) (by simp), (SCQ_f fu4 (by simp) (by simp)).A (k := 32) (by simp), (SCQ_f fu4 (by simp) (by simp)).A (k := 23) (by simp)]; exact ti) (by omega)) (fun w5 _ h5 => ?_))
    obtain ⟨f5, p5, ln5⟩ := h5
    have fu5 : FC PR [942] [] [1948] R100 R100 R100 R100 u w5 := FC.tr fu4 (FC.all f5 (by simp) (by simp) (by simp))
    have f05 : FC PR [] [] [] [4, 5, 21, 24, 26, 42, 43, 45] [] [30, 32] [2, 3, 33, 35, 6] w0 w5 := FC.tr (FC.tr (FC.mo f03 (by simp) (by simp) (by simp) (by simp) (by simp) (by simp) (by simp)) (FC.mo f4c (by simp) (by simp) (by simp) (by simp) (by simp) (by simp) (by simp))) (FC.mo f5 (by simp) (by simp) (by simp) (by simp) (by simp) (by simp) (by simp))
    have h95 : F w5 (pq PR 9) = 0 := by rw [f05.Fq (by omega) (by simp)]; exact z0 9 (by simp)
    have d5 : DWc Fv P (PR + 1) w5 := DWc_fc d0 f05 (by omega) h90 (by rw [h95]; decide) (SMQ_up (d0.2 PR (by omega)).1 (f05.Fq (by omega) (by simp)) (f05.Fq (by omega) (by simp)) (by rw [f05.Fq (by omega) (by simp)]; exact Int.le_refl _) h90) ⟨_, _, _, _, _, _, p5⟩ (by simp) (by simp)
    have f15 : FC PR [] [] [] [4, 5, 24, 26, 42, 43, 45] [] [32] [2, 3, 33, 35, 6] w1 w5 := FC.tr (FC.tr (FC.mo f2c (by simp) (by simp) (by simp) (by simp) (by simp) (by simp) (by simp)) (FC.tr (FC.mo f3c (by simp) (by simp) (by simp) (by simp) (by simp) (by simp) (by simp)) (FC.mo f4c (by simp) (by simp) (by simp) (by simp) (by simp) (by simp) (by simp)))) (FC.mo f5 (by simp) (by simp) (by simp) (by simp) (by simp) (by simp) (by simp))
    have ps : PSQ T w5 PR := by
      refine ⟨0, 0, 0, 0, 0, te, 0, tk, [], 0, ⟨⟨rfl, rfl, rfl, rfl⟩, ⟨by rw [f15.Fq (by omega) (by simp)]; exact o1, by omega⟩, ⟨by rw [f15.aq (by omega) (by simp)]; exact o3, by rw [f15.aq (by omega) (by simp)]; exact o4⟩, ?_, trivial⟩, ?_, tT, Or.inl rfl, p5.2.2.1.1, p5.2.1.1, fun z => absurd rfl z⟩
      · rw [f05.Fq (by omega) (by simp)]; exact z0 28 (by simp)
      · rw [f15.aq (by omega) (by simp), o5, I_ti (by omega) (by omega)]
    obtain ⟨M5, ph, s9, s8⟩ := MI_born M (fun r k hr hk => fu5.2.2.2.2.1 r k hk (fun e => absurd e hr)) (fun r k hr hk => fu5.2.2.2.2.2.2.1 r k hk (fun e => absurd e hr)) (fun k hk => fu5.1 k (by simp at hk; omega) (by simp at hk ⊢; omega)) (fun k hk => fu5.2.2.1 k (by simp at hk; omega) (by simp at hk ⊢; omega)) (fun r hr => fu5.2.2.2.2.2.1 r 10 (by omega) (fun e => absurd e hr)) d5 (ALN_b al0 hP (f05.2.2.1 1948 (by omega) (by simp)) (fun r k hr hk => f05.2.2.2.2.1 r k hk (fun e => absurd e hr)) ln5) (fun _ => ps)
    exact ok_mono (fin170 M5 hx (by rw [s9]; exact t9) (by rw [s8]; exact t8) (by rw [ph]; exact hf) hk t2 hP) (fun w _ hw => ⟨PR + 1, hw⟩)
theorem predefined_ok {y : Int} (M : MIc T Fv P PR q u i h m L g x j wb nb cb rk) (hx : x < i) (t9 : F u 1109 = 0) (t8 : F u 1108 = 0) (hf : PHc T u q i x rk ≤ c) (hr : RG y) (hk : tkc y ≤ h) (t2 : T (i + 2) = some (h - tkc y + 1, m, L, g, x)) (hN : 1000000010 ≤ N) : OK (fun w _ => ∃ PR2, OPQ T Fv P PR2 q c w) (hm_Ma_predefined N u q (I y)) := by
  by_cases e : y = 1
  · subst e
    rw [pre1]
    refine ok_bnd.mpr (ok_mono (spawn_ok (N := N) M hx t9 t8 hf hk t2 (by omega)) (fun w _ hw => ?_))
    obtain ⟨PR2, hw⟩ := hw
    have a := pre_fin (N := N) (T := T) (Fv := Fv) (P := P) (PR := PR2) (q := q) (c := c) (o := some (w, ())) (ok_some.mpr hw)
    rw [bnd_so] at a
    exact ok_mono a (fun w _ hw => ⟨PR2, hw⟩)
  · exact ok_mono (pre_ok (N := N) M hx t9 t8 hf hr e hk t2 hN) (fun w _ hw => ⟨PR, hw⟩)
end
end
section
set_option maxRecDepth 100000
def WRD (T : Nat → Option (Nat × Nat × List Nat × Nat × Nat)) (Fv : Int64 → Int64 → Prop) (P : Int64 → Prop) (PR : Nat) (u : MS) : Prop := DWc Fv P PR u ∧ CTX Fv P u ∧ WFT T u ∧ CDT T u Fv ∧ (∀ r, r < PR → F u (pq r 9) ≠ 3 → PSQ T u r) ∧ ALN u
section
variable {T : Nat → Option (Nat × Nat × List Nat × Nat × Nat)} {Fv : Int64 → Int64 → Prop} {P : Int64 → Prop} {u v w w1 : MS} {PR N q r n B W Y i h m g x j wb nb cb rk c f i2 h2 m2 k a U d : Nat} {L : List Nat} {ow kd : Nat → Nat} {t rest : Int64} {gi gl ga ki kl ka kj : List Nat}
theorem op_ok (M : MIc T Fv P PR q u i h m L g x j wb nb cb rk) (t9 : F u 1109 = 0) (t8 : F u 1108 = 0) (hf : PHc T u q i x rk ≤ c) (hN : 600000000010 ≤ N) {K : MS → Option (MS × Int32)} {Q : MS → Int32 → Prop} (hK : ∀ w PR2, OPQ T Fv P PR2 q c w → OK Q (K w)) :
    OK Q (bnd (hm_Co_at N u (u.1 1105)) (fun u17 r17 => br (decide (r17 = 39)) (bnd (hm_Co_at N u17 ((u17.1 1105) + 1)) (fun u29 r29 => bnd (hm_Ma_predefined N u29 q r29) (fun u31 _ => K u31))) (br (decide (r17 = 40)) (bnd (hm_Co_at N u17 ((u17.1 1105) + 1)) (fun u24 r24 => bnd (hm_Ma_toward N u24 q r24) (fun u26 _ => K u26))) (br (decide (8 ≤ r17)) (br (decide (18 ≤ r17)) (bnd (hm_Ma_flow N u17 q r17) (fun u19 _ => K u19)) (bnd (hm_Ma_value N u17 q r17) (fun u20 _ => K u20))) (bnd (hm_Ma_making N u17 q r17) (fun u21 _ => K u21)))))) := by
  have mb := MI_b M
  obtain ⟨b1, b2, -, -, ⟨b5, b6⟩, ins⟩ := M.1.2.2.1 _ _ _ _ _ _ M.2.2.2.1.1
  have e5 := M.2.2.2.1.2
  have rA := A_r u 23 i
  rw [I_F (k := 1105), e5, Co_e (k := i) rfl mb.1.2, bnd_so]
  have hop : i + 1 < 24000 → hm_Co_at N u ((u.1 1105) + 1) = some (u, I (A u 23 (i + 1))) := fun z => by
    rw [I_F (k := 1105), e5, lit1q, I_add, Co_e (k := i + 1) (by omega) z]
  have hi1 : ∀ y, T (i + 2) = some y → i + 1 < 24000 := fun y e => by
    obtain ⟨a, b, c, d, e2⟩ := y
    have := (M.1.2.2.1 _ _ _ _ _ _ e).1.2
    omega
  rw [show (39 : Int32) = I 39 from rfl, show (40 : Int32) = I 40 from rfl, show (8 : Int32) = I 8 from rfl, show (18 : Int32) = I 18 from rfl]
  refine k_eq rA ⟨by decide, by decide⟩ (fun z => ?_) (fun z39 => k_eq rA ⟨by decide, by decide⟩ (fun z => ?_) (fun z40 => ?_))
  · have hh : tkc (A u 23 (i + 1)) ≤ h ∧ T (i + 2) = some (h - tkc (A u 23 (i + 1)) + 1, m, L, g, x) := by
      rcases ins with ins | ins | ins
      · exfalso
        rcases ins with ⟨o, -⟩ | ⟨o, -⟩ | ⟨o, -⟩ | ⟨o, -⟩ | ⟨o, -⟩ | ⟨o, -⟩ | ⟨o, -⟩ | ⟨o, -⟩ | ⟨o, -⟩ | ⟨o, -⟩ | ⟨o, -⟩ | ⟨o, -⟩ | ⟨o, -⟩ <;> omega
      · exfalso
        rcases ins with ⟨o, -⟩ | ⟨o, -⟩ | ⟨o, -⟩ | ⟨o, -⟩ | ⟨o, -⟩ | ⟨o, -⟩ | ⟨o, -⟩ | ⟨o, -⟩ | ⟨o, -⟩ | ⟨o, -⟩ | ⟨o, -⟩ <;> omega
      · rcases ins with ⟨o, -⟩ | ⟨o, -⟩ | ⟨o, -⟩ | ⟨o, -⟩ | ⟨o, -⟩ | o | ⟨o, -⟩ | ⟨-, o1, o2⟩ | ⟨o, -⟩
        · omega
        · omega
        · omega
        · omega
        · omega
        · omega
        · omega
        · exact ⟨o1, o2⟩
        · omega
    rw [hop (hi1 _ hh.2), bnd_so]
    refine ok_bnd.mpr (ok_mono (predefined_ok (N := N) M (b6 (by omega)) t9 t8 hf (A_r u 23 (i + 1)) hh.1 hh.2 (by omega)) (fun w _ hw => ?_))
    obtain ⟨PR2, hw⟩ := hw
    exact hK w PR2 hw
  · have hh : (if A u 23 (i + 1) = 29 then 2 else 1) ≤ h ∧ T (i + 2) = some (h - (if A u 23 (i + 1) = 29 then 2 else 1) + 1, m, L, g, x) := by
      rcases ins with ins | ins | ins
      · exfalso
        rcases ins with ⟨o, -⟩ | ⟨o, -⟩ | ⟨o, -⟩ | ⟨o, -⟩ | ⟨o, -⟩ | ⟨o, -⟩ | ⟨o, -⟩ | ⟨o, -⟩ | ⟨o, -⟩ | ⟨o, -⟩ | ⟨o, -⟩ | ⟨o, -⟩ | ⟨o, -⟩ <;> omega
      · exfalso
        rcases ins with ⟨o, -⟩ | ⟨o, -⟩ | ⟨o, -⟩ | ⟨o, -⟩ | ⟨o, -⟩ | ⟨o, -⟩ | ⟨o, -⟩ | ⟨o, -⟩ | ⟨o, -⟩ | ⟨o, -⟩ | ⟨o, -⟩ <;> omega
      · rcases ins with ⟨o, -⟩ | ⟨o, -⟩ | ⟨o, -⟩ | ⟨o, -⟩ | ⟨o, -⟩ | o | ⟨o, -⟩ | ⟨o, -⟩ | ⟨-, o1, o2⟩
        · omega
        · omega
        · omega
        · omega
        · omega
        · omega
        · omega
        · omega
        · exact ⟨o1, o2⟩
    rw [hop (hi1 _ hh.2), bnd_so]
    exact ok_bnd.mpr (ok_mono (toward_ok (N := N) M (b6 (by omega)) t9 t8 hf (A_r u 23 (i + 1)) hh.1 hh.2 (by omega)) (fun w _ hw => hK w PR hw))
  · refine k_le ⟨by decide, by decide⟩ rA (fun c8 => k_le ⟨by decide, by decide⟩ rA (fun c18 => ?_) (fun c18 => ?_)) (fun c8 => ?_)
    · exact ok_bnd.mpr (ok_mono (flow_ok (N := N) M t9 t8 hf c18 ⟨z39, z40⟩ hN) (fun w _ hw => hK w PR hw))
    · exact ok_bnd.mpr (ok_mono (value_ok (N := N) M t9 t8 hf c8 c18 hN) (fun w _ hw => hK w PR hw))
    · exact ok_bnd.mpr (ok_mono (making_ok (N := N) M t9 t8 hf c8 (by omega)) (fun w _ hw => hK w PR hw))
def LPQ (T : Nat → Option (Nat × Nat × List Nat × Nat × Nat)) (Fv : Int64 → Int64 → Prop) (P : Int64 → Prop) (PR q f : Nat) (w : MS) : Prop := NRM T Fv P PR q f w ∨ ENDc T Fv P PR q w ∨ SVc T Fv P PR q w
theorem LPQ_w (l : LPQ T Fv P PR q f u) (k : WQ Fv P PR u w) : LPQ T Fv P PR q f w := by
  rcases l with ⟨⟨i, h, m, L, g, x, j, wb, nb, cb, rk, M, hf⟩, t9, t8⟩ | ⟨G, e3, t9, h21⟩ | ⟨G, ⟨s1, s2⟩, t9, i, h, m, L, x, j, wb, nb, cb, rk, st, ⟨t1, t2⟩, hx, ⟨b1, b2⟩, un⟩
  · by_cases hal : F w (pq q 9) = 3
    · exact Or.inr (Or.inl (END_w M.1 k hal t9 (M21 M)))
    · obtain ⟨M2, ph⟩ := MI_w M k hal
      exact Or.inl ⟨⟨i, h, m, L, g, x, j, wb, nb, cb, rk, M2, by rw [ph]; exact hf⟩, by rw [k.2.1.G (by omega) (by simp)]; exact t9, by rw [k.2.1.G (by omega) (by simp)]; exact t8⟩
  · exact Or.inr (Or.inl (END_w G k (k.2.2.en e3) t9 h21))
  · by_cases hal : F w (pq q 9) = 3
    · exact Or.inr (Or.inl (END_w G k hal t9 (by have := st.2.1; omega)))
    · have f := k.2.1
      refine Or.inr (Or.inr ⟨GEN_w G k, ⟨hal, fun z => ?_⟩, by rw [f.G (by omega) (by simp)]; exact t9, i, h, m, L, x, j, wb, nb, cb, rk, STc_s st (f.2.2.1 q 30 (by omega) (by simp)) (f.2.2.1 q 37 (by omega) (by simp)) (f.1 q 21 (by omega) (by simp)) (f.1 q 28 (by omega) (by simp)), ⟨t1, by rw [f.G (by omega) (by simp)]; exact t2⟩, hx, ⟨by rw [f.F (by omega) (by simp)]; exact b1, by rw [f.F (by omega) (by simp)]; exact b2⟩, UN_k un (f.2.2.2.2.2.1 q 10 (by omega) (by simp)) (f.2.2.2.1 23 (by omega) (by simp))⟩)
      rw [f.G (by omega) (by simp)]
      refine s2 ?_
      rcases (k.2.2 q).1 with e | e
      · rw [← e]; exact z
      · exact absurd e hal
theorem step_w (o : OPQ T Fv P PR q c u) {G : MS → Nat → Int32 → Option (MS × Int32)} {v3 : Int32} {Q : MS → Int32 → Prop} (hG : ∀ w, LPQ T Fv P PR q c w → OK Q (G w q (v3 + 1))) (hN : 3000000 ≤ N) : OK Q (hb_Ma_goOn_195 N G u q v3) := by
  have fin : ∀ w, LPQ T Fv P PR q c w → OK Q (hb_Ma_goOn_206 N G w q v3) := fun w l => by
    have d : DWc Fv P PR w ∧ CTX Fv P w := by
      rcases l with ⟨⟨i, h, m, L, g, x, j, wb, nb, cb, rk, M, hf⟩, -⟩ | ⟨G, -⟩ | ⟨G, -⟩
      · exact ⟨M.1.1, M.1.2.1⟩
      · exact ⟨G.1, G.2.1⟩
      · exact ⟨G.1, G.2.1⟩
    unfold hb_Ma_goOn_206
    exact ok_bnd.mpr (ok_mono (settle_ok (N := N) d.1 d.2 hN) (fun w2 _ hw2 => hG w2 (LPQ_w l hw2)))
  unfold hb_Ma_goOn_195
  have ok0 : LPQ T Fv P PR q c u → F u 1109 = 0 → OK Q (br (decide ((u.1 1109) = 0)) (hb_Ma_goOn_206 N G u q v3) (bnd (hm_Ma_raise N u q) (fun u10 _ => hb_Ma_goOn_206 N G u10 q v3))) := fun l z => k_F (y := 0) rfl ⟨by decide, by decide⟩ (fun _ => fin u l) (fun y => absurd z y)
  rcases o with o | o | o | o
  · exact ok0 (Or.inl o) o.2.1
  · refine k_F (y := 0) rfl ⟨by decide, by decide⟩ (fun z => ?_) (fun _ => ?_)
    · exfalso
      obtain ⟨v, how, ar, t, -, -, -, -, hh, ha, rfl⟩ := o
      have e : F (wi (wi v 1109 how) 1111 ar) 1109 = 0 := z
      rw [F_wi (by omega) (by omega), if_neg (by decide), F_wi (by omega) (by omega), if_pos rfl] at e
      omega
    · refine ok_bnd.mpr (ok_mono (raise_ok (N := N) o hN) (fun w _ hw => ?_))
      rcases hw with hw | hw
      · exact fin w (Or.inl hw)
      · exact fin w (Or.inr (Or.inl hw))
  · exact ok0 (Or.inr (Or.inl o)) o.2.2.1
  · exact ok0 (Or.inr (Or.inr o)) o.2.2.1
theorem exit_okc {G : MS → Nat → Int32 → Option (MS × Int32)} (l : ENDc T Fv P PR q u ∨ SVc T Fv P PR q u) : OK (fun w _ => WRD T Fv P PR w) (hb_Ma_goOn_219 N G u q) := by
  unfold hb_Ma_goOn_219
  rcases l with ⟨⟨g1, g2, g3, g4, g5, g6, g7, g8⟩, e3, t9, h21⟩ | ⟨⟨g1, g2, g3, g4, g5, g6, g7, g8⟩, ⟨s1, s2⟩, t9, i, h, m, L, x, j, wb, nb, cb, rk, st, ⟨t1, t2⟩, hx, ⟨b1, b2⟩, un⟩
  · by_cases z : F u (pq q 21) ≤ 0
    · have e : hm_Fr_setPlace N u q (u.1 1105) = some (u, ()) := by
        unfold hm_Fr_setPlace hb_Fr_setPlace_0 hm_Fr_set hb_Fr_set_0 hb_Fr_set_23
        rw [I_F (k := pq q 21), lit0q, decI (FRG1 u _).1 (FRG1 u _).2 (by decide) (by decide), decide_eq_true z, br_tq, bnd_so]
      rw [e, bnd_so]
      refine ok_some.mpr ⟨g1, g2, g3, g4, fun r hr hal => g5 r hr (fun y => hal (y ▸ e3)) hal, g6⟩
    · obtain ⟨jj, hj⟩ : ∃ jj : Nat, F u (pq q 21) = ((jj + 1 : Nat) : Int) := ⟨(F u (pq q 21)).toNat - 1, by omega⟩
      rw [setPlace_e hj (by omega), bnd_so]
      have f : FC q [] [] [] [] [] [30] [] u (s30 u q (5 * jj + 4) (u.1 1105)) := FC.s30 FC.rf (by simp)
      have s : SCQ u (s30 u q (5 * jj + 4) (u.1 1105)) := SCQ_f f (by simp) (by simp)
      refine ok_some.mpr ⟨DWc_dead g1 f e3 (by simp) (by simp) (by simp) (by simp) (by simp), CTX_s s g2, WFT_s s g3, CDT_s s g4, fun r hr hal => ?_, ALN_k g6 (f.2.2.1 1948 (by omega) (by simp)) (fun r _ h1 => LNB_fc h1 (fun _ _ => rfl))⟩
      have e : r ≠ q := fun y => hal (y ▸ e3)
      exact PSQ_o (g5 r hr e hal) f e (by simp)
  · obtain ⟨hc, hj⟩ := st.2.1
    rw [setPlace_e hc hj, bnd_so]
    have f : FC q [] [] [] [] [] [30] [] u (s30 u q (5 * j + 4) (u.1 1105)) := FC.s30 FC.rf (by simp)
    have s : SCQ u (s30 u q (5 * j + 4) (u.1 1105)) := SCQ_f f (by simp) (by simp)
    have d : DWc Fv P PR (s30 u q (5 * j + 4) (u.1 1105)) := by
      obtain ⟨n, ow, kd, B, W, Y, p⟩ := (g1.2 q g7).2.2 s1
      exact DWc_fc g1 f g7 s1 s1 (g1.2 q g7).1 ⟨n, ow, kd, B, W, Y, PTQ_same p (fun _ _ => rfl) (fun _ _ => rfl)⟩ (by simp) (by simp)
    refine ok_some.mpr ⟨d, CTX_s s g2, WFT_s s g3, CDT_s s g4, fun r hr hal => ?_, ALN_k g6 (f.2.2.1 1948 (by omega) (by simp)) (fun r _ h1 => LNB_fc h1 (fun _ _ => rfl))⟩
    by_cases e : r = q
    · subst e
      refine ⟨j, wb, nb, cb, rk, i, h, m, L, x, STc_r st (fun a ha _ _ => ?_) s30_37 rfl rfl, ?_, t1, hx, b1, b2, un⟩
      · rw [s30_a, if_neg (by omega)]
      · rw [s30_a, if_pos rfl]; exact t2
    · exact PSQ_o (g5 r hr e hal) f e (by simp)
theorem goOn_loop (hN : 600000000010 ≤ N) : ∀ (K f v3 : Nat) (PR : Nat) (u : MS), f + 2 ≤ K → f + v3 ≤ 900000000 → LPQ T Fv P PR q f u → OK (fun w _ => ∃ PR2, WRD T Fv P PR2 w) (hg_Ma_goOn N K u q (I ((v3 : Nat) : Int))) := by
  intro K
  induction K with
  | zero => intro f v3 PR u h; omega
  | succ K ih =>
    intro f v3 PR u hK hv l
    show OK _ (hb_Ma_goOn_67 N (hg_Ma_goOn N K) u q (I ((v3 : Nat) : Int)))
    unfold hb_Ma_goOn_67
    rw [show (1000000000 : Int32) = I 1000000000 from rfl]
    refine k_le ⟨by decide, by decide⟩ ⟨by omega, by omega⟩ (fun z => absurd z (by omega)) (fun _ => ?_)
    have ex : ENDc T Fv P PR q u ∨ SVc T Fv P PR q u → OK (fun w _ => ∃ PR2, WRD T Fv P PR2 w) (hb_Ma_goOn_219 N (hg_Ma_goOn N K) u q) := fun l => ok_mono (exit_okc l) (fun w _ hw => ⟨PR, hw⟩)
    rcases l with ⟨⟨i, h, m, L, g, x, j, wb, nb, cb, rk, M, hf⟩, t9, t8⟩ | l | l
    · refine k_F (y := 0) rfl ⟨by decide, by decide⟩ (fun _ => k_F (y := 0) rfl ⟨by decide, by decide⟩ (fun _ => ?_) (fun z => absurd t8 z)) (fun z => absurd M.2.1 z)
      refine op_ok (K := fun w => hb_Ma_goOn_195 N (hg_Ma_goOn N K) w q (I ((v3 : Nat) : Int))) (c := f - 1) M t9 t8 (by omega) hN (fun w PR2 o => ?_)
      refine step_w o (fun w2 l2 => ?_) (by omega)
      rw [lit1q, I_add, show ((v3 : Nat) : Int) + 1 = ((v3 + 1 : Nat) : Int) by omega]
      exact ih (f - 1) (v3 + 1) PR2 w2 (by omega) (by omega) l2
    · refine k_F (y := 0) rfl ⟨by decide, by decide⟩ (fun z => ?_) (fun _ => ex (Or.inl l))
      have := l.2.1
      omega
    · refine k_F (y := 0) rfl ⟨by decide, by decide⟩ (fun z => k_F (y := 0) rfl ⟨by decide, by decide⟩ (fun y => absurd y (l.2.1.2 z)) (fun _ => ex (Or.inr l))) (fun _ => ex (Or.inr l))
theorem goOn_ok {y : Int} (W : WRD T Fv P PR u) (hq : q < PR) (hal : F u (pq q 9) ≠ 3) (hy : 0 ≤ y ∧ y ≤ 500) (hN : 600000000010 ≤ N) : OK (fun w _ => ∃ PR2, WRD T Fv P PR2 w) (hm_Ma_goOn N u q (I y)) := by
  obtain ⟨g1, g2, g3, g4, g5, g6⟩ := W
  obtain ⟨j, wb, nb, cb, rk, i, h, m, L, x, st, e4, tt, hx, b1, b2, un⟩ := g5 q hq hal
  obtain ⟨hc, hj⟩ := st.2.1
  have tb := g3 _ _ _ _ _ _ tt
  unfold hm_Ma_goOn hb_Ma_goOn_0 hm_Fr_place hb_Fr_place_0
  rw [I_F (k := pq q 21), hc, lit1q, I_sub, show ((j + 1 : Nat) : Int) - 1 = ((j : Nat) : Int) by omega, I_lit (n := 4), of_e (y := ((j : Nat) : Int)) (z := 4) (a := j) (k := 4) hc hj rfl (Nat.le_refl _) rfl (by omega), bnd_so, e4, bnd_so, lit0q]
  refine ok_lt.mpr (ok_lt.mpr (ok_lt.mpr (ok_lt.mpr (ok_lt.mpr (ok_lt.mpr (ok_lt.mpr (ok_lt.mpr ?_)))))))
  simp only [wi_e]
  generalize hw : wi (wi (wi (wi (wi (wi (wi (wi u 1105 ((i : Nat) : Int)) 1106 0) 1107 y) 1108 0) 1109 0) 1112 0) (pq q 9) 0) (pq q 29) 0 = w
  have f : FC q [1105, 1106, 1107, 1108, 1109, 1112] [] [] [9, 29] [] [] [] u w := by
    rw [← hw]
    exact FC.wi_q (FC.wi_q (FC.wi_g (FC.wi_g (FC.wi_g (FC.wi_g (FC.wi_g (FC.wi_g FC.rf (by omega) (by simp)) (by omega) (by simp)) (by omega) (by simp)) (by omega) (by simp)) (by omega) (by simp)) (by omega) (by simp)) (by omega) (by simp)) (by omega) (by simp)
  have v : F w 1105 = ((i : Nat) : Int) ∧ F w 1106 = 0 ∧ F w 1107 = y ∧ F w 1108 = 0 ∧ F w 1109 = 0 ∧ F w 1112 = 0 ∧ F w (pq q 9) = 0 := by
    rw [← hw]
    have e1 : pq q 29 ≠ pq q 9 := pq_inj (by decide)
    refine ⟨?_, ?_, ?_, ?_, ?_, ?_, ?_⟩
    · rw [F_wi (by decide) (by decide), if_neg (by unfold pq; omega), F_wi (by decide) (by decide), if_neg (by unfold pq; omega), F_wi (by decide) (by decide), if_neg (by decide), F_wi (by decide) (by decide), if_neg (by decide), F_wi (by decide) (by decide), if_neg (by decide), F_wi (by omega) (by omega), if_neg (by decide), F_wi (by decide) (by decide), if_neg (by decide), F_wi (by omega) (by omega), if_pos rfl]
    · rw [F_wi (by decide) (by decide), if_neg (by unfold pq; omega), F_wi (by decide) (by decide), if_neg (by unfold pq; omega), F_wi (by decide) (by decide), if_neg (by decide), F_wi (by decide) (by decide), if_neg (by decide), F_wi (by decide) (by decide), if_neg (by decide), F_wi (by omega) (by omega), if_neg (by decide), F_wi (by decide) (by decide), if_pos rfl]
    · rw [F_wi (by decide) (by decide), if_neg (by unfold pq; omega), F_wi (by decide) (by decide), if_neg (by unfold pq; omega), F_wi (by decide) (by decide), if_neg (by decide), F_wi (by decide) (by decide), if_neg (by decide), F_wi (by decide) (by decide), if_neg (by decide), F_wi (by omega) (by omega), if_pos rfl]
    · rw [F_wi (by decide) (by decide), if_neg (by unfold pq; omega), F_wi (by decide) (by decide), if_neg (by unfold pq; omega), F_wi (by decide) (by decide), if_neg (by decide), F_wi (by decide) (by decide), if_neg (by decide), F_wi (by decide) (by decide), if_pos rfl]
    · rw [F_wi (by decide) (by decide), if_neg (by unfold pq; omega), F_wi (by decide) (by decide), if_neg (by unfold pq; omega), F_wi (by decide) (by decide), if_neg (by decide), F_wi (by decide) (by decide), if_pos rfl]
    · rw [F_wi (by decide) (by decide), if_neg (by unfold pq; omega), F_wi (by decide) (by decide), if_neg (by unfold pq; omega), F_wi (by decide) (by decide), if_pos rfl]
    · rw [F_wi (by decide) (by decide), if_neg e1.symm, F_wi (by decide) (by decide), if_pos rfl]
  obtain ⟨v5, v6, v7, v8, v9, v12, vs⟩ := v
  obtain ⟨n, ow, kd, B, W, Y, p⟩ := (g1.2 q hq).2.2 hal
  have eB : B = nb + m := by have := p.2.1.1; omega
  have eW : W = wb + h := by have := p.2.2.1.1; omega
  subst eB; subst eW
  have p2 : PTQ w q n ow kd Fv P (nb + m) (wb + h) Y := PTQ_same p (fun k hk => f.2.2.2.2.1 q k (by simp at hk; omega) (fun _ => by simp at hk ⊢; omega)) (fun k hk => f.jq (by simp at hk; omega) (by simp))
  have sm : SMQ w q := SMQ_up (g1.2 q hq).1 (f.Fq (by omega) (by simp)) (f.Fq (by omega) (by simp)) (by rw [f.Fq (by omega) (by simp)]; exact Int.le_refl _) hal
  have d : DWc Fv P PR w := DWc_fc g1 f hq hal (by rw [vs]; decide) sm ⟨n, ow, kd, _, _, Y, p2⟩ (by simp) (by simp)
  have s : SCQ u w := SCQ_f f (by simp) (by simp)
  have al : ALN w := ALN_k g6 (f.2.2.1 1948 (by omega) (by simp)) (fun r _ h1 => LNB_fc h1 (fun k hk => f.2.2.2.2.1 r k (by simp at hk; omega) (fun _ => by simp at hk ⊢; omega)))
  have oth : OTH T PR q w := fun r hr hrq hal => PSQ_o (g5 r hr (by rw [← f.Fo hrq (by omega)]; exact hal)) f hrq (by simp)
  have M : MIc T Fv P PR q w i h m L 0 x j wb nb cb rk := ⟨⟨d, CTX_s s g2, WFT_s s g3, CDT_s s g4, oth, al, hq, by rw [v6, v7]; omega⟩, vs, STc_s st (f.2.2.2.2.2.2.1 q 30 (by omega) (by simp)) (f.2.2.2.2.2.2.1 q 37 (by omega) (by simp)) (f.2.2.2.2.1 q 21 (by omega) (by simp)) (f.2.2.2.2.1 q 28 (by omega) (by simp)), ⟨tt, v5⟩, ⟨by rw [f.Fq (by omega) (by simp)]; exact b1, by rw [f.Fq (by omega) (by simp)]; exact b2⟩, ⟨fun _ => v12, fun z => absurd rfl z⟩, fun z1 z2 => by omega, UN_k un (f.2.2.2.2.2.1 q 10 (by omega) (by simp)) (f.2.2.1 23 (by omega) (by simp))⟩
  have mb := MI_b M
  have hph : PHc T w q i x rk < 600000000 := by
    unfold PHc
    rw [v6, v7]
    have := pot_le (T := T) (i := i) (x := x) (t := (F w (pq q 8)).toNat) (by omega)
    have := mb.2.2.2.2
    omega
  exact goOn_loop (q := q) hN N 600000000 0 PR w (by omega) (by omega) (Or.inl ⟨⟨_, _, _, _, _, _, _, _, _, _, _, M, hph⟩, v9, v8⟩)
end
end
