set_option maxRecDepth 100000
def R100 : List Nat := List.range 100
theorem R100_in {k : Nat} (h : k < 100) : k ∈ R100 := List.mem_range.mpr h
section
variable {T : Nat → Option (Nat × Nat × List Nat × Nat × Nat)} {Fv : Int64 → Int64 → Prop} {P : Int64 → Prop} {u v w w1 : MS} {PR N q r n B W Y i h m g x j wb nb cb rk c f i2 h2 m2 k a U d : Nat} {L : List Nat} {ow kd : Nat → Nat} {t rest : Int64} {gi gl ga ki kl ka kj : List Nat}
theorem FC.uq (a : FC q gi gl ga ki kl ka kj u w) {y : Int32} (h1 : k < 100) (h2 : k ∈ ki) : FC q gi gl ga ki kl ka kj u (upI w (pq q k) y) := by rw [I_of y]; exact FC.wi_q a h1 h2
theorem FC.lq (a : FC q gi gl ga ki kl ka kj u w) {y : Int64} (h1 : k < 100) (h2 : k ∈ kl) : FC q gi gl ga ki kl ka kj u (upL w (pq q k) y) := FC.wl_q a h1 h2
theorem clearc_ok : OK (fun w _ => FC r [] [] [] [4, 5, 7, 8, 9, 11, 12, 13, 15, 17, 21, 24, 26, 28, 29] [10, 16] [] [] u w ∧ (∀ k, k ∈ [4, 5, 7, 8, 9, 13, 15, 21, 24, 26, 28] → F w (pq r k) = 0) ∧ w.2.2.2 = u.2.2.2 ∧ w.2.2.1 = u.2.2.1) (hm_Pr_clear N u r) := by
  unfold hm_Pr_clear hb_Pr_clear_0 hm_Fr_clear hb_Fr_clear_0
  simp only [lt_e, bnd_so]
  refine ok_some.mpr ⟨FC.uq (FC.lq (FC.uq (FC.uq (FC.uq (FC.uq (FC.lq (FC.uq (FC.uq (FC.uq (FC.uq (FC.uq (FC.uq (FC.uq (FC.uq (FC.uq (FC.uq (FC.rf) (by omega) (by simp)) (by omega) (by simp)) (by omega) (by simp)) (by omega) (by simp)) (by omega) (by simp)) (by omega) (by simp)) (by omega) (by simp)) (by omega) (by simp)) (by omega) (by simp)) (by omega) (by simp)) (by omega) (by simp)) (by omega) (by simp)) (by omega) (by simp)) (by omega) (by simp)) (by omega) (by simp)) (by omega) (by simp)) (by omega) (by simp), fun k hk => ?_, rfl, rfl⟩
  simp only [List.mem_cons, List.not_mem_nil, or_false] at hk
  rcases hk with rfl | rfl | rfl | rfl | rfl | rfl | rfl | rfl | rfl | rfl | rfl <;> simp [F, upI, upL, pq]
theorem FC.all (a : FC q gi gl ga ki kl ka kj u w) (h1 : ∀ k, k ∈ gi → k ∈ [942]) (h2 : ∀ k, k ∈ gl → False) (h3 : ∀ k, k ∈ ga → k ∈ [1948]) : FC q [942] [] [1948] R100 R100 R100 R100 u w := by
  obtain ⟨a1, a2, a3, a4, a5, a6, a7, a8⟩ := a
  exact ⟨fun k x y => a1 k x (fun z => y (h1 k z)), fun k x y => a2 k x (fun z => (h2 k z).elim), fun k x y => a3 k x (fun z => y (h3 k z)), a4, fun r k x y => a5 r k x (fun e _ => y e (R100_in x)), fun r k x y => a6 r k x (fun e _ => y e (R100_in x)), fun r k x y => a7 r k x (fun e _ => y e (R100_in x)), fun r k x y => a8 r k x (fun e _ => y e (R100_in x))⟩
theorem DWc_new (dw : DWc Fv P PR u) (hP : PR < 24) (f : FC PR [942] [] [1948] R100 R100 R100 R100 u w) (e942 : F w 942 = ((PR + 1 : Nat) : Int)) (e48 : ∀ r, r < PR + 1 → rf (w.2.2.1 1948 r) = some r) (h9 : F w (pq PR 9) ≠ 3) (sm : SMQ w PR) (lv : LVQ Fv P w PR) : DWc Fv P (PR + 1) w := by
  obtain ⟨⟨⟨g11, g12⟩, g13, g14, ⟨g15, g16⟩, g17, g18, g19⟩, d2⟩ := dw
  have st : ∀ r, r ≠ PR → F w (pq r 9) = F u (pq r 9) := fun r hr => f.Fo hr (by omega)
  have gF : ∀ k, k ∈ [950, 953, 955, 956] → F w k = F u k := fun k hk => f.Fg (by simp at hk; omega) (by simp at hk ⊢; omega)
  have gA : ∀ k i, k ∈ [53, 54] → A w k i = A u k i := fun k i hk => f.ag (by simp at hk; omega) (by simp at hk ⊢; omega)
  have hce : cEc w (PR + 1) = cEc u PR := by
    show cEc w PR + _ = _
    rw [if_neg h9, cEc_eq (m := u) PR (fun r hr => st r (by omega))]; rfl
  refine ⟨⟨⟨e942, by omega⟩, e48, by rw [gF 950 (by simp)]; exact g14, ⟨by rw [gF 955 (by simp), hce]; exact g15, by rw [gF 955 (by simp), gF 956 (by simp)]; exact g16⟩, fun i hi => ?_, by rw [gF 953 (by simp)]; exact g18, fun i hi => ?_⟩, fun r hr => ?_⟩
  · rw [gF 955 (by simp)] at hi
    obtain ⟨r, r1, r2, r3⟩ := g17 i hi
    exact ⟨r, by rw [gA 54 i (by simp)]; exact r1, by omega, by rw [st r (by omega)]; exact r3⟩
  · rw [gF 953 (by simp)] at hi
    rw [gA 53 i (by simp)]; exact g19 i hi
  · by_cases e : r = PR
    · rw [e]; exact ⟨sm, fun z => absurd z h9, fun _ => lv⟩
    · obtain ⟨s1, s2, s3⟩ := d2 r (by omega)
      refine ⟨?_, fun z => ?_, fun z => ?_⟩
      · unfold SMQ
        rw [f.Fo e (by omega), f.Fo e (by omega), f.Fo e (by omega), f.Fo e (by omega)]; exact s1
      · rw [st r e] at z
        obtain ⟨hq2, n, ow, kd, e1, e2, e3, e4, e5, e6⟩ := s2 z
        have hne : hq2 ≠ PR := by omega
        exact ⟨hq2, n, ow, kd, by rw [f.2.2.2.2.1 r 17 (by omega) (fun y => absurd y e)]; exact e1, by omega, by rw [st hq2 hne]; exact e3, e4, by rw [f.jo hne (by omega)]; exact e5, by rw [f.2.2.2.2.2.1 r 16 (by omega) (fun y => absurd y e)]; exact e6⟩
      · rw [st r e] at z
        obtain ⟨n, ow, kd, B, W, Y, p⟩ := s3 z
        exact ⟨n, ow, kd, B, W, Y, PTQ_same p (fun k hk => f.2.2.2.2.1 r k (by simp at hk; omega) (fun y => absurd y e)) (fun k hk => f.jo e (by simp at hk; omega))⟩
theorem rf_of (h : r < 24) : rf (Int32.ofNat r) = some r := rf_some h
theorem FC_newP : FC r [942] [] [1948] R100 R100 R100 R100 u (newP u r) := by
  refine ⟨fun k hk _ => nP_o1 (by unfold pq; omega), fun k hk _ => nP_o2 (by unfold pq; omega), fun k hk y => nP_o3 (by unfold pq; omega) (by simp at y; exact y), fun k hk _ => nP_o4 (by unfold pq; omega), fun s k hk y => nP_o1 ?_, fun s k hk y => nP_o2 ?_, fun s k hk y => nP_o3 ?_ (by unfold pq; omega), fun s k hk y => nP_o4 ?_⟩ <;> (have : s ≠ r := fun e => y e (R100_in hk)) <;> (unfold pq; omega)
theorem LNB_newP : LNB (newP u r) r := by
  have e : ∀ k, k < 100 → F (newP u r) (pq r k) = (nwi k).toInt := fun k hk => congrArg _ (nP_1 hk)
  refine ⟨⟨0, by omega, by rw [e 45 (by omega)]; rfl⟩, ⟨0, by omega, by rw [e 43 (by omega)]; rfl, by rw [e 42 (by omega)]; rfl⟩, 0, by omega, by rw [e 47 (by omega)]; rfl, ?_⟩
  rw [e 47 (by omega), e 28 (by omega)]; decide
def BRN (Fv : Int64 → Int64 → Prop) (P : Int64 → Prop) (PR : Nat) (u w : MS) : Prop := PR < 24 ∧ DWc Fv P (PR + 1) w ∧ FC PR [942] [] [1948] R100 R100 R100 R100 u w ∧ ALN w ∧ (∀ k, k ∈ [4, 5, 7, 8, 9, 13, 15, 21, 24, 26, 28] → F w (pq PR k) = 0) ∧ PTQ w PR 0 (fun _ => 0) (fun _ => 0) Fv P 0 0 0
theorem born43 (dw : DWc Fv P PR u) (hP : PR < 24) (al : ALN u) (f : FC PR [942] [] [1948] R100 R100 R100 R100 u v) (e42 : F v 942 = ((PR : Nat) : Int)) (e48 : rf (v.2.2.1 1948 PR) = some PR) (e48o : ∀ r, r ≠ PR → v.2.2.1 1948 r = u.2.2.1 1948 r) (ln : LNB v PR) : OK (fun w r => r = some PR ∧ BRN Fv P PR u w) (hb_Wl_born_43 N () v) := by
  unfold hb_Wl_born_43
  rw [I_F (k := 942), e42]
  refine e_in ⟨by omega, by omega⟩ (by decide) ?_
  rw [tnI (n := PR) rfl (by omega), e48, bo_s]
  refine ok_bnd.mpr (ok_mono (clearc_ok (N := N)) (fun w1 _ hw1 => ok_lt.mpr (ok_some.mpr ⟨rfl, ?_⟩)))
  obtain ⟨f1, z1, j1, a1⟩ := hw1
  rw [I_F (k := 942), f1.Fg (by omega) (by simp), e42, lit1q, I_add, show ((PR : Nat) : Int) + 1 = ((PR + 1 : Nat) : Int) by omega, wi_e]
  have fA : FC PR [942] [] [1948] R100 R100 R100 R100 u (wi w1 942 ((PR + 1 : Nat) : Int)) := FC.wi_g (FC.tr f (FC.all f1 (by simp) (by simp) (by simp))) (by omega) (by simp)
  have zq : ∀ k, k ∈ [4, 5, 7, 8, 9, 13, 15, 21, 24, 26, 28] → F (wi w1 942 ((PR + 1 : Nat) : Int)) (pq PR k) = 0 := fun k hk => by rw [F_wi (by omega) (by omega), if_neg (by unfold pq; omega)]; exact z1 k hk
  have ln1 : LNB w1 PR := by
    obtain ⟨⟨a, b1, b2⟩, ⟨b, b3, b4, b5⟩, c, b6, b7, b8⟩ := ln
    refine ⟨⟨a, b1, by rw [f1.Fq (by omega) (by simp)]; exact b2⟩, ⟨b, b3, by rw [f1.Fq (by omega) (by simp)]; exact b4, by rw [f1.Fq (by omega) (by simp)]; exact b5⟩, c, b6, by rw [f1.Fq (by omega) (by simp)]; exact b7, ?_⟩
    rw [z1 28 (by simp), f1.Fq (by omega) (by simp), b7]; omega
  have ln2 : LNB (wi w1 942 ((PR + 1 : Nat) : Int)) PR := LNB_g ln1 (by omega)
  have e1948 : ∀ r, (wi w1 942 ((PR + 1 : Nat) : Int)).2.2.1 1948 r = v.2.2.1 1948 r := fun r => by show w1.2.2.1 1948 r = _; rw [a1]
  have e942 : F (wi w1 942 ((PR + 1 : Nat) : Int)) 942 = ((PR + 1 : Nat) : Int) := by rw [F_wi (by omega) (by omega), if_pos rfl]
  generalize wi w1 942 ((PR + 1 : Nat) : Int) = w2 at fA zq ln2 e1948 e942 ⊢
  have pt : PTQ w2 PR 0 (fun _ => 0) (fun _ => 0) Fv P 0 0 0 := by
    obtain ⟨⟨a, b1, b2⟩, ⟨b, b3, b4, b5⟩, c⟩ := ln2
    have pa := p2_le b1
    have pb := p2_le b3
    refine ⟨⟨zq 4 (by simp), by omega, HP_0⟩, ⟨zq 24 (by simp), fun i hi => absurd hi (by omega)⟩, ⟨zq 26 (by simp), fun i hi => absurd hi (by omega)⟩, ⟨zq 7 (by simp), fun i hi => absurd hi (by omega)⟩, ⟨_, b4, by omega, by omega⟩, ⟨_, b2, by omega, by omega⟩, by omega⟩
  have h9 := zq 9 (by simp)
  refine ⟨hP, DWc_new dw hP fA e942 (fun r hr => ?_) (by rw [h9]; decide) ?_ ⟨_, _, _, _, _, _, pt⟩, fA, fun r hr => ?_, zq, pt⟩
  · rw [e1948]
    by_cases e : r = PR
    · rw [e]; exact e48
    · rw [e48o r e]; exact dw.1.2.1 r (by omega)
  · exact ⟨by rw [zq 15 (by simp)]; decide, by rw [zq 8 (by simp)]; decide, fun _ => by rw [zq 8 (by simp), zq 7 (by simp)]; decide⟩
  · rw [e1948]
    by_cases e : r = PR
    · rw [e]; exact Or.inr ⟨e48, ln2⟩
    · rw [e48o r e]
      rcases al r hr with z | ⟨z1, z2⟩
      · exact Or.inl z
      · exact Or.inr ⟨z1, LNB_o z2 fA e⟩
theorem bornc_ok (dw : DWc Fv P PR u) (al : ALN u) : OK (fun w r => (r = none ∧ w = u) ∨ (r = some PR ∧ BRN Fv P PR u w)) (hm_Wl_born N u) := by
  have g1 := dw.1.1.1
  have g2 := dw.1.1.2
  unfold hm_Wl_born hb_Wl_born_0
  rw [I_F (k := 942), g1, I_lit (n := 24)]
  refine k_lt ⟨by omega, by omega⟩ ⟨by decide, by decide⟩ (fun h1 => ?_) (fun _ => ok_some.mpr (Or.inl ⟨rfl, rfl⟩))
  have hP : PR < 24 := by have : ((PR : Nat) : Int) < 24 := h1; omega
  refine e_in ⟨by omega, by omega⟩ (by decide) ?_
  rw [tnI (n := PR) rfl (by omega)]
  have mo : ∀ {o : Option (MS × Option Nat)}, OK (fun w r => r = some PR ∧ BRN Fv P PR u w) o → OK (fun w r => (r = none ∧ w = u) ∨ (r = some PR ∧ BRN Fv P PR u w)) o := fun hh => ok_mono hh (fun w r hw => Or.inr hw)
  rcases al PR hP with z | ⟨z1, z2⟩
  · rw [z]
    refine ok_br.mpr ⟨fun _ => ok_lt.mpr (mo ?_), fun y => absurd y (by decide)⟩
    refine born43 dw hP al FC_newP (by show ((newP u PR).1 942).toInt = _; rw [nP_o1 (by unfold pq; omega)]; exact g1) (by rw [nP_1948]; show rf (if PR = PR then _ else _) = _; rw [if_pos rfl]; exact rf_of hP) (fun r hr => by rw [nP_1948]; exact if_neg hr) LNB_newP
  · rw [z1]
    refine ok_br.mpr ⟨fun y => absurd y (by simp), fun _ => mo ?_⟩
    exact born43 dw hP al FC.rf g1 z1 (fun _ _ => rfl) z2
end
