set_option maxRecDepth 100000
section
variable {u v w : MS} {N lv t hi lo o q r s c h m g x d a b k n f Q z : Nat} {ps : Nat → Nat} {S : SF_Cm_fun} {W B wh : Int} {L : List Nat} {H : List (Nat × Tyc)} {oo : Option Tyc}
theorem SG_wi {y : Int} (hy : RG y) (hk : k ≠ 22 ∧ k ≠ 442 ∧ k ≠ 449) (p : SGc w a b q r H z h m L g x oo) : SGc (wi w k y) a b q r H z h m L g x oo := SG_k p (fun _ _ _ _ => rfl) ⟨by rw [F_wi hy.1 hy.2, if_neg (by omega)], by rw [F_wi hy.1 hy.2, if_neg (by omega)], by rw [F_wi hy.1 hy.2, if_neg (by omega)]; omega, fun _ => rfl, fun _ _ _ => ⟨rfl, rfl, rfl⟩⟩
theorem triesC_ok (hE : ExS N S (o + 1) 3) (hN : 30000 ≤ N) {S2 : SF_Cm_fun} (h2 : S2.2.2.2.2.2.2.2.2.2.2.2.1 = hm_Cm_tries N S) : TrS N S2 o := by
  intro f k kg g m u lv cc Q ps n pl ph rg m2 hi a c c1 q s wh hf hu h706 hn h18 h19 hpr hrm hmh hhc hc8 hc18 hsQ hwh
  rw [h2]
  have hcs := CMP_c hu
  have cu := hu.1
  have gp := OR_hd (PA_bd f) h18.2
  have i1 : inb (I ((n : Nat) : Int)) 8016 = true := (I_inb (by omega) (by omega)).mpr ⟨by omega, by omega⟩
  have hqs : q ≤ s ∧ (1 ≤ g → kg ≤ 8000) := by
    rcases h19.2 with ⟨z1, z2, z3⟩ | ⟨z1, z2⟩
    · exact ⟨by omega, fun z => by omega⟩
    · have := (RW_hd (XP_bd f (o + 1) 3) z2).1
      have h5 := RW_cnt (XP_bd f (o + 1) 3) z2
      unfold HDc at this
      exact ⟨by omega, fun z => by have := hc18 z; omega⟩
  have e111 : ∀ (v : MS) (ch0 : Int) (M : Nat), PCQ u v lv (WBc ps pl ph + (if k = 0 then 0 else 4)) (ph - pl) hi q q (TRYc u v lv pl q q o k wh ch0) → RG ch0 → 8001 ≤ M → OK (fun w r => ∃ ch : Int, r = I ch ∧ RG ch ∧ PCQ u w lv (WBc ps pl ph + WBc ps rg m2 + ((if k = 0 then 0 else 4) + (if g = 0 then 0 else 5))) (ph - pl + (m2 - rg)) hi q s (TRYc u w lv pl q s o k wh ch)) (hb_Cm_tries_111 N S (hg_Cm_tries N S M) v (I ((n : Nat) : Int)) (I (F u 706)) (I ch0)) := fun v ch0 M pv hch hM => by
    unfold hb_Cm_tries_111
    rw [i1, ck_t, tnI (n := n) rfl (by omega), I_A (k := 19), pv.1.1.A (j := 19) (by simp), h19.1]
    rcases h19.2 with ⟨z1, z2, z3⟩ | ⟨hg1, hrw⟩
    · subst z1 z2 z3
      refine k_c (y := 0) rfl ⟨by decide, by decide⟩ ⟨by decide, by decide⟩ (fun _ => ok_some.mpr ⟨ch0, rfl, hch, ?_⟩) (fun z => absurd rfl z)
      have : WBc ps rg rg = 0 := by unfold WBc; simp
      exact PC_w pv (by rw [this]; simp) (by omega) (Nat.le_refl _) (fun _ y => y)
    · have cv := pv.1.2.1
      have kv := pv.1
      have pv6 := pv.2.1
      have hu6 := hu.2.2.2.2
      have gr := (RW_hd (XP_bd f (o + 1) 3) hrw).1
      unfold HDc at gr
      have hkg := hqs.2 hg1
      have hc1 := hc18 hg1
      refine k_c (y := 0) rfl ⟨by omega, by omega⟩ ⟨by decide, by decide⟩ (fun z => absurd z (by omega)) (fun _ => ok_lt.mpr ?_)
      rw [lit1q, wi_e]
      have cv1 : CVI (wi v 712 1) lv := CVI_flag (Or.inl rfl) cv (Or.inr rfl)
      have ev : ∀ j, j ≠ 712 → F (wi v 712 1) j = F v j := fun j hj => by rw [F_wi (by decide) (by decide), if_neg hj]
      have ev12 : F (wi v 712 1) 712 = 1 := by rw [F_wi (by decide) (by decide), if_pos rfl]
      have ef1 : KMF v (wi v 712 1) := FR.wi FR.rf (by simp)
      have eA1 : ∀ r j, A (wi v 712 1) r j = A v r j := fun _ _ => rfl
      have flag : ∀ w W t Y, PCQ (wi v 712 1) w lv W t hi q s Y → PCQ v (wi w 712 (F v 712)) lv W t hi q s (szc (wi v 712 1) = szc v ∧ Y) := fun w W t Y p => PC_flag (Or.inl rfl) cv (Or.inr rfl) p
      generalize wi v 712 1 = v1 at cv1 ev ev12 ef1 eA1 flag ⊢
      refine put_1 (x := 21) cv1.1 ⟨by decide, by decide⟩ (fun w1 e1 => ?_)
      have e16 : F w1 706 = F v 706 := (congrArg _ (e1.1.1 706 (by simp)) : F w1 706 = F v1 706).trans (ev 706 (by decide))
      rw [I_F (k := 706), e16, I_sub]
      refine put_B (x := F v 706 - F u 706) cv1.1.1 e1 ⟨by omega, by omega⟩ (fun w2 e2 => ?_)
      refine hook_B (x := ch0) cv1.1.1 e2 hch (fun v2 e3 => ?_)
      have k2 := EMc.km cv1 e3
      have kf2 : KMF u v2 := KMF.tr kv.1 (KMF.tr ef1 k2.1)
      have e26 : F v2 706 = F v 706 := (congrArg _ (e3.1.1 706 (by simp)) : F v2 706 = F v1 706).trans (ev 706 (by decide))
      rw [ck_t, I_A (k := 19), kf2.A (j := 19) (by simp), h19.1]
      have hv2 : CMP v2 lv cc ps Q (o + 1) rg := ⟨k2.2.1, CMX_k hu.2.1 kf2, by rw [k2.2.2.2.2.2.1.2, ev 713 (by decide), kv.2.2.2.2.2.1.2]; exact hu.2.2.1, by have := hu.2.2.2.1; omega, by omega⟩
      refine guardsX hE kg M g rg m2 c c1 q s v2 hf hv2 (by rw [k2.2.2.2.2.2.1.1]; exact ev12) (RW_k (XP_k (Nat.le_refl _) (Nat.le_refl _)) (XP_bd f (o + 1) 3) hrw (KN_m kf2)) hc1 (by omega) hsQ (by omega) (fun w M2 p3 => ?_)
      unfold hb_Cm_tries_181
      refine ok_br.mpr ⟨fun _ => ?_, fun z => absurd z (by decide)⟩
      refine put_1 (x := 23) p3.1.2.1.1 ⟨by decide, by decide⟩ (fun w1 e4 => ?_)
      have v12 := cv.2.2.2.1.1
      rw [I_F (k := 712)]
      refine ok_ck.mpr ⟨by rcases v12 with z | z <;> rw [z] <;> decide, ok_lt.mpr (ok_some.mpr ⟨F v2 441 - 1, rfl, ⟨by have := k2.2.1.1; omega, by have := k2.2.1.1; omega⟩, ?_⟩)⟩
      rw [wi_e]
      have p3' : PCQ v2 w lv (WBc ps rg m2 + 1) (m2 - rg) hi q s (TYX v2 w lv rg q s (o + 1) False 0) := PC_w p3 (Int.le_refl _) (Nat.le_refl _) hmh (fun _ y => y)
      have c3 := p3.1.2.1
      have q1 := PC_seq (Y := (szc v2 = szc v1 + 3 ∧ (A w 23 (szc v1) = 21 ∧ A w 23 (szc v1 + 1) = F v 706 - F u 706 ∧ A w 23 (szc v1 + 2) = ch0)) ∧ TYX v2 w lv rg q s (o + 1) False 0) (PC_em (hi := hi) (q := q) cv1 e3) p3' (Nat.le_refl _) (Nat.le_refl _) hqs.1 (fun gd o1 o2 y1 y2 => by
        have cc2 := k2.2.1.1
        have s3 : szc v2 = szc v1 + 3 := y1.1
        have lt : ∀ j, j < 3 → A w 23 (szc v1 + j) = A v2 23 (szc v1 + j) := fun j hj => o2.1 _ (by
          have h5 : (F v2 441).toNat = szc v1 + 3 := s3
          omega)
        exact ⟨⟨s3, (lt 0 (by omega)).trans (y1.2 0 (by simp)), (lt 1 (by omega)).trans (y1.2 1 (by simp)), (lt 2 (by omega)).trans (y1.2 2 (by simp))⟩, y2⟩)
      have q2 := PC_seq (Y := (szc v2 = szc v1 + 3 ∧ (A w1 23 (szc v1) = 21 ∧ A w1 23 (szc v1 + 1) = F v 706 - F u 706 ∧ A w1 23 (szc v1 + 2) = ch0)) ∧ (szc w1 = szc w + 1 ∧ A w1 23 (szc w) = 23 ∧ OLQ w w1 s s) ∧ TYX v2 w lv rg q s (o + 1) False 0) q1 (PC_em (hi := hi) (q := s) c3 e4) (Nat.le_refl _) hqs.1 (Nat.le_refl _) (fun gd o1 o2 y1 y2 => by
        have s3 := y1.1.1
        have le := szc_le k2.2.1 p3.1
        have cc3 := c3.1
        have lt : ∀ j, j < 3 → A w1 23 (szc v1 + j) = A w 23 (szc v1 + j) := fun j hj => o2.1 _ (by
          have h5 : szc v1 + 3 ≤ (F w 441).toNat := by rw [← s3]; exact le
          omega)
        exact ⟨⟨s3, (lt 0 (by omega)).trans y1.1.2.1, (lt 1 (by omega)).trans y1.1.2.2.1, (lt 2 (by omega)).trans y1.1.2.2.2⟩, ⟨y2.1, y2.2 0 (by simp), o2⟩, y1.2⟩)
      have q3 := flag _ _ _ _ q2
      have frv := FRG1 v 712
      have ew : ∀ j, j ≠ 712 → F (wi w1 712 (F v 712)) j = F w1 j := fun j hj => by rw [F_wi frv.1 frv.2, if_neg hj]
      have eAw : ∀ r j, A (wi w1 712 (F v 712)) r j = A w1 r j := fun _ _ => rfl
      have ef4 : F w1 706 = F w 706 := congrArg _ (e4.1.1 706 (by simp))
      have esz : szc (wi w1 712 (F v 712)) = szc w1 := by show (F (wi w1 712 (F v 712)) 441).toNat = _; rw [ew 441 (by decide)]
      have q4 := PC_seq (Y := TRYc u (wi w1 712 (F v 712)) lv pl q s o k wh (F v2 441 - 1)) pv q3 (Nat.le_refl _) (Nat.le_refl _) hqs.1 (fun gd o1 o2 y1 y2 => ?_)
      · exact PC_w q4 (by rw [if_neg (show ¬ g = 0 by omega)]; simp; omega) (by omega) (Nat.le_refl _) (fun _ z => z)
      · obtain ⟨Hp, ch1, hp1, -, ty⟩ := y1
        obtain ⟨es1, ⟨s3, w0, w1w, w2w⟩, ⟨s4, w3, ol4⟩, tg⟩ := y2
        rw [es1] at s3 w0 w1w w2w
        have le2 := szc_le k2.2.1 p3.1
        have c2f := k2.2.1.1
        have l15 := gd.2.2.2.1
        have c441 : F v2 441 - 1 = ((szc v + 2 : Nat) : Int) := by
          have h5 : (F v2 441).toNat = szc v + 3 := s3
          omega
        have vlt : szc v + 3 ≤ szc w := by rw [← s3]; exact le2
        have v24 : szc w < 24000 := by
          have h5 := gd.2.2.1
          have h6 : szc (wi w1 712 (F v 712)) = szc w + 1 := esz.trans s4
          have h7 : (F (wi w1 712 (F v 712)) 441).toNat = szc w + 1 := h6
          omega
        have kvw : KMc v (wi w1 712 (F v 712)) lv := q3.1
        have old : ∀ p, p < szc v → A (wi w1 712 (F v 712)) 23 p = A v 23 p := fun p hp => o2.1 p (by have : p < (F v 441).toNat := hp; have := cv.1; omega)
        have v1p : 1 ≤ szc v := by have := cv.1; show 1 ≤ (F v 441).toNat; omega
        have uv := szc_le cu kv
        refine ⟨(szc v + 2) :: Hp, ⟨c441, ⟨by omega, by omega⟩, fun p hp => by have := (hp1 p hp).2; omega, ?_⟩, fun p hp => ?_, fun z => absurd z (by simp), fun z h m L x tp => ?_⟩
        · rw [eAw, w2w]
          exact CHNc_k (fun p hp => old p (hp1 p hp).2) ch1
        · simp only [List.mem_cons] at hp
          rcases hp with rfl | hp
          · exact ⟨by omega, by rw [esz, s4]; omega⟩
          · have := hp1 p hp
            exact ⟨this.1, by rw [esz, s4]; omega⟩
        · obtain ⟨t1, t2, ⟨t3, t4⟩, t5, t6⟩ := tp
          have e41 := kvw.2.2.2.2.2.2.2.2
          have e40 := kv.2.2.2.2.2.2.1 lv (Nat.le_refl _)
          have i1 := ty z h m L x ⟨t1, t2, ⟨t3, by omega⟩, t5, t6⟩
          have j1 := SG_kw cv i1 kvw.1 o2 (Nat.le_refl _) (Or.inl (Nat.le_refl _))
          have kn : ((knc u v : Nat) : Int) = F v 706 - F u 706 := by show (((F v 706 - F u 706).toNat : Nat) : Int) = _; omega
          have e40v : A v2 40 lv = A v 40 lv := (k2.2.2.2.2.2.2.1 lv (Nat.le_refl _)).trans (eA1 40 lv)
          have e41w : A w 41 lv ≤ A (wi w1 712 (F v 712)) 41 lv := (EMc.km c3 e4).2.2.2.2.2.2.2.2
          obtain ⟨n1, i2⟩ := tg h (m + knc u v) L (szc v) x ⟨by omega, ⟨by rw [e26, e40v, e40]; omega, by rw [e26, e40v, e40]; omega⟩, by omega, fun z => z.elim, ⟨fun _ => by rw [k2.2.2.2.2.2.1.1]; exact ev12, fun _ => by omega⟩, fun z => by omega⟩
          have n2 : F w 706 = F v 706 := (n1 (by omega)).trans e26
          rw [s3, show knc v2 w = 0 by show (F w 706 - F v2 706).toNat = 0; omega, Nat.add_zero, Nat.add_zero] at i2
          have i3 := SG_wi (y := F v 712) (k := 712) frv ⟨by decide, by decide, by decide⟩ (SG_kw c3 i2 (EMc.km c3 e4).1 ol4 (Nat.le_refl _) (Or.inl (Nat.le_refl _)))
          have cfw := kvw.2.1
          have hm40 : m + knc u v ≤ 40 := by
            have c8 := cfw.2.2.2.2.2.2.2.2
            have e706 : F (wi w1 712 (F v 712)) 706 = F v 706 := by rw [ew 706 (by decide), ef4, n2]
            have e40f := kvw.2.2.2.2.2.2.1 lv (Nat.le_refl _)
            omega
          have j2 := SG_grd (z := z) (n := knc u v) t1 (by omega) hm40 w0 (by rw [w1w]; omega) (by omega) v1p i3 w3
          rw [show m + knc u v - knc u v = m by omega, ← s4, ← esz] at j2
          have j := SG_seq j1 j2 (by omega) (fun hg => absurd rfl hg)
          have ekf : knc u (wi w1 712 (F v 712)) = knc u v := by show (F (wi w1 712 (F v 712)) 706 - F u 706).toNat = _; rw [ew 706 (by decide), ef4, n2]
          rw [ekf]
          refine SG_pm (fun p t => ?_) j
          simp only [List.mem_append, List.map_cons, List.mem_cons, List.not_mem_nil, or_false]
          exact Or.comm
  unfold hm_Cm_tries hb_Cm_tries_0
  rw [i1, ck_t, tnI (n := n) rfl (by omega), I_A (k := 18), h18.1, I_F (k := 706)]
  rcases h18.2 with ⟨z1, z2, z3, z4, -⟩ | ⟨hk1, hrw⟩
  · subst z1 z2 z3
    refine k_c (y := 0) rfl ⟨by decide, by decide⟩ ⟨by decide, by decide⟩ (fun _ => ?_) (fun z => absurd rfl z)
    refine e111 u 0 N (PC_w (PC_rf (hi := hi) (q := q) cu) ?_ (by omega) (Nat.le_refl _) (fun _ _ => ⟨[], rfl, fun p hp => absurd hp (by simp), fun _ => rfl, fun z h m L x tp => ?_⟩)) ⟨by decide, by decide⟩ (by omega)
    · unfold WBc; simp
    · rw [show knc u u = 0 by show (F u 706 - F u 706).toNat = 0; omega]
      exact SG_nl
  · have gr := (RW_hd (PA_bd f) hrw).1
    have hk8 := RW_cnt (PA_bd f) hrw
    unfold HDc at gr
    refine k_c (y := 0) rfl ⟨by omega, by omega⟩ ⟨by decide, by decide⟩ (fun z => absurd z (by omega)) (fun _ => ?_)
    refine put_1 (x := 19) cu.1 ⟨by decide, by decide⟩ (fun w1 e1 => ?_)
    refine put_B (x := wh) cu.1.1 e1 hwh (fun w2 e2 => ?_)
    refine hook_B (x := 0) cu.1.1 e2 ⟨by decide, by decide⟩ (fun v0 e3 => ?_)
    have k0 := EMc.km cu e3
    have cv0 := k0.2.1
    have e57 : ∀ y : Int, (y = 0 ∨ y = 1) → OK (fun w r => ∃ ch : Int, r = I ch ∧ RG ch ∧ PCQ u w lv (WBc ps pl ph + WBc ps rg m2 + ((if k = 0 then 0 else 4) + (if g = 0 then 0 else 5))) (ph - pl + (m2 - rg)) hi q s (TRYc u w lv pl q s o k wh ch)) (hb_Cm_tries_57 N S (hg_Cm_tries N S N) v0 (I ((n : Nat) : Int)) (I (F u 706)) (I (F v0 441 - 1)) (I y)) := fun y hy => by
      unfold hb_Cm_tries_57
      refine ok_ck.mpr ⟨by rcases hy with rfl | rfl <;> decide, ok_lt.mpr ?_⟩
      rw [wi_e, i1, ck_t, tnI (n := n) rfl (by omega)]
      have hry : RG y := ⟨by omega, by omega⟩
      have cv1 : CVI (wi v0 713 y) lv := CVI_flag (Or.inr rfl) cv0 hy
      have ef1 : KMF v0 (wi v0 713 y) := FR.wi FR.rf (by simp)
      have ev : ∀ j, j ≠ 713 → F (wi v0 713 y) j = F v0 j := fun j hj => by rw [F_wi hry.1 hry.2, if_neg hj]
      have flag : ∀ w W t Y, PCQ (wi v0 713 y) w lv W t hi q q Y → PCQ v0 (wi w 713 (F v0 713)) lv W t hi q q (szc (wi v0 713 y) = szc v0 ∧ Y) := fun w W t Y p => PC_flag (Or.inr rfl) cv0 hy p
      generalize wi v0 713 y = v1 at cv1 ef1 ev flag ⊢
      have kf1 : KMF u v1 := KMF.tr k0.1 ef1
      have e06 : F v0 706 = F u 706 := congrArg _ (e3.1.1 706 (by simp))
      rw [I_A (k := 18), kf1.A (j := 18) (by simp), h18.1]
      refine patsX (fun u lv c ps n lo hi a b q r => pattern_300 (by omega) hf u lv c ps n lo hi a b q r) k N m pl ph a c q q v1 cv1 (CSX_k hcs.1 kf1) (RW_k (PA_k (Nat.le_refl _)) (PA_bd f) hrw (KN_m kf1)) hc8 (by omega) (by rw [ev 706 (by decide), e06]; omega) (by omega) (fun w M2 hM2 pq => ?_)
      unfold hb_Cm_tries_71
      refine ok_br.mpr ⟨fun _ => ok_lt.mpr ?_, fun z => absurd z (by decide)⟩
      have f713 : F v0 713 = 0 := by rw [k0.2.2.2.2.2.1.2]; exact hu.2.2.1
      have q1 := flag _ _ _ _ (PQ_pc (hi := hi) (q := q) pq)
      rw [f713] at q1
      rw [lit0q, wi_e]
      have c1w := q1.1.2.1
      have esz : szc (wi w 713 0) = szc w := by show (F (wi w 713 0) 441).toNat = _; rw [F_wi (by decide) (by decide), if_neg (by decide)]
      have e6w : F (wi w 713 0) 706 = F w 706 := by rw [F_wi (by decide) (by decide), if_neg (by decide)]
      have eAw : ∀ r j, A (wi w 713 0) r j = A w r j := fun _ _ => rfl
      generalize wi w 713 0 = w' at q1 c1w esz e6w eAw ⊢
      refine put_1 (x := 8) c1w.1 ⟨by decide, by decide⟩ (fun v2 e4 => ?_)
      have c0r := cv0.1
      refine e111 v2 (F v0 441 - 1) M2 ?_ ⟨by omega, by omega⟩ (by omega)
      have p1 := PC_seq (Y := (szc v0 = szc u + 3 ∧ A w' 23 (szc u) = 19 ∧ A w' 23 (szc u + 1) = wh ∧ A w' 23 (szc u + 2) = 0) ∧ PTSc w' (szc u + 3) (szc w') (knc u w')) (PC_em (hi := hi) (q := q) cu e3) q1 (Nat.le_refl _) (Nat.le_refl _) (Nat.le_refl _) (fun gd o1 o2 y1 y2 => by
        have s3 : szc v0 = szc u + 3 := y1.1
        have lt : ∀ j, j < 3 → A w' 23 (szc u + j) = A v0 23 (szc u + j) := fun j hj => o2.1 _ (by
          have h5 : (F v0 441).toNat = szc u + 3 := s3
          omega)
        refine ⟨⟨s3, (lt 0 (by omega)).trans (y1.2 0 (by simp)), (lt 1 (by omega)).trans (y1.2 1 (by simp)), (lt 2 (by omega)).trans (y1.2 2 (by simp))⟩, ?_⟩
        obtain ⟨y3, y4⟩ := y2
        rw [y3, s3, ← esz] at y4
        have : knc v1 w = knc u w' := by show (F w 706 - F v1 706).toNat = (F w' 706 - F u 706).toNat; rw [e6w, ev 706 (by decide), e06]
        rw [this] at y4
        exact PTS_k y4 (fun j _ _ => eAw 23 j))
      have p2 := PC_seq (Y := TRYc u v2 lv pl q q o k wh (F v0 441 - 1)) p1 (PC_em (hi := hi) (q := q) c1w e4) (Nat.le_refl _) (Nat.le_refl _) (Nat.le_refl _) (fun gd o1 o2 y1 y2 => ?_)
      · exact PC_w p2 (by rw [if_neg (show ¬ k = 0 by omega)]; simp; omega) (by omega) (Nat.le_refl _) (fun _ z => z)
      · obtain ⟨⟨s3, w0, w1w, w2w⟩, pt⟩ := y1
        have s4 : szc v2 = szc w' + 1 := y2.1
        have w3 : A v2 23 (szc w') = 8 := y2.2 0 (by simp)
        have ptl := pt.1
        have cu1 := cu.1
        have v24 : szc w' < 24000 := by
          have h5 := gd.2.2.1
          have h7 : (F v2 441).toNat = szc w' + 1 := s4
          omega
        have c441 : F v0 441 - 1 = ((szc u + 2 : Nat) : Int) := by
          have h5 : (F v0 441).toNat = szc u + 3 := s3
          omega
        have lt : ∀ j, j < szc w' → A v2 23 j = A w' 23 j := fun j hj => o2.1 _ (by
          have h5 : j < (F w' 441).toNat := hj
          omega)
        have u1 : 1 ≤ szc u := by show 1 ≤ (F u 441).toNat; omega
        have e6v : F v2 706 = F w' 706 := congrArg _ (e4.1.1 706 (by simp))
        have ekv : knc u v2 = knc u w' := by show (F v2 706 - F u 706).toNat = _; rw [e6v]
        have kuv := KMc.tr p1.1 (EMc.km c1w e4)
        refine ⟨[szc u + 2], ⟨c441, ⟨by omega, by omega⟩, fun p hp => absurd hp (by simp), ?_⟩, fun p hp => ?_, fun z => absurd z (by simp), fun z h m L x tp => ?_⟩
        · show A v2 23 (szc u + 2) = 0
          rw [lt _ (by omega)]; exact w2w
        · simp only [List.mem_singleton] at hp
          rw [hp, s4]
          exact ⟨by omega, by omega⟩
        · obtain ⟨t1, t2, ⟨t3, t4⟩, t5, t6⟩ := tp
          have l15 := gd.2.2.2.1
          have c8 := kuv.2.1.2.2.2.2.2.2.2.2
          have e40 := kuv.2.2.2.2.2.2.1 lv (Nat.le_refl _)
          have h61 := p1.2.1.1
          have kn : ((knc u w' : Nat) : Int) = F w' 706 - F u 706 := by show (((F w' 706 - F u 706).toNat : Nat) : Int) = _; omega
          rw [ekv, s4]
          refine SG_fit (e := szc w') (b2 := knc u w') t1 (by omega) (by omega) (by rw [lt _ (by omega)]; exact w0) rfl ?_ (PTS_k pt (fun j _ hj => lt j hj)) w3 v24
          rw [lt _ (by omega), w1w]
          rcases t6 with z | z
          · omega
          · exact z
    rw [lit0q]
    exact ok_br.mpr ⟨fun _ => e57 0 (Or.inl rfl), fun _ => e57 1 (Or.inr rfl)⟩
end
