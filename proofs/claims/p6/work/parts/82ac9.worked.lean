section
variable {u0 u v v1 w x y : MS} {N σ TN SN e q0 q1 q2 q3 : Nat} {bw : Nat → Nat} {p o n q c f h s wt g lv xb xb1 xb2 k t D d z l p1 o1 o2 n1 n2 q1' c1 f1 h1 κ : Int} {r y1 y2 y3 : Int32} {R R1 R2 : Nat → Prop} {M M0 M1 : Nat → Nat} {m m0 J i : Nat} {S : SG_M_behind}
theorem work189_N (tk : TKW u0 TN SN bw) (hD : 0 ≤ D) (hm : NM TN bw 0 1 0 σ p o n q c f h s wt) (hu : UB σ n wt u) (hw : WKC u0 TN SN σ bw p o n q c f h s wt g u v p1 o1 n1 q1' c1 f1 h1 J e) (hl : 1 ≤ l ∧ l ≤ 6) (hlv : LVL v l) (hG : ∀ w n2, WKA u0 TN SN σ bw p o n q c f h s wt g u w (p1 + 1) o1 n2 q1' c1 f1 h1 (J + 1) → OK (WRQ u0 TN SN bw σ D p o n q c f h s wt g u) ((gg_M_worked N S (i + 1)).1 w (I wt) r 1)) : OK (WRQ u0 TN SN bw σ D p o n q c f h s wt g u) (fb_M_worked_189 N S (gg_M_worked N S (i + 1)) v (I wt) r 1 (I l)) := by
  have hT := tk.1.1
  have nm1 := WKB_nm tk hm hw.1 (by omega)
  have fs1 := NM_fs nm1 (by omega)
  have s0 := hw.1.1
  have e83 : F v 83 = wt + J := s0.2.1.2.2.2.2.2.2.2.2.2.1
  have e69 : F v 69 = p1 := s0.2.1.1
  have e65 : F v 65 = σ := s0.2.1.2.2.2.2.2.2.2.2.2.2.2
  have e32 : F v 32 = n1 := s0.2.1.2.2.1
  have pb : 0 ≤ p1 ∧ wt + J ≤ 2100 ∧ 0 ≤ wt := by unfold NM at nm1 hm; omega
  obtain ⟨ix, hix⟩ : ∃ ix : Nat, wt + J = ix := ⟨(wt + J).toNat, by omega⟩
  have ts : TSO v = A u0 6 p1.toNat := by unfold TSO; rw [e69]; exact ST_A s0 (by decide)
  have t7 : A v 7 (F v 69).toNat = A u0 7 p1.toNat := by rw [e69]; exact ST_A s0 (by decide)
  have hp1 : p1 < TN := by
    refine tok_lt tk (by omega) ?_
    unfold LVL at hlv
    rw [ts] at hlv
    omega
  unfold fb_M_worked_189
  refine k_at (k := 79) (n := 3000) rfl (by decide) (by omega) (ok_lt.mpr ?_)
  rw [tn_F, e83, nar_byte (by omega), wa_e, hix, Int.toNat_natCast]
  refine k_at (k := 80) (n := 3000) rfl (by decide) (by rw [F_wa]; omega) (ok_lt.mpr ?_)
  rw [tn_F, F_wa, e83, I_F' (show F (wa v 79 ix l) 69 = p1 by rw [F_wa]; exact e69), nar_short (by omega), wa_e, hix, Int.toNat_natCast]
  have sx : ST u0 σ p1 o1 n1 q1' c1 f1 h1 s (wt + J) g (wa (wa v 79 ix l) 80 ix p1) := ST_wa (ST_wa s0 (by decide)) (by decide)
  rw [show (3 : Int32) = I 3 from rfl, lit1q]
  refine k_le ⟨by decide, by decide⟩ ⟨by omega, by omega⟩ (fun h3 => ?_) (fun h3 => ?_)
  · have htok : A u0 6 p1.toNat = 3 ∨ (A u0 6 p1.toNat = 6 ∧ ((12 ≤ A u0 7 p1.toNat ∧ A u0 7 p1.toNat ≤ 20) ∨ A u0 7 p1.toNat = 22 ∨ A u0 7 p1.toNat = 23)) := by
      rcases hlv with a | ⟨a, -⟩ | ⟨-, -, a⟩
      · omega
      · omega
      · rw [ts, t7] at a; exact a
    have fin0 : OK (WRQ u0 TN SN bw σ D p o n q c f h s wt g u) (fb_M_worked_292 N S (gg_M_worked N S (i + 1)) (wa (wa v 79 ix l) 80 ix p1) (I wt) r (I 1)) :=
      work292_N tk (op_push tk hm hu hw hp1 hix ⟨h3, hl.2⟩ htok FR.rf (Or.inl (by rw [F_wa, F_wa])) sx.2.2.1.1) hm (by rw [F_wa, F_wa]; exact e83) hD (fun w hw2 => hG w n1 hw2)
    unfold fb_M_worked_269
    refine ok_br.mpr ⟨fun _ => fin0, fun _ => ?_⟩
    rw [show (4 : Int32) = I 4 from rfl]
    refine k_eq ⟨by omega, by omega⟩ ⟨by decide, by decide⟩ (fun _ => ?_) (fun _ => fin0)
    refine k_rule (s := 7) (t := p1) rfl ⟨by decide, by decide⟩ (by decide) (I_F' sx.2.1.1) (by omega) sx.2.2.1.1 (fun v1 g1 g2 g3 => ?_)
    exact work292_N tk (op_push tk hm hu hw hp1 hix ⟨h3, hl.2⟩ htok g1 (Or.inr g2) g3) hm (by rw [g1.F (by decide), F_wa, F_wa]; exact e83) hD (fun w hw2 => hG w n1 hw2)
  · have t243 : ∀ (t3 : Int32) (k : Int), vp_nar .byte (t3.toInt8.toInt32) = I k → (k = 9 ∨ k = 10) → OK (WRQ u0 TN SN bw σ D p o n q c f h s wt g u) (fb_M_worked_243 N S (gg_M_worked N S (i + 1)) (wa (wa v 79 ix l) 80 ix p1) (I wt) r (I 1) (I l) 81 ((wa (wa v 79 ix l) 80 ix p1).1 83) t3) := fun t3 k hk1 hk2 => by
      unfold fb_M_worked_243
      have e32x : F (wa (wa v 79 ix l) 80 ix p1) 32 = n1 := by rw [F_wa, F_wa]; exact e32
      have e83x : F (wa (wa v 79 ix l) 80 ix p1) 83 = wt + J := by rw [F_wa, F_wa]; exact e83
      have a60x : A (wa (wa v 79 ix l) 80 ix p1) 60 σ = A v 60 σ := by rw [wa_rne (by decide), wa_rne (by decide)]
      refine k_node (k := k) (t := p1) hk1 (by omega) (I_F' sx.2.1.1) (by omega) (by omega) (fun v7 hv7 => ?_)
      rw [show isK 81 4 = true by decide, ck_t]
      refine k_at (k := 81) (n := 3000) rfl (by decide) (by omega) (ok_lt.mpr ?_)
      rw [tn_F, e83x, hix, Int.toNat_natCast, wa_e, e32x]
      have e65y : F (wa v7 81 ix n1) 65 = σ := by rw [F_wa, hv7.1.1.F (by decide), F_wa, F_wa]; exact e65
      have e83y : F (wa v7 81 ix n1) 83 = wt + J := by rw [F_wa, hv7.1.1.F (by decide)]; exact e83x
      have a60y : A (wa v7 81 ix n1) 60 σ = A v 60 σ := by rw [wa_rne (by decide), hv7.1.1.A (by decide)]; exact a60x
      refine k_65 rfl e65y (by omega) (k_at (k := 82) (n := 3000) rfl (by decide) (by omega) (ok_lt.mpr ?_))
      rw [tn_65 e65y, tn_F, e83y, hix, Int.toNat_natCast, I_A' a60y, wa_e]
      have e83z : F (wa (wa v7 81 ix n1) 82 ix (A v 60 σ)) 83 = wt + J := by rw [F_wa]; exact e83y
      have fin0 : OK (WRQ u0 TN SN bw σ D p o n q c f h s wt g u) (fb_M_worked_292 N S (gg_M_worked N S (i + 1)) (wa (wa v7 81 ix n1) 82 ix (A v 60 σ)) (I wt) r (I 1)) :=
        work292_N tk (and_push tk hm hu hw hp1 hix (by omega) hk2 hv7 rfl) hm e83z hD (fun w hw2 => hG w (n1 + 1) hw2)
      unfold fb_M_worked_269
      refine ok_br.mpr ⟨fun _ => fin0, fun _ => ?_⟩
      rw [show (4 : Int32) = I 4 from rfl]
      exact k_eq ⟨by omega, by omega⟩ ⟨by decide, by decide⟩ (fun z => by omega) (fun _ => fin0)
    exact k_eq ⟨by omega, by omega⟩ ⟨by decide, by decide⟩ (fun _ => t243 10 10 rfl (Or.inr rfl)) (fun _ => t243 9 9 rfl (Or.inl rfl))
theorem head2_F (hpn : XNO S.2.2.2.2.2.2.2.2.2.2.1) (hf : FSM u0 TN σ D v) : OK (WRQ u0 TN SN bw σ D p o n q c f h s wt g u) ((gg_M_worked N S (i + 2)).2 v y1) := by
  show OK _ (fb_M_worked_20 N S (gg_M_worked N S (i + 1)) v y1)
  unfold fb_M_worked_20
  refine k_F (y := 0) rfl ⟨by decide, by decide⟩ (fun z => absurd z hf.2.1) (fun _ => ?_)
  unfold fb_M_worked_109
  rw [hpn v hf.2.1, bnd_so]
  refine k_F (y := 0) rfl ⟨by decide, by decide⟩ (fun z => absurd z hf.2.1) (fun _ => ?_)
  unfold fb_M_worked_129 fb_M_worked_141 fb_M_worked_331
  refine ok_br.mpr ⟨fun _ => ?_, fun z => ?_⟩
  · rw [br00]; exact head_F hf
  · exact absurd z (by decide)
theorem work109_N (tk : TKW u0 TN SN bw) (hN : 20000 ≤ N) (hD : 0 ≤ D ∧ D ≤ 2900) (ho : 1 ≤ o ∧ o ≤ 25) (hprim : ∀ o1, o ≤ o1 → o1 ≤ 25 → XPR u0 TN SN bw D o1 S.2.2.2.2.2.2.2.2.2.2.1) (hm : NM TN bw 0 1 0 σ p o n q c f h s wt) (hu : UB σ n wt u) (hw : WKA u0 TN SN σ bw p o n q c f h s wt g u v p1 o1 n1 q1' c1 f1 h1 J) (hG : ∀ w r p2 o2 n2 q2 c2 f2 h2 J2, p1 + 1 < p2 → WKA u0 TN SN σ bw p o n q c f h s wt g u w p2 o2 n2 q2 c2 f2 h2 J2 → OK (WRQ u0 TN SN bw σ (D + 1) p o n q c f h s wt g u) ((gg_M_worked N S (i + 1)).1 w (I wt) r 1)) : OK (WRQ u0 TN SN bw σ (D + 1) p o n q c f h s wt g u) (fb_M_worked_109 N S (gg_M_worked N S (i + 1)) v (I wt)) := by
  have hT := tk.1.1
  have nm1 := WKB_nm tk hm hw.1 (by omega)
  have wnb : o ≤ o1 ∧ o1 ≤ 25 := by
    have := hw.1.2.2.2.2.1
    unfold WKN at this; omega
  unfold fb_M_worked_109
  refine ok_bnd.mpr (ok_mono (hprim o1 wnb.1 wnb.2 v σ _ _ _ _ _ _ _ _ _ hw.1.1 hw.1.2.1 nm1 hw.1.2.2.2.2.2.2.2) (fun w r hr => ?_))
  have up : ∀ z, OK (WRQ u0 TN SN bw σ D p o n q c f h s wt g u) z → OK (WRQ u0 TN SN bw σ (D + 1) p o n q c f h s wt g u) z := fun z hz => ok_mono hz (fun _ _ y => y.imp id (fun y => ⟨FSM_mo y.1 (by omega), y.2⟩))
  rcases hr with hr | hr
  · obtain ⟨e, p2, n2, q2, c2, f2, h2, hre, hpp, hc⟩ := WKA_prim tk hm hw hr
    have nm2 := WKB_nm tk hm hc.1 (by omega)
    have fs2 := NM_fs nm2 (by omega)
    have e69 : F w 69 = p2 := hc.1.1.2.1.1
    rw [hre]
    refine k_F (y := 0) rfl ⟨by decide, by decide⟩ (fun _ => ?_) (fun z => absurd hc.1.2.1 z)
    refine ok_bnd.mpr (ok_mono (level_ok (by omega)) (fun w1 r1 hw1 => ?_))
    obtain ⟨rfl, l, hl, hlv⟩ := hw1
    rw [hl]
    have lr : 0 ≤ l ∧ l ≤ 6 := by unfold LVL at hlv; omega
    unfold fb_M_worked_129
    rw [lit0q]
    refine k_le ⟨by omega, by omega⟩ ⟨by decide, by decide⟩ (fun hl0 => ?_) (fun hl0 => ?_)
    · unfold fb_M_worked_141 fb_M_worked_331
      rw [← lit0q, br00]
      show OK _ (fb_M_worked_9 N S (gg_M_worked N S i) w1 (I wt) (I (e : Int)) 0)
      unfold fb_M_worked_9
      rw [br00]
      exact work334_N tk hN ho.1 hm hu hc
    · unfold fb_M_worked_141
      rw [br10]
      unfold fm_M_reduce fb_M_reduce_0
      have J0 : J ≤ 4000 := by unfold NM at nm2; have := hm; unfold NM at this; omega
      refine ok_bnd.mpr (ok_mono (red_loop tk hm hu ⟨by omega, by omega⟩ N J w1 e o1 n2 hc (by omega)) (fun w2 r2 hw2 => ?_))
      obtain ⟨J2, e2, o3, n3, hr2, hc2, -⟩ := hw2
      rw [hr2]
      have nm3 := WKB_nm tk hm hc2.1 (by omega)
      have fs3 := NM_fs nm3 (by omega)
      have e69b : F w2 69 = p2 := hc2.1.1.2.1.1
      have e83b : F w2 83 = wt + J2 := hc2.1.1.2.1.2.2.2.2.2.2.2.2.2.1
      have wb : 0 ≤ wt ∧ wt + J2 ≤ 2100 := by unfold NM at nm3 hm; omega
      have hlv2 : LVL w2 l := by
        unfold LVL TSO at hlv ⊢
        rw [e69b, ST_A hc2.1.1 (by decide), ST_A hc2.1.1 (by decide)]
        rw [e69, ST_A hc.1.1 (by decide), ST_A hc.1.1 (by decide)] at hlv
        exact hlv
      have goN : OK (WRQ u0 TN SN bw σ (D + 1) p o n q c f h s wt g u) (fb_M_worked_189 N S (gg_M_worked N S (i + 1)) w2 (I wt) (I (e2 : Int)) 1 (I l)) :=
        work189_N tk (by omega) hm hu hc2 ⟨by omega, lr.2⟩ hlv2 (fun w n4 hw4 => hG w _ (p2 + 1) _ _ _ _ _ _ _ (by omega) hw4)
      rw [show (3 : Int32) = I 3 from rfl]
      refine k_eq ⟨by omega, by omega⟩ ⟨by decide, by decide⟩ (fun _ => ?_) (fun _ => goN)
      rw [I_F' e83b]
      refine k_le ⟨by omega, by omega⟩ ⟨by omega, by omega⟩ (fun _ => goN) (fun hj => ?_)
      rw [lit1q, I_sub]
      refine k_in (k := 79) (n := 3000) rfl (by decide) (by omega) (ok_br.mpr ⟨fun _ => ?_, fun _ => by rw [← lit1q]; exact goN⟩)
      refine k_wrong (s := 2) rfl ⟨by decide, by decide⟩ (by decide) (by omega) (fun v4 g1 g2 => ?_)
      have s4 := ST_67 hc2.1.1 g1
      exact work189_F hT (by omega) (by omega) (FSM_of s4 (by omega) (by omega) fs3.1 g2) (by rw [g1.F (by decide)]; omega) (by rw [g1.F (by decide)]; omega) s4.2.2.1.1 ⟨by omega, by omega⟩
  · refine k_F (y := 0) rfl ⟨by decide, by decide⟩ (fun z => absurd z hr.2.1) (fun _ => ?_)
    unfold fb_M_worked_129 fb_M_worked_141 fb_M_worked_331
    refine ok_br.mpr ⟨fun _ => ?_, fun z => absurd z (by decide)⟩
    rw [br00]
    exact up _ (head_F hr)
theorem work_loop (tk : TKW u0 TN SN bw) (hN : 20000 ≤ N) (hD : 0 ≤ D ∧ D ≤ 2900) (ho : 1 ≤ o ∧ o ≤ 25) (hprim : ∀ o1, o ≤ o1 → o1 ≤ 25 → XPR u0 TN SN bw D o1 S.2.2.2.2.2.2.2.2.2.2.1) (hpn : XNO S.2.2.2.2.2.2.2.2.2.2.1) (hm : NM TN bw 0 1 0 σ p o n q c f h s wt) (hu : UB σ n wt u) : ∀ i, LP1 N S u0 TN SN bw σ (D + 1) p o n q c f h s wt g u i := by
  have hT := tk.1.1
  have p0 := (NM_fs hm (by omega)).2.2.1
  intro i
  induction i with
  | zero =>
    refine ⟨fun v r p1 o1 n1 q1 c1 f1 h1 J hw hi => ?_, fun v p1 o1 n1 q1 c1 f1 h1 J hw hi => ?_⟩
    · have := hw.1.2.2.2.1; omega
    · have := hw.1.2.2.2.1; omega
  | succ i ih =>
    refine ⟨fun v r p1 o1 n1 q1 c1 f1 h1 J hw hi => ?_, fun v p1 o1 n1 q1 c1 f1 h1 J hw hi => ?_⟩
    · show OK _ (fb_M_worked_9 N S (gg_M_worked N S i) v (I wt) r 1)
      unfold fb_M_worked_9
      rw [br10]
      refine k_F (y := 0) rfl ⟨by decide, by decide⟩ (fun _ => ih.2 v p1 o1 n1 q1 c1 f1 h1 J hw (by omega)) (fun z => absurd hw.1.2.1 z)
    · have hp := hw.1.2.2.2.1
      have nm1 := WKB_nm tk hm hw.1 (by omega)
      have fs1 := NM_fs nm1 (by omega)
      have e69 : F v 69 = p1 := hw.1.1.2.1.1
      obtain ⟨i', rfl⟩ : ∃ i', i = i' + 1 + 1 := ⟨i - 2, by omega⟩
      show OK _ (fb_M_worked_20 N S (gg_M_worked N S (i' + 1 + 1)) v (I wt))
      unfold fb_M_worked_20
      have t45 : p1 < TN → OK (WRQ u0 TN SN bw σ (D + 1) p o n q c f h s wt g u) (fb_M_worked_45 N S (gg_M_worked N S (i' + 1 + 1)) v (I wt)) := fun hp1 =>
        work45_N tk (by omega) hm hu hw hp1 (fun w hw2 => ih.2 w _ _ _ _ _ _ _ _ hw2 (by omega)) (fun w hw2 => head2_F hpn hw2)
      refine k_F (y := 0) rfl ⟨by decide, by decide⟩ (fun _ => ?_) (fun z => absurd hw.1.2.1 z)
      refine k_isSign (s := 19) rfl ⟨by decide, by decide⟩ (by omega) (fun z => t45 (tok_lt tk (by omega) (by have := (ST_IS hw.1.1 z).1; omega))) (fun _ => ?_)
      refine k_isWord (s := 9) rfl ⟨by decide, by decide⟩ (by omega) (fun z => t45 (tok_lt tk (by omega) (by have := (ST_IW hw.1.1 z).1; omega))) (fun _ => ?_)
      exact work109_N tk hN hD ho hprim hm hu hw (fun w r p2 o2 n2 q2 c2 f2 h2 J2 hpp hw2 => ih.1 w r p2 o2 n2 q2 c2 f2 h2 J2 hw2 (by omega))
theorem worked_ok (tk : TKW u0 TN SN bw) (hN : 20000 ≤ N) (hD : 0 ≤ D ∧ D ≤ 2900) (ho : 1 ≤ o ∧ o ≤ 25) (hprim : ∀ o1, o ≤ o1 → o1 ≤ 25 → XPR u0 TN SN bw D o1 S.2.2.2.2.2.2.2.2.2.2.1) (hpn : XNO S.2.2.2.2.2.2.2.2.2.2.1) : XSP u0 TN SN bw (D + 10) 0 1 0 1 o (fm_M_worked N S) := by
  intro u σ p n q c f h s wt g hs hf hm hl
  have hT := tk.1.1
  have fs := NM_fs hm (by omega)
  have e83 : F u 83 = wt := hs.2.1.2.2.2.2.2.2.2.2.2.1
  unfold fm_M_worked fb_M_worked_0
  rw [I_F' e83]
  have hu : UB σ n wt u := ⟨hs.2.1.2.2.1, e83, (hs.2.2.2.1 σ (Nat.le_refl σ)).1.1⟩
  have w0 : WKA u0 TN SN σ bw p o n q c f h s wt g u u p o n q c f h 0 := by
    refine ⟨⟨by rw [show wt + ((0 : Nat) : Int) = wt by omega]; exact hs, hf, KPR_rf, by omega, ?_, fun i hi => by omega, ?_, hl⟩, fun _ _ _ => ⟨p, ⟨rfl, rfl, rfl⟩, Int.le_refl _⟩⟩
    · unfold NM at hm
      unfold WKN
      omega
    · show o = o + 0; omega
  refine ok_mono ((work_loop tk hN hD ho hprim hpn hm hu N).1 u (-1) p o n q c f h 0 w0 (by omega)) (fun v r hv => ?_)
  rcases hv with hv | ⟨hv, hr⟩
  · exact Or.inl hv
  · rw [hr]; exact Or.inr (FEQ_none (FSM_mo hv (by omega)))
theorem worked_F (hN : 1 ≤ N) : XNO (fm_M_worked N S) := fun u hf => by
  obtain ⟨N', rfl⟩ : ∃ N', N = N' + 1 := ⟨N - 1, by omega⟩
  unfold fm_M_worked fb_M_worked_0
  show fb_M_worked_9 (N' + 1) S (gg_M_worked (N' + 1) S N') u (u.1 83) (-1) 1 = _
  unfold fb_M_worked_9 fb_M_worked_334
  rw [br10, I_F (k := 67), lit0q, decE (F_r u 67).1 (F_r u 67).2 (by omega) (by omega), decide_eq_false hf, br_fq, br_fq]
end
