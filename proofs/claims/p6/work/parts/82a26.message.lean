section
variable {Fv : Int64 → Int64 → Prop} {P : Int64 → Prop} {w0 : MS} {PR N q : Nat}
theorem HP_none {h : Nat → Int64} : HP h 0 (fun _ => 1) (fun _ => 0) Fv P := fun t ht g => by
  rcases g with ⟨z, -⟩ | ⟨-, -, z, -⟩
  · exact absurd ht z
  · omega
theorem RTS_out {u w : MS} {fd : Int64 → Int64} {R : Int64 → Prop} {K b M S : Nat} (r : RTS u w fd R K b M) (hM : M ≤ S) {i : Nat} (hi : ¬ (b ≤ i ∧ i < b + S)) : w.2.2.2 K i = u.2.2.2 K i := (r i).2 (by omega)
theorem m50_ok {o sort p : Nat} {t : Int64} {r wr : Int} (d : DW Fv P PR w0) (hq : q < PR) (hal : A w0 109 q ≠ 3) (hbx : A w0 108 q ≠ 30) (hPB : PB P PR) (hsort : sort ≤ 2) (hp1 : sort < 2 → p < PR) (hr : -2147483648 ≤ r ∧ r < 2147483648) (hpr : -2147483648 ≤ (p : Int) ∧ (p : Int) < 2147483648) (hw : 0 ≤ wr ∧ wr ≤ 2) (ht : TM Fv P w0 q o t) (hN : 60000 ≤ N) :
    OK (fun w2 _ => MSG Fv P PR w0 q w2) (fb_M_message_50 N () w0 (I q) (I sort) (I r) (I p) (I wr) (I o) t (I (if sort = 0 then 4 else if sort = 1 then 5 else 0)) (I (if 0 < wr then 3 else 0))) := by
  have pr := d.1.2
  obtain ⟨n, ow, kd, opM, bnM, bxM, hn, cx⟩ : PRC Fv P w0 q := d.2.1 q hq
  obtain ⟨ho, nS, owS, kdS, f, s, hS5, hS, zS, n', ow', kd', opM', bnM', bxM', hn', cx', hand⟩ : o < 25 ∧ ∃ nS owS kdS f s, nS ≤ 500 ∧ HP (hp w0 o) nS owS kdS Fv P ∧ SZ (hp w0 o) nS owS kdS Fv P f t s ∧ ∃ n ow kd opM bnM bxM, A w0 89 q = ((n : Nat) : Int) ∧ CX w0 q (hp w0 q) n ow kd Fv P opM bnM bxM ∧ (o = q → GT n ow kd P t ∧ (isH t → nS = n ∧ owS = ow ∧ kdS = kd)) := by
    rcases ht with ⟨h1, h2, h3⟩ | ⟨h1, h2, a, b, c, h4, h5, h6, h7⟩ | ⟨h1, n, ow, kd, opM, bnM, bxM, h2, h3, h4⟩
    · exact ⟨h1, 0, _, _, 1, 0, by omega, HP_none, Or.inl ⟨h2, h3, rfl⟩, n, ow, kd, opM, bnM, bxM, hn, cx, fun _ => ⟨Or.inl ⟨h2, h3⟩, fun z => absurd z h2⟩⟩
    · obtain ⟨f, s, z⟩ := HP_sz h6 h7
      exact ⟨h1, a, b, c, f, s, h5, h6, z, n, ow, kd, opM, bnM, bxM, hn, cx, fun z => absurd z h2⟩
    · subst h1
      obtain ⟨f, s, z⟩ := HP_sz h3.2.1 h4
      exact ⟨by omega, n, ow, kd, f, s, h3.2.2.1, h3.2.1, z, n, ow, kd, opM, bnM, bxM, h2, h3, fun _ => ⟨h4, fun _ => ⟨rfl, rfl, rfl⟩⟩⟩
  clear hn cx
  have hs1 := SZ_1000 hS hS5 zS
  unfold fb_M_message_50
  refine ok_bnd.mpr (ok_mono (copySize_ok hS hS5 ho zS (by omega)) (fun w1 r1 h1 => ?_))
  obtain ⟨f1, e1⟩ := h1
  subst e1
  generalize hcs : (if s ≤ 500 then s else 501 : Nat) = cs
  have hcs2 : cs ≤ 501 := by rw [← hcs]; split <;> omega
  unfold fm_M_hand fb_M_hand_0
  rw [show lt (upI w1 140 (I (o : Int))) (fun w1 => lt (upL w1 139 t) (fun w2 => some (w2, ()))) = some (wl (wi w1 140 o) 139 t, ()) from rfl, bnd_so]
  generalize hbase : ((if sort = 0 then 4 else if sort = 1 then 5 else 0 : Int) + (if 0 < wr then 3 else 0)) = ba
  have hba : 0 ≤ ba ∧ ba ≤ 8 := by
    rw [← hbase]
    constructor <;> split <;> split <;> (try split) <;> omega
  rw [I_add, hbase, I_add, show ba + (cs : Int) = ((ba.toNat + cs : Nat) : Int) from by omega]
  obtain ⟨x1, x2, x3, x4, x5, x6, x7, x8, x9, x10, x11⟩ := id cx'
  have f2 : FR [140] [139] [] [141] w0 (wl (wi w1 140 o) 139 t) := FR.wl (FR.wi (FR.mo f1 (by decide) (by decide) (by decide) (by decide)) (by decide)) (by decide)
  have e140 : F (wl (wi w1 140 o) 139 t) 140 = o := by rw [F_wl, F_wi (by omega) (by omega), if_pos rfl]
  have e139 : (wl (wi w1 140 o) 139 t).2.1 139 = t := by rw [L_wl, if_pos rfl]
  generalize wl (wi w1 140 o) 139 t = w2 at f2 e140 e139
  have hp2 : ∀ x, hp w2 x = hp w0 x := fun x => by unfold hp; rw [f2.2.2.2 88 (by decide)]
  have cx2 : CX w2 q (hp w2 q) n' ow' kd' Fv P opM' bnM' bxM' := ⟨rfl, by rw [hp2]; exact x2, x3, x4, by rw [FR.A f2 (by decide)]; exact x5, by rw [FR.A f2 (by decide)]; exact x6, by rw [FR.A f2 (by decide)]; exact x7, fun i hi => by rw [f2.2.2.2 91 (by decide)]; exact x8 i hi, fun i hi => by rw [f2.2.2.2 93 (by decide)]; exact x9 i hi, fun i hi => by rw [f2.2.2.2 107 (by decide)]; exact x10 i hi, fun z => by rw [e139]; exact (hand (by omega)).1⟩
  refine ok_bnd.mpr (ok_mono (wants_ok (N := N) cx2 (by rw [FR.A f2 (by decide)]; exact hn') (k := ba.toNat + cs) (by omega) hN) (fun w3 r3 h3 => ?_))
  obtain ⟨n3, ow3, kd3, fd, R, hw3, hr3⟩ := h3
  obtain ⟨t1, t2, t3, t4, t5, t6, t7, t8, t9, t10, t11, t12⟩ := hw3
  obtain ⟨y1, y2, y3, y4, y5, y6, y7, y8, y9, y10, y11⟩ := id t3
  have none' : fm_M_handNone N w3 = some (wl (wi w3 140 (-1)) 139 (mk 6 0), ()) := rfl
  have f4 : FR [136, 138, 140] [139] [89, 90, 135, 142] [88, 91, 93, 107, 134, 137, 141] w0 (wl (wi w3 140 (-1)) 139 (mk 6 0)) := FR.wl (FR.wi (FR.tr (FR.mo f2 (by decide) (by decide) (by decide) (by decide)) (FR.mo t6 (by decide) (by decide) (by decide) (by decide))) (by decide)) (by decide)
  have h140 : F (wl (wi w3 140 (-1)) 139 (mk 6 0)) 140 = -1 := by rw [F_wl, F_wi (by omega) (by omega), if_pos rfl]
  have mq : MQq Fv P w0 (wl (wi w3 140 (-1)) 139 (mk 6 0)) q n3 ow3 kd3 opM' bnM' bxM' := by
    refine ⟨by have := t5 q; rw [if_pos rfl] at this; exact this, ⟨rfl, y2, y3, y4, y5, y6, y7, y8, y9, y10, fun z => by omega⟩, f4, h140, fun p hp3 => ?_, fun i hi => ?_, fun i hi => ?_, fun i hi => ?_, fun i hi => ?_⟩
    · show A w3 89 p = _
      rw [t5, if_neg hp3, FR.A f2 (by decide)]
    · show w3.2.2.2 88 i = _
      rw [t7 i hi, f2.2.2.2 88 (by decide)]
    · show w3.2.2.2 91 i = _
      rw [RTS_out t8 x5.2 hi, f2.2.2.2 91 (by decide)]
    · show w3.2.2.2 93 i = _
      rw [RTS_out t9 x6.2 hi, f2.2.2.2 93 (by decide)]
    · show w3.2.2.2 107 i = _
      rw [RTS_out t10 x7.2 hi, f2.2.2.2 107 (by decide)]
  rcases hr3 with ⟨er, hroom⟩ | ⟨er, hroom⟩
  · rw [er, lit0q, decE (by omega) (by omega) (by omega) (by omega), decide_eq_false (by omega), br_fq, none', bnd_so]
    have hcs3 : cs = s := by
      rw [← hcs]
      by_cases e : s ≤ 500
      · rw [if_pos e]
      · rw [if_neg e] at hcs; omega
    generalize hx : w3.2.1 139 = x
    have src : SRC Fv P (wl (wi w3 140 (-1)) 139 (mk 6 0)) o q n3 x s := by
      by_cases e : o = q
      · have a1 := t11 (by rw [e140, e])
        rw [e139, hx] at a1
        by_cases hh : isH t
        · obtain ⟨g1, g2⟩ := hand e
          obtain ⟨g3, g4, g5⟩ := g2 hh
          subst g3; subst g4; subst g5
          have sz : SZ (hp w2 q) nS owS kdS Fv P f t s := by rw [hp2, ← e]; exact zS
          have := HOM_sz t1 t2 cx2.2.1 sz a1.2
          rw [← a1.1] at this
          refine ⟨ho, n3, ow3, kd3, f, y3, fun _ => Nat.le_refl _, ?_, ?_⟩
          · rw [e]; exact y2
          · rw [e]; exact this
        · rw [t1.1 t hh] at a1
          have s0 : s = 0 ∧ P t := by
            cases f with
            | zero => exact zS.elim
            | succ f =>
              rcases zS with ⟨-, z, z2⟩ | ⟨z, -⟩
              · exact ⟨z2, z⟩
              · exact absurd z hh
          rw [a1.1, s0.1]
          exact SRC_nh ho hh s0.2
      · have a1 := t12 (by rw [e140]; omega)
        rw [e139, hx] at a1
        rw [a1]
        refine ⟨ho, nS, owS, kdS, f, hS5, fun z => absurd z e, ?_, ?_⟩
        · refine HP_own hS (Nat.le_refl _) (fun i hi _ => ?_) (fun _ _ _ => rfl) (fun _ _ _ => rfl) (fun i hi e => ⟨hi, e⟩)
          show w3.2.2.2 88 _ = w0.2.2.2 88 _
          rw [t7 _ (by omega), f2.2.2.2 88 (by decide)]
        · refine SZ_ext (Nat.le_refl _) (fun i hi => ?_) (fun _ _ => rfl) (fun _ _ => rfl) (fun _ _ q => q) (fun _ q => q) zS
          show w3.2.2.2 88 _ = w0.2.2.2 88 _
          rw [t7 _ (by omega), f2.2.2.2 88 (by decide)]
    have hbx3 : bxM' < 30 := by
      have := x7.1
      have := x7.2
      rcases Nat.lt_or_ge bxM' 30 with z | z
      · exact z
      · exact absurd (by omega : A w0 108 q = 30) hbx
    have e89 : A (wl (wi w3 140 (-1)) 139 (mk 6 0)) 89 q = n3 := mq.1
    generalize wl (wi w3 140 (-1)) 139 (mk 6 0) = v at *
    rw [show (2 : Int32) = I 2 from rfl, decI (by omega) (by omega) (by omega) (by omega)]
    have hif : ba.toNat = (if sort = 0 then 4 else if sort = 1 then 5 else 0) + (if 0 < wr then 3 else 0) := by
      rw [← hbase]
      split <;> split <;> (try split) <;> omega
    by_cases e2 : 2 ≤ sort
    · rw [decide_eq_true (by omega), br_tq, litm1q]
      rw [if_neg (by omega), if_neg (by omega)] at hif
      exact m261_ok mq d hq hal hbx3 hPB (Or.inl ⟨rfl, rfl⟩) src hw (by omega) (by omega) (by omega)
    · rw [decide_eq_false (by omega), br_fq, inb_at (k := 89) (n := 25) rfl (by omega) (by omega) (by decide), ck_t, lt_e, I_tn (by omega) (by omega), Int.toNat_natCast, I_A' e89, decE (by omega) (by omega) (by omega) (by omega)]
      by_cases e0 : sort = 0
      · subst e0
        rw [if_pos rfl] at hif
        rw [decide_eq_true (by omega), br_tq]
        exact m136_ok (parts := 3) (sort := 0) mq d hq hal hbx3 hPB (hp1 (by omega)) hr (Or.inl ⟨rfl, rfl⟩) src hw (by omega) (by omega)
      · have e1 : sort = 1 := by omega
        subst e1
        rw [if_neg (by omega), if_pos rfl] at hif
        rw [decide_eq_false (by omega), br_fq]
        exact m136_ok (parts := 4) (sort := 1) mq d hq hal hbx3 hPB (hp1 (by omega)) hr (Or.inr ⟨rfl, rfl⟩) src hw (by omega) (by omega)
  · rw [er, lit0q, decE (by omega) (by omega) (by omega) (by omega), decide_eq_true rfl, br_tq, none', bnd_so, lit1q, show (20 : Int32) = I 20 from rfl, term_e, bnd_so]
    have dw := MQ_dw mq d hq hal
    obtain ⟨-, -, m3, m4, m5, m6, m7, m8, m9⟩ := mq
    generalize wl (wi w3 140 (-1)) 139 (mk 6 0) = v at *
    refine ok_bnd.mpr (ok_mono (willEnd_ok (wr := 0) dw hq (by omega) (show q ≤ 24 by omega) (Or.inl ⟨nh_mk (by omega), hPB.1 20 (by omega) (by omega)⟩)) (fun v2 _ hv => ok_some.mpr ?_))
    obtain ⟨a, b, c, e⟩ := hv
    refine ⟨a, FR.tr (FR.mo m3 (by decide) (by decide) (by decide) (by decide)) (FR.mo b (by decide) (by decide) (by decide) (by decide)), fun p hp3 => ⟨by rw [e p hp3, FR.A m3 (by decide)], by rw [FR.A b (by decide), FR.A m3 (by decide)], by rw [FR.A b (by decide)]; exact m5 p hp3⟩, Or.inr c, fun i hi => by rw [b.2.2.2 88 (by decide)]; exact m6 i hi, fun i hi => by rw [b.2.2.2 91 (by decide)]; exact m7 i hi, fun i hi => by rw [b.2.2.2 93 (by decide)]; exact m8 i hi⟩
theorem MSG_id (d : DW Fv P PR w0) : MSG Fv P PR w0 q w0 := ⟨d, FR.rf, fun _ _ => ⟨rfl, rfl, rfl⟩, Or.inl rfl, fun _ _ => rfl, fun _ _ => rfl, fun _ _ => rfl⟩
theorem message_ok {o sort p : Nat} {t : Int64} {r wr : Int} (d : DW Fv P PR w0) (hq : q < PR) (hPB : PB P PR) (hsort : sort ≤ 2) (hp1 : sort < 2 → p < PR) (hr : -2147483648 ≤ r ∧ r < 2147483648) (hpr : (p : Int) < 2147483648) (hw : 0 ≤ wr ∧ wr ≤ 2) (ht : A w0 109 q ≠ 3 → TM Fv P w0 q o t) (hN : 60000 ≤ N) :
    OK (fun w2 _ => MSG Fv P PR w0 q w2) (fm_M_message N w0 (I q) (I sort) (I r) (I p) (I wr) (I o) t) := by
  have pr := d.1.2
  unfold fm_M_message fb_M_message_0 fb_M_message_21
  have h9 := A_r w0 109 q
  have h8 := A_r w0 108 q
  rw [inb_at (k := 109) (n := 24) rfl (by omega) (by omega) (by decide), ck_t, I_tn (by omega) (by omega), Int.toNat_natCast, I_A (k := 109), show (3 : Int32) = I 3 from rfl, decE h9.1 h9.2 (by omega) (by omega)]
  by_cases e : A w0 109 q = 3
  · rw [decide_eq_true e, br_tq]; exact ok_some.mpr (MSG_id d)
  rw [decide_eq_false e, br_fq, inb_at (k := 108) (n := 24) rfl (by omega) (by omega) (by decide), ck_t, I_A (k := 108), show (30 : Int32) = I 30 from rfl, decE h8.1 h8.2 (by omega) (by omega)]
  by_cases e8 : A w0 108 q = 30
  · rw [decide_eq_true e8, br_tq]; exact ok_some.mpr (MSG_id d)
  rw [decide_eq_false e8, br_fq, lit0q, lit1q, decE (by omega) (by omega) (by omega) (by omega), decE (by omega) (by omega) (by omega) (by omega)]
  have go : ∀ b : Int, b = (if sort = 0 then 4 else if sort = 1 then 5 else 0) → OK (fun w2 _ => MSG Fv P PR w0 q w2) (fb_M_message_40 N () w0 (I q) (I sort) (I r) (I p) (I wr) (I o) t (I b)) := by
    intro b hb
    subst hb
    unfold fb_M_message_40
    rw [lit0q, decI (by omega) (by omega) (by omega) (by omega)]
    have := m50_ok (N := N) (r := r) (wr := wr) (p := p) d hq e e8 hPB hsort hp1 hr ⟨by omega, hpr⟩ hw (ht e) hN
    by_cases ew : wr ≤ 0
    · rw [decide_eq_true ew, br_tq]
      rw [show (if 0 < wr then 3 else 0 : Int) = 0 from if_neg (by omega)] at this
      exact this
    · rw [decide_eq_false ew, br_fq]
      rw [show (if 0 < wr then 3 else 0 : Int) = 3 from if_pos (by omega)] at this
      exact this
  by_cases e0 : sort = 0
  · rw [decide_eq_true (by omega), br_tq]; exact go 4 (by rw [if_pos e0])
  rw [decide_eq_false (by omega), br_fq]
  by_cases e1 : sort = 1
  · rw [decide_eq_true (by omega), br_tq]; exact go 5 (by rw [if_neg e0, if_pos e1])
  · rw [decide_eq_false (by omega), br_fq]; exact go 0 (by rw [if_neg e0, if_neg e1])
end
