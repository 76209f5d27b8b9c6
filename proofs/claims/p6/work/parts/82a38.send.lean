def ESZ (Fv : Int64 → Int64 → Prop) (P : Int64 → Prop) (PR : Nat) (w : MS) : Prop := ESI Fv P PR w ∧ F w 149 = 0 ∧ F w 150 = 0
section
variable {Fv : Int64 → Int64 → Prop} {P : Int64 → Prop} {w w2 w0 : MS} {PR N p n opM bnM bxM q : Nat} {ow kd : Nat → Nat}
theorem MQ_wnt {n2 : Nat} {ow2 kd2 : Nat → Nat} {fd : Int64 → Int64} {R : Int64 → Prop} (d : DW Fv P PR w0) (cx : CX w0 q (hp w0 q) n ow kd Fv P opM bnM bxM) (h : WNT w0 q n ow kd Fv P opM bnM bxM w n2 ow2 kd2 fd R) : MQq Fv P w0 w q n2 ow2 kd2 opM bnM bxM := by
  obtain ⟨t1, t2, t3, t4, t5, t6, t7, t8, t9, t10, t11, t12⟩ := h
  obtain ⟨-, -, -, -, x5, x6, x7, -⟩ := cx
  refine ⟨by have := t5 q; rw [if_pos rfl] at this; exact this, t3, FR.mo t6 (by decide) (by decide) (by decide) (by decide), by rw [FR.F t6 (by decide)]; exact d.2.2.2.1, fun p hp3 => by rw [t5, if_neg hp3], t7, fun i hi => RTS_out t8 x5.2 hi, fun i hi => RTS_out t9 x6.2 hi, fun i hi => RTS_out t10 x7.2 hi⟩
def CALLF (u w : MS) : Prop := FR [3, 125, 136, 138, 140, 144, 149, 150] [139] [89, 90, 108, 109, 113, 116, 117, 122, 123, 124, 131, 132, 135, 142, 143, 145, 146, 147] [88, 91, 93, 107, 134, 137, 141, 148] u w ∧ (∀ p, A w 109 p = A u 109 p ∨ A w 109 p = 3) ∧ RLo u w
theorem CALLF.tr {u v : MS} (a : CALLF u v) (b : CALLF v w) : CALLF u w := ⟨FR.tr a.1 b.1, fun p => by
  rcases b.2.1 p with h | h
  · rw [h]; exact a.2.1 p
  · exact Or.inr h, RLo.tr a.2.2 b.2.2⟩
theorem EVF.callf {u : MS} (a : EVF u w) : CALLF u w := ⟨FR.mo a.1 (by decide) (by decide) (by decide) (by decide), a.2, fun i => Or.inl (FR.A a.1 (by decide))⟩
theorem s238 {u : MS} (hPB : PB P PR) (hS : PS P) (hN : 11000000 ≤ N) (hs : ESI Fv P PR w) (hat : ATM w) (hP : ∀ t, P t → PA w t) (hc : CALLF u w) : OK (fun w2 _ => ESZ Fv P PR w2 ∧ CALLF u w2) (fb_M_send_238 N () w) := by
  unfold fb_M_send_238
  exact ok_bnd.mpr (ok_mono (allEnds_ok hPB hS hN hs hat hP) (fun w2 _ h => ok_some.mpr ⟨⟨h.1, h.2.2.2.2⟩, CALLF.tr hc ⟨FR.mo h.2.1 (by decide) (by decide) (by decide) (by decide), h.2.2.1, h.2.2.2.1⟩⟩))
theorem s44_box {y v0 : MS} {n2 n3 opM bnM bxM : Nat} {ow3 kd3 : Nat → Nat} (d0 : DW Fv P PR v0) (lk0 : LK v0 PR) (wt0 : WTQ v0 PR) (hat0 : ATM v0) (hP0 : ∀ t, P t → PA v0 t) (hS : PS P) (hPB : PB P PR) (c0 : CALLF w v0) (hq : q < PR) (e9 : ¬ A v0 109 q = 3) (hb : bxM < 30) (m4 : MQq Fv P v0 y q n3 ow3 kd3 opM bnM bxM) (p5 : GT n3 ow3 kd3 P (mk 5 (n2 : Int))) (hN : 11000000 ≤ N) : OK (fun w2 _ => ESZ Fv P PR w2 ∧ CALLF w w2) (ck (inb (I (q : Int)) (ln 108)) (bnd (fm_M_term N y 5 (I (n2 : Int))) (fun u14 r14 => ck (inb (((I (q : Int)) * 30) + (y.2.2.1 108 (I (q : Int)).toNatClampNeg)) (ln 107)) (lt (upJ u14 107 (vp_updL (u14.2.2.2 107) (((I (q : Int)) * 30) + (y.2.2.1 108 (I (q : Int)).toNatClampNeg)).toNatClampNeg r14)) (fun w15 => ck (inb (I (q : Int)) (ln 108)) (ck (inb (I (q : Int)) (ln 108)) (lt (upA w15 108 (upd (w15.2.2.1 108) (I (q : Int)).toNatClampNeg ((w15.2.2.1 108 (I (q : Int)).toNatClampNeg) + 1))) (fun w16 => fb_M_send_238 N () w16)))))))) := by
  have pr := d0.1.2
  have x4 := m4.2.1.2.2.2.1
  have bx := box_ok (N := N) m4 d0 hq e9 hb p5
  unfold fb_M_message_406 at bx
  have y108 := m4.2.1.2.2.2.2.2.2.1.1
  rw [inb_at (k := 108) (n := 24) rfl (by omega) (by omega) (by decide), ck_t, I_tn (x := (q : Int)) (by omega) (by omega), Int.toNat_natCast, I_A' y108, show (30 : Int32) = I 30 from rfl, I_mul, I_add, inb_at (k := 107) (n := 720) rfl (by omega) (by omega) (by decide), ck_t, lt_e, I_tn (by omega) (by omega), show ((q : Int) * 30 + (bxM : Int)).toNat = 30 * q + bxM from by omega, wj_e, ck_t, ck_t, lt_e, show (wj y 107 (30 * q + bxM) (mk 5 (n2 : Int))).2.2.1 108 q = I bxM from I_A' y108, lit1q, I_add, wa_e] at bx
  have hz := ok_some.mp bx
  rw [inb_at (k := 108) (n := 24) rfl (by omega) (by omega) (by decide), ck_t, show (5 : Int32) = I 5 from rfl, term_e, bnd_so, I_tn (x := (q : Int)) (by omega) (by omega), Int.toNat_natCast, I_A' y108, show (30 : Int32) = I 30 from rfl, I_mul, I_add, inb_at (k := 107) (n := 720) rfl (by omega) (by omega) (by decide), ck_t, lt_e, I_tn (by omega) (by omega), show ((q : Int) * 30 + (bxM : Int)).toNat = 30 * q + bxM from by omega, wj_e, ck_t, ck_t, lt_e, show (wj y 107 (30 * q + bxM) (mk 5 (n2 : Int))).2.2.1 108 q = I bxM from I_A' y108, lit1q, I_add, wa_e]
  exact s238 (N := N) (u := w) hPB hS hN ⟨hz.1, LK_fr lk0 (MSG_evf hz).1 (by decide) (by decide), WT_fr wt0 (MSG_evf hz).1 (by decide) (by decide) (by decide)⟩ (ATM_fr hat0 (MSG_evf hz).1 (by decide) (by decide)) (PA_fr hP0 (MSG_evf hz).1 (by decide)) (CALLF.tr c0 (MSG_evf hz).callf)
theorem s44_pair {v : Int} {v0 v1 : MS} {n2 opM bnM bxM : Nat} {ow2 kd2 : Nat → Nat} (d0 : DW Fv P PR v0) (lk0 : LK v0 PR) (wt0 : WTQ v0 PR) (hat0 : ATM v0) (hP0 : ∀ t, P t → PA v0 t) (hS : PS P) (hPB : PB P PR) (c0 : CALLF w v0) (hq : q < PR) (e9 : ¬ A v0 109 q = 3) (hb : bxM < 30) (hv : -2147483648 ≤ v ∧ v < 2147483648) (mq : MQq Fv P v0 v1 q n2 ow2 kd2 opM bnM bxM) (hroom : n2 + 3 ≤ 500) (hN : 11000000 ≤ N) : OK (fun w2 _ => ESZ Fv P PR w2 ∧ CALLF w w2) (ck (inb (I (q : Int)) (ln 89)) (ck (inb (I (q : Int)) (ln 89)) (ck (inb (I (q : Int)) (ln 89)) (lt (upA v1 89 (upd (v1.2.2.1 89) (I (q : Int)).toNatClampNeg ((v1.2.2.1 89 (I (q : Int)).toNatClampNeg) + 3))) (fun w8 => ck (inb (((I (q : Int)) * 500) + (v1.2.2.1 89 (I (q : Int)).toNatClampNeg)) (ln 88)) (lt (upJ w8 88 (vp_updL (w8.2.2.2 88) (((I (q : Int)) * 500) + (v1.2.2.1 89 (I (q : Int)).toNatClampNeg)).toNatClampNeg 2)) (fun w9 => bnd (fm_M_term N w9 0 (I v)) (fun u10 r10 => ck (inb ((((I (q : Int)) * 500) + (v1.2.2.1 89 (I (q : Int)).toNatClampNeg)) + 1) (ln 88)) (lt (upJ u10 88 (vp_updL (u10.2.2.2 88) ((((I (q : Int)) * 500) + (v1.2.2.1 89 (I (q : Int)).toNatClampNeg)) + 1).toNatClampNeg r10)) (fun w11 => bnd (fm_M_term N w11 4 (I (q : Int))) (fun u12 r12 => ck (inb ((((I (q : Int)) * 500) + (v1.2.2.1 89 (I (q : Int)).toNatClampNeg)) + 2) (ln 88)) (lt (upJ u12 88 (vp_updL (u12.2.2.2 88) ((((I (q : Int)) * 500) + (v1.2.2.1 89 (I (q : Int)).toNatClampNeg)) + 2).toNatClampNeg r12)) (fun w13 => ck (inb (I (q : Int)) (ln 108)) (bnd (fm_M_term N w13 5 (v1.2.2.1 89 (I (q : Int)).toNatClampNeg)) (fun u14 r14 => ck (inb (((I (q : Int)) * 30) + (w13.2.2.1 108 (I (q : Int)).toNatClampNeg)) (ln 107)) (lt (upJ u14 107 (vp_updL (u14.2.2.2 107) (((I (q : Int)) * 30) + (w13.2.2.1 108 (I (q : Int)).toNatClampNeg)).toNatClampNeg r14)) (fun w15 => ck (inb (I (q : Int)) (ln 108)) (ck (inb (I (q : Int)) (ln 108)) (lt (upA w15 108 (upd (w15.2.2.1 108) (I (q : Int)).toNatClampNeg ((w15.2.2.1 108 (I (q : Int)).toNatClampNeg) + 1))) (fun w16 => fb_M_send_238 N () w16)))))))))))))))))))) := by
  have pr := d0.1.2
  have x4 := mq.2.1.2.2.2.1
  have m1 := mq.1
  rw [inb_at (k := 89) (n := 25) rfl (by omega) (by omega) (by decide), ck_t, ck_t, ck_t, lt_e, I_tn (x := (q : Int)) (by omega) (by omega), Int.toNat_natCast, I_A' m1, show (3 : Int32) = I 3 from rfl, I_add, wa_e, lit500, I_mul, I_add, inb_at (k := 88) (n := 12500) rfl (by omega) (by omega) (by decide), ck_t, lt_e, I_tn (by omega) (by omega), show ((q : Int) * 500 + (n2 : Int)).toNat = 500 * q + n2 from by omega, wj_e, lit0q, term_e, bnd_so, lit1q, I_add, inb_at (k := 88) (n := 12500) rfl (by omega) (by omega) (by decide), ck_t, lt_e, I_tn (by omega) (by omega), show ((q : Int) * 500 + (n2 : Int) + 1).toNat = 500 * q + (n2 + 1) from by omega, wj_e, show (4 : Int32) = I 4 from rfl, term_e, bnd_so, show (2 : Int32) = I 2 from rfl, I_add, inb_at (k := 88) (n := 12500) rfl (by omega) (by omega) (by decide), ck_t, lt_e, I_tn (by omega) (by omega), show ((q : Int) * 500 + (n2 : Int) + 2).toNat = 500 * q + (n2 + 2) from by omega, wj_e]
  have un : ∀ j, n2 + j < owH n2 ow2 (n2 + j) := fun j => by unfold owH; rw [if_pos (by omega)]; omega
  have mh := MQ_hole mq 3 (by omega)
  have mc := MQ_cell (t := mk 4 q) (MQ_cell (t := mk 0 v) (MQ_cell (t := 2) mh (i := n2) (by omega) (un 0)) (i := n2 + 1) (by omega) (un 1)) (i := n2 + 2) (by omega) (un 2)
  rw [show (n2 : Int) + ((3 : Nat) : Int) = (n2 : Int) + 3 from by omega] at mc
  have k0 : hp (wj (wj (wj (wa v1 89 q ((n2 : Int) + 3)) 88 (500 * q + n2) 2) 88 (500 * q + (n2 + 1)) (mk 0 v)) 88 (500 * q + (n2 + 2)) (mk 4 q)) q n2 = 2 := by rw [hp_wj, if_neg (by omega), hp_wj, if_neg (by omega), hp_wj, if_pos rfl]
  have k1 : hp (wj (wj (wj (wa v1 89 q ((n2 : Int) + 3)) 88 (500 * q + n2) 2) 88 (500 * q + (n2 + 1)) (mk 0 v)) 88 (500 * q + (n2 + 2)) (mk 4 q)) q (n2 + 1) = mk 0 v := by rw [hp_wj, if_neg (by omega), hp_wj, if_pos rfl]
  have k2 : hp (wj (wj (wj (wa v1 89 q ((n2 : Int) + 3)) 88 (500 * q + n2) 2) 88 (500 * q + (n2 + 1)) (mk 0 v)) 88 (500 * q + (n2 + 2)) (mk 4 q)) q (n2 + 2) = mk 4 q := by rw [hp_wj, if_pos rfl]
  generalize wj (wj (wj (wa v1 89 q ((n2 : Int) + 3)) 88 (500 * q + n2) 2) 88 (500 * q + (n2 + 1)) (mk 0 v)) 88 (500 * q + (n2 + 2)) (mk 4 q) = y at *
  have e5 : so (mk 5 (n2 : Int)) = 5 := so_mk (by omega) (by omega)
  have v5 : va (mk 5 (n2 : Int)) = n2 := va_mk (by omega) (by omega)
  have n5 : vn (mk 5 (n2 : Int)) = n2 := by unfold vn; rw [v5]; omega
  have va2 : va (2 : Int64) = 2 := by decide
  have bb : blk (hp y q) (mk 5 (n2 : Int)) = 3 := by unfold blk; rw [e5, n5, k0]; simp; unfold vn; rw [va2]; decide
  have pp : prt (mk 5 (n2 : Int)) = 1 := by unfold prt; rw [e5]; rfl
  have na : ¬ isH (mk 0 v) := nh_mk (by omega)
  obtain ⟨ow3, kd3, p1, p2, p3, p4, p5, p6, -⟩ := HP_put mc.2.1.2.1 (h2 := hp y q) (m := 3) (k := n2) (x := mk 5 (n2 : Int)) (fun _ _ => rfl) (by omega) (fun j _ => un j) (Or.inr (Or.inl e5)) (by omega) n5 bb (fun _ => by rw [k0]; exact HDC2) (fun e => by omega) (fun j h1 h2 => by
    rw [pp] at h1
    by_cases e : j = 1
    · rw [e, k1]; exact Or.inl ⟨na, hPB.2.2.2.1 v hv.1 hv.2⟩
    · have : j = 2 := by omega
      rw [this, k2]; exact Or.inl ⟨nh_mk (by omega), hPB.2.1 q hq⟩) (Or.inl ⟨e5, rfl, by rw [k1]; exact na⟩)
  have m4 : MQq Fv P v0 y q (n2 + 3) ow3 kd3 opM bnM bxM := MQ_heap mc FR.rf mc.1 (by omega) (fun _ _ => rfl) (fun _ _ => rfl) p4 (fun t g => GT_own g (Nat.le_refl _) p1 p2)
  have := s44_box (N := N) (n2 := n2) d0 lk0 wt0 hat0 hP0 hS hPB c0 hq e9 hb m4 p5 hN
  rw [I_tn (x := (q : Int)) (by omega) (by omega), Int.toNat_natCast, lit1q] at this
  exact this
theorem s44_ok {sort v : Int} (hs : ESI Fv P PR w) (hat : ATM w) (hP : ∀ t, P t → PA w t) (hS : PS P) (hPB : PB P PR) (hPa : ∀ a : Int, 0 ≤ a → a < F w 14 → P (mk 1 a)) (hq : q < PR) (hso : 0 ≤ sort ∧ sort ≤ 2) (hv : -2147483648 ≤ v ∧ v < 2147483648) (hsv : sort = 1 → 0 ≤ v ∧ v < F w 14) (hN : 11000000 ≤ N) : OK (fun w2 _ => ESZ Fv P PR w2 ∧ CALLF w w2) (fb_M_send_44 N () w (I q) (I sort) (I v) 0) := by
  have pr := hs.1.1.2
  unfold fb_M_send_44
  refine ok_lt.mpr ?_
  have f0 : FR [3] [] [] [] w (upI w 3 0) := FR.wi (x := 0) FR.rf (by decide)
  have z3 : (upI w 3 0).1 3 = 0 := rfl
  have hs0 : ESI Fv P PR (upI w 3 0) := ESI_fr hs f0 (by decide) (by decide) (by decide) (by decide) (by decide) (by decide) (by decide) (by decide) (by decide) (by decide) (by decide) (by decide) (by decide) (by decide) (by decide) (by decide) (by decide) (by decide) (by decide) (by decide) (by decide) (by decide)
  have hat0 := ATM_fr hat f0 (by decide) (by decide)
  have hP0 := PA_fr hP f0 (by decide)
  have c0 : CALLF w (upI w 3 0) := ⟨FR.mo f0 (by decide) (by decide) (by decide) (by decide), fun p => Or.inl (FR.A f0 (by decide)), fun i => Or.inl (FR.A f0 (by decide))⟩
  generalize upI w 3 0 = v0 at *
  obtain ⟨d0, lk0, wt0⟩ := id hs0
  have tell : ∀ so' : Int, (so' = 0 ∨ (so' = 1 ∧ 0 ≤ v ∧ v < F w 14)) → OK (fun w2 _ => ESZ Fv P PR w2 ∧ CALLF w w2) (fb_M_send_76 N () v0 (I v) (I q) 2 0 0 0 (I q) (I so')) := by
    intro so' hso'
    unfold fb_M_send_76
    rw [term_e, bnd_so, show (2 : Int32) = I ((2 : Nat) : Int) from rfl]
    have nh : ¬ isH (mk so' v) := nh_mk (by omega)
    have hPt : P (mk so' v) := by
      rcases hso' with h | ⟨h, h2, h3⟩
      · subst h; exact hPB.2.2.2.1 v hv.1 hv.2
      · subst h; exact hPa v h2 h3
    have hm := message_ev (N := N) (sort := 2) (p := 0) (r := 0) (wr := 0) (o := q) d0 hq hPB (by omega) (fun z => by omega) (by omega) (by omega) (by omega) (by omega) (Or.inl ⟨nh, hPt⟩) (by omega)
    rw [show I (((0 : Nat) : Nat) : Int) = (0 : Int32) from rfl, show I (0 : Int) = (0 : Int32) from rfl] at hm
    refine ok_bnd.mpr (ok_mono hm (fun v1 _ h => ?_))
    obtain ⟨h1, h2, h3⟩ := h
    exact s238 hPB hS hN ⟨h1, LK_fr lk0 h2.1 (by decide) (by decide), WT_fr wt0 h2.1 (by decide) (by decide) (by decide)⟩ (ATM_fr hat0 h2.1 (by decide) (by decide)) (PA_fr hP0 h2.1 (by decide)) (CALLF.tr c0 h2.callf)
  have stop := s238 (N := N) hPB hS hN hs0 hat0 hP0 c0
  have eq9 : v0.2.2.1 109 (I (q : Int)).toNatClampNeg = I (A v0 109 q) := by rw [I_tn (by omega) (by omega), Int.toNat_natCast]; exact I_A
  have eq8 : v0.2.2.1 108 (I (q : Int)).toNatClampNeg = I (A v0 108 q) := by rw [I_tn (by omega) (by omega), Int.toNat_natCast]; exact I_A
  have h9 := A_r v0 109 q
  have h8 := A_r v0 108 q
  refine ok_br.mpr ⟨fun _ => ok_br.mpr ⟨fun _ => ok_ck.mpr ⟨inb_at (k := 109) (n := 24) rfl (by omega) (by omega) (by decide), ok_br.mpr ⟨fun _ => stop, fun h3 => ok_ck.mpr ⟨inb_at (k := 108) (n := 24) rfl (by omega) (by omega) (by decide), ok_br.mpr ⟨fun _ => stop, fun h30 => ?_⟩⟩⟩⟩, fun h2 => ?_⟩, fun h => absurd z3 (of_decide_eq_false h)⟩
  · have e9 : ¬ A v0 109 q = 3 := fun z => of_decide_eq_false h3 (by rw [eq9, z]; rfl)
    have e8 : A v0 108 q < 30 := by
      have := of_decide_eq_false h30
      rw [eq8, show (30 : Int32) = I 30 from rfl, I_le (by omega) (by omega) h8.1 h8.2] at this
      omega
    obtain ⟨n, ow, kd, opM, bnM, bxM, hn, cx⟩ : PRC Fv P v0 q := d0.2.1 q hq
    have hw := wants_ok (N := N) cx hn (k := 3) (by omega) (by omega)
    rw [show I ((3 : Nat) : Int) = (3 : Int32) from rfl] at hw
    refine ok_bnd.mpr (ok_mono hw (fun v1 r hw => ?_))
    obtain ⟨n2, ow2, kd2, fd, R, h1, h2⟩ := hw
    have mq := MQ_wnt d0 cx h1
    have hb : bxM < 30 := by have := cx.2.2.2.2.2.2.1.1; omega
    refine ok_br.mpr ⟨fun hr => ?_, fun hr => ?_⟩
    · have dw := MQ_dw mq d0 hq e9
      have fr := mq.2.2.1
      rw [lit1q, show (20 : Int32) = I 20 from rfl, term_e, bnd_so, lit0q]
      refine ok_bnd.mpr (ok_mono (willEnd_ev (N := N) (wr := 0) dw hq (by omega) (show q ≤ 24 by omega) (Or.inl ⟨nh_mk (by omega), hPB.1 20 (by omega) (by omega)⟩)) (fun v2 _ h => ?_))
      obtain ⟨g1, g2, -⟩ := h
      have ev1 : CALLF v0 v1 := ⟨FR.mo fr (by decide) (by decide) (by decide) (by decide), fun p => Or.inl (FR.A fr (by decide)), fun i => Or.inl (FR.A fr (by decide))⟩
      exact s238 hPB hS hN ⟨g1, LK_fr (LK_fr lk0 fr (by decide) (by decide)) g2.1 (by decide) (by decide), WT_fr (WT_fr wt0 fr (by decide) (by decide) (by decide)) g2.1 (by decide) (by decide) (by decide)⟩ (ATM_fr (ATM_fr hat0 fr (by decide) (by decide)) g2.1 (by decide) (by decide)) (PA_fr (PA_fr hP0 fr (by decide)) g2.1 (by decide)) (CALLF.tr c0 (CALLF.tr ev1 g2.callf))
    · have hroom : n2 + 3 ≤ 500 := by
        rcases h2 with ⟨-, z⟩ | ⟨z, -⟩
        · exact z
        · exact absurd (show r = 0 by rw [z]; rfl) (of_decide_eq_false hr)
      exact s44_pair d0 lk0 wt0 hat0 hP0 hS hPB c0 hq e9 hb hv mq hroom hN
  · have s2 : ¬ 2 ≤ sort := fun z => of_decide_eq_false h2 (by rw [show (2 : Int32) = I 2 from rfl, I_le (by omega) (by omega) (by omega) (by omega)]; exact z)
    refine ok_br.mpr ⟨fun _ => tell 0 (Or.inl rfl), fun h0 => tell 1 (Or.inr ⟨rfl, hsv ?_⟩)⟩
    have : sort ≠ 0 := fun z => of_decide_eq_false h0 (by rw [z]; rfl)
    omega
theorem send_ok {a b c : Int32} (h : F w 87 = 0 ∨ (ESI Fv P PR w ∧ ATM w ∧ (∀ t, P t → PA w t) ∧ PS P ∧ PB P PR ∧ (∀ a : Int, 0 ≤ a → a < F w 14 → P (mk 1 a)))) (hN : 11000000 ≤ N) : OK (fun w2 _ => CALLF w w2 ∧ (F w 87 ≠ 0 → ESI Fv P PR w2 ∧ (F w 149 = 0 ∧ F w 150 = 0 → F w2 149 = 0 ∧ F w2 150 = 0)) ∧ (F w 87 = 0 → FR [3] [] [] [] w w2)) (fm_M_send N w a b c) := by
  have ra := ti_rng a
  have rb := ti_rng b
  have rc := ti_rng c
  rw [I_of a, I_of b, I_of c]
  generalize a.toInt = a at *
  generalize b.toInt = b at *
  generalize c.toInt = c at *
  have r87 := F_r w 87
  have r118 := F_r w 118
  have r14 := F_r w 14
  have bad : ∀ t : Int, t ≠ 0 → 0 ≤ t → t ≤ 3 → (F w 87 ≠ 0 → ESI Fv P PR w) → OK (fun w2 _ => CALLF w w2 ∧ (F w 87 ≠ 0 → ESI Fv P PR w2 ∧ (F w 149 = 0 ∧ F w 150 = 0 → F w2 149 = 0 ∧ F w2 150 = 0)) ∧ (F w 87 = 0 → FR [3] [] [] [] w w2)) (fb_M_send_44 N () w (I a) (I b) (I c) (I t)) := fun t t0 t1 t2 he => by
    unfold fb_M_send_44
    rw [lt_e, wi_e, show (wi w 3 t).1 3 = I t from I_F' (by rw [F_wi (by omega) (by omega), if_pos rfl]), lit0q, decE (by omega) (by omega) (by omega) (by omega), decide_eq_false t0, br_fq]
    have f0 : FR [3] [] [] [] w (wi w 3 t) := FR.wi FR.rf (by decide)
    exact ok_some.mpr ⟨⟨FR.mo f0 (by decide) (by decide) (by decide) (by decide), fun p => Or.inl (FR.A f0 (by decide)), fun i => Or.inl (FR.A f0 (by decide))⟩, fun z => ⟨ESI_fr (he z) f0 (by decide) (by decide) (by decide) (by decide) (by decide) (by decide) (by decide) (by decide) (by decide) (by decide) (by decide) (by decide) (by decide) (by decide) (by decide) (by decide) (by decide) (by decide) (by decide) (by decide) (by decide) (by decide), fun q => ⟨(FR.F f0 (by decide)).trans q.1, (FR.F f0 (by decide)).trans q.2⟩⟩, fun _ => f0⟩
  have he : F w 87 ≠ 0 → ESI Fv P PR w := fun z => by rcases h with h | h; exact absurd h z; exact h.1
  unfold fm_M_send fb_M_send_0 fb_M_send_26 fb_M_send_30 fb_M_send_39 fm_M_isProcess fb_M_isProcess_0 fb_M_isProcess_23 fb_M_isProcess_24
  rw [I_F (k := 87), lit0q, decE r87.1 r87.2 (by omega) (by omega), decL (by omega) (by omega) (by omega) (by omega), I_F (k := 118), decI r118.1 r118.2 (by omega) (by omega)]
  have b1 := bad 1 (by omega) (by omega) (by omega) he
  have b2 := bad 2 (by omega) (by omega) (by omega) he
  have no : OK (fun u17 r17 => OK (fun w2 _ => CALLF w w2 ∧ (F w 87 ≠ 0 → ESI Fv P PR w2 ∧ (F w 149 = 0 ∧ F w 150 = 0 → F w2 149 = 0 ∧ F w2 150 = 0)) ∧ (F w 87 = 0 → FR [3] [] [] [] w w2)) (br (decide (r17 = I 0)) (fb_M_send_44 N () u17 (I a) (I b) (I c) 1) (br (decide (I b = 1)) (br (decide (I c < I 0)) (fb_M_send_44 N () u17 (I a) (I b) (I c) 1) (br (decide (I c < (u17.1 14))) (br (decide (I b < I 0)) (fb_M_send_44 N () u17 (I a) (I b) (I c) 2) (br (decide (I b ≤ 2)) (fb_M_send_44 N () u17 (I a) (I b) (I c) (I 0)) (fb_M_send_44 N () u17 (I a) (I b) (I c) 2))) (fb_M_send_44 N () u17 (I a) (I b) (I c) 1))) (br (decide (I b < I 0)) (fb_M_send_44 N () u17 (I a) (I b) (I c) 2) (br (decide (I b ≤ 2)) (fb_M_send_44 N () u17 (I a) (I b) (I c) (I 0)) (fb_M_send_44 N () u17 (I a) (I b) (I c) 2)))))) (ck (isb (I 0)) (some (w, I 0))) := by
    refine ok_ck.mpr ⟨rfl, ok_some.mpr ?_⟩
    rw [decE (by omega) (by omega) (by omega) (by omega), decide_eq_true rfl, br_tq]
    exact b1
  refine ok_bnd.mpr (ok_br.mpr ⟨fun _ => no, fun h87 => ok_br.mpr ⟨fun _ => no, fun ha => ok_br.mpr ⟨fun _ => no, fun hp => ?_⟩⟩⟩)
  have h87' : F w 87 ≠ 0 := of_decide_eq_false h87
  have ha' : ¬ a < 0 := of_decide_eq_false ha
  have hp' : ¬ F w 118 ≤ a := of_decide_eq_false hp
  rcases h with h | ⟨hs, hat, hP, hS, hPB, hPa⟩
  · exact absurd h h87'
  have pr := hs.1.1
  have good : (b = 1 → 0 ≤ c ∧ c < F w 14) → OK (fun w2 _ => CALLF w w2 ∧ (F w 87 ≠ 0 → ESI Fv P PR w2 ∧ (F w 149 = 0 ∧ F w 150 = 0 → F w2 149 = 0 ∧ F w2 150 = 0)) ∧ (F w 87 = 0 → FR [3] [] [] [] w w2)) (br (decide (I b < I 0)) (fb_M_send_44 N () w (I a) (I b) (I c) 2) (br (decide (I b ≤ 2)) (fb_M_send_44 N () w (I a) (I b) (I c) (I 0)) (fb_M_send_44 N () w (I a) (I b) (I c) 2))) := fun hb1 => by
    rw [show (2 : Int32) = I 2 from rfl, decL (by omega) (by omega) (by omega) (by omega), decI (by omega) (by omega) (by omega) (by omega)]
    refine ok_br.mpr ⟨fun _ => b2, fun z1 => ok_br.mpr ⟨fun z2 => ?_, fun _ => b2⟩⟩
    have z1' : ¬ b < 0 := of_decide_eq_false z1
    have z2' : b ≤ 2 := of_decide_eq_true z2
    have := s44_ok (N := N) (q := a.toNat) (sort := b) (v := c) hs hat hP hS hPB hPa (by omega) (by omega) rc hb1 hN
    rw [show ((a.toNat : Nat) : Int) = a from by omega] at this
    exact ok_mono this (fun w2 _ q => ⟨q.2, fun _ => ⟨q.1.1, fun _ => q.1.2⟩, fun z => absurd z h87'⟩)
  refine ok_ck.mpr ⟨rfl, ok_some.mpr ?_⟩
  rw [lit1q, decE (by omega) (by omega) (by omega) (by omega), decide_eq_false (by omega), br_fq, decE (by omega) (by omega) (by omega) (by omega), decL (by omega) (by omega) (by omega) (by omega), I_F (k := 14), decL (by omega) (by omega) (by omega) (by omega)]
  refine ok_br.mpr ⟨fun _ => ok_br.mpr ⟨fun _ => b1, fun z1 => ok_br.mpr ⟨fun z2 => ?_, fun _ => b1⟩⟩, fun z => good (fun zz => absurd zz (of_decide_eq_false z))⟩
  exact good (fun _ => ⟨by have := of_decide_eq_false z1; omega, of_decide_eq_true z2⟩)
end
