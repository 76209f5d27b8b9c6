section
variable {Fv : Int64 → Int64 → Prop} {P : Int64 → Prop} {w0 w w2 : MS} {PR N q n n2 opM bnM bxM : Nat} {ow kd ow2 kd2 : Nat → Nat}
theorem hp_wj {w : MS} {q k i : Nat} {t : Int64} : hp (wj w 88 (500 * q + k) t) q i = if i = k then t else hp w q i := by
  unfold hp
  rw [J_wj, if_pos rfl]
  by_cases e : i = k
  · rw [if_pos (by omega), if_pos e]
  · rw [if_neg (by omega), if_neg e]
theorem isK_88 : isK 88 5 = true := by decide
theorem m328_ok {m0 x : Int64} {at' at0 : Int} {L o s : Nat} (m : MQq Fv P w0 w q (n + 3) ow kd opM bnM bxM) (d : DW Fv P PR w0) (hq : q < PR) (hal : A w0 109 q ≠ 3) (hb : bxM < 30) (hPB : PB P PR) (c : CT P w q n ow m0 at' L) (hs : SRC Fv P w o q n x s) (hL : L + (3 + s) ≤ 500) (hn : n + 3 + s ≤ 500) (hun : ∀ j, j < 3 → n + j < ow (n + j)) (hhd : hp w q n = 2) (ha : 0 ≤ at0 ∧ at0 < 22) (hN : 3000 ≤ N) :
    OK (fun w2 _ => MSG Fv P PR w0 q w2) (fb_M_message_328 N () w (I q) (I o) x m0 (I at') (I n) 88 ((((I q) * 500) + (I n)) + 1) 1 (I at0)) := by
  have x4 := m.2.1.2.2.2.1
  unfold fb_M_message_328
  rw [lit1q, term_e, bnd_so, isK_88, ck_t, lit500, I_mul, I_add, I_add, inb_at (k := 88) (n := 12500) rfl (by omega) (by omega) (by decide), ck_t, lt_e, I_tn (by omega) (by omega), show ((q : Int) * 500 + (n : Int) + 1).toNat = 500 * q + (n + 1) from by omega, wj_e]
  have m1 := MQ_cell (t := mk 1 at0) m (i := n + 1) (by omega) (hun 1 (by omega))
  have s1 := SRC_cell (t := mk 1 at0) (i := n + 1) x4 (by omega) hs (by omega) (show n ≤ n + 3 by omega)
  have c1 : CT P (wj w 88 (500 * q + (n + 1)) (mk 1 at0)) q n ow m0 at' L := CT_st c (fun i hi => by rw [hp_wj, if_neg (by omega)]) (fun _ _ => rfl) (Nat.le_refl _)
  have h0 : hp (wj w 88 (500 * q + (n + 1)) (mk 1 at0)) q n = 2 := by rw [hp_wj, if_neg (by omega)]; exact hhd
  have h1 : hp (wj w 88 (500 * q + (n + 1)) (mk 1 at0)) q (n + 1) = mk 1 at0 := by rw [hp_wj, if_pos rfl]
  generalize wj w 88 (500 * q + (n + 1)) (mk 1 at0) = v at *
  refine ok_bnd.mpr (ok_mono (cpMQ m1 s1 hn hN) (fun v2 r hc => ?_))
  obtain ⟨ow2, kd2, f, m2, e2, o2, z2⟩ := hc
  rw [show (2 : Int32) = I 2 from rfl, I_add, inb_at (k := 88) (n := 12500) rfl (by omega) (by omega) (by decide), ck_t, lt_e, I_tn (by omega) (by omega), show ((q : Int) * 500 + (n : Int) + 2).toNat = 500 * q + (n + 2) from by omega, wj_e, show (5 : Int32) = I 5 from rfl, term_e, bnd_so]
  have un2 : n + 2 < ow2 (n + 2) := by rw [o2 _ (by omega)]; exact hun 2 (by omega)
  have m3 := MQ_cell (t := r) m2 (i := n + 2) (by omega) un2
  have k0 : hp (wj v2 88 (500 * q + (n + 2)) r) q n = 2 := by rw [hp_wj, if_neg (by omega), e2 _ (by omega)]; exact h0
  have k1 : hp (wj v2 88 (500 * q + (n + 2)) r) q (n + 1) = mk 1 at0 := by rw [hp_wj, if_neg (by omega), e2 _ (by omega)]; exact h1
  have k2 : hp (wj v2 88 (500 * q + (n + 2)) r) q (n + 2) = r := by rw [hp_wj, if_pos rfl]
  have z3 : SZ (hp (wj v2 88 (500 * q + (n + 2)) r) q) (n + 3 + s) ow2 kd2 Fv P f r s := SZ_own (Nat.le_refl _) (fun i hi ho => by rw [hp_wj, if_neg (fun e => by subst e; omega)]) (fun _ _ _ => rfl) (fun _ _ _ => rfl) (fun _ _ q => q) (fun _ q => q) z2
  have c3 : CT P (wj v2 88 (500 * q + (n + 2)) r) q n ow2 m0 at' L := CT_st c1 (fun i hi => by rw [hp_wj, if_neg (by omega), e2 _ (by omega)]) (fun i hi => o2 i (by omega)) (Nat.le_refl _)
  generalize wj v2 88 (500 * q + (n + 2)) r = y at *
  have e5 : so (mk 5 (n : Int)) = 5 := so_mk (by omega) (by omega)
  have v5 : va (mk 5 (n : Int)) = n := va_mk (by omega) (by omega)
  have n5 : vn (mk 5 (n : Int)) = n := by unfold vn; rw [v5]; omega
  have va2 : va (2 : Int64) = 2 := by decide
  have bb : blk (hp y q) (mk 5 (n : Int)) = 3 := by unfold blk; rw [e5, n5, k0]; simp; unfold vn; rw [va2]; decide
  have pp : prt (mk 5 (n : Int)) = 1 := by unfold prt; rw [e5]; rfl
  have na : ¬ isH (mk 1 at0) := nh_mk (by omega)
  obtain ⟨ow3, kd3, p1, p2, p3, p4, p5, p6, p7⟩ := HP_put m3.2.1.2.1 (h2 := hp y q) (m := 3) (k := n) (x := mk 5 (n : Int)) (fun _ _ => rfl) (by omega) (fun j hj => by rw [o2 _ (by omega)]; exact hun j hj) (Or.inr (Or.inl e5)) (by omega) n5 bb (fun _ => by rw [k0]; exact HDC2) (fun e => by omega) (fun j h1 h2 => by
    rw [pp] at h1
    by_cases e : j = 1
    · rw [e, k1]; exact Or.inl ⟨na, hPB.1 _ ha.1 ha.2⟩
    · have e2 : j = 2 := by omega
      rw [e2, k2]; exact SZ_gt z3) (Or.inl ⟨e5, rfl, by rw [k1]; exact na⟩)
  have m4 : MQq Fv P w0 y q (n + 3 + s) ow3 kd3 opM bnM bxM := MQ_heap m3 FR.rf m3.1 hn (fun _ _ => rfl) (fun _ _ => rfl) p4 (fun t g => GT_own g (Nat.le_refl _) p1 p2)
  have f1 : 1 ≤ f := by cases f with | zero => exact z3.elim | succ f => omega
  have zin := p7 f (fun j => if j = 2 then s else 0) (fun j h1 h2 => by
    rw [pp] at h1
    by_cases e : j = 1
    · rw [e, k1]; simp only [show ¬ (1 = 2) by decide, if_false]
      obtain ⟨f', rfl⟩ : ∃ f', f = f' + 1 := ⟨f - 1, by omega⟩
      exact Or.inl ⟨na, hPB.1 _ ha.1 ha.2, rfl⟩
    · have e2 : j = 2 := by omega
      rw [e2, k2]; simp only [if_true]; exact z3)
  rw [pp] at zin
  have es : 3 + smm (fun j => if j = 2 then s else 0) 1 (3 - 1) = 3 + s := by show 3 + (0 + (if 1 + 0 = 2 then s else 0) + (if 1 + 1 = 2 then s else 0)) = _; simp
  rw [es] at zin
  exact m378_ok m4 d hq hal hb (CT_st c3 (fun _ _ => rfl) (fun i hi => p3 i (by omega)) (by omega)) zin hL
theorem m261_ok {m0 x : Int64} {at' wr : Int} {L o s : Nat} (m : MQq Fv P w0 w q n ow kd opM bnM bxM) (d : DW Fv P PR w0) (hq : q < PR) (hal : A w0 109 q ≠ 3) (hb : bxM < 30) (hPB : PB P PR) (c : CT P w q n ow m0 at' L) (hs : SRC Fv P w o q n x s) (hw : 0 ≤ wr ∧ wr ≤ 2) (hL : L + ((if 0 < wr then 3 else 0) + s) ≤ 500) (hn : n + ((if 0 < wr then 3 else 0) + s) ≤ 500) (hN : 3000 ≤ N) :
    OK (fun w2 _ => MSG Fv P PR w0 q w2) (fb_M_message_261 N () w (I q) (I wr) (I o) x m0 (I at')) := by
  have x4 := m.2.1.2.2.2.1
  have m1 := m.1
  unfold fb_M_message_261
  rw [lit0q, decI (by omega) (by omega) (by omega) (by omega)]
  by_cases e : wr ≤ 0
  · rw [if_neg (by omega)] at hL hn
    rw [decide_eq_true e, br_tq]
    refine ok_bnd.mpr (ok_mono (cpMQ m hs (by omega) hN) (fun v2 r hc => ?_))
    obtain ⟨ow2, kd2, f, m2, e2, o2, z2⟩ := hc
    exact m378_ok m2 d hq hal hb (CT_st c (fun i hi => e2 i hi) (fun i hi => o2 i hi) (by omega)) z2 (by omega)
  · rw [if_pos (by omega)] at hL hn
    rw [decide_eq_false e, br_fq, inb_at (k := 89) (n := 25) rfl (by omega) (by omega) (by decide), ck_t, ck_t, ck_t, lt_e, I_tn (x := (q : Int)) (by omega) (by omega), Int.toNat_natCast, I_A' m1, show (3 : Int32) = I 3 from rfl, I_add, wa_e, lit500, I_mul, I_add, inb_at (k := 88) (n := 12500) rfl (by omega) (by omega) (by decide), ck_t, lt_e, I_tn (by omega) (by omega), show ((q : Int) * 500 + (n : Int)).toNat = 500 * q + n from by omega, wj_e, lit1q, decE (by omega) (by omega) (by omega) (by omega)]
    have mh := MQ_hole m 3 (by omega)
    have mc := MQ_cell (t := 2) mh (i := n) (by omega) (by unfold owH; rw [if_pos (by omega)]; omega)
    have s1 : SRC Fv P (wa w 89 q ((n : Int) + 3)) o q n x s := hs
    have s2 := SRC_cell (t := 2) (i := n) x4 (by omega) s1 (Nat.le_refl _) (Nat.le_refl _)
    have cc : CT P (wj (wa w 89 q ((n : Int) + 3)) 88 (500 * q + n) 2) q n (owH n ow) m0 at' L := CT_st c (fun i hi => by rw [hp_wj, if_neg (by omega)]; rfl) (fun i hi => if_neg (by omega)) (Nat.le_refl _)
    have hd : hp (wj (wa w 89 q ((n : Int) + 3)) 88 (500 * q + n) 2) q n = 2 := by rw [hp_wj, if_pos rfl]
    have un : ∀ j, j < 3 → n + j < owH n ow (n + j) := fun j hj => by unfold owH; rw [if_pos (by omega)]; omega
    have arg : I ((q : Int) * 500 + (n : Int)) + I 1 = (((I q) * 500) + (I n)) + 1 := by rw [lit500, lit1q, I_mul, I_add, I_add, I_add]
    rw [arg, ← lit1q]
    by_cases e1 : wr = 1
    · rw [decide_eq_true e1, br_tq]
      exact m328_ok (at0 := 7) mc d hq hal hb hPB cc s2 hL (by omega) un hd (by omega) hN
    · rw [decide_eq_false e1, br_fq]
      exact m328_ok (at0 := 19) mc d hq hal hb hPB cc s2 hL (by omega) un hd (by omega) hN
theorem m222_ok {x : Int64} {wr : Int} {o s p k parts : Nat} (m : MQq Fv P w0 w q n ow kd opM bnM bxM) (d : DW Fv P PR w0) (hq : q < PR) (hal : A w0 109 q ≠ 3) (hb : bxM < 30) (hPB : PB P PR) (hp1 : p < PR) (hk : k + parts + 1 = n) (hun : ∀ j, j ≤ parts → k + j < ow (k + j)) (hhd : HDP (hp w q k) parts) (hmid : ∀ j, 1 ≤ j → j + 1 < parts → ¬ isH (hp w q (k + j)) ∧ P (hp w q (k + j))) (hpt : parts = 3 ∨ parts = 4) (hs : SRC Fv P w o q k x s) (hw : 0 ≤ wr ∧ wr ≤ 2) (hn : n + ((if 0 < wr then 3 else 0) + s) ≤ 500) (hN : 3000 ≤ N) :
    OK (fun w2 _ => MSG Fv P PR w0 q w2) (fb_M_message_222 N () w (I q) (I p) (I wr) (I o) x (I k) (I parts)) := by
  have x4 := m.2.1.2.2.2.1
  have pr := d.1.2
  unfold fb_M_message_222
  rw [show (4 : Int32) = I 4 from rfl, term_e, bnd_so, lit500, I_mul, I_add, I_add, lit1q, I_sub, inb_at (k := 88) (n := 12500) rfl (by omega) (by omega) (by decide), ck_t, lt_e, I_tn (by omega) (by omega), show ((q : Int) * 500 + (k : Int) + (parts : Int) - 1).toNat = 500 * q + (k + (parts - 1)) from by omega, wj_e, show (5 : Int32) = I 5 from rfl, term_e, bnd_so, I_add]
  have mc := MQ_cell (t := mk 4 p) m (i := k + (parts - 1)) (by omega) (hun _ (by omega))
  have s1 := SRC_cell (t := mk 4 p) (i := k + (parts - 1)) (n2 := n) x4 (by omega) hs (by omega) (by omega)
  have cc : CT P (wj w 88 (500 * q + (k + (parts - 1))) (mk 4 p)) q n ow (mk 5 k) ((k : Int) + (parts : Int)) (parts + 1) := by
    refine Or.inr ⟨k, parts, by omega, rfl, ⟨by omega, hun, by rw [hp_wj, if_neg (by omega)]; exact hhd, fun j h1 h2 => ?_, hpt⟩, rfl⟩
    rw [hp_wj]
    by_cases e : j = parts - 1
    · rw [if_pos (by omega)]; exact ⟨nh_mk (by omega), hPB.2.1 p hp1⟩
    · rw [if_neg (by omega)]; exact hmid j h1 (by omega)
  exact m261_ok mc d hq hal hb hPB cc s1 hw (by omega) hn hN
end
section
variable {Fv : Int64 → Int64 → Prop} {P : Int64 → Prop} {w0 w w2 : MS} {PR N q n n2 opM bnM bxM : Nat} {ow kd ow2 kd2 : Nat → Nat}
theorem hdp_nat {k : Nat} (h : k < 100) : HDP ((I (k : Int)).toInt64) k := by
  have e : (I (k : Int)).toInt = k := I_ti (by omega) (by omega)
  have e2 : va ((I (k : Int)).toInt64) = k := by unfold va; rw [Int32.toInt32_toInt64]; exact e
  exact ⟨e2, by rw [e2, Int32.toInt_toInt64]; exact e⟩
theorem va_nat {k : Nat} (h : k < 100) : va ((I (k : Int)).toInt64) = k := by
  unfold va
  rw [Int32.toInt32_toInt64, I_ti (by omega) (by omega)]
theorem m136_ok {x : Int64} {r wr : Int} {o s p parts sort : Nat} (m : MQq Fv P w0 w q n ow kd opM bnM bxM) (d : DW Fv P PR w0) (hq : q < PR) (hal : A w0 109 q ≠ 3) (hb : bxM < 30) (hPB : PB P PR) (hp1 : p < PR) (hr : -2147483648 ≤ r ∧ r < 2147483648) (hpt : (sort = 0 ∧ parts = 3) ∨ (sort = 1 ∧ parts = 4)) (hs : SRC Fv P w o q n x s) (hw : 0 ≤ wr ∧ wr ≤ 2) (hn : n + (parts + 1) + ((if 0 < wr then 3 else 0) + s) ≤ 500) (hN : 3000 ≤ N) :
    OK (fun w2 _ => MSG Fv P PR w0 q w2) (fb_M_message_136 N () w (I q) (I sort) (I r) (I p) (I wr) (I o) x (I n) (I parts)) := by
  have x4 := m.2.1.2.2.2.1
  have m1 := m.1
  have pr := d.1.2
  unfold fb_M_message_136
  rw [inb_at (k := 89) (n := 25) rfl (by omega) (by omega) (by decide), ck_t, ck_t, lt_e, I_tn (x := (q : Int)) (by omega) (by omega), Int.toNat_natCast, I_A' m1, lit1q, I_add, I_add, wa_e, lit500, I_mul, I_add, inb_at (k := 88) (n := 12500) rfl (by omega) (by omega) (by decide), ck_t, lt_e, I_tn (by omega) (by omega), show ((q : Int) * 500 + (n : Int)).toNat = 500 * q + n from by omega, wj_e, lit0q, decE (by omega) (by omega) (by omega) (by omega)]
  have mh := MQ_hole m (parts + 1) (by omega)
  rw [show (n : Int) + ((parts + 1 : Nat) : Int) = (n : Int) + ((parts : Int) + 1) from by omega] at mh
  have mc := MQ_cell (t := (I (parts : Int)).toInt64) mh (i := n) (by omega) (by unfold owH; rw [if_pos (by omega)]; omega)
  have s1 : SRC Fv P (wa w 89 q ((n : Int) + ((parts : Int) + 1))) o q n x s := hs
  have s2 := SRC_cell (t := (I (parts : Int)).toInt64) (i := n) x4 (by omega) s1 (Nat.le_refl _) (Nat.le_refl _)
  have hd : HDP (hp (wj (wa w 89 q ((n : Int) + ((parts : Int) + 1))) 88 (500 * q + n) ((I (parts : Int)).toInt64)) q n) parts := by rw [hp_wj, if_pos rfl]; exact hdp_nat (by omega)
  generalize wj (wa w 89 q ((n : Int) + ((parts : Int) + 1))) 88 (500 * q + n) ((I (parts : Int)).toInt64) = v at *
  have un : ∀ j, n + j < owH n ow (n + j) := fun j => by unfold owH; rw [if_pos (by omega)]; omega
  have cont : ∀ a : Int, 0 ≤ a → a < 22 → OK (fun w2 _ => MSG Fv P PR w0 q w2) (fb_M_message_193 N () v (I q) (I sort) (I r) (I p) (I wr) (I o) x (I n) (I parts) 88 (I ((q : Int) * 500 + (n : Int)) + I 1) (I 1) (I a)) := by
    intro a a1 a2
    unfold fb_M_message_193
    rw [term_e, bnd_so, isK_88, ck_t, I_add, inb_at (k := 88) (n := 12500) rfl (by omega) (by omega) (by decide), ck_t, lt_e, I_tn (by omega) (by omega), show ((q : Int) * 500 + (n : Int) + 1).toNat = 500 * q + (n + 1) from by omega, wj_e]
    have md := MQ_cell (t := mk 1 a) mc (i := n + 1) (by omega) (un 1)
    have s3 := SRC_cell (t := mk 1 a) (i := n + 1) (n2 := n) x4 (by omega) s2 (by omega) (Nat.le_refl _)
    have hd2 : HDP (hp (wj v 88 (500 * q + (n + 1)) (mk 1 a)) q n) parts := by rw [hp_wj, if_neg (by omega)]; exact hd
    have h1 : hp (wj v 88 (500 * q + (n + 1)) (mk 1 a)) q (n + 1) = mk 1 a := by rw [hp_wj, if_pos rfl]
    generalize wj v 88 (500 * q + (n + 1)) (mk 1 a) = y at *
    rw [lit1q, decE (by omega) (by omega) (by omega) (by omega)]
    rcases hpt with ⟨e1, e2⟩ | ⟨e1, e2⟩
    · subst e1; subst e2
      rw [decide_eq_false (by omega), br_fq]
      exact m222_ok (k := n) (parts := 3) md d hq hal hb hPB hp1 (by omega) (fun j hj => un j) hd2 (fun j h1' h2 => by
        have : j = 1 := by omega
        rw [this, h1]; exact ⟨nh_mk (by omega), hPB.1 a a1 a2⟩) (Or.inl rfl) s3 hw (by omega) hN
    · subst e1; subst e2
      rw [decide_eq_true (by omega), br_tq, show (2 : Int32) = I 2 from rfl, term_e, bnd_so, lit500, I_mul, I_add, I_add, inb_at (k := 88) (n := 12500) rfl (by omega) (by omega) (by decide), ck_t, lt_e, I_tn (by omega) (by omega), show ((q : Int) * 500 + (n : Int) + 2).toNat = 500 * q + (n + 2) from by omega, wj_e]
      have me := MQ_cell (t := mk 2 r) md (i := n + 2) (by omega) (un 2)
      have s4 := SRC_cell (t := mk 2 r) (i := n + 2) (n2 := n) x4 (by omega) s3 (by omega) (Nat.le_refl _)
      exact m222_ok (k := n) (parts := 4) me d hq hal hb hPB hp1 (by omega) (fun j hj => un j) (by rw [hp_wj, if_neg (by omega)]; exact hd2) (fun j h1' h2 => by
        rw [hp_wj]
        by_cases e : j = 2
        · rw [if_pos (by omega)]; exact ⟨nh_mk (by omega), hPB.2.2.1 r hr.1 hr.2⟩
        · have : j = 1 := by omega
          rw [if_neg (by omega), this, h1]; exact ⟨nh_mk (by omega), hPB.1 a a1 a2⟩) (Or.inr rfl) s4 hw (by omega) hN
  refine ok_br.mpr ⟨fun _ => cont 8 (by omega) (by omega), fun _ => cont 9 (by omega) (by omega)⟩
def TM (Fv : Int64 → Int64 → Prop) (P : Int64 → Prop) (w : MS) (q o : Nat) (t : Int64) : Prop := (o < 25 ∧ ¬ isH t ∧ P t) ∨ (o < 25 ∧ o ≠ q ∧ GTP Fv P w o t) ∨ (o = q ∧ ∃ n ow kd opM bnM bxM, A w 89 q = ((n : Nat) : Int) ∧ CX w q (hp w q) n ow kd Fv P opM bnM bxM ∧ GT n ow kd P t)
end
