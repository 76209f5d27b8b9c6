def MEX (Fv : Int64 → Int64 → Prop) (P : Int64 → Prop) (PR : Nat) (w : MS) (p n : Nat) (ow kd : Nat → Nat) (opM bnM bxM : Nat) : Prop :=
  DW Fv P PR w ∧ p < PR ∧ F w 133 = p ∧ A w 89 p = ((n : Nat) : Int) ∧ CX w p (hp w p) n ow kd Fv P opM bnM bxM
section
variable {Fv : Int64 → Int64 → Prop} {P P2 : Int64 → Prop} {u v w w2 : MS} {PR PR2 N p n n2 opM bnM bxM bx2 ND fr k tp mu CN PN SN UN FN rq q m h mm AN : Nat} {ow kd ow2 kd2 ro rn rh cb pc ct pM pE : Nat → Nat} {T : TY} {C : CY}
theorem MEI_x (i : MEI Fv P PR w p n ow kd opM bnM bxM) : MEX Fv P PR w p n ow kd opM bnM bxM := ⟨i.1, i.2.1, i.2.2.1, i.2.2.2.2.1, i.2.2.2.2.2⟩
theorem MEX_i (i : MEX Fv P PR w p n ow kd opM bnM bxM) (h : A w 109 p ≠ 3) : MEI Fv P PR w p n ow kd opM bnM bxM := ⟨i.1, i.2.1, i.2.2.1, h, i.2.2.2.1, i.2.2.2.2⟩
theorem MEX_p (i : MEX Fv P PR w p n ow kd opM bnM bxM) : p < 24 := i.2.2.2.2.2.2.2.1
theorem MEX_of (d : DW Fv P PR w) (hp : p < PR) (h1 : F w 133 = p) (h2 : A w 92 p = ((opM : Nat) : Int)) (h3 : A w 94 p = ((bnM : Nat) : Int)) : ∃ n ow kd bx, MEX Fv P PR w p n ow kd opM bnM bx := by
  obtain ⟨n, ow, kd, o2, b2, bx, a, x1, x2, x3, x4, x5, x6, x7, x8, x9, x10, x11⟩ := d.2.1 p hp
  obtain rfl : o2 = opM := by omega
  obtain rfl : b2 = bnM := by omega
  exact ⟨n, ow, kd, bx, d, hp, h1, a, x1, x2, x3, x4, x5, x6, x7, x8, x9, x10, x11⟩
theorem DW_op (d : DW Fv P PR w) (f : FR [] [] [92] [91] w w2) (h92 : ∀ z, z ≠ p → A w2 92 z = A w 92 z) (h91 : ∀ i, ¬ (46000 * p ≤ i ∧ i < 46000 * p + 46000) → w2.2.2.2 91 i = w.2.2.2 91 i) (nq : PRC Fv P w2 p) : DW Fv P PR w2 := by
  obtain ⟨⟨d1, d1'⟩, d2, ⟨n4, ow4, kd4, d3a, d3b, d3c⟩, d4, ⟨eF, eM, e1, e2, e3, e4, e5⟩, d6⟩ := d
  have h88 : ∀ o, hp w2 o = hp w o := fun o => by unfold hp; rw [f.2.2.2 88 (by decide)]
  refine ⟨⟨by rw [FR.F f (by decide)]; exact d1, d1'⟩, fun z hz => ?_, ⟨n4, ow4, kd4, by rw [FR.A f (by decide)]; exact d3a, d3b, by rw [h88]; exact d3c⟩, by rw [FR.F f (by decide)]; exact d4, ⟨eF, eM, by rw [FR.F f (by decide)]; exact e1, by rw [FR.F f (by decide)]; exact e2, e3, by rw [cE_eq PR (fun p _ => FR.A f (by decide))]; exact e4, fun i h1 h2 => ?_⟩, fun z hz => by rw [FR.A f (by decide)]; exact d6 z hz⟩
  · by_cases e : z = p
    · rw [e]; exact nq
    · exact PRC_same (d2 z hz) (FR.A f (by decide)) (h88 z) (h92 z e) (FR.A f (by decide)) (FR.A f (by decide)) (fun i hi => h91 _ (by omega)) (fun i _ => by rw [f.2.2.2 93 (by decide)]) (fun i _ => by rw [f.2.2.2 107 (by decide)]) (by rw [FR.F f (by decide), d4]; omega)
  · obtain ⟨q1, q2, q3, q4⟩ := e5 i h1 h2
    rw [FR.A f (by decide), FR.A f (by decide), FR.A f (by decide), f.2.2.2 148 (by decide)]
    refine ⟨q1, q2, q3, ?_⟩
    rcases q4 with q4 | ⟨q4, q5, q6⟩
    · exact Or.inl q4
    · refine Or.inr ⟨q4, ?_, GTP_same q6 (FR.A f (by decide)) (h88 _)⟩
      rw [FR.A f (by decide)]; exact q5
theorem put_x {t : Int64} (m : MEX Fv P PR w p n ow kd opM bnM bxM) (g : GT n ow kd P t) (ho : opM < 46000) : OK (fun w2 _ => FR [] [] [92] [91] w w2 ∧ OTF p w w2 ∧ MEX Fv P PR w2 p n ow kd (opM + 1) bnM bxM) (fm_M_put N w t) := by
  obtain ⟨m1, m2, m3, m5, ⟨x1, x2, x3, x4, x5, x6, x7, x8, x9, x10, x11⟩⟩ := m
  have f140 := m1.2.2.2.1
  unfold fm_M_put fb_M_put_0
  rw [I_F' m3, inb_at (k := 92) (n := 24) rfl (by omega) (by omega) (by decide), ck_t, I_tn (x := (p : Int)) (by omega) (by omega), Int.toNat_natCast, I_A' x5.1, show (46000 : Int32) = I 46000 from rfl, I_mul, I_add, inb_at (k := 91) (n := 1104000) rfl (by omega) (by omega) (by decide), ck_t, lt_e, I_tn (by omega) (by omega), show ((p : Int) * 46000 + (opM : Int)).toNat = 46000 * p + opM from by omega, wj_e]
  rw [show (wj w 91 (46000 * p + opM) t).1 133 = I p from I_F' m3, inb_at (k := 92) (n := 24) rfl (by omega) (by omega) (by decide), ck_t, ck_t, lt_e, I_tn (by omega) (by omega), Int.toNat_natCast, show (wj w 91 (46000 * p + opM) t).2.2.1 92 p = I opM from I_A' x5.1, lit1q, I_add, wa_e]
  generalize hz : wa (wj w 91 (46000 * p + opM) t) 92 p ((opM : Int) + 1) = z
  have fz : FR [] [] [92] [91] w z := by rw [← hz]; exact FR.wa (FR.wj FR.rf (by decide)) (by decide)
  have a92 : ∀ i, A z 92 i = if i = p then (opM : Int) + 1 else A w 92 i := fun i => by rw [← hz, A_eq (by omega) (by omega)]; rfl
  have j91 : ∀ i, z.2.2.2 91 i = if i = 46000 * p + opM then t else w.2.2.2 91 i := fun i => by rw [← hz, J_wa, J_wj, if_pos rfl]
  have hpz : hp z p = hp w p := by unfold hp; rw [fz.2.2.2 88 (by decide)]
  have z140 : F z 140 = -1 := by rw [FR.F fz (by decide)]; exact f140
  have cx : CX z p (hp z p) n ow kd Fv P (opM + 1) bnM bxM := ⟨rfl, by rw [hpz]; exact x2, x3, x4, ⟨by rw [a92, if_pos rfl]; omega, by omega⟩, by rw [FR.A fz (by decide)]; exact x6, by rw [FR.A fz (by decide)]; exact x7, fun i hi => by
    rw [j91]
    by_cases e : i = opM
    · subst e; rw [if_pos rfl]; exact g
    · rw [if_neg (by omega)]; exact x8 i (by omega), fun i hi => by rw [fz.2.2.2 93 (by decide)]; exact x9 i hi, fun i hi => by rw [fz.2.2.2 107 (by decide)]; exact x10 i hi, fun e => by omega⟩
  have m5' : A z 89 p = ((n : Nat) : Int) := by rw [FR.A fz (by decide)]; exact m5
  exact ok_some.mpr ⟨fz, OTF_at (k0 := 92) fz (i0 := p) (fun j hj => by rw [a92, if_neg hj]) (Or.inl ⟨by decide, rfl⟩), DW_op m1 fz (fun q hq => by rw [a92, if_neg hq]) (fun i hi => by rw [j91, if_neg (by omega)]) ⟨n, ow, kd, _, _, _, m5', cx⟩, m2, by rw [FR.F fz (by decide)]; exact m3, m5', cx⟩
theorem take_x (m : MEX Fv P PR w p n ow kd (opM + 1) bnM bxM) : OK (fun w2 r => FR [] [] [92] [91] w w2 ∧ OTF p w w2 ∧ GT n ow kd P r ∧ MEX Fv P PR w2 p n ow kd opM bnM bxM) (fm_M_take N w) := by
  obtain ⟨m1, m2, m3, m5, ⟨x1, x2, x3, x4, x5, x6, x7, x8, x9, x10, x11⟩⟩ := m
  have f140 := m1.2.2.2.1
  unfold fm_M_take fb_M_take_0
  rw [I_F' m3, inb_at (k := 92) (n := 24) rfl (by omega) (by omega) (by decide), ck_t, ck_t, lt_e, I_tn (x := (p : Int)) (by omega) (by omega), Int.toNat_natCast, I_A' x5.1, lit1q, I_sub, show ((opM + 1 : Nat) : Int) - 1 = (opM : Int) from by omega, wa_e]
  rw [show (wa w 92 p opM).1 133 = I p from I_F' m3, inb_at (k := 92) (n := 24) rfl (by omega) (by omega) (by decide), ck_t, I_tn (x := (p : Int)) (by omega) (by omega), Int.toNat_natCast, I_A' (show A (wa w 92 p opM) 92 p = opM by rw [A_eq (by omega) (by omega), if_pos rfl]), show (46000 : Int32) = I 46000 from rfl, I_mul, I_add, inb_at (k := 91) (n := 1104000) rfl (by omega) (by omega) (by decide), ck_t, I_tn (by omega) (by omega), show ((p : Int) * 46000 + (opM : Int)).toNat = 46000 * p + opM from by omega]
  have a92 : ∀ i, A (wa w 92 p opM) 92 i = if i = p then (opM : Int) else A w 92 i := fun i => A_eq (by omega) (by omega)
  have fz : FR [] [] [92] [91] w (wa w 92 p opM) := FR.wa FR.rf (by decide)
  have j91 : (wa w 92 p opM).2.2.2 91 = w.2.2.2 91 := rfl
  have hpz : hp (wa w 92 p opM) p = hp w p := rfl
  generalize wa w 92 p opM = z at *
  have cx : CX z p (hp z p) n ow kd Fv P opM bnM bxM := ⟨rfl, by rw [hpz]; exact x2, x3, x4, ⟨by rw [a92, if_pos rfl], by omega⟩, by rw [FR.A fz (by decide)]; exact x6, by rw [FR.A fz (by decide)]; exact x7, fun i hi => by rw [j91]; exact x8 i (by omega), fun i hi => by rw [fz.2.2.2 93 (by decide)]; exact x9 i hi, fun i hi => by rw [fz.2.2.2 107 (by decide)]; exact x10 i hi, fun e => by have := FR.F fz (k := 140) (by decide); omega⟩
  have m5' : A z 89 p = ((n : Nat) : Int) := by rw [FR.A fz (by decide)]; exact m5
  refine ok_some.mpr ⟨fz, OTF_at (k0 := 92) fz (i0 := p) (fun j hj => by rw [a92, if_neg hj]) (Or.inl ⟨by decide, rfl⟩), ?_, DW_op m1 fz (fun q hq => by rw [a92, if_neg hq]) (fun i hi => by rw [j91]) ⟨n, ow, kd, _, _, _, m5', cx⟩, m2, by rw [FR.F fz (by decide)]; exact m3, m5', cx⟩
  rw [j91]; exact x8 opM (by omega)
theorem nxtP {is ls as js : List Nat} (e : ERX Fv P PR T C ND CN p u fr ro rn rh cb pc ct q n ow kd opM bnM bxM mu) (hm : m < ND) (hx : NX T q m h mm) (f : FR is ls as js u v) (hi : ∀ k, k ∈ [149, 150, 151, 152, 153, 154, 155, 156, 157, 158, 159, 164, 165] → k ∉ is ∨ (tG T q = 0 ∧ (k = 150 ∨ k = 151))) (ha : ∀ k, k ∈ [23, 25, 31, 41, 95, 99, 100, 101, 102, 103, 104, 105, 106] → k ∉ as) (hj : 111 ∉ js) (h98 : A v 98 (60 * p + (fr - 1)) = ((m : Nat) : Int)) (h98' : ∀ j, j ≠ 60 * p + (fr - 1) → A v 98 j = A u 98 j) (h109 : A v 109 p = 0) (i : MEI Fv P2 PR2 v p n2 ow2 kd2 (ro (fr - 1) + h) (rn (fr - 1) + rh (fr - 1) + mm) bx2) (hG : tG T q = 0) : ∃ m2, m2 < mu ∧ STE Fv P2 PR2 T C ND CN p m2 v := by
  obtain ⟨-, h2, h3, h4, h5, h6, h7, h8, h9⟩ := e
  obtain ⟨y1, y2, y3⟩ : tG T q = 0 ∧ F u 152 = 0 ∧ CLG u (sR T pc (fr - 1) + tR T q) 0 mu := by
    rcases h9 with y | ⟨y1, c, s, many, hg, hb', mm', r, t1, t2, -⟩
    · exact y
    · omega
  obtain ⟨n1, n2', n3, n4, n5, n6, n7, n8, n9⟩ := hx
  have fi : ∀ k, k ∈ [152, 164, 165] → F v k = F u k := fun k hk => FR.F f (by
    rcases hi k (by revert hk; simp; omega) with z | ⟨-, z⟩
    · exact z
    · exfalso; revert hk; simp; omega)
  obtain ⟨e1, e2, e3, e4⟩ := y3
  refine ⟨mu - 1, by omega, fr, ro, rn, rh, cb, pc, ct, m, n2, ow2, kd2, bx2, ⟨by rw [n1, n2']; exact i, by rw [n4, n8]; exact FRS_98 h2 f (fun k hk => ha k (by revert hk; simp; omega)) h98', h98, hm, by rw [n3]; exact h4, by rw [FR.A f (ha _ (by decide)), n4]; exact h5⟩, h109, Or.inl ⟨by rw [n5]; exact hG, by rw [fi _ (by decide)]; exact y2, ?_⟩⟩
  unfold CLG
  rw [fi _ (by decide), fi _ (by decide)]
  exact ⟨e1, e2, e3, by omega⟩
theorem nm_loop {a : Int32} (d : DW Fv P PR w) : ∀ (m k : Nat), k ≤ PR → PR - k < m → OK (fun w2 r => w2 = w ∧ (r = I (-1) ∨ ∃ z : Nat, z < PR ∧ r = I z)) (gg_M_namedBy N m w a (I k)) := by
  have pr := d.1.2
  intro m
  induction m with
  | zero => intro k _ h; omega
  | succ m ih =>
    intro k hk hm
    show OK _ (fb_M_namedBy_2 N (gg_M_namedBy N m) w a (I k))
    unfold fb_M_namedBy_2 fb_M_namedBy_32
    rw [I_F' d.1.1, decI (by omega) (by omega) (by omega) (by omega)]
    refine ok_br.mpr ⟨fun _ => ok_some.mpr ⟨rfl, Or.inl rfl⟩, fun z => ?_⟩
    have z' := of_decide_eq_false z
    have nxt : OK (fun w2 r => w2 = w ∧ (r = I (-1) ∨ ∃ z : Nat, z < PR ∧ r = I z)) (gg_M_namedBy N m w a (I k + 1)) := by
      rw [lit1q, I_add, show (k : Int) + 1 = ((k + 1 : Nat) : Int) from by omega]
      exact ih (k + 1) (by omega) (by omega)
    exact ok_ck.mpr ⟨inb_at (k := 113) (n := 24) rfl (by omega) (by omega) (by decide), ok_br.mpr ⟨fun _ => ok_ck.mpr ⟨inb_at (k := 109) (n := 24) rfl (by omega) (by omega) (by decide), ok_br.mpr ⟨fun _ => nxt, fun _ => ok_some.mpr ⟨rfl, Or.inr ⟨k, by omega, rfl⟩⟩⟩⟩, fun _ => nxt⟩⟩
theorem namedBy_ok {a : Int32} (d : DW Fv P PR w) (hN : 100 ≤ N) : OK (fun w2 r => w2 = w ∧ (r = I (-1) ∨ ∃ z : Nat, z < PR ∧ r = I z)) (fm_M_namedBy N w a) := by
  have pr := d.1.2
  unfold fm_M_namedBy fb_M_namedBy_0
  exact nm_loop (N := N) d N 0 (by omega) (by omega)
theorem finX {is ls as js : List Nat} (e : ERX Fv P PR T C ND CN p u fr ro rn rh cb pc ct q n ow kd opM bnM bxM mu) (hG : tG T q = 0) (hm : m < ND) (hx : NX T q m h mm) (f : FR is ls as js u v) (hi : ∀ k, k ∈ [149, 150, 151, 152, 153, 154, 155, 156, 157, 158, 159, 164, 165] → k ∉ is ∨ k = 150) (ha : ∀ k, k ∈ [23, 25, 31, 41, 95, 98, 99, 100, 101, 102, 103, 104, 105, 106] → k ∉ as) (hj : 111 ∉ js) (h98 : A u 98 (60 * p + (fr - 1)) = ((m : Nat) : Int)) (h109 : A v 109 p = 0 ∨ A v 109 p = 3) (i : MEX Fv (PQ AN PR2) PR2 v p n2 ow2 kd2 (ro (fr - 1) + h) (rn (fr - 1) + rh (fr - 1) + mm) bx2) (hw : WLD v T ND UN FN PR2 p) (g : GFR u v) : RSW Fv AN T C ND CN UN FN p mu u v := by
  refine ⟨PR2, i.2.1, ?_, hw, g⟩
  rcases h109 with h | h
  · exact Or.inr (Or.inr (Or.inr (nxtP e hm hx f (fun k hk => by rcases hi k hk with z | z; exact Or.inl z; exact Or.inr ⟨hG, Or.inl z⟩) (fun k hk => ha k (by revert hk; simp; omega)) hj (by rw [FR.A f (ha _ (by decide))]; exact h98) (fun j _ => FR.A f (ha _ (by decide))) h (MEX_i i (by omega)) hG)))
  · exact Or.inl ⟨i.1, h⟩
end
