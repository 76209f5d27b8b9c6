section
variable {Fv : Int64 → Int64 → Prop} {P P2 : Int64 → Prop} {u v w w2 x y : MS} {PR PR2 N p n n2 opM bnM bxM bx2 ND fr k tp mu CN PN SN UN FN rq q m h mm AN z j : Nat} {ow kd ow2 kd2 ro rn rh cb pc ct pM pE : Nat → Nat} {T : TY} {C : CY}
def CGR (u w : MS) : Prop := FR [3, 118, 119, 121, 125, 128, 133, 136, 138, 140, 144, 149, 150, 151, 152, 153, 154, 155, 156, 157, 158, 159, 164, 165, 166, 169] [139] [89, 90, 92, 94, 95, 96, 97, 98, 99, 100, 101, 102, 103, 104, 105, 106, 108, 109, 110, 112, 113, 114, 115, 116, 117, 122, 123, 124, 126, 127, 131, 132, 135, 142, 143, 145, 146, 147, 160, 162, 168, 170] [88, 91, 93, 107, 111, 134, 137, 141, 148, 161, 163, 167] u w
theorem isProcess_ok {a : Int32} (h : F w 87 ≠ 0 → F w 118 = ((PR : Nat) : Int) ∧ PR ≤ 24) : OK (fun v r => v = w ∧ (r = 0 ∨ (r = 1 ∧ F w 87 ≠ 0 ∧ ∃ p : Nat, p < PR ∧ a = I p))) (fm_M_isProcess N w a) := by
  unfold fm_M_isProcess fb_M_isProcess_0 fb_M_isProcess_23 fb_M_isProcess_24
  rw [isb0, isb1, ck_t, ck_t]
  have no : OK (fun v r => v = w ∧ (r = 0 ∨ (r = 1 ∧ F w 87 ≠ 0 ∧ ∃ p : Nat, p < PR ∧ a = I p))) (some (w, (0 : Int32))) := ok_some.mpr ⟨rfl, Or.inl rfl⟩
  refine ok_br.mpr ⟨fun _ => no, fun z87 => ok_br.mpr ⟨fun _ => no, fun z0 => ok_br.mpr ⟨fun _ => no, fun z1 => ok_some.mpr ⟨rfl, Or.inr ⟨rfl, ?_⟩⟩⟩⟩⟩
  have n87 : F w 87 ≠ 0 := fun e => of_decide_eq_false z87 (by rw [I_F' e]; rfl)
  obtain ⟨h1, h2⟩ := h n87
  have ra := ti_rng a
  have e : a = I a.toInt := I_of a
  rw [e, lit0q, decL ra.1 ra.2 (by omega) (by omega)] at z0
  rw [e, I_F' h1, decI (by omega) (by omega) ra.1 ra.2] at z1
  have b0 := of_decide_eq_false z0
  have b1 := of_decide_eq_false z1
  refine ⟨n87, a.toInt.toNat, by omega, ?_⟩
  rw [show ((a.toInt.toNat : Nat) : Int) = a.toInt from by omega]; exact e
theorem mayGo_ok (hp : p < 24) : OK (fun v _ => v = w) (fm_M_mayGo N w (I p)) := by
  unfold fm_M_mayGo fb_M_mayGo_0 fb_M_mayGo_45 fb_M_mayGo_41 fb_M_mayGo_46
  rw [isb0, isb1]
  have y : ∀ r : Int32, OK (fun v (_ : Int32) => v = w) (ck true (some (w, r))) := fun r => ok_ck.mpr ⟨rfl, ok_some.mpr rfl⟩
  exact ok_ck.mpr ⟨inb_at (k := 110) (n := 24) rfl (by omega) (by omega) (by decide), ok_ck.mpr ⟨inb_at (k := 108) (n := 24) rfl (by omega) (by omega) (by decide), ok_br.mpr ⟨fun _ => y 1, fun _ => ok_ck.mpr ⟨inb_at (k := 111) (n := 24) rfl (by omega) (by omega) (by decide), ok_br.mpr ⟨fun _ => y 0, fun _ => ok_ck.mpr ⟨inb_at (k := 111) (n := 24) rfl (by omega) (by omega) (by decide), ok_br.mpr ⟨fun _ => y 0, fun _ => y 1⟩⟩⟩⟩⟩⟩⟩
theorem RES_goi {b : Int} (hr : RES Fv (PQ AN PR) PR T C ND CN p mu u w) (hp : p < PR) (hw : WLD u T ND UN FN PR p) (hT : ∀ q, q < ND → tK T q ≤ 26) (h9 : F u 149 = 0) (h0 : F u 150 = 0) : GOI Fv AN T C ND CN UN FN p mu w ∧ GGR u w := by
  obtain ⟨r1, r2, r3, r4⟩ := hr
  refine ⟨⟨PR, hp, ?_, WLD_fr hw hT r3 r2.st (by decide) (by decide) (fun z hz => Or.inl (r4 z hz)), fun e9 _ => ?_⟩, FR.mo r2.st (by decide) (by decide) (by decide) (by decide)⟩
  · rcases r1 with r1 | r1 | r1
    · exact Or.inl r1
    · exact Or.inr (Or.inl r1)
    · exact Or.inr (Or.inr (Or.inr r1))
  · rcases r2 with r2 | ⟨-, r2⟩
    · rw [FR.F r2 (by decide), FR.F r2 (by decide), h9, h0]
    · omega
theorem CLG_new {b : Nat} {s e : Nat} (h165 : F w 165 = 0) (h164 : F w 164 = ((b : Nat) : Int)) (hb : b ≤ 500) (hs : s ≤ 976000) (he : e ≤ 16002) : CLG w s (e : Int) 600000000000000 := by
  refine ⟨by omega, by omega, by omega, ?_⟩
  rw [h164, h165]
  omega
set_option maxRecDepth 100000 in
theorem go_start {b : Nat} {i6 : MS} (hp : p < PR) (hb : b ≤ 500) (rest : REST Fv AN T ND UN FN PR w) (r : PER Fv AN T C pM pE ND CN PN SN UN FN w) (h3 : A w 109 p ≠ 3) (hN : 700000000000000 < N) : OK (fun v _ => (∃ PR, REST Fv AN T ND UN FN PR v) ∧ CGR w v) (fb_M_go_61 N (gg_M_go N N) w (I p) (I b) 0) := by
  obtain ⟨d, hw, h149, h150⟩ := rest
  have pr := d.1.2
  have hT := PRG_26 r.1
  have nd := r.1.1.1
  have un := r.1.1.2.2.2.1
  have fn := r.1.1.2.2.2.2.1
  have cn := r.1.1.2.1
  unfold fb_M_go_61
  refine ok_lt.mpr ?_
  rw [show upI w 3 0 = wi w 3 0 from rfl, br_t_of (decide_eq_true (show (wi w 3 0).1 3 = 0 from rfl))]
  refine ok_lt.mpr (ok_lt.mpr (ok_lt.mpr (ok_lt.mpr (ok_lt.mpr ?_))))
  rw [wi_e (k := 133), wi_e (k := 164), show ∀ s : MS, upI s 165 0 = wi s 165 0 from fun _ => rfl, show ∀ s : MS, upI s 151 0 = wi s 151 0 from fun _ => rfl, show ∀ s : MS, upI s 152 0 = wi s 152 0 from fun _ => rfl]
  have f1 : FR [3, 133, 151, 152, 164, 165] [] [] [] w (wi (wi (wi (wi (wi (wi w 3 0) 133 (p : Int)) 164 (b : Int)) 165 0) 151 0) 152 0) := FR.wi (FR.wi (FR.wi (FR.wi (FR.wi (FR.wi FR.rf (by decide)) (by decide)) (by decide)) (by decide)) (by decide)) (by decide)
  have e133 : F (wi (wi (wi (wi (wi (wi w 3 0) 133 (p : Int)) 164 (b : Int)) 165 0) 151 0) 152 0) 133 = p := by rw [F_ne (by decide), F_ne (by decide), F_ne (by decide), F_ne (by decide), F_wi (by omega) (by omega), if_pos rfl]
  have e164 : F (wi (wi (wi (wi (wi (wi w 3 0) 133 (p : Int)) 164 (b : Int)) 165 0) 151 0) 152 0) 164 = ((b : Nat) : Int) := by rw [F_ne (by decide), F_ne (by decide), F_ne (by decide), F_wi (by omega) (by omega), if_pos rfl]
  have e165 : F (wi (wi (wi (wi (wi (wi w 3 0) 133 (p : Int)) 164 (b : Int)) 165 0) 151 0) 152 0) 165 = 0 := by rw [F_ne (by decide), F_ne (by decide), F_wi (by omega) (by omega), if_pos rfl]
  have e151 : F (wi (wi (wi (wi (wi (wi w 3 0) 133 (p : Int)) 164 (b : Int)) 165 0) 151 0) 152 0) 151 = 0 := by rw [F_ne (by decide), F_wi (by omega) (by omega), if_pos rfl]
  have e152 : F (wi (wi (wi (wi (wi (wi w 3 0) 133 (p : Int)) 164 (b : Int)) 165 0) 151 0) 152 0) 152 = 0 := by rw [F_wi (by omega) (by omega), if_pos rfl]
  generalize wi (wi (wi (wi (wi (wi w 3 0) 133 (p : Int)) 164 (b : Int)) 165 0) 151 0) 152 0 = w1 at *
  refine ok_ck.mpr ⟨inb_at (k := 115) (n := 24) rfl (by omega) (by omega) (by decide), ok_lt.mpr ?_⟩
  rw [I_tn (x := (p : Int)) (by omega) (by omega), Int.toNat_natCast, show (0 : Int32) = I 0 from rfl, wa_e (k := 115)]
  have f12 : FR [] [] [115] [] w1 (wa w1 115 p 0) := FR.wa FR.rf (by decide)
  generalize wa w1 115 p 0 = w2 at *
  have f2 : FR [3, 133, 151, 152, 164, 165] [] [115] [] w w2 := FR.tr (FR.mo f1 (by decide) (by decide) (by decide) (by decide)) (FR.mo f12 (by decide) (by decide) (by decide) (by decide))
  have c133 : F w2 133 = p := by rw [FR.F f12 (by decide)]; exact e133
  have c164 : F w2 164 = ((b : Nat) : Int) := by rw [FR.F f12 (by decide)]; exact e164
  have c165 : F w2 165 = 0 := by rw [FR.F f12 (by decide)]; exact e165
  have c151 : F w2 151 = 0 := by rw [FR.F f12 (by decide)]; exact e151
  have c152 : F w2 152 = 0 := by rw [FR.F f12 (by decide)]; exact e152
  clear e133 e164 e165 e151 e152 f1 f12
  have d2 : DW Fv (PQ AN PR) PR w2 := DW_fr d f2 (by decide) (by decide) (by decide) (by decide) (by decide) (by decide) (by decide) (by decide) (by decide) (by decide) (by decide) (by decide) (by decide) (by decide) (by decide) (by decide) (by decide)
  have r2 : PER Fv AN T C pM pE ND CN PN SN UN FN w2 := PER_fr r f2 (by decide) (by decide)
  have wl24 : WLD w2 T ND UN FN PR 24 := WLD_fr hw hT (OTF_fr f2 (by decide)) f2 (by decide) (by decide) (fun z _ => Or.inl (FR.A f2 (by decide)))
  have wl2 : WLD w2 T ND UN FN PR p := WLD_p wl24 pr
  have ps := wl24.2.2.2.2.2.2 p hp (by omega)
  have g149 : F w2 149 = 0 := by rw [FR.F f2 (by decide)]; exact h149
  have g150 : F w2 150 = 0 := by rw [FR.F f2 (by decide)]; exact h150
  have n3 : A w2 109 p ≠ 3 := by rw [FR.A f2 (by decide)]; exact h3
  have r109 := A_r w2 109 p
  have pgm2 := PER_pgm r2 pr
  have rest' : ∀ x, GOI Fv AN T C ND CN UN FN p 600000000000000 x → FR [3, 118, 119, 121, 125, 128, 133, 136, 138, 140, 144, 149, 150, 151, 152, 153, 154, 155, 156, 157, 158, 159, 164, 165, 166, 169] [139] [89, 90, 92, 94, 95, 96, 97, 98, 99, 100, 101, 102, 103, 104, 105, 106, 108, 109, 110, 112, 113, 114, 115, 116, 117, 122, 123, 124, 126, 127, 131, 132, 135, 142, 143, 145, 146, 147, 160, 162, 168, 170] [88, 91, 93, 107, 111, 134, 137, 141, 148, 161, 163, 167] w x → OK (fun v _ => (∃ PR, REST Fv AN T ND UN FN PR v) ∧ CGR w v) (gg_M_go N N x (I p)) := fun x gx fx => ok_mono (go_loop (N := N) (by omega) N 600000000000000 x gx (PER_fr r fx (by decide) (by decide)) (by omega)) (fun v _ hv => ⟨hv.1, FR.tr fx (FR.mo hv.2 (by decide) (by decide) (by decide) (by decide))⟩)
  have nine : ∀ a : Int, a = 0 ∨ a = 1 → FR [] [] [109] [] w2 (wa w2 109 p a) ∧ (∀ y, A (wa w2 109 p a) 109 y = if y = p then a else A w2 109 y) := fun a ha => ⟨FR.wa FR.rf (by decide), fun y => A_eq (by omega) (by omega)⟩
  obtain ⟨f9, a9⟩ := nine 0 (Or.inl rfl)
  have d9 : DW Fv (PQ AN PR) PR (wa w2 109 p 0) := DW_109 d2 f9 (fun z hz => by rw [a9, if_neg hz]) n3 (Or.inl (by rw [a9, if_pos rfl]))
  have p9 : A (wa w2 109 p 0) 109 p = 0 := by rw [a9, if_pos rfl]
  have o9 : OTF p w2 (wa w2 109 p 0) := OTF_fr f9 (by decide)
  have wl9 : WLD (wa w2 109 p 0) T ND UN FN PR p := WLD_fr wl2 hT o9 f9 (by decide) (by decide) (fun z hz => Or.inl (by rw [a9, if_neg hz]))
  have in9 : inb (I (p : Int)) (ln 109) = true := inb_at (k := 109) (n := 24) rfl (by omega) (by omega) (by decide)
  rw [in9, ck_t, ck_t, I_A (k := 109), show (5 : Int32) = I 5 from rfl, decE r109.1 r109.2 (by omega) (by omega), show (1 : Int32) = I 1 from rfl, decE r109.1 r109.2 (by omega) (by omega), ck_t, ck_t, lt_e, lt_e, wa_e (k := 109)]
  have r9 : PER Fv AN T C pM pE ND CN PN SN UN FN (wa w2 109 p 0) := PER_fr r2 f9 (by decide) (by decide)
  have f29 : FR [3, 133, 151, 152, 164, 165] [] [109, 115] [] w (wa w2 109 p 0) := FR.tr (FR.mo f2 (by decide) (by decide) (by decide) (by decide)) (FR.mo f9 (by decide) (by decide) (by decide) (by decide))
  generalize wa w2 109 p 0 = w9 at *
  have pgm9 := PER_pgm r9 pr
  have k133 : F w9 133 = p := by rw [FR.F f9 (by decide)]; exact c133
  have k152 : F w9 152 = 0 := by rw [FR.F f9 (by decide)]; exact c152
  have kE : F w9 149 = F w9 150 ∧ F w9 151 = 0 := by rw [FR.F f9 (by decide), FR.F f9 (by decide), FR.F f9 (by decide), g149, g150]; exact ⟨rfl, c151⟩
  have k149 : F w9 149 = 0 := by rw [FR.F f9 (by decide)]; exact g149
  have k150 : F w9 150 = 0 := by rw [FR.F f9 (by decide)]; exact g150
  have k165 : F w9 165 = 0 := by rw [FR.F f9 (by decide)]; exact c165
  have k164 : F w9 164 = ((b : Nat) : Int) := by rw [FR.F f9 (by decide)]; exact c164
  refine ok_br.mpr ⟨fun z5 => ?_, fun z5 => ok_br.mpr ⟨fun z1 => ?_, fun z1 => ?_⟩⟩
  · have e5 := of_decide_eq_true z5
    obtain ⟨-, q2, q3, q4, q5, q6, hh, q7, q8, q9, q10⟩ : FRH w2 UN FN p := by
      rcases ps with ps | ⟨fr, ro, rn, rh, cb, pc, ct, q, -, -, -, -, -, -, -, -, h9⟩ | ps
      · omega
      · rcases h9 with h9 | ⟨h9, -⟩ <;> omega
      · exact ps
    obtain ⟨n, ow, kd, bx, ix⟩ := MEX_of (opM := 0) (bnM := hh) d9 hp k133 (by rw [FR.A f9 (by decide)]; exact q3) (by rw [FR.A f9 (by decide)]; exact q8)
    have i9 := MEX_i ix (by omega)
    have F9 : FRS w9 T ND p 1 (fun _ => 0) (fun _ => 0) (fun _ => hh) (fun _ => 0) (fun _ => 0) (fun _ => 0) 0 0 := ⟨⟨by omega, by omega, by rw [FR.A f9 (by decide)]; exact q2⟩, ⟨rfl, rfl, rfl⟩, fun i hi => by
      have i0 : i = 0 := by omega
      subst i0
      rw [FR.A f9 (by decide), FR.A f9 (by decide), FR.A f9 (by decide)]
      exact ⟨q6, q5, q9, q7, Nat.zero_le _, Nat.zero_le _, Nat.zero_le _⟩, fun i hi => by omega, fun j hj => absurd hj (Nat.not_lt_zero j)⟩
    rw [frame0_x (fr := 1) k133 (by omega) (by rw [FR.A f9 (by decide)]; exact q2) (by omega), bnd_so, show (60 * p + (1 - 1) : Nat) = 60 * p from by omega]
    have in96 : inb (I ((60 * p : Nat) : Int)) (ln 96) = true := inb_at (k := 96) (n := 1440) rfl (by omega) (by omega) (by decide)
    have t96 : (I ((60 * p : Nat) : Int)).toNatClampNeg = 60 * p := by rw [I_tn (by omega) (by omega), Int.toNat_natCast]
    rw [in96, ck_t, ck_t, t96]
    have run : ∀ (c rr : Nat), CLS C w9 CN 0 0 0 0 hh 0 0 rr ((c : Nat) : Int) → c < CN → OK (fun v _ => (∃ PR, REST Fv AN T ND UN FN PR v) ∧ CGR w v) (fb_M_go_163 N (gg_M_go N N) w9 (I p) (I c)) := fun c rr hc hcn => by
      have rr' : rr < 16000 := by
        obtain ⟨c', d1, d2, d3, d4, d5, d6, d7, d8, d9', d10⟩ := hc
        have := (r9.1.2.2.2.1 c' d2).2.1
        omega
      unfold fb_M_go_163
      refine ok_bnd.mpr (ok_mono (clausesOf_ok (N := N) (mu := 600000000000000) (b := 0) (c := c) (r := rr) (bn := 0) (h2 := 0) (fr := 1) (ro := fun _ => 0) (rn := fun _ => 0) (rh := fun _ => hh) (cb := fun _ => 0) (pc := fun _ => 0) (ct := fun _ => 0) pgm9 F9 (by rw [FR.A f9 (by decide)]; exact q4) p9 k152 (by rw [Nat.zero_add]; show MEI Fv (PQ AN PR) PR w9 p n ow kd 0 (0 + hh) bx; rw [Nat.zero_add]; exact i9) (by omega) hc (CLG_new (b := b) (e := 16002) k165 k164 hb (by show 0 + rr ≤ _; omega) (by omega)) kE (by omega)) (fun x _ hx => ?_))
      obtain ⟨g1, g2⟩ := RES_goi (b := 0) hx hp wl9 hT k149 k150
      exact rest' x g1 (FR.tr (FR.mo f29 (by decide) (by decide) (by decide) (by decide)) (FR.mo g2 (by decide) (by decide) (by decide) (by decide)))
    rcases q10 with ⟨y1, xx, y2, y3, y4, c, y5, y6⟩ | ⟨y1, ff, y2, y3, y4⟩
    · obtain ⟨aa, hd, rr, v1, v2, v3, v4, v5, c3⟩ := r9.1.2.2.2.2.2 xx y2
      have c3' := c3
      obtain ⟨c', d1, d2', d3, -⟩ := c3'
      have e53 : A w9 53 xx = ((c : Nat) : Int) := by rw [FR.A f9 (by decide)]; exact y5
      obtain rfl : c' = c := by omega
      have e41 : A w9 41 c' = 0 := by rw [FR.A f9 (by decide)]; exact y6
      have e54 : A w9 54 xx = ((hh : Nat) : Int) := by rw [FR.A f9 (by decide)]; exact y4
      obtain rfl : aa = 0 := by omega
      obtain rfl : hd = hh := by omega
      rw [I_A' (show A w9 96 (60 * p) = -1 by rw [FR.A f9 (by decide)]; exact y1)]
      refine ok_br.mpr ⟨fun _ => ?_, fun z => absurd rfl (of_decide_eq_false z)⟩
      rw [inb_at (k := 170) (n := 24) rfl (by omega) (by omega) (by decide), ck_t, I_A' (show A w9 170 p = ((xx : Nat) : Int) by rw [FR.A f9 (by decide)]; exact y3), inb_at (k := 53) (n := 1400) rfl (by omega) (by omega) (by decide), ck_t, I_tn (x := (xx : Int)) (by omega) (by omega), Int.toNat_natCast, I_A' e53]
      exact run c' rr (by rw [← e53]; exact c3) d2'
    · obtain ⟨aa, rr, v1, v2, c3⟩ := r9.1.2.2.2.2.1 ff y2
      have c3' := c3
      obtain ⟨c', d1, d2', d3, -⟩ := c3'
      have e48 : A w9 48 ff = 0 := by rw [FR.A f9 (by decide)]; exact y4
      obtain rfl : aa = 0 := by omega
      subst y1
      rw [I_A' (show A w9 96 (60 * p) = ((ff : Nat) : Int) by rw [FR.A f9 (by decide)]; exact y3), show (-(I 1) : Int32) = I (-1) from rfl, decE (by omega) (by omega) (by omega) (by omega), decide_eq_false (by omega), br_fq, inb_at (k := 50) (n := 1000) rfl (by omega) (by omega) (by decide), ck_t, I_tn (x := (ff : Int)) (by omega) (by omega), Int.toNat_natCast, I_A' d1]
      exact run c' rr (by rw [← d1]; exact c3) d2'
  · have e1 := of_decide_eq_true z1
    have fz : FRZ w2 T ND p := by
      rcases ps with ps | ps | ⟨ps, -⟩
      · omega
      · exact ps
      · omega
    obtain ⟨fr, ro, rn, rh, cb, pc, ct, q, n, ow, kd, bx, aq, hG, hs⟩ := FRZ_atq fz d2 hp c133 n3
    obtain ⟨s1, s2, s3, s4⟩ : A w2 109 p = 1 ∧ A w2 23 q = 27 ∧ (A w2 31 q = -1 → w2.2.2.2 111 p = -1) ∧ 0 ≤ A w2 110 p := by
      rcases hs with hs | hs
      · omega
      · exact hs
    obtain ⟨i, hF, a98, a4, a5, a6⟩ := aq
    have hf := hF.1
    obtain ⟨n', ow', kd', bx', ix⟩ := MEX_of (opM := ro (fr - 1) + tH T q) (bnM := rn (fr - 1) + rh (fr - 1) + tM T q) d9 hp k133 (by rw [FR.A f9 (by decide)]; exact i.2.2.2.2.2.2.2.2.2.1.1) (by rw [FR.A f9 (by decide)]; exact i.2.2.2.2.2.2.2.2.2.2.1.1)
    have aq9 : ATQ Fv (PQ AN PR) PR T ND p w9 fr ro rn rh cb pc ct q n' ow' kd' bx' := ⟨MEX_i ix (by omega), FRS_fr hF f9 (by decide) (by decide) (by decide) (by decide) (by decide) (by decide) (by decide) (by decide) (by decide) (by decide), by rw [FR.A f9 (by decide)]; exact a98, a4, a5, by rw [FR.A f9 (by decide)]; exact a6⟩
    have sRb : sR T pc (fr - 1) ≤ 16000 * (fr - 1) := sR_le (fr - 1) (fun j hj => (r2.1.2.2.1 _ (hF.2.2.2.1 j (by omega)).2.1).1.2.2.2.2.2.1.2)
    have tRb := (r2.1.2.2.1 q a4).1.2.2.2.2.2.1.2
    rw [frame0_x (fr := fr) k133 (by omega) (by rw [FR.A f9 (by decide)]; exact hf.2.2) ⟨hf.1, hf.2.1⟩, bnd_so]
    refine ok_ck.mpr ⟨inb_at (k := 98) (n := 1440) rfl (by omega) (by omega) (by decide), ?_⟩
    rw [I_tn (x := ((60 * p + (fr - 1) : Nat) : Int)) (by omega) (by omega), Int.toNat_natCast, I_A' aq9.2.2.1]
    refine ok_bnd.mpr (ok_mono (goOnWith_ok (N := N) (mu := 600000000000000) (C := C) (CN := CN) aq9 p9 k152 (CLG_new (b := b) (e := 0) k165 k164 hb (by omega) (by omega)) pgm9 hG (by rw [FR.A f9 (by decide)]; exact s2) (fun z => by rw [FR.A f9 (by decide)] at z; rw [f9.2.2.2 111 (by decide)]; exact s3 z) (by rw [FR.A f9 (by decide)]; exact s4) kE (by omega)) (fun x _ hx => ?_))
    obtain ⟨g1, g2⟩ := RES_goi (b := 0) hx hp wl9 hT k149 k150
    exact rest' x g1 (FR.tr (FR.mo f29 (by decide) (by decide) (by decide) (by decide)) (FR.mo g2 (by decide) (by decide) (by decide) (by decide)))
  · have e5 := of_decide_eq_false z5
    have e1 := of_decide_eq_false z1
    have fz : FRZ w2 T ND p := by
      rcases ps with ps | ps | ⟨ps, -⟩
      · omega
      · exact ps
      · omega
    obtain ⟨fr, ro, rn, rh, cb, pc, ct, q, n, ow, kd, bx, aq, hG, hs⟩ := FRZ_atq fz d2 hp c133 n3
    have s1 : A w2 109 p = 0 := by
      rcases hs with hs | ⟨hs, -⟩
      · exact hs
      · omega
    have hF := aq.2.1
    have hf := hF.1
    have a4 := aq.2.2.2.1
    have sRb : sR T pc (fr - 1) ≤ 16000 * (fr - 1) := sR_le (fr - 1) (fun j hj => (r2.1.2.2.1 _ (hF.2.2.2.1 j (by omega)).2.1).1.2.2.2.2.2.1.2)
    have tRb := (r2.1.2.2.1 q a4).1.2.2.2.2.2.1.2
    refine rest' w2 ⟨PR, hp, Or.inr (Or.inr (Or.inr ⟨599999999999999, by omega, fr, ro, rn, rh, cb, pc, ct, q, n, ow, kd, bx, aq, s1, Or.inl ⟨hG, c152, ?_⟩⟩)), wl2, fun _ _ => by rw [g149, g150]⟩ (FR.mo f2 (by decide) (by decide) (by decide) (by decide))
    refine ⟨by omega, by omega, by omega, ?_⟩
    rw [c164, c165]
    omega
theorem go_ok {a b : Int32} (h : F w 87 = 0 ∨ (∃ PR, REST Fv AN T ND UN FN PR w) ∧ PER Fv AN T C pM pE ND CN PN SN UN FN w) (hN : 700000000000000 < N) : OK (fun v _ => FR [3] [] [] [] w v ∨ (F w 87 ≠ 0 ∧ (∃ PR, REST Fv AN T ND UN FN PR v) ∧ CGR w v)) (fm_M_go N w a b) := by
  unfold fm_M_go fb_M_go_0 fb_M_go_12 fb_M_go_56 fb_M_go_60
  have bad : ∀ (x y t : Int32), t ≠ 0 → OK (fun v _ => FR [3] [] [] [] w v ∨ (F w 87 ≠ 0 ∧ (∃ PR, REST Fv AN T ND UN FN PR v) ∧ CGR w v)) (fb_M_go_61 N (gg_M_go N N) w x y t) := fun x y t ht => by
    unfold fb_M_go_61
    refine ok_lt.mpr (ok_br.mpr ⟨fun z => absurd (of_decide_eq_true z) ht, fun _ => ok_some.mpr (Or.inl ?_)⟩)
    rw [I_of t, wi_e]
    exact FR.wi FR.rf (by decide)
  have b1 := bad a b 1 (by decide)
  have b2 := bad a b 2 (by decide)
  have b3 := bad a b 3 (by decide)
  have rb := ti_rng b
  refine ok_br.mpr ⟨fun _ => b1, fun z0 => ok_br.mpr ⟨fun z500 => ?_, fun _ => b1⟩⟩
  obtain ⟨PR, hPR⟩ : ∃ PR : Nat, F w 87 ≠ 0 → REST Fv AN T ND UN FN PR w ∧ PER Fv AN T C pM pE ND CN PN SN UN FN w := by
    rcases h with h | ⟨⟨PR, h1⟩, h2⟩
    · exact ⟨0, fun z => absurd h z⟩
    · exact ⟨PR, fun _ => ⟨h1, h2⟩⟩
  refine ok_bnd.mpr (ok_mono (isProcess_ok (N := N) (PR := PR) (fun z => (hPR z).1.1.1)) (fun v r hv => ?_))
  obtain ⟨v1, v2⟩ := hv
  subst v1
  refine ok_br.mpr ⟨fun _ => b2, fun zr => ?_⟩
  obtain ⟨n87, p, hp, ea⟩ : F v 87 ≠ 0 ∧ ∃ p : Nat, p < PR ∧ a = I p := by
    rcases v2 with v2 | ⟨-, v2⟩
    · exact absurd v2 (of_decide_eq_false zr)
    · exact v2
  obtain ⟨rest, per⟩ := hPR n87
  have pr := rest.1.1.2
  have e0 : b = I b.toInt := I_of b
  rw [e0, lit0q, decL rb.1 rb.2 (by omega) (by omega)] at z0
  rw [e0, lit500, decI rb.1 rb.2 (by omega) (by omega)] at z500
  have c0 := of_decide_eq_false z0
  have c5 := of_decide_eq_true z500
  have eb : b = I ((b.toInt.toNat : Nat) : Int) := by rw [show ((b.toInt.toNat : Nat) : Int) = b.toInt from by omega]; exact e0
  rw [ea] at b1 b2 b3 ⊢
  have in9 : inb (I (p : Int)) (ln 109) = true := inb_at (k := 109) (n := 24) rfl (by omega) (by omega) (by decide)
  have t9 : (I (p : Int)).toNatClampNeg = p := by rw [I_tn (by omega) (by omega), Int.toNat_natCast]
  rw [in9, ck_t, ck_t, t9]
  have r9 := A_r v 109 p
  have go : A v 109 p ≠ 3 → OK (fun w2 _ => FR [3] [] [] [] v w2 ∨ (F v 87 ≠ 0 ∧ (∃ PR, REST Fv AN T ND UN FN PR w2) ∧ CGR v w2)) (fb_M_go_61 N (gg_M_go N N) v (I p) b 0) := fun h3 => by
    rw [eb]
    exact ok_mono (go_start (N := N) (i6 := v) hp (by omega) rest per h3 hN) (fun y _ hy => Or.inr ⟨n87, hy⟩)
  rw [I_A (k := 109), show (3 : Int32) = I 3 from rfl, decE r9.1 r9.2 (by omega) (by omega)]
  refine ok_br.mpr ⟨fun _ => b3, fun z3 => ok_br.mpr ⟨fun _ => ?_, fun _ => go (of_decide_eq_false z3)⟩⟩
  refine ok_bnd.mpr (ok_mono (mayGo_ok (N := N) (w := v) (by omega)) (fun x r hx => ?_))
  subst hx
  exact ok_br.mpr ⟨fun _ => b3, fun _ => go (of_decide_eq_false z3)⟩
end
