section
variable {Fv : Int64 → Int64 → Prop} {P P2 : Int64 → Prop} {u v w w2 x y : MS} {PR PR2 N p n n2 opM bnM bxM bx2 ND fr k tp mu CN PN SN UN FN rq q m h mm AN z j : Nat} {ow kd ow2 kd2 ro rn rh cb pc ct pM pE : Nat → Nat} {T : TY} {C : CY}
theorem PSX_95 (h : PSX w T ND UN FN p) (h3 : A w 109 p ≠ 3) : ∃ f r o : Nat, A w 95 p = ((f : Nat) : Int) ∧ 1 ≤ f ∧ f ≤ 60 ∧ A w 99 (60 * p + (f - 1)) = ((r : Nat) : Int) ∧ A w 100 (60 * p + (f - 1)) = ((o : Nat) : Int) ∧ (r : Int) ≤ A w 94 p ∧ (o : Int) ≤ A w 92 p := by
  rcases h with h | ⟨fr, ro, rn, rh, cb, pc, ct, q, h1, h2, h3', h4, h5, h6, h7, -⟩ | ⟨h1, h2, h3', h4, h5, h6, x, h7, h8, -⟩
  · exact absurd h h3
  · have hf := h1.1
    have top := h1.2.2.1 (fr - 1) (by omega)
    exact ⟨fr, rn (fr - 1), ro (fr - 1), hf.2.2, hf.1, hf.2.1, top.2.1, top.1, by omega, by omega⟩
  · exact ⟨1, 0, 0, by rw [h2]; rfl, by omega, by omega, by rw [show 60 * p + (1 - 1) = 60 * p from by omega, h5]; rfl, by rw [show 60 * p + (1 - 1) = 60 * p from by omega, h6]; rfl, by omega, by omega⟩
theorem frame1_ok {a b c : Int32} (h : F w 87 ≠ 0 → REST Fv AN T ND UN FN PR w) (h44 : ∀ i, 0 ≤ A w 44 i ∧ A w 44 i < 4002) : OK (fun v _ => FR [3] [] [] [] w v) (fm_M_frame1 N w a b c) := by
  unfold fm_M_frame1 fb_M_frame1_0 fb_M_frame1_46
  refine ok_lt.mpr ?_
  rw [three]
  have y : ∀ t : Int32, OK (fun v _ => FR [3] [] [] [] w v) (some (wi w 3 0, t)) := fun t => ok_some.mpr f3
  refine ok_bnd.mpr (ok_mono (isP (N := N) (PR := PR) (a := a) (fun z => (h z).1.1)) (fun v r hv => ?_))
  obtain ⟨v1, v2⟩ := hv
  subst v1
  refine ok_br.mpr ⟨fun _ => y _, fun zr => ?_⟩
  obtain ⟨n87, p, hp, ea⟩ : F w 87 ≠ 0 ∧ ∃ p : Nat, p < PR ∧ a = I p := by
    rcases v2 with v2 | ⟨-, v2⟩
    · exact absurd v2 (of_decide_eq_false zr)
    · exact v2
  obtain ⟨d, hw, -, -⟩ := h n87
  have pr := d.1.2
  have i : ∀ k n, ln k = n → 24 ≤ n → n < 2147483648 → inb (I (p : Int)) (ln k) = true := fun k n hk h1 h2 => inb_at hk (by omega) (by omega) h2
  have tp : (I (p : Int)).toNatClampNeg = p := by rw [I_tn (by omega) (by omega), Int.toNat_natCast]
  rw [ea, i 109 24 rfl (by decide) (by decide), ck_t, show (wi w 3 0).2.2.1 = w.2.2.1 from rfl, tp, I_A (k := 109)]
  have r9 := A_r w 109 p
  rw [show (3 : Int32) = I 3 from rfl, decE r9.1 r9.2 (by omega) (by omega)]
  refine ok_br.mpr ⟨fun _ => y _, fun z3 => ok_br.mpr ⟨fun _ => y _, fun z0 => ?_⟩⟩
  obtain ⟨f, r, o, e95, e1, e2, e99, e100, -, -⟩ := PSX_95 (hw.2.2.2.2.2.2 p hp (by omega)) (of_decide_eq_false z3)
  have rb := ti_rng b
  have eb : b = I b.toInt := I_of b
  rw [eb, lit0q, decL rb.1 rb.2 (by omega) (by omega)] at z0
  have c0 := of_decide_eq_false z0
  obtain ⟨j, hj⟩ : ∃ j : Nat, b.toInt = j := ⟨b.toInt.toNat, by omega⟩
  rw [hj] at eb
  rw [eb, i 95 24 rfl (by decide) (by decide), ck_t, I_A' e95, decI (by omega) (by omega) (by omega) (by omega)]
  refine ok_br.mpr ⟨fun _ => y _, fun zj => ok_br.mpr ⟨fun _ => y _, fun _ => ok_br.mpr ⟨fun _ => ?_, fun _ => y _⟩⟩⟩
  have zj' := of_decide_eq_false zj
  rw [ck_t, lt_e, lit1q, I_sub, I_sub, show (60 : Int32) = I 60 from rfl, I_mul, I_add, show (p : Int) * 60 + ((f : Int) - 1 - (j : Int)) = ((60 * p + (f - 1 - j) : Nat) : Int) from by omega]
  have in6 : ∀ k, ln k = 1440 → inb (I ((60 * p + (f - 1 - j) : Nat) : Int)) (ln k) = true := fun k hk => inb_at hk (by omega) (by omega) (by decide)
  rw [in6 96 rfl, in6 97 rfl, ck_t, ck_t, ck_t]
  unfold fb_M_frame1_118 fb_M_frame1_141 fb_M_frame1_165 fb_M_frame1_195
  refine ok_br.mpr ⟨fun _ => y _, fun _ => ok_br.mpr ⟨fun _ => ok_br.mpr ⟨fun _ => y _, fun z97 => ?_⟩, fun _ => ?_⟩⟩
  · rw [I_tn (x := ((60 * p + (f - 1 - j) : Nat) : Int)) (by omega) (by omega), Int.toNat_natCast] at z97 ⊢
    have k97 := hw.2.2.2.2.1 (60 * p + (f - 1 - j))
    have n97 : A w 97 (60 * p + (f - 1 - j)) ≠ -1 := fun e => of_decide_eq_false z97 (by rw [I_A' e]; rfl)
    obtain ⟨c', hc'⟩ : ∃ c' : Nat, A w 97 (60 * p + (f - 1 - j)) = c' := ⟨(A w 97 (60 * p + (f - 1 - j))).toNat, by omega⟩
    rw [I_A' hc']
    refine ok_ck.mpr ⟨inb_at (k := 44) (n := 1400) rfl (by omega) (by omega) (by decide), ?_⟩
    have k44 := h44 c'
    rw [I_tn (x := (c' : Int)) (by omega) (by omega), Int.toNat_natCast, I_A (k := 44)]
    exact ok_ck.mpr ⟨inb_at (k := 8) (n := 4002) rfl (by omega) (by omega) (by decide), y _⟩
  · skip
    rw [lit0q, decE (by omega) (by omega) (by omega) (by omega)]
    refine ok_br.mpr ⟨fun z => ok_ck.mpr ⟨i 94 24 rfl (by decide) (by decide), ok_br.mpr ⟨fun _ => ok_ck.mpr ⟨i 92 24 rfl (by decide) (by decide), ok_br.mpr ⟨fun _ => ok_ck.mpr ⟨in6 99 rfl, y _⟩, fun _ => ok_ck.mpr ⟨in6 100 rfl, y _⟩⟩⟩, fun z2 => ?_⟩⟩, fun z => ?_⟩
    · rw [z] at z2; exact absurd z2 (by decide)
    · have jn : j ≠ 0 := by have := of_decide_eq_false z; omega
      rw [z, br_fq, I_add, lit1q, I_add]
      refine ok_ck.mpr ⟨inb_at (k := 99) (n := 1440) rfl (by omega) (by omega) (by decide), ok_ck.mpr ⟨inb_at (k := 100) (n := 1440) rfl (by omega) (by omega) (by decide), ?_⟩⟩
      exact ok_br.mpr ⟨fun _ => ok_ck.mpr ⟨in6 99 rfl, y _⟩, fun _ => ok_ck.mpr ⟨in6 100 rfl, y _⟩⟩
theorem sh_loop {L : Nat} (hL : L ≤ 100) : ∀ (m k : Nat) (w : MS), k ≤ L → L - k < m → F w 144 = ((L : Nat) : Int) → OK (fun v _ => FR [130] [] [129] [] w v ∧ 0 ≤ F v 130 ∧ F v 130 ≤ 100) ((gg_M_show N m).2 w (I k)) := by
  intro m
  induction m with
  | zero => intro k w _ h; omega
  | succ m ih =>
    intro k w hk hm h144
    show OK _ (fb_M_show_263 N (gg_M_show N m) w (I k))
    unfold fb_M_show_263
    rw [I_F' h144, decI (by omega) (by omega) (by omega) (by omega)]
    refine ok_br.mpr ⟨fun _ => ok_lt.mpr (ok_some.mpr ?_), fun zz => ?_⟩
    · rw [wi_e]
      exact ⟨FR.wi FR.rf (by decide), by rw [F_wi (by omega) (by omega), if_pos rfl]; omega, by rw [F_wi (by omega) (by omega), if_pos rfl]; omega⟩
    · have zz' := of_decide_eq_false zz
      refine ok_ck.mpr ⟨inb_at (k := 143) (n := 100) rfl (by omega) (by omega) (by decide), ok_ck.mpr ⟨inb_at (k := 129) (n := 100) rfl (by omega) (by omega) (by decide), ok_lt.mpr ?_⟩⟩
      rw [I_of (vp_nar .byte (w.2.2.1 143 (I (k : Int)).toNatClampNeg)), wa_e, lit1q, I_add, show (k : Int) + 1 = ((k + 1 : Nat) : Int) from by omega]
      exact ok_mono (ih (k + 1) _ (by omega) (by omega) h144) (fun v _ hv => ⟨FR.tr (FR.wa FR.rf (by decide)) hv.1, hv.2⟩)
theorem sr_loop {L : Nat} (hL : L ≤ 100) (hp : p < 24) : ∀ (m k : Nat) (w : MS), k ≤ L → L - k < m → A w 132 p = ((L : Nat) : Int) → OK (fun v _ => FR [130] [] [129] [] w v ∧ 0 ≤ F v 130 ∧ F v 130 ≤ 100) ((gg_M_show N m).1 w (I p) (I k)) := by
  intro m
  induction m with
  | zero => intro k w _ h; omega
  | succ m ih =>
    intro k w hk hm h132
    show OK _ (fb_M_show_43 N (gg_M_show N m) w (I p) (I k))
    unfold fb_M_show_43
    refine ok_ck.mpr ⟨inb_at (k := 132) (n := 24) rfl (by omega) (by omega) (by decide), ?_⟩
    rw [I_tn (x := (p : Int)) (by omega) (by omega), Int.toNat_natCast, I_A' h132, decI (by omega) (by omega) (by omega) (by omega)]
    refine ok_br.mpr ⟨fun _ => ok_ck.mpr ⟨inb_at (k := 132) (n := 24) rfl (by omega) (by omega) (by decide), ok_lt.mpr (ok_some.mpr ?_)⟩, fun zz => ?_⟩
    · rw [wi_e]
      exact ⟨FR.wi FR.rf (by decide), by rw [F_wi (by omega) (by omega), if_pos rfl]; omega, by rw [F_wi (by omega) (by omega), if_pos rfl]; omega⟩
    · have zz' := of_decide_eq_false zz
      rw [show (100 : Int32) = I 100 from rfl, I_mul, I_add]
      refine ok_ck.mpr ⟨inb_at (k := 131) (n := 2400) rfl (by omega) (by omega) (by decide), ok_ck.mpr ⟨inb_at (k := 129) (n := 100) rfl (by omega) (by omega) (by decide), ok_lt.mpr ?_⟩⟩
      rw [I_of (vp_nar .byte _), wa_e, lit1q, I_add, show (k : Int) + 1 = ((k + 1 : Nat) : Int) from by omega]
      exact ok_mono (ih (k + 1) _ (by omega) (by omega) (by rw [A_ne (by decide)]; exact h132)) (fun v _ hv => ⟨FR.tr (FR.wa FR.rf (by decide)) hv.1, hv.2⟩)
def SHR (u w : MS) : Prop := FR [3, 130, 144] [] [129, 143] [141] u w ∧ ((0 ≤ F u 130 ∧ F u 130 ≤ 100) → 0 ≤ F w 130 ∧ F w 130 ≤ 100)
set_option maxRecDepth 100000 in
theorem show_ok {a b c : Int32} (h : F w 87 ≠ 0 → REST Fv AN T ND UN FN PR w ∧ PER Fv AN T C pM pE ND CN PN SN UN FN w) (hN : 11000000 ≤ N) : OK (fun v _ => SHR w v) (fm_M_show N w a b c) := by
  unfold fm_M_show fb_M_show_0 fb_M_show_17 fb_M_show_38 fb_M_show_113
  refine ok_lt.mpr ?_
  rw [three]
  have y0 : SHR w (wi w 3 0) := ⟨FR.mo f3 (by decide) (by decide) (by decide) (by decide), fun z => by rw [FR.F f3 (by decide)]; exact z⟩
  have y : ∀ t : Int32, OK (fun v _ => SHR w v) (some (wi w 3 0, t)) := fun t => ok_some.mpr y0
  refine ok_bnd.mpr (ok_mono (isP (N := N) (PR := PR) (a := a) (fun z => (h z).1.1.1)) (fun v r hv => ?_))
  obtain ⟨v1, v2⟩ := hv
  subst v1
  refine ok_br.mpr ⟨fun _ => y _, fun zr => ok_br.mpr ⟨fun z0 => ?_, fun _ => y _⟩⟩
  obtain ⟨n87, p, hpp, ea⟩ : F w 87 ≠ 0 ∧ ∃ p : Nat, p < PR ∧ a = I p := by
    rcases v2 with v2 | ⟨-, v2⟩
    · exact absurd v2 (of_decide_eq_false zr)
    · exact v2
  obtain ⟨⟨d, hw, -, -⟩, per⟩ := h n87
  have pr := d.1.2
  have i : ∀ k n, ln k = n → 24 ≤ n → n < 2147483648 → inb (I (p : Int)) (ln k) = true := fun k n hk h1 h2 => inb_at hk (by omega) (by omega) h2
  have tp : (I (p : Int)).toNatClampNeg = p := by rw [I_tn (by omega) (by omega), Int.toNat_natCast]
  have rc := ti_rng c
  have ec : c = I c.toInt := I_of c
  rw [ec, lit0q, decI (by omega) (by omega) rc.1 rc.2] at z0
  have c0 := of_decide_eq_true z0
  obtain ⟨j, hj⟩ : ∃ j : Nat, c.toInt = j := ⟨c.toInt.toNat, by omega⟩
  rw [hj] at ec
  have jl : j < 2147483648 := by omega
  have r9 := A_r w 109 p
  rw [ea, ec, i 109 24 rfl (by decide) (by decide), ck_t, ck_t, show (wi w 3 0).2.2.1 = w.2.2.1 from rfl, tp, I_A (k := 109)]
  have k132 := hw.2.2.2.2.2.1 p
  refine ok_br.mpr ⟨fun _ => ok_br.mpr ⟨fun _ => ok_br.mpr ⟨fun _ => ?_, fun _ => y _⟩, fun _ => y _⟩, fun _ => ok_br.mpr ⟨fun _ => y _, fun z3 => ok_br.mpr ⟨fun _ => y _, fun _ => ok_br.mpr ⟨fun _ => ?_, fun _ => y _⟩⟩⟩⟩
  · obtain ⟨L, hL⟩ : ∃ L : Nat, A w 132 p = L := ⟨(A w 132 p).toNat, by omega⟩
    rw [show (0 : Int32) = I ((0 : Nat) : Int) from rfl]
    refine ok_mono (sr_loop (N := N) (L := L) (by omega) (by omega) N 0 (wi w 3 0) (by omega) (by omega) (by rw [FR.A f3 (by decide)]; exact hL)) (fun v _ hv => ⟨FR.tr (FR.mo f3 (by decide) (by decide) (by decide) (by decide)) (FR.mo hv.1 (by decide) (by decide) (by decide) (by decide)), fun _ => hv.2⟩)
  · have n3 : A w 109 p ≠ 3 := fun e => of_decide_eq_false z3 (by rw [e]; rfl)
    obtain ⟨f, r, o, e95, e1, e2, e99, e100, e94, e92⟩ := PSX_95 (hw.2.2.2.2.2.2 p hpp (by omega)) n3
    obtain ⟨n, ow, kd, o2, b2, bx, a89, x1, x2, x3, x4, x5, x6, x7, x8, x9, x10, x11⟩ := d.2.1 p hpp
    have y257 : ∀ t : Int64, GT n ow kd (PQ AN PR) t → OK (fun v _ => SHR w v) (fb_M_show_257 N (gg_M_show N N) (wi w 3 0) (I p) t) := fun t gt => by
      unfold fb_M_show_257
      have hpz : hp (wi w 3 0) p = hp w p := rfl
      refine ok_bnd.mpr (ok_mono (write_ok (N := N) (o := p) (by omega) x3 (by rw [hpz]; exact x2) (ATM_fr per.2.2.1 f3 (by decide) (by decide)) (PA_fr (PER_pa per) f3 (by decide)) PQ_s gt hN) (fun v _ hv => ?_))
      obtain ⟨v1, v2, v3⟩ := hv
      obtain ⟨L, hL⟩ : ∃ L : Nat, F v 144 = L := ⟨(F v 144).toNat, by omega⟩
      rw [show (0 : Int32) = I ((0 : Nat) : Int) from rfl]
      exact ok_mono (sh_loop (N := N) (L := L) (by omega) N 0 v (by omega) (by omega) hL) (fun x _ hx => ⟨FR.tr (FR.mo f3 (by decide) (by decide) (by decide) (by decide)) (FR.tr (FR.mo v1 (by decide) (by decide) (by decide) (by decide)) (FR.mo hx.1 (by decide) (by decide) (by decide) (by decide))), fun _ => hx.2⟩)
    rw [i 95 24 rfl (by decide) (by decide), ck_t, lt_e, I_A' e95, show (60 : Int32) = I 60 from rfl, I_mul, I_add, lit1q, I_sub, show (p : Int) * 60 + (f : Int) - 1 = ((60 * p + (f - 1) : Nat) : Int) from by omega]
    have in6 : ∀ k, ln k = 1440 → inb (I ((60 * p + (f - 1) : Nat) : Int)) (ln k) = true := fun k hk => inb_at hk (by omega) (by omega) (by decide)
    have t6 : (I ((60 * p + (f - 1) : Nat) : Int)).toNatClampNeg = 60 * p + (f - 1) := by rw [I_tn (by omega) (by omega), Int.toNat_natCast]
    rw [i 108 24 rfl (by decide) (by decide), i 94 24 rfl (by decide) (by decide), i 92 24 rfl (by decide) (by decide), in6 99 rfl, in6 100 rfl, ck_t, ck_t, ck_t, ck_t, ck_t, t6, I_A' e99, I_A' e100, I_A' x5.1, I_A' x6.1, I_A' x7.1, I_sub, I_sub]
    unfold fb_M_show_179
    rw [in6 99 rfl, in6 100 rfl, ck_t, ck_t, t6, show (wi w 3 0).2.2.1 = w.2.2.1 from rfl, show (wi w 3 0).2.2.2 = w.2.2.2 from rfl, I_A' e99, I_A' e100, show (30 : Int32) = I 30 from rfl, I_mul, I_add, show (2500 : Int32) = I 2500 from rfl, I_mul, I_add, I_add, show (46000 : Int32) = I 46000 from rfl, I_mul, I_add, I_add, decL (by omega) (by omega) (by omega) (by omega), decL (by omega) (by omega) (by omega) (by omega), decL (by omega) (by omega) (by omega) (by omega)]
    refine ok_br.mpr ⟨fun w0 => ok_br.mpr ⟨fun zj => ok_br.mpr ⟨fun _ => ?_, fun q0 => ?_⟩, fun _ => y _⟩, fun n0 => ok_br.mpr ⟨fun w1 => ok_br.mpr ⟨fun zj => ok_br.mpr ⟨fun q0 => ?_, fun _ => ok_br.mpr ⟨fun _ => ?_, fun q1 => ?_⟩⟩, fun _ => y _⟩, fun n1 => ok_br.mpr ⟨fun zj => ok_br.mpr ⟨fun q0 => ?_, fun _ => ok_br.mpr ⟨fun q1 => ?_, fun _ => ?_⟩⟩, fun _ => y _⟩⟩⟩
    · have zj' := of_decide_eq_true zj
      refine ok_ck.mpr ⟨inb_at (k := 107) (n := 720) rfl (by omega) (by omega) (by decide), ?_⟩
      rw [I_tn (by omega) (by omega), show ((p : Int) * 30 + (j : Int)).toNat = 30 * p + j from by omega]
      exact y257 _ (x10 j (by omega))
    · rw [w0] at q0; exact absurd q0 (by decide)
    · rw [n0] at q0; exact absurd q0 (by decide)
    · have zj' := of_decide_eq_true zj
      refine ok_ck.mpr ⟨inb_at (k := 93) (n := 60000) rfl (by omega) (by omega) (by decide), ?_⟩
      rw [I_tn (by omega) (by omega), show ((p : Int) * 2500 + (r : Int) + (j : Int)).toNat = 2500 * p + (r + j) from by omega]
      exact y257 _ (x9 _ (by omega))
    · exact absurd (of_decide_eq_true w1) (of_decide_eq_false q1)
    · rw [n0] at q0; exact absurd q0 (by decide)
    · exact absurd (of_decide_eq_true q1) (of_decide_eq_false n1)
    · have zj' := of_decide_eq_true zj
      refine ok_ck.mpr ⟨inb_at (k := 91) (n := 1104000) rfl (by omega) (by omega) (by decide), ?_⟩
      rw [I_tn (by omega) (by omega), show ((p : Int) * 46000 + (o : Int) + (j : Int)).toNat = 46000 * p + (o + j) from by omega]
      exact y257 _ (x8 _ (by omega))
end
