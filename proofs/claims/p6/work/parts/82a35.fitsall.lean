section
variable {Fv : Int64 → Int64 → Prop} {P : Int64 → Prop} {w w2 : MS} {PR N p n opM bnM bxM SN PN L : Nat} {ow kd pM pE : Nat → Nat}
theorem chi_up {e q m : Nat} (h1 : ∀ k, k < m → chi pE q k < e) (hq : ∀ k, q ≤ k → k < e → k < pE k) : ∀ k, k ≤ m → q + k ≤ chi pE q k := by
  intro k
  induction k with
  | zero => intro _; exact Nat.le_refl _
  | succ k ih =>
    intro hk
    have a := ih (by omega)
    have := hq _ (by omega) (h1 k (by omega))
    show q + (k + 1) ≤ pE (chi pE q k)
    omega
theorem chi_gap {e q m : Nat} (h0 : chi pE q m = e) (h1 : ∀ k, k < m → chi pE q k < e) (hq : ∀ k, q ≤ k → k < e → k < pE k) : ∀ d k, k + d = m → chi pE q k + d ≤ e := by
  intro d
  induction d with
  | zero => intro k hk; rw [show k = m from hk, h0]; exact Nat.le_refl _
  | succ d ih =>
    intro k hk
    have a := ih (k + 1) (by omega)
    have b := chi_up h1 hq k (by omega)
    have := hq _ (by omega) (h1 k (by omega))
    have e2 : chi pE q (k + 1) = pE (chi pE q k) := rfl
    omega
theorem parts1_ok {q many : Nat} {x : Int64} (i : MEI Fv P PR w p n ow kd opM bnM bxM) (hw : PW w pM pE PN SN L q) (hPN : PN ≤ 2900) (hk : A w 33 q = 5 ∨ A w 33 q = 6) (hin : ∀ k, q < k → k < pE q → k < pE k) (hmany : many ≤ 2900) (gx : GT n ow kd P x) (hN : 100 ≤ N) :
    OK (fun w2 y => (y = I (-1) ∧ FR [] [] [160, 162] [161, 163] w w2) ∨ ∃ m, m ≤ 9 ∧ y = I ((many + m : Nat) : Int) ∧ PSH n ow kd P pE (q + 1) m many w w2 ∧ chi pE (q + 1) m = pE q ∧ ∀ k, k < m → chi pE (q + 1) k < pE q) (fm_M_parts1 N w (I q) x (I many)) := by
  have x4 := MEI_p i
  have x3 := i.2.2.2.2.2.2.2.1
  have g := i.2.2.2.2.2.2.1
  have rx := so_r x
  obtain ⟨w1, w2', w3, w4, -, -, -, -, w5, w6⟩ := hw
  unfold fm_M_parts1 fb_M_parts1_0 fb_M_parts1_49
  rw [inb_at (k := 33) (n := 5000) rfl (by omega) (by omega) (by decide), ck_t, I_tn (by omega) (by omega), Int.toNat_natCast, I_A (k := 33), show (5 : Int32) = I 5 from rfl, decE (by omega) (by omega) (by omega) (by omega), litm1q]
  by_cases e5 : A w 33 q = 5
  · obtain ⟨-, m, h35, hm, ⟨c0, c1, c2⟩, c3⟩ := w5 e5
    rw [decide_eq_true e5, br_tq, sortOf_e, bnd_so, decE rx.1 rx.2 (by omega) (by omega)]
    by_cases hx : so x = 5
    · have hxh : isH x := Or.inr (Or.inl hx)
      obtain ⟨bk, -⟩ := HP_bk g hxh gx
      have bp := blk_pos (h := hp w p) hxh
      have bn := bk.2.2.2.1
      have vx : va x = (vn x : Int) := by have := bk.1; unfold vn; omega
      rw [decide_eq_true hx, br_tq, valueOf_e, bnd_so, I_F' i.2.2.1, vx, cell_e (by omega) (by omega), bnd_so, inb_at (k := 35) (n := 5000) rfl (by omega) (by omega) (by decide), ck_t, inb_at (k := 36) (n := 5000) rfl (by omega) (by omega) (by decide), ck_t]
      refine ok_br.mpr ⟨fun h => ?_, fun _ => ok_some.mpr (Or.inl ⟨rfl, FR.rf⟩)⟩
      have hcell : hp w p (vn x) = (w.2.2.1 35 q).toInt64 := by
        have := of_decide_eq_true h
        unfold lg_cmp at this
        by_cases z1 : hp w p (vn x) > (w.2.2.1 35 q).toInt64
        · rw [if_pos z1] at this; exact absurd this (by decide)
        · rw [if_neg z1] at this
          by_cases z2 : hp w p (vn x) = (w.2.2.1 35 q).toInt64
          · exact z2
          · rw [if_neg z2] at this; exact absurd this (by decide)
      have hbl : blk (hp w p) x = 1 + m := by
        unfold blk
        rw [hx]
        simp
        rw [hcell, I_A' h35]
        unfold vn
        rw [va_nat (by omega)]
        omega
      rw [lt_e, lit0q]
      have hc0 : A w 36 q = (if 0 < m then ((chi pE (q + 1) 0 : Nat) : Int) else -1) := by
        rcases c3 with ⟨z1, z2⟩ | ⟨z1, z2, -⟩
        · rw [if_neg (by omega)]; exact z2
        · rw [if_pos z1]; exact z2
      rw [I_A' hc0]
      refine ok_mono (p59 (N := N) (pE := pE) (q := q + 1) i hm hmany (fun k hk2 => by have := c1 k hk2; omega) c2 (fun hz => by
        rcases c3 with ⟨z1, -⟩ | ⟨-, -, z3⟩
        · omega
        · exact z3) hx gx hbl N 0 w (Nat.zero_le _) (by omega) FR.rf (fun _ _ => ⟨rfl, rfl⟩) (fun k hk2 => absurd hk2 (Nat.not_lt_zero _))) (fun v y h => Or.inr ⟨m, by omega, h.1, h.2, c0, c1⟩)
    · rw [decide_eq_false hx, br_fq]
      exact ok_some.mpr (Or.inl ⟨rfl, FR.rf⟩)
  · have e6 : A w 33 q = 6 := by rcases hk with z | z; exact absurd z e5; exact z
    obtain ⟨-, m, h35, hm, ht, ⟨c0, c1, c2⟩, c3⟩ := w6 e6
    rw [decide_eq_false e5, br_fq, inb_at (k := 36) (n := 5000) rfl (by omega) (by omega) (by decide), ck_t, I_A (k := 36), lit0q]
    have h36 := A_r w 36 q
    by_cases e38 : A w 38 q = 0
    · rw [if_pos e38] at c0 c1 c2
      refine ok_mono (p128 (N := N) (pE := pE) (q0 := q) (q := q + 1) (m := m) (tl := 0) i hm (by omega) h35 (Or.inl ⟨e38, rfl⟩) hmany (fun k hk2 => by have := c1 k hk2; omega) c2 N 0 w x (A w 36 q) (Nat.zero_le _) (by omega) FR.rf (fun _ _ => ⟨rfl, rfl⟩) (fun k hk2 => absurd hk2 (Nat.not_lt_zero _)) gx (fun hz => by
        rcases c3 with z | z
        · omega
        · exact z) h36) (fun v y h => ?_)
      rcases h with h | h
      · exact Or.inl h
      · exact Or.inr ⟨m, by omega, h.1, h.2, c0, c1⟩
    · rw [if_neg e38] at c0 c1 c2
      refine ok_mono (p128 (N := N) (pE := pE) (q0 := q) (q := q + 1) (m := m) (tl := 1) i hm (by omega) h35 (Or.inr ⟨e38, rfl⟩) hmany (fun k hk2 => by have := c1 k hk2; omega) c2 N 0 w x (A w 36 q) (Nat.zero_le _) (by omega) FR.rf (fun _ _ => ⟨rfl, rfl⟩) (fun k hk2 => absurd hk2 (Nat.not_lt_zero _)) gx (fun hz => by
        rcases c3 with z | z
        · rcases ht with t | t
          · exact absurd t e38
          · omega
        · exact z) h36) (fun v y h => ?_)
      rcases h with h | h
      · exact Or.inl h
      · exact Or.inr ⟨m + 1, by omega, h.1, h.2, c0, c1⟩
def TRY (w : MS) (pE : Nat → Nat) (n : Nat) (ow kd : Nat → Nat) (P : Int64 → Prop) (p0 e many c : Nat) : Prop := (many = 0 → c = e) ∧ (0 < many → A w 160 (many - 1) = ((c : Nat) : Int)) ∧ ∀ i, i < many → ∃ q : Nat, A w 160 i = q ∧ p0 ≤ q ∧ q < e ∧ (i = 0 → pE q = e) ∧ (0 < i → A w 160 (i - 1) = ((pE q : Nat) : Int)) ∧ i + 1 + q ≤ e ∧ GT n ow kd P (w.2.2.2 161 i)
def FQ (p : Nat) (w v : MS) : Prop := FR [] [] [94, 160, 162] [93, 141, 161, 163] w v ∧ ∀ z, z ≠ p → A v 94 z = A w 94 z
theorem fits_loop {p0 e fr rn rh : Nat} (hPN : PN ≤ 2900) (heP : e ≤ PN) (hpw : ∀ q, p0 ≤ q → q < e → PW w pM pE PN SN rh q) (hF : FVH Fv) (hat : ATM w) (hP : ∀ t, P t → PA w t) (hS : STR w SN) (hfr : FRA w p fr rn rh) (hcap : ∀ q, p0 ≤ q → q ≤ e → rn + rh + pM q ≤ 2450) (hN : 6000 ≤ N) : ∀ (fu many c b : Nat) (v : MS), FQ p w v → MEI Fv P PR v p n ow kd opM b bxM → b = rn + rh + pM c → p0 ≤ c → c ≤ e → TRY v pE n ow kd P p0 e many c → e - c < fu →
    OK (fun w2 r => FQ p w w2 ∧ ((r = I 1 ∧ MEI Fv P PR w2 p n ow kd opM (rn + rh + pM e) bxM) ∨ (r = I 0 ∧ ∃ b2, MEI Fv P PR w2 p n ow kd opM b2 bxM ∧ ∃ c2, p0 ≤ c2 ∧ c2 ≤ e ∧ b2 = rn + rh + pM c2))) (gg_M_fits N fu v (I many)) := by
  intro fu
  induction fu with
  | zero => intro many c b v _ _ _ _ _ _ z; exact absurd z (Nat.not_lt_zero _)
  | succ fu ih =>
    intro many c b v fv iv hb hc1 hc2 tr hf
    have x4 := MEI_p iv
    obtain ⟨t1, t2, t3⟩ := id tr
    show OK _ (fb_M_fits_17 N (gg_M_fits N fu) v (I many))
    unfold fb_M_fits_17 fb_M_fits_198
    have hmany : many ≤ 2900 := by
      cases many with
      | zero => omega
      | succ many => obtain ⟨q, -, -, -, -, -, z, -⟩ := t3 many (by omega); omega
    rw [lit0q, decI (by omega) (by omega) (by omega) (by omega)]
    cases many with
    | zero =>
      rw [decide_eq_true (by omega), br_tq]
      have ec := t1 rfl
      subst ec
      subst hb
      exact ok_ck.mpr ⟨rfl, ok_some.mpr ⟨fv, Or.inl ⟨rfl, iv⟩⟩⟩
    | succ many =>
      obtain ⟨q, q1, q2, q3, q4, q5, q6, q7⟩ := t3 many (by omega)
      have eqc : q = c := by have := t2 (by omega); rw [show many + 1 - 1 = many from by omega, q1] at this; omega
      subst eqc
      rw [decide_eq_false (by omega), br_fq, litm1q, I_add, show ((many + 1 : Nat) : Int) + -1 = (many : Int) from by omega, inb_at (k := 160) (n := 3000) rfl (by omega) (by omega) (by decide), ck_t, lt_e, inb_at (k := 161) (n := 3000) rfl (by omega) (by omega) (by decide), ck_t, lt_e, I_tn (x := (many : Int)) (by omega) (by omega), Int.toNat_natCast, I_A' q1, inb_at (k := 33) (n := 5000) rfl (by omega) (by omega) (by decide), ck_t, I_tn (x := (q : Int)) (by omega) (by omega), Int.toNat_natCast]
      obtain ⟨w1, w2', w3, w4, k03, k1, k2, k4, -⟩ := id (hpw q q2 q3)
      have e33 : A v 33 q = A w 33 q := FR.A fv.1 (by decide)
      have e35 : A v 35 q = A w 35 q := FR.A fv.1 (by decide)
      have hr35 := A_r w 35 q
      rw [I_A' e33, lit1q, show (2 : Int32) = I 2 from rfl, show (3 : Int32) = I 3 from rfl, show (4 : Int32) = I 4 from rfl, decE (by omega) (by omega) (by omega) (by omega), decE (by omega) (by omega) (by omega) (by omega), decE (by omega) (by omega) (by omega) (by omega), decE (by omega) (by omega) (by omega) (by omega), decI (by omega) (by omega) (by omega) (by omega)]
      generalize hx : v.2.2.2 161 many = x at q7
      have no : ∀ v2 : MS, FQ p w v2 → MEI Fv P PR v2 p n ow kd opM b bxM → OK (fun w2 r => FQ p w w2 ∧ ((r = I 1 ∧ MEI Fv P PR w2 p n ow kd opM (rn + rh + pM e) bxM) ∨ (r = I 0 ∧ ∃ b2, MEI Fv P PR w2 p n ow kd opM b2 bxM ∧ ∃ c2, p0 ≤ c2 ∧ c2 ≤ e ∧ b2 = rn + rh + pM c2))) (ck (isb 0) (some (v2, I 0))) := fun v2 f2 i2 => ok_ck.mpr ⟨rfl, ok_some.mpr ⟨f2, Or.inr ⟨rfl, b, i2, q, q2, hc2, hb⟩⟩⟩
      have leaf : ∀ (v2 : MS) (b2 : Nat), pE q = q + 1 → FQ p w v2 → (∀ i, A v2 160 i = A v 160 i) → (∀ i, v2.2.2.2 161 i = v.2.2.2 161 i) → MEI Fv P PR v2 p n ow kd opM b2 bxM → b2 = rn + rh + pM (q + 1) → OK (fun w2 r => FQ p w w2 ∧ ((r = I 1 ∧ MEI Fv P PR w2 p n ow kd opM (rn + rh + pM e) bxM) ∨ (r = I 0 ∧ ∃ b2, MEI Fv P PR w2 p n ow kd opM b2 bxM ∧ ∃ c2, p0 ≤ c2 ∧ c2 ≤ e ∧ b2 = rn + rh + pM c2))) (gg_M_fits N fu v2 (I many)) := fun v2 b2 hl f2 a1 a2 i2 hb2 => by
        refine ih many (q + 1) b2 v2 f2 i2 hb2 (by omega) (by omega) ⟨fun z => ?_, fun z => ?_, fun j hj => ?_⟩ (by omega)
        · have := q4 z; omega
        · rw [a1]; have := q5 (by omega); rw [this, hl]
        · rw [a1, a1, a2]; exact t3 j (by omega)
      by_cases e1 : A w 33 q = 1
      · obtain ⟨m1, m2⟩ := k1 e1
        obtain ⟨-, -, i3, -, -, ⟨y1, y2, y3, y4, y5, y6, y7, y8, y9, y10, y11⟩⟩ := id iv
        have cap := hcap q q2 hc2
        rw [decide_eq_true e1, br_tq, I_F' i3, inb_at (k := 94) (n := 24) rfl (by omega) (by omega) (by decide), ck_t, I_tn (x := (p : Int)) (by omega) (by omega), Int.toNat_natCast, I_A' y6.1, show (2500 : Int32) = I 2500 from rfl, I_mul, I_add, inb_at (k := 93) (n := 60000) rfl (by omega) (by omega) (by decide), ck_t, lt_e, I_tn (by omega) (by omega), show ((p : Int) * 2500 + (b : Int)).toNat = 2500 * p + b from by omega, wj_e, show (wj v 93 (2500 * p + b) x).1 133 = I p from I_F' i3, inb_at (k := 94) (n := 24) rfl (by omega) (by omega) (by decide), ck_t, ck_t, lt_e, I_tn (x := (p : Int)) (by omega) (by omega), Int.toNat_natCast, show (wj v 93 (2500 * p + b) x).2.2.1 94 p = I b from I_A' y6.1, I_add, wa_e]
        generalize hz : wa (wj v 93 (2500 * p + b) x) 94 p ((b : Int) + 1) = z
        have fz : FR [] [] [94] [93] v z := by rw [← hz]; exact FR.wa (FR.wj FR.rf (by decide)) (by decide)
        have a94 : ∀ i, A z 94 i = if i = p then (b : Int) + 1 else A v 94 i := fun i => by rw [← hz, A_eq (by omega) (by omega)]; rfl
        have j93 : ∀ i, z.2.2.2 93 i = if i = 2500 * p + b then x else v.2.2.2 93 i := fun i => by rw [← hz, J_wa, J_wj, if_pos rfl]
        have hpz : hp z p = hp v p := by unfold hp; rw [fz.2.2.2 88 (by decide)]
        have z140 : F z 140 = -1 := by rw [FR.F fz (by decide)]; exact iv.1.2.2.2.1
        have iz : MEI Fv P PR z p n ow kd opM (b + 1) bxM := MEI_upd iv (FR.mo fz (by decide) (by decide) (by decide) (by decide)) z140 (fun q _ => FR.A fz (by decide)) (fun q _ => FR.A fz (by decide)) (fun q hq => by rw [a94, if_neg hq]) (fun q _ => FR.A fz (by decide)) (fun i _ => by rw [fz.2.2.2 88 (by decide)]) (fun i _ => by rw [fz.2.2.2 91 (by decide)]) (fun i hi => by rw [j93, if_neg (by omega)]) (fun i _ => by rw [fz.2.2.2 107 (by decide)]) (by rw [FR.A fz (by decide)]; exact iv.2.2.2.2.1) ⟨rfl, by rw [hpz]; exact y2, y3, y4, by rw [FR.A fz (by decide)]; exact y5, ⟨by rw [a94, if_pos rfl]; omega, by omega⟩, by rw [FR.A fz (by decide)]; exact y7, fun i hi => by rw [fz.2.2.2 91 (by decide)]; exact y8 i hi, fun i hi => by
          rw [j93]
          by_cases e : i = b
          · subst e; rw [if_pos rfl]; exact q7
          · rw [if_neg (by omega)]; exact y9 i (by omega), fun i hi => by rw [fz.2.2.2 107 (by decide)]; exact y10 i hi, fun e => by omega⟩
        exact leaf z (b + 1) m2 ⟨FR.tr fv.1 (FR.mo fz (by decide) (by decide) (by decide) (by decide)), fun y hy => by rw [a94, if_neg hy]; exact fv.2 y hy⟩ (fun i => FR.A fz (by decide)) (fun i => by rw [fz.2.2.2 161 (by decide)]) iz (by omega)
      rw [decide_eq_false e1, br_fq]
      by_cases e2 : A w 33 q = 2
      · obtain ⟨m1, m2, m3⟩ := k2 e2
        have hfv : FRA v p fr rn rh := by
          obtain ⟨f1, f2, f3, f4, f5⟩ := hfr
          exact ⟨by rw [FR.A fv.1 (by decide)]; exact f1, f2, f3, by rw [FR.A fv.1 (by decide)]; exact f4, by rw [FR.A fv.1 (by decide)]; exact f5⟩
        have cap := hcap q q2 hc2
        rw [decide_eq_true e2, br_tq, inb_at (k := 35) (n := 5000) rfl (by omega) (by omega) (by decide), ck_t, I_A' e35]
        refine ok_bnd.mpr (ok_mono (nameAt_ok (N := N) iv hfv hb m3 (by omega)) (fun v1 r1 h1 => ?_))
        obtain ⟨z1, z2⟩ := h1
        subst z1
        obtain ⟨-, -, i3, -, -, ⟨y1, y2, y3, -⟩⟩ := id iv
        refine ok_bnd.mpr (ok_mono (order_ok (N := N) (p := p) (n := n) (ow := ow) (kd := kd) y3 x4 hF (ATM_fr hat fv.1 (by decide) (by decide)) (PA_fr hP fv.1 (by decide)) i3 y2 z2 q7 (by omega)) (fun v2 r2 h2 => ?_))
        have i2 : MEI Fv P PR v2 p n ow kd opM b bxM := MEI_fr iv h2 (by decide) (by decide) (by decide) (by decide) (by decide) (by decide) (by decide) (by decide) (by decide) (by decide) (by decide) (by decide) (by decide) (by decide) (by decide) (by decide) (by decide) (by decide)
        have f2 : FQ p w _ := ⟨FR.tr fv.1 (FR.mo h2 (is2 := []) (ls2 := []) (as2 := [94, 160, 162]) (js2 := [93, 141, 161, 163]) (by decide) (by decide) (by decide) (by decide)), fun y hy => by rw [FR.A h2 (by decide)]; exact fv.2 y hy⟩
        exact ok_br.mpr ⟨fun _ => leaf v2 b m2 f2 (fun i => FR.A h2 (by decide)) (fun i => by rw [h2.2.2.2 161 (by decide)]) i2 (by omega), fun _ => no v2 f2 i2⟩
      rw [decide_eq_false e2, br_fq]
      by_cases e3 : A w 33 q = 3
      · obtain ⟨m1, m2⟩ := k03 (Or.inr e3)
        rw [decide_eq_true e3, br_tq, inb_at (k := 34) (n := 5000) rfl (by omega) (by omega) (by decide), ck_t]
        exact ok_br.mpr ⟨fun _ => leaf v b m2 fv (fun _ => rfl) (fun _ => rfl) iv (by omega), fun _ => no v fv iv⟩
      rw [decide_eq_false e3, br_fq]
      by_cases e4 : A w 33 q = 4
      · obtain ⟨m1, m2, m3, m4⟩ := k4 e4
        have hSv : STR v SN := ⟨hS.1, fun s hs => by rw [FR.A fv.1 (by decide), FR.A fv.1 (by decide)]; exact hS.2 s hs⟩
        rw [decide_eq_true e4, br_tq, inb_at (k := 35) (n := 5000) rfl (by omega) (by omega) (by decide), ck_t, I_A' e35, show A w 35 q = (((A w 35 q).toNat : Nat) : Int) from by omega]
        refine ok_bnd.mpr (ok_mono (isString_ok (N := N) iv hSv (by omega) q7 (by omega)) (fun v1 r1 h1 => ?_))
        obtain ⟨z1, -⟩ := h1
        subst z1
        exact ok_br.mpr ⟨fun _ => no v1 fv iv, fun _ => leaf v1 b m2 fv (fun _ => rfl) (fun _ => rfl) iv (by omega)⟩
      rw [decide_eq_false e4, br_fq]
      by_cases e0 : A w 33 q ≤ 4
      · have e00 : A w 33 q = 0 := by
          clear k03 k1 k2 k4
          omega
        obtain ⟨m1, m2⟩ := k03 (Or.inl e00)
        rw [decide_eq_true e0, br_tq]
        exact leaf v b m2 fv (fun _ => rfl) (fun _ => rfl) iv (by omega)
      rw [decide_eq_false e0, br_fq]
      have e56 : A w 33 q = 5 ∨ A w 33 q = 6 := by
        clear k03 k1 k2 k4
        omega
      have mq : pM (q + 1) = pM q := by
        rcases e56 with z | z
        · exact ((hpw q q2 q3).2.2.2.2.2.2.2.2.1 z).1
        · exact ((hpw q q2 q3).2.2.2.2.2.2.2.2.2 z).1
      have pEe : pE q ≤ e := by
        cases many with
        | zero => have := q4 rfl; omega
        | succ k =>
          obtain ⟨q', r1, r2, r3, -⟩ := t3 k (by omega)
          have := q5 (by omega)
          rw [show k + 1 - 1 = k from by omega, r1] at this
          omega
      have pwv : PW v pM pE PN SN rh q := by
        obtain ⟨a1, a2, a3, a4, b03, b1, b2, b4, b5, b6⟩ := hpw q q2 q3
        have e36 : A v 36 q = A w 36 q := FR.A fv.1 (by decide)
        have e38 : A v 38 q = A w 38 q := FR.A fv.1 (by decide)
        have e37 : ∀ k, A v 37 k = A w 37 k := fun k => FR.A fv.1 (by decide)
        unfold PW CHN
        rw [e33, e35, e36, e38]
        simp only [e37]
        exact ⟨a1, a2, a3, a4, b03, b1, b2, b4, b5, b6⟩
      have hin : ∀ k, q < k → k < pE q → k < pE k := fun k h1 h2 => (hpw k (by omega) (by omega)).1
      refine ok_bnd.mpr (ok_mono (parts1_ok (N := N) (many := many) iv pwv hPN (by rw [e33]; exact e56) hin (by omega) q7 (by omega)) (fun v1 r1 h1 => ?_))
      rcases h1 with ⟨z1, z2⟩ | ⟨m, z1, z2, ⟨z3, z4, z5⟩, z6, z7⟩
      · subst z1
        have f2 : FQ p w _ := ⟨FR.tr fv.1 (FR.mo z2 (is2 := []) (ls2 := []) (as2 := [94, 160, 162]) (js2 := [93, 141, 161, 163]) (by decide) (by decide) (by decide) (by decide)), fun y hy => by rw [FR.A z2 (by decide)]; exact fv.2 y hy⟩
        have i2 : MEI Fv P PR v1 p n ow kd opM b bxM := MEI_fr iv z2 (by decide) (by decide) (by decide) (by decide) (by decide) (by decide) (by decide) (by decide) (by decide) (by decide) (by decide) (by decide) (by decide) (by decide) (by decide) (by decide) (by decide) (by decide)
        rw [decE (by omega) (by omega) (by omega) (by omega), decide_eq_true rfl, br_tq]
        exact no v1 f2 i2
      · subst z2
        have f2 : FQ p w _ := ⟨FR.tr fv.1 (FR.mo z3 (is2 := []) (ls2 := []) (as2 := [94, 160, 162]) (js2 := [93, 141, 161, 163]) (by decide) (by decide) (by decide) (by decide)), fun y hy => by rw [FR.A z3 (by decide)]; exact fv.2 y hy⟩
        have i2 : MEI Fv P PR v1 p n ow kd opM b bxM := MEI_fr iv z3 (by decide) (by decide) (by decide) (by decide) (by decide) (by decide) (by decide) (by decide) (by decide) (by decide) (by decide) (by decide) (by decide) (by decide) (by decide) (by decide) (by decide) (by decide)
        rw [decE (by omega) (by omega) (by omega) (by omega), decide_eq_false (by omega), br_fq]
        have hin2 : ∀ k, q + 1 ≤ k → k < pE q → k < pE k := fun k h1 h2 => hin k (by omega) h2
        refine ih (many + m) (q + 1) b v1 f2 i2 (by omega) (by omega) (by omega) ⟨fun hz => ?_, fun hz => ?_, fun j hj => ?_⟩ (by omega)
        · have m0 : m = 0 := by omega
          have n0 : many = 0 := by omega
          subst m0
          have := q4 n0
          have z6' : q + 1 = pE q := z6
          omega
        · cases m with
          | zero =>
            have z6' : q + 1 = pE q := z6
            rw [show many + 0 - 1 = many - 1 from by omega, (z4 (many - 1) (by omega)).1, q5 (by omega), z6']
          | succ m =>
            have := (z5 0 (by omega)).1
            rw [show many + (m + 1 - 1 - 0) = many + (m + 1) - 1 from by omega] at this
            exact this
        · by_cases hjm : j < many
          · obtain ⟨q', r1, r2, r3, r4, r5, r6, r7⟩ := t3 j (by omega)
            obtain ⟨l1, l2⟩ := z4 j hjm
            refine ⟨q', by rw [l1]; exact r1, r2, r3, r4, fun h => ?_, r6, by rw [l2]; exact r7⟩
            rw [(z4 (j - 1) (by omega)).1]; exact r5 h
          · obtain ⟨k, hk, ej⟩ : ∃ k, k < m ∧ j = many + (m - 1 - k) := ⟨m - 1 - (j - many), by omega, by omega⟩
            obtain ⟨s1, s2⟩ := z5 k hk
            have up := chi_up z7 hin2 k (by omega)
            have lo := z7 k hk
            have gap := chi_gap z6 z7 hin2 (m - k) k (by omega)
            rw [ej]
            refine ⟨chi pE (q + 1) k, s1, by omega, by omega, fun hz => ?_, fun hz => ?_, ?_, s2⟩
            · have n0 : many = 0 := by omega
              have k1' : k + 1 = m := by omega
              have : pE (chi pE (q + 1) k) = chi pE (q + 1) m := by rw [← k1']; rfl
              rw [this, z6]; exact q4 n0
            · by_cases e9 : k + 1 < m
              · have := (z5 (k + 1) e9).1
                rw [show many + (m - 1 - k) - 1 = many + (m - 1 - (k + 1)) from by omega, this]; rfl
              · have k1' : k + 1 = m := by omega
                have hpe : pE (chi pE (q + 1) k) = pE q := by
                  have : pE (chi pE (q + 1) k) = chi pE (q + 1) m := by rw [← k1']; rfl
                  rw [this, z6]
                rw [hpe, show many + (m - 1 - k) - 1 = many - 1 from by omega, (z4 (many - 1) (by omega)).1]
                exact q5 (by omega)
            · cases many with
              | zero => have := q4 rfl; omega
              | succ k' =>
                obtain ⟨q', r1, r2, r3, -, -, r6, -⟩ := t3 k' (by omega)
                have := q5 (by omega)
                rw [show k' + 1 - 1 = k' from by omega, r1] at this
                omega
theorem fits_ok {q e fr rn rh : Nat} {x : Int64} (i : MEI Fv P PR w p n ow kd opM bnM bxM) (hPN : PN ≤ 2900) (heP : e ≤ PN) (hpe : pE q = e) (hqe : q < e) (hpw : ∀ k, q ≤ k → k < e → PW w pM pE PN SN rh k) (hF : FVH Fv) (hat : ATM w) (hP : ∀ t, P t → PA w t) (hS : STR w SN) (hfr : FRA w p fr rn rh) (hcap : ∀ k, q ≤ k → k ≤ e → rn + rh + pM k ≤ 2450) (hb : bnM = rn + rh + pM q) (gx : GT n ow kd P x) (hN : 6000 ≤ N) :
    OK (fun w2 r => FQ p w w2 ∧ ((r = I 1 ∧ MEI Fv P PR w2 p n ow kd opM (rn + rh + pM e) bxM) ∨ (r = I 0 ∧ ∃ b2, MEI Fv P PR w2 p n ow kd opM b2 bxM ∧ ∃ c2, q ≤ c2 ∧ c2 ≤ e ∧ b2 = rn + rh + pM c2))) (fm_M_fits N w (I q) x) := by
  unfold fm_M_fits fb_M_fits_0
  rw [lit0q, lit1q, inb_at (k := 160) (n := 3000) rfl (by omega) (by omega) (by decide), ck_t, lt_e, I_tn (by omega) (by omega), wa_e, inb_at (k := 161) (n := 3000) rfl (by omega) (by omega) (by decide), ck_t, lt_e, wj_e]
  have fz : FQ p w (wj (wa w 160 (Int.toNat 0) q) 161 (Int.toNat 0) x) := ⟨FR.wj (FR.wa FR.rf (by decide)) (by decide), fun y _ => by rw [A_wj, A_ne (by omega)]⟩
  have fz2 : FR [] [] [160] [161] w (wj (wa w 160 (Int.toNat 0) q) 161 (Int.toNat 0) x) := FR.wj (FR.wa FR.rf (by decide)) (by decide)
  have iz : MEI Fv P PR (wj (wa w 160 (Int.toNat 0) q) 161 (Int.toNat 0) x) p n ow kd opM bnM bxM := MEI_fr i fz2 (by decide) (by decide) (by decide) (by decide) (by decide) (by decide) (by decide) (by decide) (by decide) (by decide) (by decide) (by decide) (by decide) (by decide) (by decide) (by decide) (by decide) (by decide)
  have a0 : A (wj (wa w 160 (Int.toNat 0) q) 161 (Int.toNat 0) x) 160 0 = ((q : Nat) : Int) := by rw [A_wj, A_eq (by omega) (by omega)]; rfl
  refine fits_loop hPN heP hpw hF hat hP hS hfr hcap hN N 1 q bnM _ fz iz hb (Nat.le_refl _) (by omega) ⟨fun z => by omega, fun _ => a0, fun j hj => ?_⟩ (by omega)
  have e0 : j = 0 := by omega
  subst e0
  exact ⟨q, a0, Nat.le_refl _, hqe, fun _ => hpe, fun z => by omega, by omega, by rw [J_wj, if_pos rfl]; exact gx⟩
end
