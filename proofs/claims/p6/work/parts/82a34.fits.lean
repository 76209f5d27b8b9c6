section
variable {Fv : Int64 → Int64 → Prop} {P : Int64 → Prop} {w w2 : MS} {PR N p n opM bnM bxM SN PN L : Nat} {ow kd pM pE : Nat → Nat}
def RDY (n : Nat) (ow kd : Nat → Nat) (P : Int64 → Prop) (pE : Nat → Nat) (q m : Nat) (w : MS) : Prop := ∀ k, k < m → A w 162 k = ((chi pE q k : Nat) : Int) ∧ GT n ow kd P (w.2.2.2 163 k)
def PSH (n : Nat) (ow kd : Nat → Nat) (P : Int64 → Prop) (pE : Nat → Nat) (q m many : Nat) (w w2 : MS) : Prop := FR [] [] [160, 162] [161, 163] w w2 ∧ (∀ k, k < many → A w2 160 k = A w 160 k ∧ w2.2.2.2 161 k = w.2.2.2 161 k) ∧ ∀ k, k < m → A w2 160 (many + (m - 1 - k)) = ((chi pE q k : Nat) : Int) ∧ GT n ow kd P (w2.2.2.2 161 (many + (m - 1 - k)))
theorem p266 {q m many : Nat} (hm : m ≤ 10) (hmany : many ≤ 2900) (hchi : ∀ k, k < m → chi pE q k < 5000) : ∀ (fu r : Nat) (w : MS), r ≤ m → r < fu → RDY n ow kd P pE q m w → (∀ k, r ≤ k → k < m → A w 160 (many + (m - 1 - k)) = ((chi pE q k : Nat) : Int) ∧ GT n ow kd P (w.2.2.2 161 (many + (m - 1 - k)))) → OK (fun w2 x => x = I ((many + m : Nat) : Int) ∧ PSH n ow kd P pE q m many w w2) ((gg_M_parts1 N fu).2.2 w (I many) (I m) (I ((r : Int) - 1))) := by
  intro fu
  induction fu with
  | zero => intro r w _ z; exact absurd z (Nat.not_lt_zero _)
  | succ fu ih =>
    intro r w hr hf rd done
    show OK _ (fb_M_parts1_266 N (gg_M_parts1 N fu) w (I many) (I m) (I ((r : Int) - 1)))
    unfold fb_M_parts1_266
    rw [lit0q, decL (by omega) (by omega) (by omega) (by omega)]
    cases r with
    | zero =>
      rw [decide_eq_true (by omega), br_tq, I_add]
      exact ok_some.mpr ⟨by congr 1, FR.rf, fun _ _ => ⟨rfl, rfl⟩, fun k hk => done k (Nat.zero_le _) hk⟩
    | succ r =>
      obtain ⟨r1, r2⟩ := rd r (by omega)
      have hc := hchi r (by omega)
      rw [decide_eq_false (by omega), br_fq, show ((r + 1 : Nat) : Int) - 1 = (r : Int) from by omega, inb_at (k := 162) (n := 10) rfl (by omega) (by omega) (by decide), ck_t, I_add, lit1q, I_sub, I_sub, inb_at (k := 160) (n := 3000) rfl (by omega) (by omega) (by decide), ck_t, lt_e, I_tn (by omega) (by omega), I_tn (by omega) (by omega), Int.toNat_natCast, show ((many : Int) + (m : Int) - 1 - (r : Int)).toNat = many + (m - 1 - r) from by omega, I_A' r1, wa_e, inb_at (k := 163) (n := 10) rfl (by omega) (by omega) (by decide), ck_t, inb_at (k := 161) (n := 3000) rfl (by omega) (by omega) (by decide), ck_t, lt_e, wj_e, I_neg, I_add, show (r : Int) + -1 = (r : Int) - 1 from by omega]
      generalize hz : wj (wa w 160 (many + (m - 1 - r)) ((chi pE q r : Nat) : Int)) 161 (many + (m - 1 - r)) ((wa w 160 (many + (m - 1 - r)) ((chi pE q r : Nat) : Int)).2.2.2 163 r) = z
      have fz : FR [] [] [160, 162] [161, 163] w z := by rw [← hz]; exact FR.wj (FR.wa FR.rf (by decide)) (by decide)
      have a160 : ∀ k, A z 160 k = if k = many + (m - 1 - r) then ((chi pE q r : Nat) : Int) else A w 160 k := fun k => by rw [← hz, A_wj, A_eq (by omega) (by omega)]
      have j161 : ∀ k, z.2.2.2 161 k = if k = many + (m - 1 - r) then w.2.2.2 163 r else w.2.2.2 161 k := fun k => by rw [← hz, J_wj, if_pos rfl]; rfl
      have a162 : ∀ k, A z 162 k = A w 162 k := fun k => by rw [← hz, A_wj, A_ne (by decide)]
      have j163 : ∀ k, z.2.2.2 163 k = w.2.2.2 163 k := fun k => by rw [← hz, J_wj, if_neg (by decide)]; rfl
      refine ok_mono (ih r z (by omega) (by omega) (fun k hk => by rw [a162, j163]; exact rd k hk) (fun k h1 h2 => ?_)) (fun v x hv => ⟨hv.1, FR.tr fz hv.2.1, fun k hk => ?_, hv.2.2.2⟩)
      · rw [a160, j161]
        by_cases e : k = r
        · subst e; rw [if_pos rfl, if_pos rfl]; exact ⟨rfl, r2⟩
        · rw [if_neg (by omega), if_neg (by omega)]; exact done k (by omega) h2
      · rw [(hv.2.2.1 k hk).1, (hv.2.2.1 k hk).2, a160, j161, if_neg (by omega), if_neg (by omega)]; exact ⟨rfl, rfl⟩
theorem p260 {q m many : Nat} (hm : m ≤ 10) (hmany : many ≤ 2900) (hchi : ∀ k, k < m → chi pE q k < 5000) {fu : Nat} (hf : 12 ≤ fu) (rd : RDY n ow kd P pE q m w) : OK (fun w2 x => x = I ((many + m : Nat) : Int) ∧ PSH n ow kd P pE q m many w w2) (fb_M_parts1_260 N (gg_M_parts1 N fu) w (I many) (I m)) := by
  unfold fb_M_parts1_260
  rw [lit1q, I_sub]
  exact p266 hm hmany hchi fu m w (Nat.le_refl _) (by omega) rd (fun k h1 h2 => by omega)
theorem RDY_step {q r : Nat} {x : Int64} {c : Nat} (hc : c = chi pE q r) (h5 : c < 5000) (rd : RDY n ow kd P pE q r w) (g : GT n ow kd P x) : RDY n ow kd P pE q (r + 1) (wj (wa w 162 r c) 163 r x) := by
  intro k hk
  rw [A_wj, A_eq (by omega) (by omega), J_wj, if_pos rfl]
  by_cases e : k = r
  · subst e; rw [if_pos rfl, if_pos rfl, hc]; exact ⟨rfl, g⟩
  · rw [if_neg e, if_neg e]; exact rd k (by omega)
theorem p59 {q m many : Nat} {x : Int64} (i0 : MEI Fv P PR w p n ow kd opM bnM bxM) (hm : m ≤ 8) (hmany : many ≤ 2900) (hchi : ∀ k, k < m → chi pE q k < 5000) (hnx : ∀ k, k + 1 < m → A w 37 (chi pE q k) = ((chi pE q (k + 1) : Nat) : Int)) (hlast : 0 < m → A w 37 (chi pE q (m - 1)) = -1) (hx : so x = 5) (gx : GT n ow kd P x) (hbl : blk (hp w p) x = 1 + m) : ∀ (fu r : Nat) (v : MS), r ≤ m → (m - r) + 14 < fu → FR [] [] [160, 162] [161, 163] w v → (∀ k, k < many → A v 160 k = A w 160 k ∧ v.2.2.2 161 k = w.2.2.2 161 k) → RDY n ow kd P pE q r v → OK (fun w2 y => y = I ((many + m : Nat) : Int) ∧ PSH n ow kd P pE q m many w w2) ((gg_M_parts1 N fu).1 v (I many) x (I r) (I (if r < m then ((chi pE q r : Nat) : Int) else -1))) := by
  have x4 := MEI_p i0
  have g := i0.2.2.2.2.2.2.1
  have x3 := i0.2.2.2.2.2.2.2.1
  have hxh : isH x := Or.inr (Or.inl hx)
  obtain ⟨bk, pt⟩ := HP_bk g hxh gx
  have bn := bk.2.2.2.1
  have vx : va x = (vn x : Int) := by have := bk.1; unfold vn; omega
  have pp : prt x = 1 := by unfold prt; rw [hx]; rfl
  intro fu
  induction fu with
  | zero => intro r v _ z; exact absurd z (Nat.not_lt_zero _)
  | succ fu ih =>
    intro r v hr hf fv hlow rd
    show OK _ (fb_M_parts1_59 N (gg_M_parts1 N fu) v (I many) x (I r) (I (if r < m then ((chi pE q r : Nat) : Int) else -1)))
    unfold fb_M_parts1_59
    by_cases e : r < m
    · have hc := hchi r e
      have hpv : hp v p = hp w p := by unfold hp; rw [fv.2.2.2 88 (by decide)]
      have me : F v 133 = p := by rw [FR.F fv (by decide)]; exact i0.2.2.1
      rw [if_pos e, litm1q, decE (by omega) (by omega) (by omega) (by omega), decide_eq_false (by omega), br_fq, inb_at (k := 162) (n := 10) rfl (by omega) (by omega) (by decide), ck_t, lt_e, I_tn (by omega) (by omega), Int.toNat_natCast, wa_e, valueOf_e, bnd_so, show (wa v 162 r ((chi pE q r : Nat) : Int)).1 133 = I p from I_F' me, vx, lit1q, I_add, I_add, show (vn x : Int) + 1 + (r : Int) = ((vn x + (1 + r) : Nat) : Int) from by omega, cell_e (by omega) (by omega), bnd_so, inb_at (k := 163) (n := 10) rfl (by omega) (by omega) (by decide), ck_t, lt_e, wj_e, inb_at (k := 37) (n := 5000) rfl (by omega) (by omega) (by decide), ck_t, lt_e, I_tn (by omega) (by omega), Int.toNat_natCast]
      have hcell : hp (wa v 162 r ((chi pE q r : Nat) : Int)) p = hp w p := hpv
      rw [hcell]
      have gc := pt (1 + r) (by omega) (by omega)
      generalize hz : wj (wa v 162 r ((chi pE q r : Nat) : Int)) 163 r (hp w p (vn x + (1 + r))) = z
      have fz : FR [] [] [160, 162] [161, 163] w z := by rw [← hz]; exact FR.wj (FR.wa fv (by decide)) (by decide)
      have a37 : A z 37 (chi pE q r) = (if r + 1 < m then ((chi pE q (r + 1) : Nat) : Int) else -1) := by
        rw [FR.A fz (by decide)]
        by_cases e2 : r + 1 < m
        · rw [if_pos e2]; exact hnx r e2
        · rw [if_neg e2]
          have := hlast (by omega)
          rw [show m - 1 = r from by omega] at this
          exact this
      rw [I_A' a37, I_add]
      refine ih (r + 1) z (by omega) (by omega) fz (fun k hk => ?_) ?_
      · rw [← hz, A_wj, A_ne (by decide), J_wj, if_neg (by decide), J_wa]; exact hlow k hk
      · rw [← hz]; exact RDY_step rfl hc rd gc
    · have er : r = m := by omega
      subst er
      rw [if_neg e, litm1q, decE (by omega) (by omega) (by omega) (by omega), decide_eq_true rfl, br_tq]
      exact ok_mono (p260 (by omega) hmany hchi (by omega) rd) (fun w2 y h => ⟨h.1, FR.tr fv h.2.1, fun k hk => ⟨(h.2.2.1 k hk).1.trans (hlow k hk).1, (h.2.2.1 k hk).2.trans (hlow k hk).2⟩, h.2.2.2⟩)
theorem p128 {q0 q m tl many : Nat} (i0 : MEI Fv P PR w p n ow kd opM bnM bxM) (hm : m ≤ 8) (hq0 : q0 < 5000) (h35 : A w 35 q0 = m) (htl : (A w 38 q0 = 0 ∧ tl = 0) ∨ (A w 38 q0 ≠ 0 ∧ tl = 1)) (hmany : many ≤ 2900) (hchi : ∀ k, k < m + tl → chi pE q k < 5000) (hnx : ∀ k, k + 1 < m + tl → A w 37 (chi pE q k) = ((chi pE q (k + 1) : Nat) : Int)) : ∀ (fu r : Nat) (v : MS) (x : Int64) (c : Int), r ≤ m → (m - r) + 14 < fu → FR [] [] [160, 162] [161, 163] w v → (∀ k, k < many → A v 160 k = A w 160 k ∧ v.2.2.2 161 k = w.2.2.2 161 k) → RDY n ow kd P pE q r v → GT n ow kd P x → (r < m + tl → c = ((chi pE q r : Nat) : Int)) → -2147483648 ≤ c ∧ c < 2147483648 → OK (fun w2 y => (y = I (-1) ∧ FR [] [] [160, 162] [161, 163] w w2) ∨ (y = I ((many + (m + tl) : Nat) : Int) ∧ PSH n ow kd P pE q (m + tl) many w w2)) ((gg_M_parts1 N fu).2.1 v (I q0) (I many) x (I r) (I c) (I r)) := by
  have x4 := MEI_p i0
  have g := i0.2.2.2.2.2.2.1
  have x3 := i0.2.2.2.2.2.2.2.1
  intro fu
  induction fu with
  | zero => intro r v x c _ z; exact absurd z (Nat.not_lt_zero _)
  | succ fu ih =>
    intro r v x c hr hf fv hlow rd gx hc hcr
    have rx := so_r x
    show OK _ (fb_M_parts1_128 N (gg_M_parts1 N fu) v (I q0) (I many) x (I r) (I c) (I r))
    unfold fb_M_parts1_128
    rw [inb_at (k := 35) (n := 5000) rfl (by omega) (by omega) (by decide), ck_t, I_tn (x := (q0 : Int)) (by omega) (by omega), Int.toNat_natCast, I_A' (show A v 35 q0 = m by rw [FR.A fv (by decide)]; exact h35), decI (by omega) (by omega) (by omega) (by omega), inb_at (k := 38) (n := 5000) rfl (by omega) (by omega) (by decide), ck_t, sortOf_e, bnd_so, show (6 : Int32) = I 6 from rfl, show (7 : Int32) = I 7 from rfl, lit0q, litm1q]
    have fail : OK (fun w2 y => (y = I (-1) ∧ FR [] [] [160, 162] [161, 163] w w2) ∨ (y = I ((many + (m + tl) : Nat) : Int) ∧ PSH n ow kd P pE q (m + tl) many w w2)) (some (v, I (-1))) := ok_some.mpr (Or.inl ⟨rfl, fv⟩)
    have push : ∀ v2 : MS, FR [] [] [160, 162] [161, 163] w v2 → (∀ k, k < many → A v2 160 k = A w 160 k ∧ v2.2.2.2 161 k = w.2.2.2 161 k) → RDY n ow kd P pE q (m + tl) v2 → OK (fun w2 y => (y = I (-1) ∧ FR [] [] [160, 162] [161, 163] w w2) ∨ (y = I ((many + (m + tl) : Nat) : Int) ∧ PSH n ow kd P pE q (m + tl) many w w2)) (fb_M_parts1_260 N (gg_M_parts1 N fu) v2 (I many) (I ((m + tl : Nat) : Int))) := fun v2 f2 h2 rd2 => ok_mono (p260 (by omega) hmany hchi (by omega) rd2) (fun w2 y h => Or.inr ⟨h.1, FR.tr f2 h.2.1, fun k hk => ⟨(h.2.2.1 k hk).1.trans (h2 k hk).1, (h.2.2.1 k hk).2.trans (h2 k hk).2⟩, h.2.2.2⟩)
    by_cases e : m ≤ r
    · have er : r = m := by omega
      subst er
      rw [decide_eq_true (by omega), br_tq]
      have h38 := A_r v 38 q0
      have e38 : A v 38 q0 = A w 38 q0 := FR.A fv (by decide)
      rw [I_A' e38, decE (by omega) (by omega) (by omega) (by omega)]
      rcases htl with ⟨t1, t2⟩ | ⟨t1, t2⟩
      · subst t2
        rw [decide_eq_true t1, br_tq]
        exact ok_br.mpr ⟨fun _ => push v fv hlow rd, fun _ => fail⟩
      · subst t2
        have hcc := hc (by omega)
        have hch := hchi r (by omega)
        rw [decide_eq_false t1, br_fq, inb_at (k := 162) (n := 10) rfl (by omega) (by omega) (by decide), ck_t, lt_e, I_tn (by omega) (by omega), Int.toNat_natCast, wa_e, inb_at (k := 163) (n := 10) rfl (by omega) (by omega) (by decide), ck_t, lt_e, wj_e, lit1q, I_add]
        refine push _ (FR.wj (FR.wa fv (by decide)) (by decide)) (fun k hk => ?_) ?_
        · rw [A_wj, A_ne (by decide), J_wj, if_neg (by decide), J_wa]; exact hlow k hk
        · rw [hcc]; exact RDY_step rfl hch rd gx
    · rw [decide_eq_false (by omega), br_fq, bnd_so, decE rx.1 rx.2 (by omega) (by omega)]
      by_cases e7 : so x = 7
      · have hx : isH x := Or.inr (Or.inr e7)
        obtain ⟨bk, pt⟩ := HP_bk g hx gx
        have bb : blk (hp w p) x = 2 := by unfold blk; rw [e7]; rfl
        have pp : prt x = 0 := by unfold prt; rw [e7]; rfl
        have bn := bk.2.2.2.1
        have vx : va x = (vn x : Int) := by have := bk.1; unfold vn; omega
        have hcc := hc (by omega)
        have hch := hchi r (by omega)
        have me : F v 133 = p := by rw [FR.F fv (by decide)]; exact i0.2.2.1
        have hpv : hp v p = hp w p := by unfold hp; rw [fv.2.2.2 88 (by decide)]
        rw [hcc, decide_eq_true e7, br_tq, inb_at (k := 162) (n := 10) rfl (by omega) (by omega) (by decide), ck_t, lt_e, I_tn (x := (r : Int)) (by omega) (by omega), Int.toNat_natCast, wa_e, valueOf_e, bnd_so, show (wa v 162 r ((chi pE q r : Nat) : Int)).1 133 = I p from I_F' me, vx, cell_e (by omega) (by omega), bnd_so, inb_at (k := 163) (n := 10) rfl (by omega) (by omega) (by decide), ck_t, lt_e, wj_e, valueOf_e, bnd_so]
        rw [show (wj (wa v 162 r ((chi pE q r : Nat) : Int)) 163 r (hp (wa v 162 r ((chi pE q r : Nat) : Int)) p (vn x))).1 133 = I p from I_F' me, vx, lit1q, I_add, show (vn x : Int) + 1 = ((vn x + 1 : Nat) : Int) from by omega, cell_e (by omega) (by omega), bnd_so, inb_at (k := 37) (n := 5000) rfl (by omega) (by omega) (by decide), ck_t, lt_e, I_tn (by omega) (by omega), Int.toNat_natCast, I_add]
        have hcell : hp (wa v 162 r ((chi pE q r : Nat) : Int)) p = hp w p := hpv
        rw [hcell]
        generalize hz : wj (wa v 162 r ((chi pE q r : Nat) : Int)) 163 r (hp w p (vn x)) = z
        have fz : FR [] [] [160, 162] [161, 163] w z := by rw [← hz]; exact FR.wj (FR.wa fv (by decide)) (by decide)
        have hpz : hp z p = hp w p := by unfold hp; rw [fz.2.2.2 88 (by decide)]
        rw [hpz, I_A (k := 37)]
        have h37 := A_r z 37 (chi pE q r)
        refine ih (r + 1) z (hp w p (vn x + 1)) (A z 37 (chi pE q r)) (by omega) (by omega) fz (fun k hk => ?_) ?_ (pt 1 (by omega) (by omega)) (fun h => ?_) h37
        · rw [← hz, A_wj, A_ne (by decide), J_wj, if_neg (by decide), J_wa]; exact hlow k hk
        · rw [← hz]; exact RDY_step rfl hch rd (by have := pt 0 (by omega) (by omega); exact this)
        · rw [FR.A fz (by decide)]; exact hnx r h
      · rw [decide_eq_false e7, br_fq]
        exact fail
end
