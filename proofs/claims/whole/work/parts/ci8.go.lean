/-! go, both sides -/
set_option maxRecDepth 100000
/-- what go leaves: its answer, or what is wrong -/
def RHg (Fv : Int64 → Int64 → Prop) (P : Int64 → Prop) (Fv' : Int64 → Int64 → Prop) (AN : Nat) (m w m2 : MS) (r : Int32 ⊕ Nat) (w2 : MS) (r2 : Int32) : Prop := (∃ x, r = Sum.inl x ∧ r2 = x ∧ F w2 3 = 0 ∧ ∃ PR, FQs WTr PR Fv P Fv' (PWs AN) m2 w2 ∧ TBz m2 w2) ∨ ∃ k : Nat, r = Sum.inr k ∧ k ≤ 2 ∧ m2 = m ∧ w2 = wi w 3 (3 - ((k : Nat) : Int))
section
variable {T : TYc} {Fv Fv' : Int64 → Int64 → Prop} {P : Int64 → Prop} {AN : Nat} {TT : TY} {CC : CY} {pM pE : Nat → Nat} {ND CN PN SN UN FN N PR p b : Nat} {m w : MS}
/-- a run leaves no fault -/
theorem go_f3 (hp : p < PR) (hb : b ≤ 500) (rest : REST Fv' AN TT ND UN FN PR w) (per : PER Fv' AN TT CC pM pE ND CN PN SN UN FN w) (h3 : A w 109 p ≠ 3) (hN : 700000000000000 < N) : PK (fun v _ => F v 3 = 0) (fb_M_go_61 N (gg_M_go N N) w (I ((p : Nat) : Int)) (I ((b : Nat) : Int)) 0) := by
  have pr := rest.1.1.2
  have f3 : F (gwR w p b) 3 = 0 := by
    unfold gwR
    rw [wi_ne (by omega), wi_ne (by omega), wi_ne (by omega), wi_ne (by omega), wi_ne (by omega), wi_sm (by omega) (by omega)]
  have a3 : F (gwA w p b) 3 = 0 := f3
  have n3 : F (gwN w p b) 3 = 0 := f3
  have lp : ∀ u mm, mm ≤ 600000000000000 → GOI Fv' AN TT CC ND CN UN FN p mm u → PER Fv' AN TT CC pM pE ND CN PN SN UN FN u → F u 3 = 0 → PK (fun v _ => F v 3 = 0) (gg_M_go N N u (I ((p : Nat) : Int))) := fun u mm hm g q h => pk_mo (pk_ok (go_loop (N := N) (by omega) N mm u g q (by omega))) (fun v _ hv => by
    rw [FR.F hv.2 (by decide)]
    exact h)
  have core : PP (fun (_ : MS) (_ : Unit) w2 (_ : Int32) => F w2 3 = 0) (some (w, ())) (fb_M_go_61 N (gg_M_go N N) w (I ((p : Nat) : Int)) (I ((b : Nat) : Int)) 0) := by
    have two : ∀ {Z : Option (MS × Unit)}, PER Fv' AN TT CC pM pE ND CN PN SN UN FN (gwN w p b) → PK (fun u (_ : Unit) => RSW Fv' AN TT CC ND CN UN FN p 600000000000000 (gwN w p b) u ∧ ((F u 149 = 0 ∧ F u 150 = 0) ∨ A u 109 p = 3)) Z → PP (fun (_ : MS) (_ : Unit) w2 (_ : Int32) => F w2 3 = 0) (some (w, ())) (bnd Z (fun u _ => gg_M_go N N u (I ((p : Nat) : Int)))) := fun {Z} q pk m z w2 r e1 e2 => by
      cases Z with
      | none => cases e2
      | some y =>
        obtain ⟨u, y⟩ := y
        obtain ⟨⟨PR', hp', al, wd, gf⟩, c⟩ := pk u y rfl
        have e3 : gg_M_go N N u (I ((p : Nat) : Int)) = some (w2, r) := e2
        refine lp u 600000000000000 (Nat.le_refl _) ⟨PR', hp', al, wd, fun h1 h2 => ?_⟩ (PER_fr q gf (by decide) (by decide)) ?_ w2 r e3
        · rcases c with ⟨c1, c2⟩ | c
          · rw [c1, c2]
          · omega
        · rw [FR.F gf (by decide)]
          exact n3
    refine go_wst hp hb rest per h3 hN (fun h0 hal0 wd q => ?_) (fun h1 q j e95 e98 hq q2 pk => two q2 pk) (fun h5 c hc q2 pk => two q2 pk)
    obtain ⟨mm, hm, al⟩ := hal0
    have e149 : F (gwA w p b) 149 = 0 := by
      rw [← rest.2.2.1]
      exact congrArg Int32.toInt ((gwA_v (w := w) (p := p) (b := b) (by omega) hb).2.2.2.2.1 149 (by simp))
    have e150 : F (gwA w p b) 150 = 0 := by
      rw [← rest.2.2.2]
      exact congrArg Int32.toInt ((gwA_v (w := w) (p := p) (b := b) (by omega) hb).2.2.2.2.1 150 (by simp))
    exact fun m z w2 r e1 e2 => lp _ mm hm ⟨PR, hp, al, wd, fun _ _ => by rw [e149, e150]⟩ q a3 w2 r e2
  exact fun v r e => core w () v r rfl e
/-- may it go: both sides -/
theorem mg_e (hp : p < 24) (h8 : F m (pq p 8) = A w 110 p) (h7 : F m (pq p 7) = A w 108 p) (dl : DLs (m.2.1 (pq p 10)) (w.2.2.2 111 p)) (hcl : m.1 944 = w.1 120) : ∃ r : Int32, (r = 0 ∨ r = 1) ∧ hm_Wl_isReady N m p = some (m, r) ∧ fm_M_mayGo N w (I ((p : Nat) : Int)) = some (w, r) := by
  have r8 := F_r m (pq p 8)
  have r7 := F_r m (pq p 7)
  have r110 := A_r w 110 p
  have r108 := A_r w 108 p
  have tnp : (I ((p : Nat) : Int)).toNatClampNeg = p := tnI (n := p) rfl (by omega)
  have i1 : inb (I ((p : Nat) : Int)) (ln 110) = true := inb_at (k := 110) (n := 24) rfl (by omega) (by omega) (by decide)
  have i2 : inb (I ((p : Nat) : Int)) (ln 108) = true := inb_at (k := 108) (n := 24) rfl (by omega) (by omega) (by decide)
  have i3 : inb (I ((p : Nat) : Int)) (ln 111) = true := inb_at (k := 111) (n := 24) rfl (by omega) (by omega) (by decide)
  have eM : fm_M_mayGo N w (I ((p : Nat) : Int)) = br (decide (A w 110 p < A w 108 p)) (some (w, 1)) (br (decide ((w.2.2.2 111 p).toInt < 0)) (some (w, 0)) (br (decide (((w.1 120).toInt64).toInt < (w.2.2.2 111 p).toInt)) (some (w, 0)) (some (w, 1)))) := by
    unfold fm_M_mayGo fb_M_mayGo_0 fb_M_mayGo_45 fb_M_mayGo_41 fb_M_mayGo_46
    simp only [i1, i2, i3, ck_t, isb0, isb1, tnp]
    rw [I_A (k := 110), I_A (k := 108), decL r110.1 r110.2 r108.1 r108.2, show decide (lg_cmp (w.2.2.2 111 p) 0 < 0) = decide ((w.2.2.2 111 p).toInt < 0) from decide_eq_decide.mpr (lgc_ltz _ _), show decide (lg_cmp ((w.1 120).toInt64) (w.2.2.2 111 p) < 0) = decide (((w.1 120).toInt64).toInt < (w.2.2.2 111 p).toInt) from decide_eq_decide.mpr (lgc_ltz _ _)]
  rw [eM]
  by_cases c1 : A w 110 p < A w 108 p
  · refine ⟨1, Or.inr rfl, ?_, ?_⟩
    · unfold hm_Wl_isReady hb_Wl_isReady_0 hb_Wl_isReady_35 hb_Wl_isReady_40
      rw [I_F (k := pq p 8), I_F (k := pq p 7), decL r8.1 r8.2 r7.1 r7.2, decide_eq_true (by omega), br_t]
      rfl
    · rw [decide_eq_true c1, br_t]
  · rw [isR_e (by omega), decide_eq_false c1, br_f, hcl, dl.1]
    by_cases c2 : w.2.2.2 111 p = -1
    · refine ⟨0, Or.inl rfl, ?_, ?_⟩
      · rw [if_pos (Or.inl c2)]
      · rw [c2, show decide ((-1 : Int64).toInt < 0) = true from rfl, br_t]
    · have c3 : 0 ≤ (w.2.2.2 111 p).toInt := dl.2.resolve_left c2
      rw [decide_eq_false (show ¬ (w.2.2.2 111 p).toInt < 0 by omega), br_f]
      by_cases c4 : ((w.1 120).toInt64).toInt < (w.2.2.2 111 p).toInt
      · exact ⟨0, Or.inl rfl, by rw [if_pos (Or.inr c4)], by rw [decide_eq_true c4, br_t]⟩
      · exact ⟨1, Or.inr rfl, by rw [if_neg (fun z => z.elim c2 c4)], by rw [decide_eq_false c4, br_f]⟩
theorem pp_2s {α β : Type} {Q : MS → α → MS → β → Prop} {z : α} {r : β} (h : Q m z w r) : PP Q (some (m, z)) (some (w, r)) := fun _ _ _ _ e1 e2 => by
  cases e1
  cases e2
  exact h
theorem bad61 {G : MS → Int32 → Option (MS × Int32)} {v1 v2 : Int32} {x : Int} (h : x = 1 ∨ x = 2 ∨ x = 3) : fb_M_go_61 N G w v1 v2 (I x) = some (wi w 3 x, 0) := by
  unfold fb_M_go_61
  rw [wi_e, lt_e, wi_s1, show decide (I x = 0) = false from decide_eq_false (fun z => by
    rw [lit0, I_eq (by omega) (by omega) (by omega) (by omega)] at z
    omega), br_f]
/-- no such process -/
theorem find_0 {x : Int} (h942 : F m 942 = ((PR : Nat) : Int)) (p24 : PR ≤ 24) (hx : -2147483648 ≤ x ∧ x < 2147483648) (h : ¬ (0 ≤ x ∧ x < ((PR : Nat) : Int))) : hm_Wl_find N m (I x) = some (m, none) := by
  unfold hm_Wl_find hb_Wl_find_0 hb_Wl_find_12 hb_Wl_find_22
  rw [lit0, decL hx.1 hx.2 (by omega) (by omega), I_F' h942, decL hx.1 hx.2 (by omega) (by omega)]
  by_cases c : x < 0
  · rw [decide_eq_true c, br_t]
  · rw [decide_eq_false c, br_f, decide_eq_false (by omega), br_f]
theorem isP_e {x : Int} (h118 : F w 87 ≠ 0 → F w 118 = ((PR : Nat) : Int)) (p24 : PR ≤ 24) (hx : -2147483648 ≤ x ∧ x < 2147483648) : fm_M_isProcess N w (I x) = some (w, if F w 87 ≠ 0 ∧ 0 ≤ x ∧ x < ((PR : Nat) : Int) then 1 else 0) := by
  have r87 := F_r w 87
  unfold fm_M_isProcess fb_M_isProcess_0 fb_M_isProcess_23 fb_M_isProcess_24
  rw [isb0, isb1, ck_t, ck_t]
  have e0 : decide (w.1 87 = 0) = decide (F w 87 = 0) := by
    rw [I_F (k := 87), lit0, decE r87.1 r87.2 (by omega) (by omega)]
  have e1 : decide (I x < 0) = decide (x < 0) := by
    rw [lit0, decL hx.1 hx.2 (by omega) (by omega)]
  rw [e0, e1]
  by_cases c : F w 87 = 0
  · rw [decide_eq_true c, br_t, if_neg (fun z => z.1 c)]
  · have h := h118 c
    rw [decide_eq_false c, br_f, I_F' h, decI (by omega) (by omega) hx.1 hx.2]
    by_cases c2 : x < 0
    · rw [decide_eq_true c2, br_t, if_neg (by omega)]
    · rw [decide_eq_false c2, br_f]
      by_cases c3 : ((PR : Nat) : Int) ≤ x
      · rw [decide_eq_true c3, br_t, if_neg (by omega)]
      · rw [decide_eq_false c3, br_f, if_pos ⟨c, by omega, by omega⟩]
theorem go_pp {v1 v2 : Int32} (hN : 700000000000000 < N) (n87 : F w 87 ≠ 0) (W : WRD T Fv P PR m) (rest : REST Fv' AN TT ND UN FN PR w) (per : PER Fv' AN TT CC pM pE ND CN PN SN UN FN w) (fq : FQs WTr PR Fv P Fv' (PWs AN) m w) (tb : TBz m w) : PP (RHg Fv P Fv' AN m w) (hm_H_go N m v1 v2) (fm_M_go N w v1 v2) := by
  obtain ⟨x1, e1, hx1⟩ : ∃ x1 : Int, v1 = I x1 ∧ (-2147483648 ≤ x1 ∧ x1 < 2147483648) := ⟨v1.toInt, I_of v1, ti_rng v1⟩
  obtain ⟨x2, e2, hx2⟩ : ∃ x2 : Int, v2 = I x2 ∧ (-2147483648 ≤ x2 ∧ x2 < 2147483648) := ⟨v2.toInt, I_of v2, ti_rng v2⟩
  subst e1
  subst e2
  have pr := rest.1.1.2
  have d0 : decide (I x2 < 0) = decide (x2 < 0) := by
    rw [lit0, decL hx2.1 hx2.2 (by omega) (by omega)]
  have d5 : decide (I x2 ≤ 500) = decide (x2 ≤ 500) := by
    rw [show (500 : Int32) = I 500 from rfl, decI hx2.1 hx2.2 (by omega) (by omega)]
  have b2 : RHg Fv P Fv' AN m w m (Sum.inr 2) (wi w 3 1) 0 := Or.inr ⟨2, rfl, by omega, rfl, rfl⟩
  have b1 : RHg Fv P Fv' AN m w m (Sum.inr 1) (wi w 3 2) 0 := Or.inr ⟨1, rfl, by omega, rfl, rfl⟩
  have b0 : RHg Fv P Fv' AN m w m (Sum.inr 0) (wi w 3 3) 0 := Or.inr ⟨0, rfl, by omega, rfl, rfl⟩
  unfold hm_H_go hb_H_go_0 hb_H_go_11 fm_M_go fb_M_go_0 fb_M_go_12
  rw [d0, d5, show (1 : Int32) = I 1 from rfl, bad61 (Or.inl rfl)]
  by_cases c0 : x2 < 0
  · rw [decide_eq_true c0, br_t, br_t]
    exact pp_2s b2
  rw [decide_eq_false c0, br_f, br_f]
  by_cases c5 : x2 ≤ 500
  rotate_left
  · rw [decide_eq_false c5, br_f, br_f]
    exact pp_2s b2
  rw [decide_eq_true c5, br_t, br_t]
  obtain ⟨b, rfl⟩ : ∃ b : Nat, x2 = ((b : Nat) : Int) := ⟨x2.toNat, by omega⟩
  have hb : b ≤ 500 := by omega
  rw [isP_e (PR := PR) (fun _ => rest.1.1.1) pr hx1, bnd_so]
  by_cases cq : 0 ≤ x1 ∧ x1 < ((PR : Nat) : Int)
  rotate_left
  · rw [find_0 W.1.1.1.1 pr hx1 cq, bnd_so, if_neg (fun z => cq z.2), show (2 : Int32) = I 2 from rfl, bad61 (Or.inr (Or.inl rfl))]
    exact pp_2s b1
  obtain ⟨p, rfl⟩ : ∃ p : Nat, x1 = ((p : Nat) : Int) := ⟨x1.toNat, by omega⟩
  have hp : p < PR := by omega
  rw [find_e W.1 hp, bnd_so, if_pos ⟨n87, cq⟩, show decide ((some p : Option Nat) = none) = false from rfl, br_f, show decide ((1 : Int32) = 0) = false from rfl, br_f, show ∀ f : Nat → Option (MS × (Int32 ⊕ Nat)), bo (some p) f = f p from fun _ => rfl]
  have in9 : inb (I ((p : Nat) : Int)) (ln 109) = true := inb_at (k := 109) (n := 24) rfl (by omega) (by omega) (by decide)
  have tnp : (I ((p : Nat) : Int)).toNatClampNeg = p := tnI (n := p) rfl (by omega)
  have r9 := A_r w 109 p
  have q9 := F_r m (pq p 9)
  unfold hb_H_go_71 fb_M_go_56 fb_M_go_60
  rw [in9, ck_t, ck_t, tnp, show (3 : Int32) = I 3 from rfl, bad61 (Or.inr (Or.inr rfl)), I_A (k := 109), decE r9.1 r9.2 (by omega) (by omega), decE r9.1 r9.2 (by omega) (by omega), I_F (k := pq p 9), decE q9.1 q9.2 (by omega) (by omega), decE q9.1 q9.2 (by omega) (by omega)]
  have fin : F m (pq p 9) ≠ 3 → A w 109 p ≠ 3 → PP (RHg Fv P Fv' AN m w) (hb_H_go_81 N () m (I ((b : Nat) : Int)) p) (fb_M_go_61 N (gg_M_go N N) w (I ((p : Nat) : Int)) (I ((b : Nat) : Int)) 0) := fun hal hal' m2 z w2 r e1 e2 => by
    unfold hb_H_go_81 at e1
    cases hX : hm_Ma_goOn N m p (I ((b : Nat) : Int)) with
    | none =>
      rw [hX] at e1
      cases e1
    | some y =>
      obtain ⟨m3, z3⟩ := y
      rw [hX] at e1
      cases e1
      obtain ⟨er, PR2, -, fq2, tb2⟩ := go_st hN hp hb W rest per fq tb hal m3 z3 w2 r hX e2
      exact Or.inl ⟨z3, rfl, er.symm, go_f3 hp hb rest per hal' hN w2 r e2, PR2, fq2, TBz_of tb2⟩
  obtain ⟨i, WL, -, -, -, -⟩ := id fq
  rcases WL.2.2.1 p hp with ⟨y1, y2, bb, U, B, W4, Y, pl, sc, j, nb, Hs, Os, fa, ct, a, ha, st⟩ | ⟨y1, y2, -⟩
  · rw [decide_eq_false y1, br_f, decide_eq_false y2, br_f]
    rcases st with ⟨s1, s2, -⟩ | ⟨s1, s2, -⟩ | ⟨s1, s2, -, s8, dl, -⟩
    · rw [decide_eq_false (by omega), br_f, decide_eq_false (by omega), br_f]
      exact fin y1 y2
    · rw [decide_eq_false (by omega), br_f, decide_eq_false (by omega), br_f]
      exact fin y1 y2
    · rw [decide_eq_true s1, br_t, decide_eq_true s2, br_t]
      obtain ⟨r, hr, g1, g2⟩ := mg_e (N := N) (by omega) s8 (pl.2.2.2.1.trans pl.2.2.2.2.1.symm) dl tb.2.2.1.1.1
      rw [g1, bnd_so, g2, bnd_so]
      rcases hr with rfl | rfl
      · rw [show decide ((0 : Int32) = 0) = true from rfl, br_t, br_t, bad61 (Or.inr (Or.inr rfl))]
        exact pp_2s b0
      · rw [show decide ((1 : Int32) = 0) = false from rfl, br_f, br_f]
        exact fin y1 y2
  · rw [decide_eq_true y1, br_t, decide_eq_true y2, br_t]
    exact pp_2s b0
/-- nothing has begun -/
theorem go_p0 {v1 v2 : Int32} (n87 : F w 87 = 0) (h942 : F m 942 = 0) : PP (RHg Fv P Fv' AN m w) (hm_H_go N m v1 v2) (fm_M_go N w v1 v2) := by
  obtain ⟨x1, e1, hx1⟩ : ∃ x1 : Int, v1 = I x1 ∧ (-2147483648 ≤ x1 ∧ x1 < 2147483648) := ⟨v1.toInt, I_of v1, ti_rng v1⟩
  obtain ⟨x2, e2, hx2⟩ : ∃ x2 : Int, v2 = I x2 ∧ (-2147483648 ≤ x2 ∧ x2 < 2147483648) := ⟨v2.toInt, I_of v2, ti_rng v2⟩
  subst e1
  subst e2
  have d0 : decide (I x2 < 0) = decide (x2 < 0) := by
    rw [lit0, decL hx2.1 hx2.2 (by omega) (by omega)]
  have d5 : decide (I x2 ≤ 500) = decide (x2 ≤ 500) := by
    rw [show (500 : Int32) = I 500 from rfl, decI hx2.1 hx2.2 (by omega) (by omega)]
  have b2 : RHg Fv P Fv' AN m w m (Sum.inr 2) (wi w 3 1) 0 := Or.inr ⟨2, rfl, by omega, rfl, rfl⟩
  have b1 : RHg Fv P Fv' AN m w m (Sum.inr 1) (wi w 3 2) 0 := Or.inr ⟨1, rfl, by omega, rfl, rfl⟩
  unfold hm_H_go hb_H_go_0 hb_H_go_11 fm_M_go fb_M_go_0 fb_M_go_12
  rw [d0, d5, show (1 : Int32) = I 1 from rfl, bad61 (Or.inl rfl)]
  by_cases c0 : x2 < 0
  · rw [decide_eq_true c0, br_t, br_t]
    exact pp_2s b2
  rw [decide_eq_false c0, br_f, br_f]
  by_cases c5 : x2 ≤ 500
  rotate_left
  · rw [decide_eq_false c5, br_f, br_f]
    exact pp_2s b2
  rw [decide_eq_true c5, br_t, br_t, isP_e (PR := 0) (fun h => absurd n87 h) (by omega) hx1, bnd_so, find_0 (PR := 0) h942 (by omega) hx1 (by omega), bnd_so, if_neg (fun z => z.1 n87), show (2 : Int32) = I 2 from rfl, bad61 (Or.inr (Or.inl rfl))]
  exact pp_2s b1
end
