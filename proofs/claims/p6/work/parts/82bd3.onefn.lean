set_option maxRecDepth 100000
def KM2 (u w : MS) : Prop := FR [441, 706, 709, 711, 712, 713, 714] [] [23, 29, 30, 31, 32, 39, 40, 41, 42] [] u w
def CW0 (u : MS) : Prop := (1 ≤ F u 441 ∧ F u 441 ≤ 24000) ∧ (0 ≤ F u 714 ∧ ((F u 714 ≤ 64031 ∧ 1 ≤ F u 714 % 16) ∨ F u 714 = 1000000000)) ∧ (F u 711 = 0 ∨ F u 711 = 1) ∧ (F u 712 = 0 ∧ F u 713 = 0) ∧ ∀ j, j < 32 → (0 ≤ A u 40 j ∧ A u 40 j ≤ 4000) ∧ 0 ≤ A u 41 j ∧ A u 41 j ≤ 4000
def FUQ (u w : MS) (g k : Nat) (ps : Nat → Nat) (p0 p q0 q1 : Nat) : Prop := KM2 u w ∧ CW0 w ∧ (F u 441 ≤ F w 441 ∧ F w 714 ≤ F u 714 ∧ (F w 711 = 0 → F u 711 = 0)) ∧ (∀ j, j ≠ g → A w 29 j = A u 29 j) ∧ (F w 711 = 0 → F w 441 ≤ F u 441 + WBc ps p0 p) ∧ (GDc w p q1 → OLQ u w q0 q1 ∧ A w 29 g = ((szc u : Nat) : Int) ∧ szc u < szc w ∧ SGc w (szc u) (szc w) q0 q1 [] 0 k 0 [] 0 0 none)
section
variable {u v w : MS} {N lv t hi lo o q r s c h m g x d a b k n f Q z la cl cc : Nat} {ps : Nat → Nat} {E E2 : Nat → Nat → Nat → Nat → Nat → Nat → Nat → Prop}
theorem KM2.F (h : KM2 u w) {k : Nat} (hk : k ∉ [441, 706, 709, 711, 712, 713, 714]) : F w k = F u k := congrArg _ (h.1 k hk)
theorem KM2.A (h : KM2 u w) {j k : Nat} (hk : j ∉ [23, 29, 30, 31, 32, 39, 40, 41, 42]) : A w j k = A u j k := by show (w.2.2.1 j k).toInt = _; rw [h.2.2.1 j hk]; rfl
theorem KM2.tr (a : KM2 u v) (b : KM2 v w) : KM2 u w := FR.tr a b
theorem KMF.to2 (a : KMF u v) : KM2 u v := FR.mo a (by simp) (by simp) (by simp) (by simp)
theorem KN_m2 (h : KM2 u w) : KNc u w a b n := ⟨⟨h.2.2.1 6 (by simp), h.2.2.1 7 (by simp)⟩, fun k _ _ => ⟨⟨h.A (by simp), h.A (by simp), h.A (by simp), h.A (by simp), h.A (by simp)⟩, fun _ => h.A (by simp)⟩⟩
theorem CMX_k2 (h : CMX u c ps Q) (g : KM2 u w) : CMX w c ps Q := by
  obtain ⟨⟨⟨h1, h2, h3, h4⟩, hT⟩, ⟨w36, w1⟩, h8, h9⟩ := h
  have eA : ∀ k, k ∉ [23, 29, 30, 31, 32, 39, 40, 41, 42] → w.2.2.1 k = u.2.2.1 k := g.2.2.1
  obtain ⟨t1, t2, t3, t4, t5⟩ := hT
  refine ⟨⟨⟨by rw [g.F (k := 81) (by simp)]; exact h1, fun k hk => by rw [eA 5 (by simp)]; exact h2 k hk, ?_, by rw [g.F (k := 182) (by simp)]; exact h4⟩, ⟨⟨by rw [g.F (k := 85) (by simp)]; exact t1.1, t1.2⟩, by rw [g.A (j := 6) (by simp)]; exact t2, t3, by rw [g.F (k := 81) (by simp)]; exact t4, fun t ht => ?_⟩⟩, ⟨?_, ?_⟩, by rw [g.F (by simp)]; exact h8, by rw [g.F (by simp)]; exact h9⟩
  · unfold WDc at h3 ⊢
    rw [g.F (by simp)]
    refine ⟨h3.1, h3.2.1, h3.2.2.1, h3.2.2.2.1, fun k hk => ?_⟩
    rw [g.A (by simp), g.A (by simp)]; exact h3.2.2.2.2 k hk
  · obtain ⟨k, h6, h7⟩ := t5 t ht
    exact ⟨k, by rw [g.A (j := 6) (by simp)]; exact h6, TVL_k h7 (g.A (by simp)) (eA 5 (by simp)) (by rw [g.F (k := 22) (by simp)]; omega) (by rw [g.F (k := 242) (by simp)]; omega)⟩
  · unfold WDc at w36 ⊢
    rw [g.F (by simp)]
    refine ⟨w36.1, w36.2.1, w36.2.2.1, w36.2.2.2.1, fun k hk => ?_⟩
    rw [g.A (by simp), g.A (by simp)]; exact w36.2.2.2.2 k hk
  · unfold WDc at w1 ⊢
    rw [g.F (by simp)]
    refine ⟨w1.1, w1.2.1, w1.2.2.1, w1.2.2.2.1, fun k hk => ?_⟩
    rw [g.A (by simp), g.A (by simp)]; exact w1.2.2.2.2 k hk
theorem fn_in {x1 x2 x3 x4 x5 : MS} (hv : CW0 v) (h1 : x1 = wi v 709 0) (h2 : x2 = wi x1 706 0) (h3 : x3 = wa x2 40 0 0) (h4 : x4 = wa x3 41 0 0) (h5 : x5 = wa x4 29 g (F v 441)) : KM2 v x5 ∧ CVI x5 0 ∧ (∀ j, j ≠ 709 → j ≠ 706 → F x5 j = F v j) ∧ F x5 706 = 0 ∧ A x5 40 0 = 0 ∧ (∀ r j, r ≠ 40 → r ≠ 41 → r ≠ 29 → A x5 r j = A v r j) ∧ A x5 29 g = F v 441 ∧ ∀ j, j ≠ g → A x5 29 j = A v 29 j := by
  obtain ⟨g1, g2, g3, g4, g5⟩ := hv
  have r4 : RG (F v 441) := FRG1 v 441
  have F2 : ∀ j, j ≠ 709 → j ≠ 706 → F x2 j = F v j := fun j a b => by rw [h2, F_wi (by decide) (by decide), if_neg b, h1, F_wi (by decide) (by decide), if_neg a]
  have F26 : F x2 706 = 0 := by rw [h2, F_wi (by decide) (by decide), if_pos rfl]
  have F29 : F x2 709 = 0 := by rw [h2, F_wi (by decide) (by decide), if_neg (show ¬ (709 : Nat) = 706 by decide), h1, F_wi (by decide) (by decide), if_pos rfl]
  have F5 : ∀ j, F x5 j = F x2 j := fun j => by rw [h5, F_wa, h4, F_wa, h3, F_wa]
  have A2 : ∀ r j, A x2 r j = A v r j := fun r j => by rw [h2, A_wi, h1, A_wi]
  have A3 : ∀ r j, A x3 r j = if r = 40 then (if j = 0 then 0 else A v r j) else A v r j := fun r j => by rw [h3, A_wa (by decide) (by decide), A2]
  have A4 : ∀ r j, A x4 r j = if r = 41 then (if j = 0 then 0 else A x3 r j) else A x3 r j := fun r j => by rw [h4, A_wa (by decide) (by decide)]
  have A5 : ∀ r j, A x5 r j = if r = 29 then (if j = g then F v 441 else A x4 r j) else A x4 r j := fun r j => by rw [h5, A_wa r4.1 r4.2]
  have B40 : ∀ j, A x5 40 j = if j = 0 then 0 else A v 40 j := fun j => by rw [A5, if_neg (show ¬ (40 : Nat) = 29 by decide), A4, if_neg (show ¬ (40 : Nat) = 41 by decide), A3, if_pos (show (40 : Nat) = 40 from rfl)]
  have B41 : ∀ j, A x5 41 j = if j = 0 then 0 else A v 41 j := fun j => by rw [A5, if_neg (show ¬ (41 : Nat) = 29 by decide), A4, if_pos (show (41 : Nat) = 41 from rfl), A3, if_neg (show ¬ (41 : Nat) = 40 by decide)]
  have km : KM2 v x5 := by
    rw [h5, h4, h3, h2, h1]
    exact FR.wa (FR.wa (FR.wa (FR.wi (FR.wi FR.rf (by simp)) (by simp)) (by simp)) (by simp)) (by simp)
  have b40 : A x5 40 0 = 0 := by rw [B40, if_pos rfl]
  have b41 : A x5 41 0 = 0 := by rw [B41, if_pos rfl]
  have c7 : ∀ j, j < 32 → (0 ≤ A x5 40 j ∧ A x5 40 j ≤ 4000) ∧ 0 ≤ A x5 41 j ∧ A x5 41 j ≤ 4000 := fun j hj => by
    rw [B40, B41]
    by_cases e : j = 0
    · rw [if_pos e, if_pos e]; omega
    · rw [if_neg e, if_neg e]; exact g5 j hj
  have e6 : F x5 706 = 0 := by rw [F5]; exact F26
  refine ⟨km, ⟨by rw [F5, F2 441 (by decide) (by decide)]; exact g1, by rw [e6]; omega, ⟨by rw [F5]; exact F29, by omega⟩, ⟨by rw [F5, F2 712 (by decide) (by decide)]; exact Or.inl g4.1, by rw [F5, F2 713 (by decide) (by decide)]; exact Or.inl g4.2⟩, by rw [F5, F2 714 (by decide) (by decide)]; exact g2, by rw [F5, F2 711 (by decide) (by decide)]; exact g3, c7, by rw [b40, e6]; exact Int.le_refl _, by rw [b40, b41, e6]; omega⟩, fun j a b => by rw [F5, F2 j a b], e6, b40, fun r j a b c => by rw [A5, if_neg c, A4, if_neg b, A3, if_neg a], by rw [A5, if_pos rfl, if_pos rfl], fun j hj => by rw [A5, if_pos rfl, if_neg hj, A4, if_neg (show ¬ (29 : Nat) = 41 by decide), A3, if_neg (show ¬ (29 : Nat) = 40 by decide)]⟩
theorem oneFn_ok {kc first p0 p n0 n1 q0 q1 : Nat} (hN : 1000000000 ≤ N) (hu : CW0 u) (hx : CMX u cc ps Q) (hg : g < 666) (hr : RWc u 1 (CLSc u) kc first p0 (p - 1) n0 n1 q0 q1) (h27 : A u 27 g = ((first : Nat) : Int)) (h25 : A u 25 g = ((k : Nat) : Int)) (hk : k ≤ 6) (hp : p0 + 6 ≤ p) (hpc : p ≤ cc) (hn : n1 ≤ 8000) (hQ : q1 ≤ Q) : OK (fun w _ => FUQ u w g k ps p0 p q0 q1) (hm_Cm_oneFunction N u (I ((g : Nat) : Int))) := by
  have gr := (RW_hd CLS_bd hr).1
  have hkc := RW_cnt CLS_bd hr
  unfold HDc at gr
  have hc4 := hx.1.2.1.2
  have e17 : ∃ t : Nat, A u 17 first = ((t : Nat) : Int) ∧ t ≤ 4000 := by
    cases kc with
    | zero => exact hr.elim
    | succ kc =>
      obtain ⟨m, c2, s, e, -⟩ := hr
      have := e.1
      unfold HDc at this
      exact ⟨p0, e.2.2.1, by omega⟩
  obtain ⟨t, e17, ht⟩ := e17
  have ig : inb (I ((g : Nat) : Int)) 666 = true := (I_inb (by omega) (by omega)).mpr ⟨by omega, by omega⟩
  have if1 : inb (I ((first : Nat) : Int)) 8016 = true := (I_inb (by omega) (by omega)).mpr ⟨by omega, by omega⟩
  have i0 : inb (0 : Int32) 32 = true := by decide
  have t0 : (0 : Int32).toNatClampNeg = 0 := by decide
  have e79 : ∀ v, FR [714] [] [] [] u v → CW0 v → F v 714 ≤ F u 714 → OK (fun w _ => FUQ u w g k ps p0 p q0 q1) (hb_Cm_oneFunction_79 N (hg_Cm_oneFunction N N) v (I ((g : Nat) : Int))) := fun v fv cv h714 => by
    have kuv : KM2 u v := FR.mo fv (by simp) (by simp) (by simp) (by simp)
    have ev : ∀ j, j ≠ 714 → F v j = F u j := fun j hj => congrArg _ (fv.1 j (by simp; exact hj))
    have ea : ∀ r j, A v r j = A u r j := fun r j => by show (v.2.2.1 r j).toInt = _; rw [fv.2.2.1 r (by simp)]; rfl
    unfold hb_Cm_oneFunction_79
    rw [i0, t0, ig, tnI (n := g) rfl (by omega)]
    refine ok_lt.mpr (ok_lt.mpr ?_)
    rw [lit0q, wi_e, wi_e]
    generalize h1 : wi v 709 0 = x1
    generalize h2 : wi x1 706 0 = x2
    rw [ck_t]
    refine ok_lt.mpr ?_
    rw [wa_e, ck_t]
    refine ok_lt.mpr ?_
    rw [wa_e, ck_t]
    refine ok_lt.mpr ?_
    generalize h3 : wa x2 40 0 0 = x3
    generalize h4 : wa x3 41 0 0 = x4
    rw [show x4.1 441 = I (F v 441) by rw [I_F, ← h4, F_wa, ← h3, F_wa, ← h2, F_wi (by decide) (by decide), if_neg (by decide), ← h1, F_wi (by decide) (by decide), if_neg (by decide)], wa_e]
    generalize h5 : wa x4 29 g (F v 441) = s0
    obtain ⟨km, c0, f0, f06, a40, aO, a29, a29n⟩ := fn_in (g := g) cv h1.symm h2.symm h3.symm h4.symm h5.symm
    have ku0 : KM2 u s0 := KM2.tr kuv km
    rw [ck_t, I_A (k := 27), ku0.A (j := 27) (by simp), h27]
    have x0 : CMX s0 cc ps Q := CMX_k2 hx ku0
    have hm0 : CMP s0 0 cc ps Q 1 0 := ⟨c0, x0, by rw [f0 713 (by decide) (by decide)]; exact cv.2.2.2.1.2, by omega, by rw [f06]; decide⟩
    have hrw : RWc s0 1 (CLSc s0) kc first p0 (p - 1) n0 n1 q0 q1 := RW_k (CLS_k u s0) CLS_bd hr (KN_m2 ku0)
    have p00 : PCQ s0 s0 0 (WBc ps p0 p0) 0 p0 q0 q0 (F s0 706 = 0 ∧ (A s0 41 0 ≤ 40 → SGc s0 (szc s0) (szc s0) q0 q0 [] 0 k 0 [] 0 0 (some (k, 0, [], 0, 0)))) := PC_w (PC_rf (hi := p0) (q := q0) c0) (by unfold WBc; simp) (Nat.le_refl _) (Nat.le_refl _) (fun _ _ => ⟨f06, fun _ => SG_nl⟩)
    refine clausesX_ok (k := k) (lo := p0) (q := q0) hN hg hm0 (by rw [f0 712 (by decide) (by decide)]; exact cv.2.2.2.1.1) a40 (by rw [ku0.A (by simp)]; exact h25) hQ hn (by omega) kc N first p0 n0 q0 s0 hrw p00 (Nat.le_refl _) (Nat.le_refl _) (by omega) (fun w M2 pw => ?_)
    unfold hb_Cm_oneFunction_129
    refine ok_br.mpr ⟨fun _ => ?_, fun z => absurd z (by decide)⟩
    have cw := pw.1.2.1
    refine put_1 (x := 36) cw.1 ⟨by decide, by decide⟩ (fun w1 e1 => ?_)
    have k1 := EMc.km cw e1
    have c1 := k1.2.1
    have kk := KMc.tr pw.1 k1
    have f41 := f0 441 (by decide) (by decide)
    have S0 : szc s0 = szc u := by show (F s0 441).toNat = (F u 441).toNat; rw [f41, ev 441 (by decide)]
    have l1 := e1.2.1.2.2
    simp only [List.length_cons, List.length_nil] at l1
    have fin : ∀ y : Int, (y = 0 ∨ y = 1) → (y = 0 → F w1 711 = 0 ∧ A w1 41 0 ≤ 40) → OK (fun w _ => FUQ u w g k ps p0 p q0 q1) (hb_Cm_oneFunction_268 N (hg_Cm_oneFunction N M2) w1 (I y)) := fun y hy hy0 => by
      unfold hb_Cm_oneFunction_268
      refine ok_ck.mpr ⟨by rcases hy with rfl | rfl <;> decide, ok_lt.mpr (ok_some.mpr ?_)⟩
      rw [wi_e]
      have hyr : RG y := ⟨by omega, by omega⟩
      have kw := KM_711 c1 hy (fun z => (hy0 z).1)
      have wF : ∀ j, j ≠ 711 → F (wi w1 711 y) j = F w1 j := fun j hj => by rw [F_wi hyr.1 hyr.2, if_neg hj]
      have w11 : F (wi w1 711 y) 711 = y := by rw [F_wi hyr.1 hyr.2, if_pos rfl]
      have wA : ∀ r j, A (wi w1 711 y) r j = A w1 r j := fun _ _ => rfl
      have swi : ∀ {a b q r : Nat} {H : List (Nat × Tyc)} {z h m : Nat} {L : List Nat} {g x : Nat} {oo : Option Tyc}, SGc w1 a b q r H z h m L g x oo → SGc (wi w1 711 y) a b q r H z h m L g x oo := fun p => SG_wi hyr ⟨by decide, by decide, by decide⟩ p
      generalize wi w1 711 y = w2 at kw wF w11 wA swi ⊢
      have k02 := KMc.tr kk kw
      have c2 := k02.2.1
      have a2 : ∀ r j, r ≠ 23 → A w2 r j = A w r j := fun r j hr => by
        rw [wA]
        show (w1.2.2.1 r j).toInt = _; rw [e1.1.2.2.1 r (by simp; exact hr)]; rfl
      have k0w : ∀ j, A w 29 j = A s0 29 j := fun j => pw.1.1.A (by simp)
      have w4 : F w2 441 = F w1 441 := wF 441 (by decide)
      have u41 := ev 441 (by decide)
      have m1 := kk.2.2.1
      have m2 := k02.2.2.2.1
      have e14 := f0 714 (by decide) (by decide)
      have e11 := f0 711 (by decide) (by decide)
      have hcs : CSX u cc ps := hx.1
      have wb := WB_1 hcs (lo := p0) (lo2 := p0) (hi2 := p - 1) (hi := p) (by omega) (by omega) (by omega) hpc
      refine ⟨KM2.tr ku0 k02.1.to2, ⟨c2.1, c2.2.2.2.2.1, c2.2.2.2.2.2.1, ⟨by rw [k02.2.2.2.2.2.1.1, f0 712 (by decide) (by decide)]; exact cv.2.2.2.1.1, by rw [k02.2.2.2.2.2.1.2, f0 713 (by decide) (by decide)]; exact cv.2.2.2.1.2⟩, c2.2.2.2.2.2.2.1⟩, ⟨by omega, by omega, fun z => by rw [← ev 711 (by decide), ← e11]; exact k02.2.2.2.2.1 z⟩, fun j hj => by rw [a2 29 j (by decide), k0w, a29n j hj, ea], fun z => ?_, fun gd => ?_⟩
      · have y0 : y = 0 := by rw [← w11]; exact z
        have z1 := (hy0 y0).1
        have := pw.2.2.1 (k1.2.2.2.2.1 z1)
        omega
      · have y0 : y = 0 := by rw [← w11]; exact gd.2.1
        obtain ⟨z1, z2⟩ := hy0 y0
        have g1 : GDc w1 p q1 := by
          have q14 := wF 714 (by decide)
          exact ⟨by rw [← q14]; exact gd.1, z1, by rw [← w4]; exact gd.2.2.1, gd.2.2.2.1, gd.2.2.2.2⟩
        obtain ⟨ol, y1, y2⟩ := (PC_em (hi := p) (q := q1) cw e1).2.2.2 g1
        obtain ⟨o1, z6, sl, ty⟩ := pw.2.2.2 (GD_u (hi1 := p - 1) (s := q1) cw k1 g1 (by omega) (Nat.le_refl _))
        have s1 : szc w1 = szc w + 1 := y1
        have sw2 : szc w2 = szc w1 := by show (F w2 441).toNat = _; rw [w4]
        have a41 := k1.2.2.2.2.2.2.2.2
        have i1 := ty (by omega)
        have i2 := SG_nocl (u := w1) (a := szc w) (q := q1) (z := 0) (h := k) (m := 0) (L := []) (g := 0) (x := 0) (by omega) (by omega) (by omega) (Or.inl (y2 0 (by simp)))
        have j1 := SG_kw cw i1 k1.1 ol (Nat.le_refl _) (Or.inl (Nat.le_refl _))
        have j := SG_seq j1 i2 (Nat.le_refl _) (fun _ => rfl)
        rw [List.append_nil, ← s1, S0] at j
        have su : F u 441 = ((szc u : Nat) : Int) := by have := hu.1; show F u 441 = (((F u 441).toNat : Nat) : Int); omega
        refine ⟨⟨fun j hj => ?_, fun pl hpl => ?_⟩, ?_, by omega, by rw [sw2]; exact swi j⟩
        · rw [wA, ol.1 j (by have := pw.1.2.2.1; omega), o1.1 j (by omega), aO 23 j (by decide) (by decide) (by decide), ea]
        · obtain ⟨b1, b2, b3⟩ := o1.2 pl hpl
          exact ⟨by rw [a2 30 pl (by decide), b1, aO 30 pl (by decide) (by decide) (by decide), ea], by rw [a2 31 pl (by decide), b2, aO 31 pl (by decide) (by decide) (by decide), ea], by rw [a2 32 pl (by decide), b3, aO 32 pl (by decide) (by decide) (by decide), ea]⟩
        · rw [a2 29 g (by decide), k0w, a29, u41]
          exact su
    unfold hb_Cm_oneFunction_263
    rw [i0, t0, I_A (w := w1) (k := 41), show (40 : Int32) = I 40 from rfl]
    have b41 := (c1.2.2.2.2.2.2.1 0 (by omega)).2
    refine k_F (y := 0) rfl ⟨by decide, by decide⟩ (fun z1 => ok_ck.mpr ⟨rfl, k_le ⟨by omega, by omega⟩ ⟨by decide, by decide⟩ (fun z2 => fin 0 (Or.inl rfl) (fun _ => ⟨z1, z2⟩)) (fun _ => fin 1 (Or.inr rfl) (fun z => absurd z (by decide)))⟩) (fun _ => fin 1 (Or.inr rfl) (fun z => absurd z (by decide)))
  have e73 : OK (fun w _ => FUQ u w g k ps p0 p q0 q1) (hb_Cm_oneFunction_73 N (hg_Cm_oneFunction N N) u (I ((g : Nat) : Int)) (I ((t : Nat) : Int))) := by
    unfold hb_Cm_oneFunction_73
    obtain ⟨z, e, z1, z2, z3, z4⟩ := fault_e (N := N) (u := u) (x := ((t : Nat) : Int)) (y := 4) hu.2.1 ⟨by omega, by omega⟩ ⟨by decide, by decide⟩
    have zr : RG z := ⟨by omega, by omega⟩
    rw [show (4 : Int32) = I 4 from rfl, e, bnd_so]
    have eF : ∀ j, j ≠ 714 → F (wi u 714 z) j = F u j := fun j hj => by rw [F_wi zr.1 zr.2, if_neg hj]
    have e4 : F (wi u 714 z) 714 = z := by rw [F_wi zr.1 zr.2, if_pos rfl]
    refine e79 (wi u 714 z) (FR.wi FR.rf (by simp)) ⟨by rw [eF 441 (by decide)]; exact hu.1, by rw [e4]; omega, by rw [eF 711 (by decide)]; exact hu.2.2.1, by rw [eF 712 (by decide), eF 713 (by decide)]; exact hu.2.2.2.1, hu.2.2.2.2⟩ (by rw [e4]; exact z2)
  have e79u := e79 u FR.rf hu (Int.le_refl _)
  unfold hm_Cm_oneFunction hb_Cm_oneFunction_0
  rw [ig, ck_t, tnI (n := g) rfl (by omega), I_A' h27, if1, ck_t, ck_t, ck_t, tnI (n := first) rfl (by omega), I_A (k := 24), I_A' h25, I_A' e17, ok_bnd]
  refine ok_mono (seekF_ok (N := N) hx.2.2.1 (A_r _ _ _) ⟨by omega, by omega⟩ (by omega)) (fun v r1 h1 => ?_)
  obtain ⟨rfl, h1⟩ := h1
  refine ok_br.mpr ⟨fun _ => ?_, fun _ => e73⟩
  rw [ck_t, ck_t, I_A (k := 24), I_A' h25, ok_bnd]
  refine ok_mono (preOf_ok (N := N) hx.2.1.1 hx.2.1.2 (A_r _ _ _) hk (by omega)) (fun v2 r2 h2 => ?_)
  obtain ⟨rfl, -⟩ := h2
  exact ok_br.mpr ⟨fun _ => e79u, fun _ => e73⟩
end
