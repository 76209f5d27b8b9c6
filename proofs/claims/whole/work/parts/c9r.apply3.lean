/-! a FUN is applied, both sides: a FRAME more -/
set_option maxRecDepth 100000
/-- a FRAME more, there, and on at its entry -/
def ntS (m : MS) (p j B P0 ra : Nat) (f e : Int) : MS := wi (opS (s30 m p (5 * j + 4) (I ((ra : Nat) : Int))) p (j + 1) B P0 (I f) (I e)) 1105 e
/-- the FUN is taken out, here -/
def toW (w : MS) (p P0 ar : Nat) : MS := (w.1, w.2.1, (wa w 92 p ((P0 + ar : Nat) : Int)).2.2.1, fun K => if K = 91 then (fun i => if 46000 * p + P0 ≤ i ∧ i < 46000 * p + P0 + ar then w.2.2.2 91 (i + 1) else w.2.2.2 91 i) else w.2.2.2 K)
section
variable {b : Int → Nat → Nat → Prop} {p j B P0 ra ar U Y k : Nat} {m w : MS} {f e : Int}
theorem ntS_1' (h1 : k ≠ 1105) (h2 : k ≠ pq p 21) : (ntS m p j B P0 ra f e).1 k = m.1 k := by
  unfold ntS
  rw [wi_1 h1]
  show (wi (s30 m p (5 * j + 4) (I ((ra : Nat) : Int))) (pq p 21) ((j + 1 + 1 : Nat) : Int)).1 k = _
  rw [wi_1 h2]
  rfl
theorem ntS_21 (hj : j < 60) : F (ntS m p j B P0 ra f e) (pq p 21) = ((j + 1 + 1 : Nat) : Int) := by
  unfold ntS
  rw [wi_ne (fun c => pq_n (by omega) c.symm)]
  show F (wi (s30 m p (5 * j + 4) (I ((ra : Nat) : Int))) (pq p 21) ((j + 1 + 1 : Nat) : Int)) (pq p 21) = _
  rw [wi_sm (by omega) (by omega)]
theorem ntS_05 (he : RG e) : F (ntS m p j B P0 ra f e) 1105 = e := by
  unfold ntS
  rw [wi_sm he.1 he.2]
theorem ntS_J : (ntS m p j B P0 ra f e).2.2.2 = m.2.2.2 := rfl
theorem ntS_A (h : k ≠ pq p 30) : (ntS m p j B P0 ra f e).2.2.1 k = m.2.2.1 k := by
  show (opS (s30 m p (5 * j + 4) (I ((ra : Nat) : Int))) p (j + 1) B P0 (I f) (I e)).2.2.1 k = _
  unfold opS
  exact (if_neg h).trans ((if_neg h).trans ((if_neg h).trans ((if_neg h).trans ((if_neg h).trans (if_neg h)))))
theorem ntS_30 {i : Nat} (hB : B < 2147483648) (hP : P0 < 2147483648) (hr : ra < 2147483648) (hf : RG f) (he : RG e) : A (ntS m p j B P0 ra f e) (pq p 30) i = if i = 5 * (j + 1) + 4 then e else if i = 5 * (j + 1) + 1 then 0 else if i = 5 * (j + 1) then f else if i = 5 * (j + 1) + 3 then ((P0 : Nat) : Int) else if i = 5 * (j + 1) + 2 then ((B : Nat) : Int) else if i = 5 * j + 4 then ((ra : Nat) : Int) else A m (pq p 30) i := by
  show A (opS (s30 m p (5 * j + 4) (I ((ra : Nat) : Int))) p (j + 1) B P0 (I f) (I e)) (pq p 30) i = _
  rw [opS_30 hB hP, I_ti he.1 he.2, I_ti hf.1 hf.2, s30_a, I_ti (by omega) (by omega)]
theorem GGm_ntS : GGm p m (ntS m p j B P0 ra f e) := GGm.tr (GGm.tr GGm_s30 GGm_opS) (GGm_reg (by omega))
theorem GGm_toS : GGm p m (toS m p P0 ar) := GGm.tr (GGm_j (by omega)) (GGm_own (by omega))
theorem toS_J (h : k ≠ pq p 35) : (toS m p P0 ar).2.2.2 k = m.2.2.2 k := if_neg h
theorem toS_A : (toS m p P0 ar).2.2.1 = m.2.2.1 := rfl
theorem FGm_toS : FGm p m (toS m p P0 ar) := ⟨fun k hk => toS_1 (by simp at hk; omega), fun _ _ => rfl, fun _ _ => rfl, fun k hk => toS_J (by simp at hk; omega)⟩
theorem toW_J (h : k ≠ 91) : (toW w p P0 ar).2.2.2 k = w.2.2.2 k := if_neg h
theorem toW_91 {i : Nat} : (toW w p P0 ar).2.2.2 91 i = if 46000 * p + P0 ≤ i ∧ i < 46000 * p + P0 + ar then w.2.2.2 91 (i + 1) else w.2.2.2 91 i := by
  show (if (91 : Nat) = 91 then (fun i => if 46000 * p + P0 ≤ i ∧ i < 46000 * p + P0 + ar then w.2.2.2 91 (i + 1) else w.2.2.2 91 i) else w.2.2.2 91) i = _
  rw [if_pos rfl]
theorem toW_A (h : k ≠ 92) : (toW w p P0 ar).2.2.1 k = w.2.2.1 k := wa_21 h
theorem toW_92 (h : P0 + ar < 100000000) : A (toW w p P0 ar) 92 p = ((P0 + ar : Nat) : Int) := wa_sm (u := w) (by omega) (by omega)
theorem FGw_toW (hW : P0 + 1 + ar ≤ 46000) : FGw p j w (toW w p P0 ar) := by
  have g : FGw p j w (wa w 92 p ((P0 + ar : Nat) : Int)) := FGw.w92
  obtain ⟨⟨g1, g2, g3, g4⟩, g5, g6, g7⟩ := g
  refine ⟨⟨fun _ _ => rfl, fun _ _ => rfl, g3, fun K hK => toW_J (by simp at hK; omega)⟩, g5, g6, fun i hi => by rw [toW_J (by omega)], fun i hi => ?_, fun i hi => by rw [toW_J (by omega)], fun i hi => by rw [toW_J (by omega)]⟩
  rw [toW_91, if_neg (by omega)]
/-- the FUN is taken out on both sides -/
theorem PLs_to (pl : PLs b p m w U B (P0 + 1 + ar) Y) (hW : P0 + 1 + ar ≤ 46000) : PLs b p (toS m p P0 ar) (toW w p P0 ar) U B (P0 + ar) Y := by
  obtain ⟨⟨⟨p1, p2, p3⟩, p4, p5⟩, ⟨p6, p7, p8⟩, ⟨p9, p10, p11⟩, p12, p13, p14⟩ := pl
  have fq : ∀ l, l ≠ 26 → F (toS m p P0 ar) (pq p l) = F m (pq p l) := fun l h => congrArg Int32.toInt (toS_1 (pq_inj h))
  have aR : ∀ K, K ≠ 92 → A (toW w p P0 ar) K p = A w K p := fun K h => by show ((toW w p P0 ar).2.2.1 K p).toInt = _; rw [toW_A h]; rfl
  have hpe : hp (toW w p P0 ar) p = hp w p := by
    funext k
    show (toW w p P0 ar).2.2.2 88 (500 * p + k) = _
    rw [toW_J (by omega)]
    rfl
  refine ⟨⟨⟨by rw [fq 4 (by omega)]; exact p1, by rw [aR 89 (by omega)]; exact p2, p3⟩, by rw [toS_J (pq_inj (by omega)), hpe]; exact p4, by rw [toS_1 (pq_inj (by omega)), toW_A (by omega)]; exact p5⟩, ⟨by rw [fq 24 (by omega)]; exact p6, by rw [aR 94 (by omega)]; exact p7, fun i hi => by rw [toS_J (pq_inj (by omega)), toW_J (by omega)]; exact p8 i hi⟩, ⟨toS_26 (by omega), toW_92 (by omega), fun i hi => ?_⟩, by rw [fq 7 (by omega)]; exact p12, by rw [aR 108 (by omega)]; exact p13, fun i hi => by rw [toS_J (pq_inj (by omega)), toW_J (by omega)]; exact p14 i hi⟩
  rw [toS_35 hi, toW_91]
  by_cases c : i < P0
  · rw [if_pos c, if_neg (by omega)]
    exact p11 i (by omega)
  · rw [if_neg c, if_pos (by omega)]
    exact p11 (i + 1) (by omega)
end
section
variable {α β : Type} {b : Int → Nat → Nat → Prop} {N p U B Y j a n ar P0 l v v' uu e ad L c : Nat} {m w : MS} {t x : Int64} {nb : Nat → Nat} {Hs Os : Nat → List Nat} {H : List Nat} {Q : MS → α → MS → β → Prop} {K1 : MS → Option (MS × α)} {K2 : MS → Option (MS × β)}
theorem op_applyN (hpp : p < 24) (pl : PLs b p m w U B (P0 + 1 + ar) Y) (ru : RUs m w p j nb Hs Os none a n) (hW : P0 + 1 + ar ≤ 46000) (hB2 : B + L ≤ 2500) (hj1 : j + 1 < 60) (hlt : F m 1106 < F m 1107) (ha : a + 3 < 24000) (hl : F m (pq p 45) = ((l : Nat) : Int)) (hl2 : P0 + 1 + ar ≤ l ∧ l ≤ 1000000) (h43 : ((B : Nat) : Int) ≤ F m (pq p 43) ∧ ((B : Nat) : Int) ≤ F m (pq p 42)) (c1 : A m 23 (a + 1) = ((ar : Nat) : Int)) (h26 : A w 26 n = ((ar : Nat) : Int)) (h30 : A w 30 n = 0)
    (ht : m.2.2.2 (pq p 35) P0 = t) (hx : w.2.2.2 91 (46000 * p + P0) = x) (st : so t = 3) (sx : so x = 3) (hv : va t = ((v : Nat) : Int)) (hv2 : v + 2 + L ≤ 500) (hv' : va x = ((v' : Nat) : Int)) (hv2' : v' + 2 + L ≤ 500) (hc0 : va (m.2.2.2 (pq p 2) v) = ((uu : Nat) : Int)) (hd : (hp w p v').toInt = ((uu : Nat) : Int)) (hL' : va (hp w p (v' + 1)) = ((L : Nat) : Int)) (hcs : ∀ i, i < L → RTb b (m.2.2.2 (pq p 2) (v + 2 + i)) (hp w p (v' + 2 + i)))
    (h449 : ((uu : Nat) : Int) < F m 449) (hu : uu < 400) (f30 : A m 30 uu = ((ar : Nat) : Int)) (f31 : A m 31 uu = ((e : Nat) : Int)) (f32 : A m 32 uu = ((ad : Nat) : Int)) (fL : A m 23 ad = ((L : Nat) : Int)) (had : ad + 1 + L < 24000) (hH : H.length = L) (nm : ∀ i x : Nat, H[i]? = some x → A m 23 (ad + 1 + i) = ((x : Nat) : Int)) (nd : H.Nodup) (h53 : A w 53 uu = ((c : Nat) : Int)) (hc : c < 100000) (h41 : A w 41 c = ((ar : Nat) : Int)) (cr : ∃ g, CRs (A m 23) (ROs w) (w.2.2.2 34) g none (a + 3) (n + 1) (Hs j) (Os j)) (zr : ∃ g g2, ZRs (A m 23) (ROs w) (w.2.2.2 34) (CRs (A m 23) (ROs w) (w.2.2.2 34) g) 0 0 H [] g2 e ((c : Nat) : Int))
    (k : ∀ m4 w4, TRs m4 w4 p (j + 1) (upf nb (j + 1) B) (upf Hs (j + 1) H) (upf Os (j + 1) []) 0 0 e ((c : Nat) : Int) → PLs b p m4 (wa w4 94 p ((B + L : Nat) : Int)) U (B + L) (P0 + ar) Y → GGm p (cbM m) m4 → GGw p (cbW w) w4 → (SCs p m w → SCs p m4 w4) → (w4.2.2.2 88 = w.2.2.2 88 ∧ w4.1 140 = w.1 140) → PP Q (K1 m4) (bnd (gg_M_choose N (rc_M_error N 19) N w4 1) (fun u _ => K2 u))) : PP Q (bnd (hm_Ma_flow N m p (I 27)) (fun u _ => K1 u)) (bnd (fm_M_one N w (I ((n : Nat) : Int)) (I 13)) (fun u _ => K2 u)) := by
  obtain ⟨⟨fa, ct⟩, ⟨r2, r3⟩, ⟨f0, cr0⟩, ⟨r5, r6⟩, r7, ⟨r8, r9, r10⟩, r11, r12, r13⟩ := id ru
  have cb := CR_b cr0
  obtain ⟨⟨f1, f2, f3⟩, f4, f5, f6⟩ := id fa
  have ebd : e + 1 < 24000 := by
    obtain ⟨g, g2, z⟩ := zr
    cases g2 with
    | zero => exact z.elim
    | succ g2 => exact z.1
  have hne : (wi w 166 1).1 165 ≠ (wi w 166 1).1 164 := by
    rw [wi_1 (by omega), wi_1 (by omega), ← r12, ← r13]
    intro c
    have := congrArg Int32.toInt c
    have h1 : F m 1106 = (m.1 1106).toInt := rfl
    have h2 : F m 1107 = (m.1 1107).toInt := rfl
    omega
  -- there
  have t1 : ∀ k, k < 2000 → k ≠ 1106 → k ≠ 946 → (toS (cnM m p) p P0 ar).1 k = m.1 k := fun k h0 h1 h2 => (toS_1 (pq_n h0)).trans (cnM_1 h0 h1 h2)
  have tF : ∀ k, k < 2000 → k ≠ 1106 → k ≠ 946 → F (toS (cnM m p) p P0 ar) k = F m k := fun k h0 h1 h2 => congrArg Int32.toInt (t1 k h0 h1 h2)
  have tq : ∀ k, k ≠ 13 → k ≠ 26 → (toS (cnM m p) p P0 ar).1 (pq p k) = m.1 (pq p k) := fun k h1 h2 => (toS_1 (pq_inj h2)).trans (cnM_q h1)
  have en := entry_u (N := N) (p := p) (m := toS (cnM m p) p P0 ar) (uu := uu) (by rw [tF 449 (by omega) (by omega) (by omega)]; exact h449) hu
  have e31 : A (toS (cnM m p) p P0 ar) 31 uu = ((e : Nat) : Int) := f31
  rw [e31] at en
  have tk := takes_u (N := N) h449 hu
  rw [f30] at tk
  rw [apl_27, I_F' r2, show I ((a : Nat) : Int) + 1 = I ((a + 1 : Nat) : Int) from addN, Co_e (k := a + 1) rfl (by omega), bnd_so, c1, apN_m (cc := uu) (ff := -1) hlt r2 ha f1 hj1 pl.2.1.1 pl.2.2.1.1 hl hl2 ht st hv (by omega) hc0 tk en.2 en.1]
  refine l_bb (l_bb ?_)
  show PP Q (bnd (hm_Ma_hold N (ntS (toS (cnM m p) p P0 ar) p j B P0 (a + 3) (-1) ((e : Nat) : Int)) p p (pq p 2) t) _) _
  generalize hT : toS (cnM m p) p P0 ar = mT at t1 tF tq
  have tJ : ∀ k, k ≠ 35 → mT.2.2.2 (pq p k) = m.2.2.2 (pq p k) := fun k h => by rw [← hT, toS_J (pq_inj h)]; rfl
  have tA : mT.2.2.1 = m.2.2.1 := by rw [← hT]; rfl
  have tAa : ∀ K i, A mT K i = A m K i := fun K i => by show (mT.2.2.1 K i).toInt = _; rw [tA]; rfl
  generalize hE : ntS mT p j B P0 (a + 3) (-1) ((e : Nat) : Int) = mE
  have eA : ∀ K, K < 2000 → mE.2.2.1 K = m.2.2.1 K := fun K h => by rw [← hE, ntS_A (pq_n h), tA]
  have eAa : ∀ K i, K < 2000 → A mE K i = A m K i := fun K i h => by show (mE.2.2.1 K i).toInt = _; rw [eA K h]; rfl
  have eJ : mE.2.2.2 = mT.2.2.2 := by rw [← hE]; exact ntS_J
  have eq : ∀ k, k ≠ 13 → k ≠ 21 → k ≠ 26 → mE.1 (pq p k) = m.1 (pq p k) := fun k h1 h2 h3 => by rw [← hE, ntS_1' (fun c => pq_n (by omega) c.symm) (pq_inj h2)]; exact tq k h1 h3
  have eg : ∀ k, k < 2000 → k ≠ 1105 → mE.1 k = mT.1 k := fun k h0 h1 => by rw [← hE, ntS_1' h1 (pq_n h0)]
  have eF : ∀ k, k ≠ 13 → k ≠ 21 → k ≠ 26 → F mE (pq p k) = F m (pq p k) := fun k h1 h2 h3 => congrArg Int32.toInt (eq k h1 h2 h3)
  refine l_bnd (pk_mo (hold_m (N := N) (m := mE) (L := L) (ad := ad) (uu := uu) (B := B) hv (by omega) (by rw [eJ, tJ 2 (by omega)]; exact hc0) (by rw [show F mE 449 = F mT 449 from congrArg Int32.toInt (eg 449 (by omega) (by omega)), tF 449 (by omega) (by omega) (by omega)]; exact h449) hu ((eAa 32 uu (by omega)).trans f32) had ((eAa 23 ad (by omega)).trans fL) (by rw [eF 24 (by omega) (by omega) (by omega)]; exact pl.2.1.1) ⟨by rw [eF 43 (by omega) (by omega) (by omega)]; exact h43.1, by rw [eF 42 (by omega) (by omega) (by omega)]; exact h43.2⟩) (fun m4 _ h => ?_))
  obtain ⟨fx, q44, q24, q43, q32, q33⟩ := h
  have fm : CFm (toS m p P0 ar) m4 p j B P0 (a + 3) e L (-1) H := by
    have xq : ∀ k, k < 100 → k ≠ 24 → k ≠ 42 → k ≠ 43 → m4.1 (pq p k) = mE.1 (pq p k) := fun k h0 h1 h2 h3 => fx.2.2.2.2.1 p k h0 (fun _ => by simp; omega)
    have xg : ∀ k, k < 2000 → m4.1 k = mE.1 k := fun k h => fx.1 k h (by simp)
    have nS : ∀ k, k < 2000 → F (toS m p P0 ar) k = F m k := fun k h => congrArg Int32.toInt (toS_1 (pq_n h))
    refine ⟨⟨fun k h0 h1 h2 h3 h4 h5 => ?_, fun k h0 h1 h2 h3 => ?_, ?_, ?_, ?_, q24, ?_⟩, ⟨fun K h => ?_, fun k h0 h1 h2 => ?_, fun i hi => ?_, fun i x hx => ?_, fun i => ?_⟩, fun k h0 h1 => ?_, fun i hi => ?_⟩
    · rw [xq k h0 h3 h4 h5]
      by_cases c : k = 26
      · subst c
        rw [← hE, ntS_1' (fun c => pq_n (by omega) c.symm) (pq_inj (by omega)), ← hT]
        exact wi_s1.trans wi_s1.symm
      · rw [eq k h1 h2 c, toS_1 (pq_inj c)]
    · rw [xg k h0, eg k h0 h1, t1 k h0 h2 h3, toS_1 (pq_n h0)]
    · rw [xg 1106 (by omega), eg 1106 (by omega) (by omega), ← hT, toS_1 (pq_n (by omega)), cnM_06, nS 1106 (by omega)]
    · rw [xq 13 (by omega) (by omega) (by omega) (by omega), ← hE, ntS_1' (fun c => pq_n (by omega) c.symm) (pq_inj (by omega)), ← hT, toS_1 (pq_inj (by omega)), cnM_13, show F (toS m p P0 ar) (pq p 13) = F m (pq p 13) from congrArg Int32.toInt (toS_1 (pq_inj (by omega)))]
    · rw [show F m4 (pq p 21) = F mE (pq p 21) from congrArg Int32.toInt (xq 21 (by omega) (by omega) (by omega) (by omega)), ← hE, ntS_21 (by omega)]
    · rw [show F m4 1105 = F mE 1105 from congrArg Int32.toInt (xg 1105 (by omega)), ← hE, ntS_05 ⟨by omega, by omega⟩]
    · rw [fx.2.2.1 K h (by simp), eA K h]
      rfl
    · rw [fx.2.2.2.2.2.2.1 p k h0 (fun _ => by simp; omega), ← hE, ntS_A (pq_inj h1), tA]
      rfl
    · show (m4.2.2.1 (pq p 32) i).toInt = (m.2.2.1 (pq p 32) i).toInt
      rw [q32 i (by omega), if_pos hi, ← hE, ntS_A (pq_inj (by omega)), tA]
    · have hi : i < L := by
        rcases Nat.lt_or_ge i H.length with h | h
        · omega
        · rw [List.getElem?_eq_none h] at hx
          cases hx
      show (m4.2.2.1 (pq p 32) (B + i)).toInt = _
      rw [q32 (B + i) (by omega), if_neg (by omega), show B + i - B = i by omega, eAa 23 _ (by omega), nm i x hx]
      have := A_r m 23 (ad + 1 + i)
      rw [nm i x hx] at this
      exact I_ti this.1 this.2
    · rw [show A m4 (pq p 30) i = A mE (pq p 30) i from by show (m4.2.2.1 (pq p 30) i).toInt = _; rw [fx.2.2.2.2.2.2.1 p 30 (by omega) (fun _ => by simp)]; rfl, ← hE, ntS_30 (by omega) (by omega) (by omega) ⟨by omega, by omega⟩ ⟨by omega, by omega⟩, tAa]
      rfl
    · rw [fx.2.2.2.2.2.2.2 p k h0 (fun _ => by simp; omega), eJ, ← hT]
      by_cases c : k = 35
      · subst c
        show (if pq p 35 = pq p 35 then _ else _) = (if pq p 35 = pq p 35 then _ else _)
        rw [if_pos rfl, if_pos rfl]
        rfl
      · rw [toS_J (pq_inj c), toS_J (pq_inj c)]
        rfl
    · rw [q33 i (by omega), if_pos hi, eJ, tJ 33 (by omega), toS_J (pq_inj (by omega))]
  have gm : GGm p (cbM m) m4 := by
    refine GGm.tr (GGm.tr (GGm.tr GGm_cn (GGm_toS (P0 := P0) (ar := ar))) (m3 := mE) ?_) (GGm_fc fx (by simp) (by simp) (by simp))
    rw [hT, ← hE]
    exact GGm_ntS
  -- here
  rw [one_13]
  refine r_bb ?_
  refine call_13u (P0 := P0) (c := c) hpp (by omega) h26 r11 pl.2.2.1.2.1 hW hx sx hv' (by omega) hd (by omega) h53 hc h41 ?_
  have x33 : F (wi w 166 1) 133 = ((p : Nat) : Int) := by rw [wi_ne (by omega)]; exact r11
  refine call_go (j1 := j) (tl := 0) hpp (by omega) x33 f2 f3 hne h30 (Or.inr ⟨rfl, hj1⟩) ?_
  have e165 : F (wi w 166 1) 165 = F w 165 := wi_ne (by omega)
  have e119 : F (wi w 166 1) 119 = F w 119 := wi_ne (by omega)
  rw [e165, e119, show A (wi w 166 1) 114 p = A w 114 p from rfl]
  generalize hw1 : wa (wa (wi (wi (wi w 166 1) 165 (F w 165 + 1)) 119 (F w 119 + 1)) 114 p (A w 114 p + 1)) 98 (60 * p + j) ((n + 1 : Nat) : Int) = w1
  have a1 : ∀ K i, K ≠ 114 → K ≠ 98 → A w1 K i = A w K i := fun K i h1 h2 => by rw [← hw1, wa_rne h2, wa_rne h1]; rfl
  have i1 : ∀ l, l ≠ 166 → l ≠ 165 → l ≠ 119 → w1.1 l = w.1 l := fun l h1 h2 h3 => by
    rw [← hw1]
    show (wi (wi (wi w 166 1) 165 (F w 165 + 1)) 119 (F w 119 + 1)).1 l = _
    rw [wi_1 h3, wi_1 h2, wi_1 h1]
  have i165 : w1.1 165 = I (F w 165 + 1) := by
    rw [← hw1]
    show (wi (wi (wi w 166 1) 165 (F w 165 + 1)) 119 (F w 119 + 1)).1 165 = _
    rw [wi_1 (by omega)]
    exact wi_s1
  have i119 : w1.1 119 = I (F w 119 + 1) := by
    rw [← hw1]
    show (wi (wi (wi w 166 1) 165 (F w 165 + 1)) 119 (F w 119 + 1)).1 119 = _
    exact wi_s1
  have i166 : F w1 166 = 1 := by
    rw [← hw1]
    show F (wi (wi (wi w 166 1) 165 (F w 165 + 1)) 119 (F w 119 + 1)) 166 = 1
    rw [wi_ne (by omega), wi_ne (by omega), wi_sm (by omega) (by omega)]
  have j1J : w1.2.2.2 = w.2.2.2 := by rw [← hw1]; rfl
  have hpw : hp w1 p = hp w p := by
    funext k
    show w1.2.2.2 88 (500 * p + k) = _
    rw [j1J]
    rfl
  have y33 : F w1 133 = ((p : Nat) : Int) := (congrArg Int32.toInt (i1 133 (by omega) (by omega) (by omega))).trans r11
  refine frNH_r (P0 := P0) (B := B) (j := j) (L := L) (v := v') (x := x) hpp (by omega) y33 i166 ((a1 92 p (by omega) (by omega)).trans pl.2.2.1.2.1) hW ((a1 94 p (by omega) (by omega)).trans pl.2.1.2.1) hB2 ((a1 95 p (by omega) (by omega)).trans f2) hj1 (by rw [j1J]; exact hx) hv' hv2' (by rw [hpw]; exact hL') (fun u u2 fr r f2' r2' => ?_)
  generalize hw3 : wa u2 94 p ((B + L : Nat) : Int) = w3
  have uR : ∀ K, u.2.2.1 K = (wa w1 95 p ((j + 1 + 1 : Nat) : Int)).2.2.1 K := fun K => fr.2.2.1 K (by simp)
  have u2R : ∀ K, u2.2.2.1 K = (wa (frmW u p (j + 1) (-1) P0 B (P0 + ar)) 101 (60 * p + (j + 1)) ((L : Nat) : Int)).2.2.1 K := fun K => f2'.2.2.1 K (by simp)
  have w3i : w3.1 = w1.1 := by
    rw [← hw3]
    funext l
    show u2.1 l = _
    rw [f2'.1 l (by simp)]
    show u.1 l = _
    rw [fr.1 l (by simp)]
    rfl
  have w3J : ∀ K, K ≠ 93 → K ≠ 91 → w3.2.2.2 K = w.2.2.2 K := fun K h1 h2 => by
    rw [← hw3]
    show u2.2.2.2 K = _
    rw [f2'.2.2.2 K (by simpa using h1)]
    show u.2.2.2 K = _
    rw [fr.2.2.2 K (by simpa using h2)]
    show w1.2.2.2 K = _
    rw [j1J]
  have w391 : ∀ i, w3.2.2.2 91 i = (toW w p P0 ar).2.2.2 91 i := fun i => by
    rw [← hw3, toW_91]
    show u2.2.2.2 91 i = _
    rw [f2'.2.2.2 91 (by simp)]
    show u.2.2.2 91 i = _
    rw [r i, j1J]
  have w393 : ∀ q, w3.2.2.2 93 q = if 2500 * p + B ≤ q ∧ q < 2500 * p + B + L then hp w p (v' + 2 + (q - (2500 * p + B))) else w.2.2.2 93 q := fun q => by
    rw [← hw3]
    show u2.2.2.2 93 q = _
    rw [r2' q, hpw, j1J]
  have row : ∀ K i, ¬ (K = 94 ∧ i = p) → ¬ (K = 101 ∧ i = 60 * p + (j + 1)) → ¬ (K = 99 ∧ i = 60 * p + (j + 1)) → ¬ (K = 100 ∧ i = 60 * p + (j + 1)) → ¬ (K = 97 ∧ i = 60 * p + (j + 1)) → ¬ (K = 96 ∧ i = 60 * p + (j + 1)) → ¬ (K = 92 ∧ i = p) → ¬ (K = 95 ∧ i = p) → ¬ (K = 98 ∧ i = 60 * p + j) → ¬ (K = 114 ∧ i = p) → w3.2.2.1 K i = w.2.2.1 K i := fun K i h1 h2 h3 h4 h5 h6 h7 h8 h9 h10 => by
    rw [← hw3, wa_at h1, u2R, wa_at h2]
    unfold frmW
    rw [wa_at h2, wa_at h1, wa_at h3, wa_at h4, wa_at h5, wa_at h6, wa_at h7, uR, wa_at h8, ← hw1, wa_at h9, wa_at h10]
    rfl
  have w3R : ∀ K, K ≠ 92 → K ≠ 94 → K ≠ 95 → K ≠ 96 → K ≠ 97 → K ≠ 98 → K ≠ 99 → K ≠ 100 → K ≠ 101 → K ≠ 114 → w3.2.2.1 K = w.2.2.1 K := fun K h1 h2 h3 h4 h5 h6 h7 h8 h9 h10 => by
    funext i
    exact row K i (by omega) (by omega) (by omega) (by omega) (by omega) (by omega) (by omega) (by omega) (by omega) (by omega)
  have w3A : ∀ K i, 96 ≤ K → K ≤ 101 → i ≠ 60 * p + (j + 1) → ¬ (K = 98 ∧ i = 60 * p + j) → w3.2.2.1 K i = w.2.2.1 K i := fun K i h1 h2 h3 h4 => row K i (by omega) (by omega) (by omega) (by omega) (by omega) (by omega) (by omega) (by omega) h4 (by omega)
  have o1 : ∀ K i, (K = 92 ∨ K = 94 ∨ K = 95 ∨ K = 114) → i ≠ p → w3.2.2.1 K i = w.2.2.1 K i := fun K i h1 h2 => row K i (by omega) (by omega) (by omega) (by omega) (by omega) (by omega) (by omega) (by omega) (by omega) (by omega)
  have rd : ∀ K i, K ≠ 94 → K ≠ 101 → A w3 K i = A (frmW u p (j + 1) (-1) P0 B (P0 + ar)) K i := fun K i h1 h2 => by
    rw [← hw3, wa_rne h1]
    show (u2.2.2.1 K i).toInt = _
    rw [u2R, wa_21 h2]
    rfl
  have v101 : A w3 101 (60 * p + (j + 1)) = ((L : Nat) : Int) := by
    rw [← hw3, wa_rne (by omega)]
    show (u2.2.2.1 101 (60 * p + (j + 1))).toInt = _
    rw [u2R]
    exact wa_sm (u := frmW u p (j + 1) (-1) P0 B (P0 + ar)) (by omega) (by omega)
  have v94 : A w3 94 p = ((B + L : Nat) : Int) := by rw [← hw3]; exact wa_sm (by omega) (by omega)
  have v99 : A w3 99 (60 * p + (j + 1)) = ((B : Nat) : Int) := by
    rw [rd 99 _ (by omega) (by omega)]
    unfold frmW
    rw [wa_rne (by omega), wa_rne (by omega), wa_sm (by omega) (by omega)]
  have v100 : A w3 100 (60 * p + (j + 1)) = ((P0 : Nat) : Int) := by
    rw [rd 100 _ (by omega) (by omega)]
    unfold frmW
    rw [wa_rne (by omega), wa_rne (by omega), wa_rne (by omega), wa_sm (by omega) (by omega)]
  have v97 : A w3 97 (60 * p + (j + 1)) = -1 := by
    rw [rd 97 _ (by omega) (by omega)]
    unfold frmW
    rw [wa_rne (by omega), wa_rne (by omega), wa_rne (by omega), wa_rne (by omega), wa_sm (by omega) (by omega)]
  have v96 : A w3 96 (60 * p + (j + 1)) = -1 := by
    rw [rd 96 _ (by omega) (by omega)]
    unfold frmW
    rw [wa_rne (by omega), wa_rne (by omega), wa_rne (by omega), wa_rne (by omega), wa_rne (by omega), wa_sm (by omega) (by omega)]
  have v92 : A w3 92 p = ((P0 + ar : Nat) : Int) := by
    rw [rd 92 _ (by omega) (by omega)]
    unfold frmW
    rw [wa_rne (by omega), wa_rne (by omega), wa_rne (by omega), wa_rne (by omega), wa_rne (by omega), wa_rne (by omega), wa_sm (by omega) (by omega)]
  have u95 : ∀ K i, A u K i = A (wa w1 95 p ((j + 1 + 1 : Nat) : Int)) K i := fun K i => FR.A fr (by simp)
  have v95 : A w3 95 p = ((j + 1 + 1 : Nat) : Int) := by
    rw [rd 95 _ (by omega) (by omega)]
    unfold frmW
    rw [wa_rne (by omega), wa_rne (by omega), wa_rne (by omega), wa_rne (by omega), wa_rne (by omega), wa_rne (by omega), wa_rne (by omega), u95, wa_sm (by omega) (by omega)]
  have v98 : A w3 98 (60 * p + j) = ((n + 1 : Nat) : Int) := by
    rw [rd 98 _ (by omega) (by omega)]
    unfold frmW
    rw [wa_rne (by omega), wa_rne (by omega), wa_rne (by omega), wa_rne (by omega), wa_rne (by omega), wa_rne (by omega), wa_rne (by omega), u95, wa_rne (by omega), ← hw1, wa_sm (by omega) (by omega)]
  have v114 : w3.2.2.1 114 p = I (A w 114 p + 1) := by
    rw [← hw3, wa_21 (by omega), u2R, wa_21 (by omega)]
    unfold frmW
    rw [wa_21 (by omega), wa_21 (by omega), wa_21 (by omega), wa_21 (by omega), wa_21 (by omega), wa_21 (by omega), wa_21 (by omega), uR, wa_21 (by omega), ← hw1, wa_21 (by omega), wa_s1]
  have z33 : F w3 133 = ((p : Nat) : Int) := by show (w3.1 133).toInt = _; rw [w3i]; exact y33
  have fw : CFw (toW w p P0 ar) w3 p j B P0 ar L n (-1) := by
    refine ⟨⟨fun l h1 h2 h3 => by rw [w3i]; exact i1 l h1 h2 h3, by rw [w3i]; exact i165⟩, ⟨fun K h => ?_, fun i hi => ?_⟩, fun K h1 h2 h3 h4 h5 h6 h7 h8 h9 h10 => by rw [w3R K h1 h2 h3 h4 h5 h6 h7 h8 h9 h10, toW_A h1], fun K i h1 h2 h3 h4 => by rw [w3A K i h1 h2 h3 h4, toW_A (by omega)], ⟨v92, v94, v95, v96, v97, v98, v99, v100, v101⟩, ?_⟩
    · by_cases c : K = 91
      · subst c
        funext i
        exact w391 i
      · rw [w3J K h c, toW_J c]
    · rw [w393, if_neg (by omega), toW_J (by omega)]
    · rw [v114]
      congr 2
  have pr : ∀ K, PRr K → w3.2.2.1 K = w.2.2.1 K := fun K h => by
    unfold PRr at h
    exact w3R K (by omega) (by omega) (by omega) (by omega) (by omega) (by omega) (by omega) (by omega) (by omega) (by omega)
  have prT : ∀ K, PRr K → (toW w p P0 ar).2.2.1 K = w.2.2.1 K := fun K h => toW_A (by unfold PRr at h; omega)
  have ruN : RUs (toS m p P0 ar) (toW w p P0 ar) p j nb Hs Os none a n := RUs_mv ru FGm_toS (FGw_toW hW) (by rw [show F (toS m p P0 ar) 1105 = F m 1105 from congrArg Int32.toInt (toS_1 (pq_n (by omega)))]; exact r2) (by show ((toW w p P0 ar).2.2.1 98 (60 * p + j)).toInt = _; rw [toW_A (by omega)]; exact r3) ⟨f0, cr0⟩
  rw [show decide ((-1 : Int32) = -1) = true from rfl, br_t]
  refine rb_ck (fun _ => ?_)
  have v53 : A w3 53 uu = ((c : Nat) : Int) := by show (w3.2.2.1 53 uu).toInt = _; rw [pr 53 (by unfold PRr; omega)]; exact h53
  rw [tnI (n := uu) rfl (by omega), I_A' v53]
  refine clof_r (j := j + 1) (a := L) (nbn := B) hpp z33 v95 hj1 v99 v101 ?_
  have core := callH_core (c := c) (ra := a + 3) (e := e) (H := H) (PLs_to pl hW) ruN hB2 hj1 (by omega) fm fw hH nd (fun i hi => by
    rw [q33 (B + i) (by omega), if_neg (by omega), show B + i - B = i by omega, eJ, tJ 2 (by omega), w393, if_pos (by omega), show 2500 * p + (B + i) - (2500 * p + B) = i by omega]
    exact hcs i hi) (by rw [ROs_eq prT, toW_J (by omega)]; exact cr) (by rw [ROs_eq prT, toW_J (by omega)]; exact zr)
  obtain ⟨tr, pl4, sc4⟩ := core
  refine k _ _ tr pl4 gm ?_ (fun s => sc4 (SC_fg s FGm_toS (FGw_toW (j := j) hW))) ⟨w3J 88 (by omega) (by omega), by rw [wi_1 (by omega), wi_1 (by omega), wi_1 (by omega), wi_1 (by omega), w3i]; exact i1 140 (by omega) (by omega) (by omega)⟩
  generalize hw4 : wi (wi (wi (wi w3 153 0) 155 ((c : Nat) : Int)) 154 ((c : Nat) : Int)) 156 ((B + L : Nat) : Int) = w4
  have w42 : w4.2 = w3.2 := by rw [← hw4]; rfl
  have w41 : ∀ l, l ≠ 153 → l ≠ 154 → l ≠ 155 → l ≠ 156 → w4.1 l = w3.1 l := fun l h1 h2 h3 h4 => by rw [← hw4, wi_1 h4, wi_1 h2, wi_1 h3, wi_1 h1]
  have ow : ∀ r K i, K ≠ 92 → K ≠ 94 → K ≠ 95 → K ≠ 114 → (96 ≤ K → K ≤ 101 → r ≠ p → 60 * r ≤ i ∧ i < 60 * r + 60) → r ≠ p → w4.2.2.1 K i = w.2.2.1 K i := fun r K i h1 h2 h3 h4 h5 h6 => by
    rw [w42]
    by_cases c : 96 ≤ K ∧ K ≤ 101
    · have := h5 c.1 c.2 h6
      exact w3A K i c.1 c.2 (by omega) (by omega)
    · rw [w3R K h1 h2 h3 (by omega) (by omega) (by omega) (by omega) (by omega) (by omega) h4]
  have wi1 : ∀ l, l ≤ 132 ∨ l = 150 ∨ l = 164 ∨ l = 165 → w4.1 l = (cbW w).1 l := fun l hl => by
    rw [w41 l (by omega) (by omega) (by omega) (by omega), w3i]
    unfold cbW
    by_cases c : l = 119
    · subst c
      rw [i119, wi_1 (by omega), wi_s1]
    · by_cases c5 : l = 165
      · subst c5
        rw [i165, wi_s1]
      · rw [i1 l (by omega) c5 c, wi_1 c5, wi_1 c]
  have jx : ∀ K d i, d ≠ p → (K = 88 ∨ K = 107 ∨ K = 148 ∨ K = 34 ∨ K = 111) → w4.2.2.2 K i = w.2.2.2 K i := fun K d i _ h => by rw [w42, w3J K (by omega) (by omega)]
  refine ⟨fun d hd => ⟨fun K i h => ?_, fun K h => ?_, fun i _ _ => ?_, by rw [w42, w3J 111 (by omega) (by omega)]; rfl, fun i _ _ => by rw [w42, w3J 88 (by omega) (by omega)]; rfl, fun i h1 h2 => ?_, fun i h1 h2 => ?_, fun i _ _ => by rw [w42, w3J 107 (by omega) (by omega)]; rfl⟩, ⟨fun K h => by rw [w42]; exact pr K h, by rw [w42, w3J 34 (by omega) (by omega)]; rfl, ?_, ?_, wi1 14 (by omega)⟩, wi1 150 (by omega), fun K h => ?_, by rw [w42, w3J 148 (by omega) (by omega)]; rfl, fun K h => ?_, fun l h => wi1 l (by omega)⟩
  · show w4.2.2.1 K i = w.2.2.1 K i
    by_cases c : K = 92 ∨ K = 94 ∨ K = 95 ∨ K = 114
    · rw [w42]
      refine o1 K i c ?_
      unfold OWi at h
      omega
    · refine ow d K i (by omega) (by omega) (by omega) (by omega) (fun h1 h2 _ => ?_) hd
      unfold OWi at h
      omega
  · exact ow d K d (by omega) (by omega) (by omega) (by omega) (fun h1 h2 _ => by omega) hd
  · exact ow d 131 i (by omega) (by omega) (by omega) (by omega) (fun h1 h2 _ => by omega) hd
  · rw [w42, w391 i, toW_91, if_neg (by omega)]
    rfl
  · rw [w42, w393 i, if_neg (by omega)]
    rfl
  · show w4.2.2.1 12 = w.2.2.1 12
    rw [w42]
    exact w3R 12 (by omega) (by omega) (by omega) (by omega) (by omega) (by omega) (by omega) (by omega) (by omega) (by omega)
  · show w4.2.2.1 13 = w.2.2.1 13
    rw [w42]
    exact w3R 13 (by omega) (by omega) (by omega) (by omega) (by omega) (by omega) (by omega) (by omega) (by omega) (by omega)
  · show w4.2.2.1 K = w.2.2.1 K
    rw [w42]
    exact w3R K (by omega) (by omega) (by omega) (by omega) (by omega) (by omega) (by omega) (by omega) (by omega) (by omega)
  · show w4.2.2.1 K = w.2.2.1 K
    rw [w42]
    exact w3R K (by omega) (by omega) (by omega) (by omega) (by omega) (by omega) (by omega) (by omega) (by omega) (by omega)
end
