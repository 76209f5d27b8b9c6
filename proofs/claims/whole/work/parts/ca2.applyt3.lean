/-! a FUN is applied, tail: both sides -/
set_option maxRecDepth 100000
/-- the FRAME anew, there, and on at its entry -/
def rtS (m : MS) (p j B P0 src ar : Nat) (f e : Int) : MS := wi (rpS m p j B P0 src ar (I f) (I e)) 1105 e
section
variable {p j B P0 src ar k : Nat} {m : MS} {f e : Int}
theorem rtS_1 (h1 : k ≠ 1105) (h2 : k ≠ pq p 24) (h3 : k ≠ pq p 26) : (rtS m p j B P0 src ar f e).1 k = m.1 k := by
  unfold rtS
  rw [wi_1 h1]
  show (wi (wi (upJ m (pq p 35) (va_cpy (m.2.2.2 (pq p 35)) (m.2.2.2 (pq p 35)) src P0 ar)) (pq p 26) ((P0 + ar : Nat) : Int)) (pq p 24) ((B : Nat) : Int)).1 k = _
  rw [wi_1 h2, wi_1 h3]
  rfl
theorem rtS_24 (hB : B < 2147483648) : F (rtS m p j B P0 src ar f e) (pq p 24) = ((B : Nat) : Int) := by
  unfold rtS
  rw [wi_ne (fun c => pq_n (by omega) c.symm)]
  show F (wi (wi (upJ m (pq p 35) (va_cpy (m.2.2.2 (pq p 35)) (m.2.2.2 (pq p 35)) src P0 ar)) (pq p 26) ((P0 + ar : Nat) : Int)) (pq p 24) ((B : Nat) : Int)) (pq p 24) = _
  rw [wi_sm (by omega) (by omega)]
theorem rtS_26 (hB : P0 + ar < 2147483648) : F (rtS m p j B P0 src ar f e) (pq p 26) = ((P0 + ar : Nat) : Int) := by
  unfold rtS
  rw [wi_ne (fun c => pq_n (by omega) c.symm)]
  show F (wi (wi (upJ m (pq p 35) (va_cpy (m.2.2.2 (pq p 35)) (m.2.2.2 (pq p 35)) src P0 ar)) (pq p 26) ((P0 + ar : Nat) : Int)) (pq p 24) ((B : Nat) : Int)) (pq p 26) = _
  rw [wi_ne (pq_inj (by omega)), wi_sm (by omega) (by omega)]
theorem rtS_05 (he : RG e) : F (rtS m p j B P0 src ar f e) 1105 = e := by
  unfold rtS
  rw [wi_sm he.1 he.2]
theorem rtS_J (h : k ≠ pq p 35) : (rtS m p j B P0 src ar f e).2.2.2 k = m.2.2.2 k := if_neg h
theorem rtS_35 {i : Nat} : (rtS m p j B P0 src ar f e).2.2.2 (pq p 35) i = if P0 ≤ i ∧ i < P0 + ar then m.2.2.2 (pq p 35) (src + (i - P0)) else m.2.2.2 (pq p 35) i := by
  show (if pq p 35 = pq p 35 then va_cpy (m.2.2.2 (pq p 35)) (m.2.2.2 (pq p 35)) src P0 ar else m.2.2.2 (pq p 35)) i = _
  rw [if_pos rfl]
  rfl
theorem rtS_A (h : k ≠ pq p 30) : (rtS m p j B P0 src ar f e).2.2.1 k = m.2.2.1 k := by
  show (rpS m p j B P0 src ar (I f) (I e)).2.2.1 k = _
  unfold rpS
  exact (if_neg h).trans ((if_neg h).trans (if_neg h))
theorem rtS_30 {i : Nat} (hf : RG f) (he : RG e) : A (rtS m p j B P0 src ar f e) (pq p 30) i = if i = 5 * j + 4 then e else if i = 5 * j + 1 then 0 else if i = 5 * j then f else A m (pq p 30) i := by
  show A (rpS m p j B P0 src ar (I f) (I e)) (pq p 30) i = _
  rw [rpS_30, I_ti he.1 he.2, I_ti hf.1 hf.2]
theorem GGm_rtS : GGm p m (rtS m p j B P0 src ar f e) := GGm.tr GGm_rpS (GGm_reg (by omega))
end
section
variable {α β : Type} {b : Int → Nat → Nat → Prop} {N p U B Y j a n ar P0 src l v v' uu ff e ad L c : Nat} {m w : MS} {t x : Int64} {nb : Nat → Nat} {Hs Os : Nat → List Nat} {H : List Nat} {Q : MS → α → MS → β → Prop} {K1 : MS → Option (MS × α)} {K2 : MS → Option (MS × β)}
theorem op_applyTN (hpp : p < 24) (pl : PLs b p m w U B (src + 1 + ar) Y) (ru : RUs m w p j nb Hs Os none a n) (hW : src + 1 + ar ≤ 46000) (hP : P0 ≤ src) (h100 : A w 100 (60 * p + j) = ((P0 : Nat) : Int)) (hct : ∀ nC c : Nat, F m (pq p 28) = ((nC : Nat) : Int) → c < nC → A w 102 (1600 * p + c) < ((j : Nat) : Int)) (hB2 : nb j + L ≤ 2500) (hlt : F m 1106 < F m 1107) (ha : a + 2 < 24000) (hl : F m (pq p 45) = ((l : Nat) : Int)) (hl2 : src + 1 + ar ≤ l ∧ l ≤ 1000000) (h43 : ((nb j : Nat) : Int) ≤ F m (pq p 43) ∧ ((nb j : Nat) : Int) ≤ F m (pq p 42)) (c1 : A m 23 (a + 1) = ((ar : Nat) : Int)) (h26 : A w 26 n = ((ar : Nat) : Int)) (h30 : A w 30 n = 1)
    (ht : m.2.2.2 (pq p 35) src = t) (hx : w.2.2.2 91 (46000 * p + src) = x) (st : so t = 3) (sx : so x = 3) (hv : va t = ((v : Nat) : Int)) (hv' : va x = ((v' : Nat) : Int)) (hv2 : v + 2 + L ≤ 500) (hv2' : v' + 2 + L ≤ 500) (hc0 : va (m.2.2.2 (pq p 2) v) = ((uu : Nat) : Int)) (hd : (hp w p v').toInt = ((uu : Nat) : Int)) (hL' : va (hp w p (v' + 1)) = ((L : Nat) : Int)) (hcs : ∀ i, i < L → RTb b (m.2.2.2 (pq p 2) (v + 2 + i)) (hp w p (v' + 2 + i)))
    (h449 : ((uu : Nat) : Int) < F m 449) (hu : uu < 400) (f30 : A m 30 uu = ((ar : Nat) : Int)) (f31 : A m 31 uu = ((e : Nat) : Int)) (f32 : A m 32 uu = ((ad : Nat) : Int)) (fL : A m 23 ad = ((L : Nat) : Int)) (had : ad + 1 + L < 24000) (hH : H.length = L) (nm : ∀ i x : Nat, H[i]? = some x → A m 23 (ad + 1 + i) = ((x : Nat) : Int)) (nd : H.Nodup) (h53 : A w 53 uu = ((c : Nat) : Int)) (hc : c < 100000) (h41 : A w 41 c = ((ar : Nat) : Int)) (zr : ∃ g g2, ZRs (A m 23) (ROs w) (w.2.2.2 34) (CRs (A m 23) (ROs w) (w.2.2.2 34) g) 0 0 H [] g2 e ((c : Nat) : Int))
    (k : ∀ m4 w4, TRs m4 w4 p j nb (upf Hs j H) (upf Os j []) 0 0 e ((c : Nat) : Int) → PLs b p m4 (wa w4 94 p ((nb j + L : Nat) : Int)) U (nb j + L) (P0 + ar) Y → GGm p (cbM m) m4 → GGw p (cbW w) w4 → (SCs p m w → SCs p m4 w4) → (w4.2.2.2 88 = w.2.2.2 88 ∧ w4.1 140 = w.1 140) → PP Q (K1 m4) (bnd (gg_M_choose N (rc_M_error N 19) N w4 1) (fun u _ => K2 u))) : PP Q (bnd (hm_Ma_flow N m p (I 28)) (fun u _ => K1 u)) (bnd (fm_M_one N w (I ((n : Nat) : Int)) (I 13)) (fun u _ => K2 u)) := by
  obtain ⟨⟨fa, ct⟩, ⟨r2, r3⟩, ⟨f0, cr0⟩, ⟨r5, r6⟩, r7, ⟨r8, r9, r10⟩, r11, r12, r13⟩ := id ru
  have cb := CR_b cr0
  obtain ⟨⟨f1, f2, f3⟩, f4, f5, f6⟩ := id fa
  have ebd : e + 1 < 24000 := by
    obtain ⟨g, g2, z⟩ := zr
    cases g2 with
    | zero => exact z.elim
    | succ g2 => exact z.1
  have hne : (wi w 166 1).1 165 ≠ (wi w 166 1).1 164 := by
    rw [wi_1 (by omega), wi_1 (by omega), ← r12, ← r13]
    intro c
    have := congrArg Int32.toInt c
    have h1 : F m 1106 = (m.1 1106).toInt := rfl
    have h2 : F m 1107 = (m.1 1107).toInt := rfl
    omega
  obtain ⟨-, -, ⟨g3, g4⟩, g5, -, -⟩ := f4 j (Nat.le_refl _)
  rw [h100] at g5
  -- there
  have t1 : ∀ k, k < 2000 → k ≠ 1106 → k ≠ 946 → (toS (cnM m p) p src ar).1 k = m.1 k := fun k h0 h1 h2 => (toS_1 (pq_n h0)).trans (cnM_1 h0 h1 h2)
  have tF : ∀ k, k < 2000 → k ≠ 1106 → k ≠ 946 → F (toS (cnM m p) p src ar) k = F m k := fun k h0 h1 h2 => congrArg Int32.toInt (t1 k h0 h1 h2)
  have tq : ∀ k, k ≠ 13 → k ≠ 26 → (toS (cnM m p) p src ar).1 (pq p k) = m.1 (pq p k) := fun k h1 h2 => (toS_1 (pq_inj h2)).trans (cnM_q h1)
  have en := entry_u (N := N) (p := p) (m := toS (cnM m p) p src ar) (uu := uu) (by rw [tF 449 (by omega) (by omega) (by omega)]; exact h449) hu
  have e31 : A (toS (cnM m p) p src ar) 31 uu = ((e : Nat) : Int) := f31
  rw [e31] at en
  have tk := takes_u (N := N) h449 hu
  rw [f30] at tk
  rw [apl_28, I_F' r2, show I ((a : Nat) : Int) + 1 = I ((a + 1 : Nat) : Int) from addN, Co_e (k := a + 1) rfl (by omega), bnd_so, c1, apT_m (src := src) (P0 := P0) (B := nb j) (cc := uu) (ff := (-1)) hlt r2 ha f1 f3 g5 g3 pl.2.2.1.1 hP hl hl2 ht st hv (by omega) hc0 tk en.2 en.1]
  refine l_bb (l_bb ?_)
  show PP Q (bnd (hm_Ma_hold N (rtS (toS (cnM m p) p src ar) p j (nb j) P0 src ar (-1) ((e : Nat) : Int)) p p (pq p 2) t) _) _
  generalize hT : toS (cnM m p) p src ar = mT at t1 tF tq
  have tJ : ∀ k, k ≠ 35 → mT.2.2.2 (pq p k) = m.2.2.2 (pq p k) := fun k h => by rw [← hT, toS_J (pq_inj h)]; rfl
  have t35 : mT.2.2.2 (pq p 35) = (toS m p src ar).2.2.2 (pq p 35) := by
    rw [← hT]
    show (if pq p 35 = pq p 35 then _ else _) = (if pq p 35 = pq p 35 then _ else _)
    rw [if_pos rfl, if_pos rfl]
    rfl
  have tA : mT.2.2.1 = m.2.2.1 := by rw [← hT]; rfl
  have tAa : ∀ K i, A mT K i = A m K i := fun K i => by show (mT.2.2.1 K i).toInt = _; rw [tA]; rfl
  generalize hE : rtS mT p j (nb j) P0 src ar (-1) ((e : Nat) : Int) = mE
  have eA : ∀ K, K < 2000 → mE.2.2.1 K = m.2.2.1 K := fun K h => by rw [← hE, rtS_A (pq_n h), tA]
  have eAa : ∀ K i, K < 2000 → A mE K i = A m K i := fun K i h => by show (mE.2.2.1 K i).toInt = _; rw [eA K h]; rfl
  have eJ : ∀ k, k ≠ 35 → mE.2.2.2 (pq p k) = m.2.2.2 (pq p k) := fun k h => by rw [← hE, rtS_J (pq_inj h), tJ k h]
  have e35 : ∀ i, mE.2.2.2 (pq p 35) i = if P0 ≤ i ∧ i < P0 + ar then (toS m p src ar).2.2.2 (pq p 35) (src + (i - P0)) else (toS m p src ar).2.2.2 (pq p 35) i := fun i => by rw [← hE, rtS_35, t35]
  have eq : ∀ k, k ≠ 13 → k ≠ 24 → k ≠ 26 → mE.1 (pq p k) = m.1 (pq p k) := fun k h1 h2 h3 => by rw [← hE, rtS_1 (fun c => pq_n (by omega) c.symm) (pq_inj h2) (pq_inj h3)]; exact tq k h1 h3
  have eg : ∀ k, k < 2000 → k ≠ 1105 → mE.1 k = mT.1 k := fun k h0 h1 => by rw [← hE, rtS_1 h1 (pq_n h0) (pq_n h0)]
  have eF : ∀ k, k ≠ 13 → k ≠ 24 → k ≠ 26 → F mE (pq p k) = F m (pq p k) := fun k h1 h2 h3 => congrArg Int32.toInt (eq k h1 h2 h3)
  have e24 : F mE (pq p 24) = ((nb j : Nat) : Int) := by rw [← hE, rtS_24 (by omega)]
  refine l_bnd (pk_mo (hold_m (N := N) (m := mE) (L := L) (ad := ad) (uu := uu) (B := nb j) hv (by omega) (by rw [eJ 2 (by omega)]; exact hc0) (by rw [show F mE 449 = F mT 449 from congrArg Int32.toInt (eg 449 (by omega) (by omega)), tF 449 (by omega) (by omega) (by omega)]; exact h449) hu ((eAa 32 uu (by omega)).trans f32) had ((eAa 23 ad (by omega)).trans fL) e24 ⟨by rw [eF 43 (by omega) (by omega) (by omega)]; exact h43.1, by rw [eF 42 (by omega) (by omega) (by omega)]; exact h43.2⟩) (fun m4 _ h => ?_))
  obtain ⟨fx, q44, q24, q43, q32, q33⟩ := h
  have fm : DFm (toS m p src ar) m4 p j (nb j) P0 src ar e L (-1) H := by
    have xq : ∀ k, k < 100 → k ≠ 24 → k ≠ 42 → k ≠ 43 → m4.1 (pq p k) = mE.1 (pq p k) := fun k h0 h1 h2 h3 => fx.2.2.2.2.1 p k h0 (fun _ => by simp; omega)
    have xg : ∀ k, k < 2000 → m4.1 k = mE.1 k := fun k h => fx.1 k h (by simp)
    have nS : ∀ k, k < 2000 → F (toS m p src ar) k = F m k := fun k h => congrArg Int32.toInt (toS_1 (pq_n h))
    refine ⟨⟨fun k h0 h1 h2 h3 h4 h5 => ?_, fun k h0 h1 h2 h3 => ?_, ?_, ?_, ?_, q24, ?_⟩, ⟨fun K h => ?_, fun k h0 h1 h2 => ?_, fun i hi => ?_, fun i x hx => ?_, fun i => ?_⟩, fun k h0 h1 h2 => ?_, fun i hi => ?_, fun i hi => ?_⟩
    · rw [xq k h0 h2 h4 h5, eq k h1 h2 h3, toS_1 (pq_inj h3)]
    · rw [xg k h0, eg k h0 h1, t1 k h0 h2 h3, toS_1 (pq_n h0)]
    · rw [xg 1106 (by omega), eg 1106 (by omega) (by omega), ← hT, toS_1 (pq_n (by omega)), cnM_06, nS 1106 (by omega)]
    · rw [xq 13 (by omega) (by omega) (by omega) (by omega), ← hE, rtS_1 (fun c => pq_n (by omega) c.symm) (pq_inj (by omega)) (pq_inj (by omega)), ← hT, toS_1 (pq_inj (by omega)), cnM_13, show F (toS m p src ar) (pq p 13) = F m (pq p 13) from congrArg Int32.toInt (toS_1 (pq_inj (by omega)))]
    · rw [show F m4 (pq p 26) = F mE (pq p 26) from congrArg Int32.toInt (xq 26 (by omega) (by omega) (by omega) (by omega)), ← hE, rtS_26 (by omega)]
    · rw [show F m4 1105 = F mE 1105 from congrArg Int32.toInt (xg 1105 (by omega)), ← hE, rtS_05 ⟨by omega, by omega⟩]
    · rw [fx.2.2.1 K h (by simp), eA K h]
      rfl
    · rw [fx.2.2.2.2.2.2.1 p k h0 (fun _ => by simp; omega), ← hE, rtS_A (pq_inj h1), tA]
      rfl
    · show (m4.2.2.1 (pq p 32) i).toInt = (m.2.2.1 (pq p 32) i).toInt
      rw [q32 i (by omega), if_pos hi, ← hE, rtS_A (pq_inj (by omega)), tA]
    · have hi : i < L := by
        rcases Nat.lt_or_ge i H.length with h | h
        · omega
        · rw [List.getElem?_eq_none h] at hx
          cases hx
      show (m4.2.2.1 (pq p 32) (nb j + i)).toInt = _
      rw [q32 (nb j + i) (by omega), if_neg (by omega), show nb j + i - nb j = i by omega, eAa 23 _ (by omega), nm i x hx]
      have := A_r m 23 (ad + 1 + i)
      rw [nm i x hx] at this
      exact I_ti this.1 this.2
    · rw [show A m4 (pq p 30) i = A mE (pq p 30) i from by show (m4.2.2.1 (pq p 30) i).toInt = _; rw [fx.2.2.2.2.2.2.1 p 30 (by omega) (fun _ => by simp)]; rfl, ← hE, rtS_30 ⟨by omega, by omega⟩ ⟨by omega, by omega⟩, tAa]
      rfl
    · rw [fx.2.2.2.2.2.2.2 p k h0 (fun _ => by simp; omega), eJ k h2, toS_J (pq_inj h2)]
    · rw [q33 i (by omega), if_pos hi, eJ 33 (by omega), toS_J (pq_inj (by omega))]
    · rw [fx.2.2.2.2.2.2.2 p 35 (by omega) (fun _ => by simp), e35]
      by_cases c : P0 ≤ i
      · rw [if_pos ⟨c, hi⟩, if_pos c]
      · rw [if_neg (by omega), if_neg c]
  have gm : GGm p (cbM m) m4 := by
    refine GGm.tr (GGm.tr (GGm.tr GGm_cn (GGm_toS (P0 := src) (ar := ar))) (m3 := mE) ?_) (GGm_fc fx (by simp) (by simp) (by simp))
    rw [hT, ← hE]
    exact GGm_rtS
  -- here
  rw [one_13]
  refine r_bb ?_
  refine call_13u (P0 := src) (c := c) hpp (by omega) h26 r11 pl.2.2.1.2.1 hW hx sx hv' (by omega) hd (by omega) h53 hc h41 ?_
  have x33 : F (wi w 166 1) 133 = ((p : Nat) : Int) := by rw [wi_ne (by omega)]; exact r11
  refine call_go (j1 := j) (tl := 1) hpp (by omega) x33 f2 f3 hne h30 (Or.inl rfl) ?_
  have e165 : F (wi w 166 1) 165 = F w 165 := wi_ne (by omega)
  have e119 : F (wi w 166 1) 119 = F w 119 := wi_ne (by omega)
  rw [e165, e119, show A (wi w 166 1) 114 p = A w 114 p from rfl]
  generalize hw1 : wa (wa (wi (wi (wi w 166 1) 165 (F w 165 + 1)) 119 (F w 119 + 1)) 114 p (A w 114 p + 1)) 98 (60 * p + j) ((n + 1 : Nat) : Int) = w1
  have a1 : ∀ K i, K ≠ 114 → K ≠ 98 → A w1 K i = A w K i := fun K i h1 h2 => by rw [← hw1, wa_rne h2, wa_rne h1]; rfl
  have i1 : ∀ l, l ≠ 166 → l ≠ 165 → l ≠ 119 → w1.1 l = w.1 l := fun l h1 h2 h3 => by
    rw [← hw1]
    show (wi (wi (wi w 166 1) 165 (F w 165 + 1)) 119 (F w 119 + 1)).1 l = _
    rw [wi_1 h3, wi_1 h2, wi_1 h1]
  have i165 : w1.1 165 = I (F w 165 + 1) := by
    rw [← hw1]
    show (wi (wi (wi w 166 1) 165 (F w 165 + 1)) 119 (F w 119 + 1)).1 165 = _
    rw [wi_1 (by omega)]
    exact wi_s1
  have i119 : w1.1 119 = I (F w 119 + 1) := by
    rw [← hw1]
    show (wi (wi (wi w 166 1) 165 (F w 165 + 1)) 119 (F w 119 + 1)).1 119 = _
    exact wi_s1
  have i166 : F w1 166 = 1 := by
    rw [← hw1]
    show F (wi (wi (wi w 166 1) 165 (F w 165 + 1)) 119 (F w 119 + 1)) 166 = 1
    rw [wi_ne (by omega), wi_ne (by omega), wi_sm (by omega) (by omega)]
  have j1J : w1.2.2.2 = w.2.2.2 := by rw [← hw1]; rfl
  have hpw : hp w1 p = hp w p := by
    funext k
    show w1.2.2.2 88 (500 * p + k) = _
    rw [j1J]
    rfl
  have y33 : F w1 133 = ((p : Nat) : Int) := (congrArg Int32.toInt (i1 133 (by omega) (by omega) (by omega))).trans r11
  refine frTH_r (P0 := P0) (src := src) (nbj := nb j) (j := j) (L := L) (v := v') (x := x) hpp (by omega) y33 i166 ((a1 92 p (by omega) (by omega)).trans pl.2.2.1.2.1) hW hP ((a1 95 p (by omega) (by omega)).trans f2) f3 ((a1 100 _ (by omega) (by omega)).trans h100) ((a1 99 _ (by omega) (by omega)).trans g4) hB2 (by rw [j1J]; exact hx) hv' hv2' (by rw [hpw]; exact hL') (fun u u2 fr r f2' r2' => ?_)
  generalize hw3 : wa u2 94 p ((nb j + L : Nat) : Int) = w3
  have uR : ∀ K, u.2.2.1 K = w1.2.2.1 K := fun K => fr.2.2.1 K (by simp)
  have u2R : ∀ K, u2.2.2.1 K = (wa (frmW u p j (-1) P0 (nb j) (P0 + ar)) 101 (60 * p + j) ((L : Nat) : Int)).2.2.1 K := fun K => f2'.2.2.1 K (by simp)
  have w3i : w3.1 = w1.1 := by
    rw [← hw3]
    funext l
    show u2.1 l = _
    rw [f2'.1 l (by simp)]
    show u.1 l = _
    rw [fr.1 l (by simp)]
  have w3J : ∀ K, K ≠ 93 → K ≠ 91 → w3.2.2.2 K = w.2.2.2 K := fun K h1 h2 => by
    rw [← hw3]
    show u2.2.2.2 K = _
    rw [f2'.2.2.2 K (by simpa using h1)]
    show u.2.2.2 K = _
    rw [fr.2.2.2 K (by simpa using h2), j1J]
  have w391 : ∀ i, w3.2.2.2 91 i = if 46000 * p + P0 ≤ i ∧ i < 46000 * p + P0 + ar then w.2.2.2 91 (i + (src + 1 - P0)) else w.2.2.2 91 i := fun i => by
    rw [← hw3]
    show u2.2.2.2 91 i = _
    rw [f2'.2.2.2 91 (by simp)]
    show u.2.2.2 91 i = _
    rw [r i, j1J]
  have w393 : ∀ q, w3.2.2.2 93 q = if 2500 * p + nb j ≤ q ∧ q < 2500 * p + nb j + L then hp w p (v' + 2 + (q - (2500 * p + nb j))) else w.2.2.2 93 q := fun q => by
    rw [← hw3]
    show u2.2.2.2 93 q = _
    rw [r2' q, hpw, j1J]
  have w393b : ∀ i, i < nb j → w3.2.2.2 93 (2500 * p + i) = w.2.2.2 93 (2500 * p + i) := fun i hi => by rw [w393, if_neg (by omega)]
  have w393o : ∀ i, ¬ (2500 * p ≤ i ∧ i < 2500 * p + 2500) → w3.2.2.2 93 i = w.2.2.2 93 i := fun i hi => by rw [w393, if_neg (by omega)]
  have row : ∀ K i, ¬ (K = 94 ∧ i = p) → ¬ (K = 101 ∧ i = 60 * p + j) → ¬ (K = 99 ∧ i = 60 * p + j) → ¬ (K = 100 ∧ i = 60 * p + j) → ¬ (K = 97 ∧ i = 60 * p + j) → ¬ (K = 96 ∧ i = 60 * p + j) → ¬ (K = 92 ∧ i = p) → ¬ (K = 98 ∧ i = 60 * p + j) → ¬ (K = 114 ∧ i = p) → w3.2.2.1 K i = w.2.2.1 K i := fun K i h1 h2 h3 h4 h5 h6 h7 h9 h10 => by
    rw [← hw3, wa_at h1, u2R, wa_at h2]
    unfold frmW
    rw [wa_at h2, wa_at h1, wa_at h3, wa_at h4, wa_at h5, wa_at h6, wa_at h7, uR, ← hw1, wa_at h9, wa_at h10]
    rfl
  have rd : ∀ K i, K ≠ 94 → K ≠ 101 → A w3 K i = A (frmW u p j (-1) P0 (nb j) (P0 + ar)) K i := fun K i h1 h2 => by
    rw [← hw3, wa_rne h1]
    show (u2.2.2.1 K i).toInt = _
    rw [u2R, wa_21 h2]
    rfl
  have v101 : A w3 101 (60 * p + j) = ((L : Nat) : Int) := by
    rw [← hw3, wa_rne (by omega)]
    show (u2.2.2.1 101 (60 * p + j)).toInt = _
    rw [u2R]
    exact wa_sm (u := frmW u p j (-1) P0 (nb j) (P0 + ar)) (by omega) (by omega)
  have v94 : A w3 94 p = ((nb j + L : Nat) : Int) := by rw [← hw3]; exact wa_sm (by omega) (by omega)
  have v114 : w3.2.2.1 114 p = I (A w 114 p + 1) := by
    rw [← hw3, wa_21 (by omega), u2R, wa_21 (by omega)]
    unfold frmW
    rw [wa_21 (by omega), wa_21 (by omega), wa_21 (by omega), wa_21 (by omega), wa_21 (by omega), wa_21 (by omega), wa_21 (by omega), uR, ← hw1, wa_21 (by omega), wa_s1]
  have w3R : ∀ K, K ≠ 92 → K ≠ 94 → K ≠ 96 → K ≠ 97 → K ≠ 98 → K ≠ 99 → K ≠ 100 → K ≠ 101 → K ≠ 114 → w3.2.2.1 K = w.2.2.1 K := fun K h1 h2 h4 h5 h6 h7 h8 h9 h10 => by
    funext i
    exact row K i (by omega) (by omega) (by omega) (by omega) (by omega) (by omega) (by omega) (by omega) (by omega)
  have w3A : ∀ K i, 96 ≤ K → K ≤ 101 → i ≠ 60 * p + j → w3.2.2.1 K i = w.2.2.1 K i := fun K i h1 h2 h3 => row K i (by omega) (by omega) (by omega) (by omega) (by omega) (by omega) (by omega) (by omega) (by omega)
  have o1 : ∀ K i, (K = 92 ∨ K = 94 ∨ K = 114) → i ≠ p → w3.2.2.1 K i = w.2.2.1 K i := fun K i h1 h2 => row K i (by omega) (by omega) (by omega) (by omega) (by omega) (by omega) (by omega) (by omega) (by omega)
  have v99 : A w3 99 (60 * p + j) = ((nb j : Nat) : Int) := by
    rw [rd 99 _ (by omega) (by omega)]
    unfold frmW
    rw [wa_rne (by omega), wa_rne (by omega), wa_sm (by omega) (by omega)]
  have v100 : A w3 100 (60 * p + j) = ((P0 : Nat) : Int) := by
    rw [rd 100 _ (by omega) (by omega)]
    unfold frmW
    rw [wa_rne (by omega), wa_rne (by omega), wa_rne (by omega), wa_sm (by omega) (by omega)]
  have v97 : A w3 97 (60 * p + j) = -1 := by
    rw [rd 97 _ (by omega) (by omega)]
    unfold frmW
    rw [wa_rne (by omega), wa_rne (by omega), wa_rne (by omega), wa_rne (by omega), wa_sm (by omega) (by omega)]
  have v96 : A w3 96 (60 * p + j) = (-1) := by
    rw [rd 96 _ (by omega) (by omega)]
    unfold frmW
    rw [wa_rne (by omega), wa_rne (by omega), wa_rne (by omega), wa_rne (by omega), wa_rne (by omega), wa_sm (by omega) (by omega)]
  have v92 : A w3 92 p = ((P0 + ar : Nat) : Int) := by
    rw [rd 92 _ (by omega) (by omega)]
    unfold frmW
    rw [wa_rne (by omega), wa_rne (by omega), wa_rne (by omega), wa_rne (by omega), wa_rne (by omega), wa_rne (by omega), wa_sm (by omega) (by omega)]
  have v95 : A w3 95 p = ((j + 1 : Nat) : Int) := by
    show (w3.2.2.1 95 p).toInt = _
    rw [w3R 95 (by omega) (by omega) (by omega) (by omega) (by omega) (by omega) (by omega) (by omega) (by omega)]
    exact f2
  have z33 : F w3 133 = ((p : Nat) : Int) := by show (w3.1 133).toInt = _; rw [w3i]; exact y33
  have fw : DFw (toW w p src ar) w3 p j (nb j) P0 src ar L (-1) := by
    refine ⟨⟨fun l h1 h2 h3 => by rw [w3i]; exact i1 l h1 h2 h3, by rw [w3i]; exact i165⟩, ⟨fun K h h' => by rw [w3J K h h', toW_J h'], fun i hi => ?_, fun i hi => ?_⟩, fun K h1 h2 h3 h4 h5 h6 h7 h8 h9 => by rw [w3R K h1 h2 h3 h4 h5 h6 h7 h8 h9, toW_A h1], fun K i h1 h2 h3 => by rw [w3A K i h1 h2 h3, toW_A (by omega)], ⟨v92, v94, v96, v97, v99, v100, v101⟩, ?_⟩
    · rw [w393b i hi, toW_J (by omega)]
    · rw [w391, toW_91, toW_91]
      by_cases c : P0 ≤ i
      · rw [if_pos (by omega), if_pos c, if_pos (by omega), show 46000 * p + i + (src + 1 - P0) = 46000 * p + (src + (i - P0)) + 1 by omega]
      · rw [if_neg (by omega), if_neg c, if_neg (by omega)]
    · rw [v114]
      congr 2
  have pr : ∀ K, PRr K → w3.2.2.1 K = w.2.2.1 K := fun K h => by
    unfold PRr at h
    exact w3R K (by omega) (by omega) (by omega) (by omega) (by omega) (by omega) (by omega) (by omega) (by omega)
  have prT : ∀ K, PRr K → (toW w p src ar).2.2.1 K = w.2.2.1 K := fun K h => toW_A (by unfold PRr at h; omega)
  have ruN : RUs (toS m p src ar) (toW w p src ar) p j nb Hs Os none a n := RUs_mv ru FGm_toS (FGw_toW hW) (by rw [show F (toS m p src ar) 1105 = F m 1105 from congrArg Int32.toInt (toS_1 (pq_n (by omega)))]; exact r2) (by show ((toW w p src ar).2.2.1 98 (60 * p + j)).toInt = _; rw [toW_A (by omega)]; exact r3) ⟨f0, cr0⟩
  rw [show decide ((-1 : Int32) = -1) = true from rfl, br_t]
  refine rb_ck (fun _ => ?_)
  have v53 : A w3 53 uu = ((c : Nat) : Int) := by show (w3.2.2.1 53 uu).toInt = _; rw [pr 53 (by unfold PRr; omega)]; exact h53
  rw [tnI (n := uu) rfl (by omega), I_A' v53]
  refine clof_r (j := j) (a := L) (nbn := nb j) hpp z33 v95 f3 v99 v101 ?_
  have core := callTH_core (c := c) (e := e) (H := H) (L := L) (PLs_to pl hW) ruN hP (by show ((toW w p src ar).2.2.1 100 (60 * p + j)).toInt = _; rw [toW_A (by omega)]; exact h100) (fun nC c' h1 h2 => by
    show ((toW w p src ar).2.2.1 102 (1600 * p + c')).toInt < _
    rw [toW_A (by omega)]
    exact hct nC c' ((congrArg Int32.toInt (toS_1 (m := m) (P0 := src) (ar := ar) (pq_inj (by omega)))).symm.trans h1) h2) hB2 (by omega) fm fw hH nd (fun i hi => by
    rw [q33 (nb j + i) (by omega), if_neg (by omega), show nb j + i - nb j = i by omega, eJ 2 (by omega), w393, if_pos (by omega), show 2500 * p + (nb j + i) - (2500 * p + nb j) = i by omega]
    exact hcs i hi) (by rw [ROs_eq prT, toW_J (by omega)]; exact zr)
  obtain ⟨tr, pl4, sc4⟩ := core
  refine k _ _ tr pl4 gm ?_ (fun s => sc4 (SC_fg s FGm_toS (FGw_toW (j := j) hW))) ⟨w3J 88 (by omega) (by omega), by rw [wi_1 (by omega), wi_1 (by omega), wi_1 (by omega), wi_1 (by omega), w3i]; exact i1 140 (by omega) (by omega) (by omega)⟩
  generalize hw4 : wi (wi (wi (wi w3 153 0) 155 ((c : Nat) : Int)) 154 ((c : Nat) : Int)) 156 ((nb j + L : Nat) : Int) = w4
  have w42 : w4.2 = w3.2 := by rw [← hw4]; rfl
  have w41 : ∀ l, l ≠ 153 → l ≠ 154 → l ≠ 155 → l ≠ 156 → w4.1 l = w3.1 l := fun l h1 h2 h3 h4 => by rw [← hw4, wi_1 h4, wi_1 h2, wi_1 h3, wi_1 h1]
  have ow : ∀ r K i, K ≠ 92 → K ≠ 94 → K ≠ 114 → (96 ≤ K → K ≤ 101 → r ≠ p → 60 * r ≤ i ∧ i < 60 * r + 60) → r ≠ p → w4.2.2.1 K i = w.2.2.1 K i := fun r K i h1 h2 h4 h5 h6 => by
    rw [w42]
    by_cases c : 96 ≤ K ∧ K ≤ 101
    · have := h5 c.1 c.2 h6
      exact w3A K i c.1 c.2 (by omega)
    · rw [w3R K h1 h2 (by omega) (by omega) (by omega) (by omega) (by omega) (by omega) h4]
  have wi1 : ∀ l, l ≤ 132 ∨ l = 150 ∨ l = 164 ∨ l = 165 → w4.1 l = (cbW w).1 l := fun l hl => by
    rw [w41 l (by omega) (by omega) (by omega) (by omega), w3i]
    unfold cbW
    by_cases c : l = 119
    · subst c
      rw [i119, wi_1 (by omega), wi_s1]
    · by_cases c5 : l = 165
      · subst c5
        rw [i165, wi_s1]
      · rw [i1 l (by omega) c5 c, wi_1 c5, wi_1 c]
  refine ⟨fun d hd => ⟨fun K i h => ?_, fun K h => ?_, fun i _ _ => ?_, by rw [w42, w3J 111 (by omega) (by omega)]; rfl, fun i _ _ => by rw [w42, w3J 88 (by omega) (by omega)]; rfl, fun i h1 h2 => ?_, fun i h1 h2 => ?_, fun i _ _ => by rw [w42, w3J 107 (by omega) (by omega)]; rfl⟩, ⟨fun K h => by rw [w42]; exact pr K h, by rw [w42, w3J 34 (by omega) (by omega)]; rfl, ?_, ?_, wi1 14 (by omega)⟩, wi1 150 (by omega), fun K h => ?_, by rw [w42, w3J 148 (by omega) (by omega)]; rfl, fun K h => ?_, fun l h => wi1 l (by omega)⟩
  · show w4.2.2.1 K i = w.2.2.1 K i
    by_cases c : K = 92 ∨ K = 94 ∨ K = 114
    · rw [w42]
      refine o1 K i c ?_
      unfold OWi at h
      omega
    · refine ow d K i (by omega) (by omega) (by omega) (fun h1 h2 _ => ?_) hd
      unfold OWi at h
      omega
  · exact ow d K d (by omega) (by omega) (by omega) (fun h1 h2 _ => by omega) hd
  · exact ow d 131 i (by omega) (by omega) (by omega) (fun h1 h2 _ => by omega) hd
  · rw [w42, w391 i, if_neg (by omega)]
    rfl
  · rw [w42, w393o i (by omega)]
    rfl
  · show w4.2.2.1 12 = w.2.2.1 12
    rw [w42]
    exact w3R 12 (by omega) (by omega) (by omega) (by omega) (by omega) (by omega) (by omega) (by omega) (by omega)
  · show w4.2.2.1 13 = w.2.2.1 13
    rw [w42]
    exact w3R 13 (by omega) (by omega) (by omega) (by omega) (by omega) (by omega) (by omega) (by omega) (by omega)
  · show w4.2.2.1 K = w.2.2.1 K
    rw [w42]
    exact w3R K (by omega) (by omega) (by omega) (by omega) (by omega) (by omega) (by omega) (by omega) (by omega)
  · show w4.2.2.1 K = w.2.2.1 K
    rw [w42]
    exact w3R K (by omega) (by omega) (by omega) (by omega) (by omega) (by omega) (by omega) (by omega) (by omega)
end
