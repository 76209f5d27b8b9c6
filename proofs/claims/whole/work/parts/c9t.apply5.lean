/-! a FUN of a FUNCTION is applied, both sides: a FRAME more -/
set_option maxRecDepth 100000
section
variable {α β : Type} {N p n ar ff j B c P0 v : Nat} {w : MS} {x : Int64} {Q : MS → α → MS → β → Prop} {D : Option (MS × α)} {K : MS → Unit → Option (MS × β)}
/-- a FUN of a FUNCTION, here: which one, what it takes -/
theorem call_13f (hpp : p < 24) (hn : n < 100000) (h26 : A w 26 n = ((ar : Nat) : Int)) (h133 : F w 133 = ((p : Nat) : Int)) (h92 : A w 92 p = ((P0 + 1 + ar : Nat) : Int)) (hW : P0 + 1 + ar ≤ 46000) (hx : w.2.2.2 91 (46000 * p + P0) = x) (sx : so x = 3) (hv : va x = ((v : Nat) : Int)) (hv2 : v < 500) (hd : (hp w p v).toInt = -1 - ((ff : Nat) : Int)) (hu : ff < 100000) (h48 : A w 48 ff = ((ar : Nat) : Int)) (h : PP Q D (bnd (fb_M_callRun_213 N () (wi w 166 1) (I ((n : Nat) : Int)) (I ((ar : Nat) : Int)) (I ((ff : Nat) : Int)) (-1)) K)) : PP Q D (bnd (fm_M_callRun N w (I ((n : Nat) : Int)) (I 13)) K) := by
  unfold fm_M_callRun fb_M_callRun_0
  refine rb_ck (fun _ => ?_)
  rw [show decide (I 13 = 12) = false from rfl, br_f, tnI (n := n) rfl (by omega), I_A' h26]
  unfold fb_M_callRun_47 fb_M_callRun_63 fb_M_callRun_80
  rw [show decide (I 13 = 12) = false from rfl, br_f, show decide (I 13 = 13) = true from rfl, br_t]
  refine rb_ck (fun _ => ?_)
  rw [show upI w 166 1 = wi w 166 1 from rfl, lt_e, br_t]
  have x33 : F (wi w 166 1) 133 = ((p : Nat) : Int) := by rw [wi_ne (by omega)]; exact h133
  refine rb_bnd (pk_mo (top_r (N := N) (k := ar) (W := P0 + 1 + ar) hpp x33 h92 hW (by omega)) (fun w4 r e => ?_))
  obtain ⟨rfl, rfl⟩ := e
  rw [show 46000 * p + (P0 + 1 + ar - 1 - ar) = 46000 * p + P0 by omega, show (wi w 166 1).2.2.2 91 (46000 * p + P0) = x from hx, sortOf_e, rb_bnd_so, sx, show decide (I 3 = 3) = true from rfl, br_t, valueOf_e, rb_bnd_so, hv, I_F' x33, cell_e (by omega) hv2, rb_bnd_so, show hp (wi w 166 1) p v = hp w p v from rfl]
  have d0 : decide (0 ≤ lg_cmp (hp w p v) 0) = false := decide_eq_false (fun z => by have := (lgc_ge _).mp z; rw [hd] at this; omega)
  have ti : ((-1 : Int64) - hp w p v).toInt32 = I ((ff : Nat) : Int) := by
    apply Int32.toInt_inj.mp
    rw [Int64.toInt_toInt32, I_ti (by omega) (by omega), Int64.toInt_sub, hd, show (-1 : Int64).toInt = -1 from by decide, show (-1 : Int) - (-1 - ((ff : Nat) : Int)) = ((ff : Nat) : Int) by omega, Int.bmod_eq_of_le (n := ((ff : Nat) : Int)) (m := 2 ^ 64) (by omega) (by omega)]
    exact Int.bmod_eq_of_le (by omega) (by omega)
  unfold fb_M_callRun_147 fb_M_callRun_163 fb_M_callRun_193
  rw [d0, br_f, br_f, ti, show decide (I ((ff : Nat) : Int) = (-1 : Int32)) = false from by rw [m1I, decE (by omega) (by omega) (by omega) (by omega)]; exact decide_eq_false (by omega), br_f, tnI (n := ff) rfl (by omega)]
  refine rb_ck (fun _ => ?_)
  have e48 : A (wi w 166 1) 48 ff = ((ar : Nat) : Int) := h48
  rw [I_A' e48, show decide (I ((ar : Nat) : Int) = I ((ar : Nat) : Int)) = true from decide_eq_true rfl, br_t]
  exact h
/-- a FRAME more for a FUN of a FUNCTION, here -/
theorem frNF_r {fv : Int32} {f : Int} (hpp : p < 24) (hfv : fv = I f) (h133 : F w 133 = ((p : Nat) : Int)) (h166 : F w 166 = 1) (h92 : A w 92 p = ((P0 + 1 + ar : Nat) : Int)) (hW : P0 + 1 + ar ≤ 46000) (h94 : A w 94 p = ((B : Nat) : Int)) (hB : B ≤ 2500) (h95 : A w 95 p = ((j + 1 : Nat) : Int)) (hj : j + 1 < 60)
    (kk : ∀ u, FR [] [] [] [91] (wa w 95 p ((j + 1 + 1 : Nat) : Int)) u → (∀ i, u.2.2.2 91 i = if 46000 * p + P0 ≤ i ∧ i < 46000 * p + P0 + ar then w.2.2.2 91 (i + 1) else w.2.2.2 91 i) → PP Q D (K (frmW u p (j + 1) f P0 B (P0 + ar)) ())) : PP Q D (bnd (fm_M_frameOf N w fv (-1) (I ((ar : Nat) : Int)) (I 0)) K) := by
  unfold fm_M_frameOf fb_M_frameOf_0 fb_M_frameOf_10 fb_M_frameOf_24 fb_M_frameOf_46 fb_M_frameOf_128
  rw [show decide ((-1 : Int32) = -1) = true from rfl, br_t, I_F' h166, show decide (I 1 = 0) = false from rfl, br_f, show decide ((1 : Int32) = 1) = true from rfl, br_t]
  refine rb_bnd (pk_mo (top_r (N := N) (k := ar) (W := P0 + 1 + ar) hpp h133 h92 hW (by omega)) (fun w4 r e => ?_))
  obtain ⟨rfl, rfl⟩ := e
  have s1 : I ((P0 + 1 + ar : Nat) : Int) - I ((ar : Nat) : Int) = I ((P0 + 1 : Nat) : Int) := by rw [I_sub]; congr 1; omega
  have s0 : I ((P0 + 1 : Nat) : Int) - 1 = I ((P0 : Nat) : Int) := by rw [lit1, I_sub]; congr 1; omega
  have sp : I ((p : Nat) : Int) * 46000 = I ((46000 * p : Nat) : Int) := by
    rw [show (46000 : Int32) = I 46000 from rfl, I_mul]
    congr 1
    omega
  refine rb_ck (fun _ => ?_)
  rw [lt_e]
  refine rb_ck (fun _ => ?_)
  rw [lt_e, show decide (I 0 = 0) = true from rfl, br_t]
  refine rb_ck (fun _ => rb_ck (fun _ => ?_))
  rw [I_F' h133, tnI (n := p) rfl (by omega), I_A' h95, I_A' h92, I_A' h94, s1, s0, sp, show I ((j + 1 : Nat) : Int) + 1 = I ((j + 1 + 1 : Nat) : Int) from addN, wa_e, lt_e]
  have x33 : F (wa w4 95 p ((j + 1 + 1 : Nat) : Int)) 133 = ((p : Nat) : Int) := h133
  have x92 : A (wa w4 95 p ((j + 1 + 1 : Nat) : Int)) 92 p = ((P0 + 1 + ar : Nat) : Int) := by rw [wa_rne (by omega)]; exact h92
  refine rb_ck (fun _ => ?_)
  rw [I_F' x33, tnI (n := p) rfl (by omega), I_A' x92, s1, lt_e, hfv]
  refine fr_lp (w0 := wa w4 95 p ((j + 1 + 1 : Nat) : Int)) (jj := j + 1) (src := P0 + 1) hpp x33 (wa_sm (by omega) (by omega)) hj (by omega) hW (by omega) (fun u fr r => kk u fr (fun i => ?_)) ar N _ 0 (by omega) FR.rf (fun q => by rw [if_neg (by omega)])
  rw [r i, show P0 + 1 - P0 = 1 by omega]
  rfl
end
section
variable {α β : Type} {b : Int → Nat → Nat → Prop} {N p U B Y j a n ar P0 l v v' ff e c : Nat} {m w : MS} {t x : Int64} {nb : Nat → Nat} {Hs Os : Nat → List Nat} {Q : MS → α → MS → β → Prop} {K1 : MS → Option (MS × α)} {K2 : MS → Option (MS × β)}
theorem op_applyF (hpp : p < 24) (pl : PLs b p m w U B (P0 + 1 + ar) Y) (ru : RUs m w p j nb Hs Os none a n) (hW : P0 + 1 + ar ≤ 46000) (hB2 : B ≤ 2500) (hj1 : j + 1 < 60) (hlt : F m 1106 < F m 1107) (ha : a + 3 < 24000) (hl : F m (pq p 45) = ((l : Nat) : Int)) (hl2 : P0 + 1 + ar ≤ l ∧ l ≤ 1000000) (c1 : A m 23 (a + 1) = ((ar : Nat) : Int)) (h26 : A w 26 n = ((ar : Nat) : Int)) (h30 : A w 30 n = 0)
    (ht : m.2.2.2 (pq p 35) P0 = t) (hx : w.2.2.2 91 (46000 * p + P0) = x) (st : so t = 3) (sx : so x = 3) (hv : va t = ((v : Nat) : Int)) (hv2 : v < 500) (hv' : va x = ((v' : Nat) : Int)) (hv2' : v' < 500) (hc0 : va (m.2.2.2 (pq p 2) v) = ((1000000 + ff : Nat) : Int)) (hd : (hp w p v').toInt = -1 - ((ff : Nat) : Int))
    (h442 : ((ff : Nat) : Int) < F m 442) (hu : ff < 666) (h449 : F m 449 ≤ 400) (f25 : A m 25 ff = ((ar : Nat) : Int)) (f29 : A m 29 ff = ((e : Nat) : Int)) (h50 : A w 50 ff = ((c : Nat) : Int)) (hc : c < 100000) (h48 : A w 48 ff = ((ar : Nat) : Int)) (cr : ∃ g, CRs (A m 23) (ROs w) (w.2.2.2 34) g none (a + 3) (n + 1) (Hs j) (Os j)) (zr : ∃ g g2, ZRs (A m 23) (ROs w) (w.2.2.2 34) (CRs (A m 23) (ROs w) (w.2.2.2 34) g) 0 0 [] [] g2 e ((c : Nat) : Int))
    (k : ∀ m4 w4, TRs m4 w4 p (j + 1) (upf nb (j + 1) B) (upf Hs (j + 1) []) (upf Os (j + 1) []) 0 0 e ((c : Nat) : Int) → PLs b p m4 (wa w4 94 p ((B + 0 : Nat) : Int)) U (B + 0) (P0 + ar) Y → GGm p (cbM m) m4 → GGw p (cbW w) w4 → (SCs p m w → SCs p m4 w4) → (w4.2.2.2 88 = w.2.2.2 88 ∧ w4.1 140 = w.1 140) → PP Q (K1 m4) (bnd (gg_M_choose N (rc_M_error N 19) N w4 1) (fun u _ => K2 u))) : PP Q (bnd (hm_Ma_flow N m p (I 27)) (fun u _ => K1 u)) (bnd (fm_M_one N w (I ((n : Nat) : Int)) (I 13)) (fun u _ => K2 u)) := by
  obtain ⟨⟨fa, ct⟩, ⟨r2, r3⟩, ⟨f0, cr0⟩, ⟨r5, r6⟩, r7, ⟨r8, r9, r10⟩, r11, r12, r13⟩ := id ru
  have cb := CR_b cr0
  obtain ⟨⟨f1, f2, f3⟩, f4, f5, f6⟩ := id fa
  have ebd : e + 1 < 24000 := by
    obtain ⟨g, g2, z⟩ := zr
    cases g2 with
    | zero => exact z.elim
    | succ g2 => exact z.1
  have hne : (wi w 166 1).1 165 ≠ (wi w 166 1).1 164 := by
    rw [wi_1 (by omega), wi_1 (by omega), ← r12, ← r13]
    intro c
    have := congrArg Int32.toInt c
    have h1 : F m 1106 = (m.1 1106).toInt := rfl
    have h2 : F m 1107 = (m.1 1107).toInt := rfl
    omega
  -- there
  have t1 : ∀ k, k < 2000 → k ≠ 1106 → k ≠ 946 → (toS (cnM m p) p P0 ar).1 k = m.1 k := fun k h0 h1 h2 => (toS_1 (pq_n h0)).trans (cnM_1 h0 h1 h2)
  have tF : ∀ k, k < 2000 → k ≠ 1106 → k ≠ 946 → F (toS (cnM m p) p P0 ar) k = F m k := fun k h0 h1 h2 => congrArg Int32.toInt (t1 k h0 h1 h2)
  have tq : ∀ k, k ≠ 13 → k ≠ 26 → (toS (cnM m p) p P0 ar).1 (pq p k) = m.1 (pq p k) := fun k h1 h2 => (toS_1 (pq_inj h2)).trans (cnM_q h1)
  have en := entry_f (N := N) (p := p) (m := toS (cnM m p) p P0 ar) (uu := ff) (by rw [tF 442 (by omega) (by omega) (by omega)]; exact h442) hu
  have e31 : A (toS (cnM m p) p P0 ar) 29 ff = ((e : Nat) : Int) := f29
  rw [e31] at en
  have tk := takes_f (N := N) h442 hu
  rw [f25] at tk
  rw [apl_27, I_F' r2, show I ((a : Nat) : Int) + 1 = I ((a + 1 : Nat) : Int) from addN, Co_e (k := a + 1) rfl (by omega), bnd_so, c1, apN_m (cc := 1000000 + ff) (ff := ((ff : Nat) : Int)) hlt r2 ha f1 hj1 pl.2.1.1 pl.2.2.1.1 hl hl2 ht st hv (by omega) hc0 tk en.2 en.1]
  refine l_bb (l_bb ?_)
  show PP Q (bnd (hm_Ma_hold N (ntS (toS (cnM m p) p P0 ar) p j B P0 (a + 3) ((ff : Nat) : Int) ((e : Nat) : Int)) p p (pq p 2) t) _) _
  generalize hT : toS (cnM m p) p P0 ar = mT at t1 tF tq
  have tJ : ∀ k, k ≠ 35 → mT.2.2.2 (pq p k) = m.2.2.2 (pq p k) := fun k h => by rw [← hT, toS_J (pq_inj h)]; rfl
  have tA : mT.2.2.1 = m.2.2.1 := by rw [← hT]; rfl
  have tAa : ∀ K i, A mT K i = A m K i := fun K i => by show (mT.2.2.1 K i).toInt = _; rw [tA]; rfl
  generalize hE : ntS mT p j B P0 (a + 3) ((ff : Nat) : Int) ((e : Nat) : Int) = mE
  have eA : ∀ K, K < 2000 → mE.2.2.1 K = m.2.2.1 K := fun K h => by rw [← hE, ntS_A (pq_n h), tA]
  have eAa : ∀ K i, K < 2000 → A mE K i = A m K i := fun K i h => by show (mE.2.2.1 K i).toInt = _; rw [eA K h]; rfl
  have eJ : mE.2.2.2 = mT.2.2.2 := by rw [← hE]; exact ntS_J
  have eq : ∀ k, k ≠ 13 → k ≠ 21 → k ≠ 26 → mE.1 (pq p k) = m.1 (pq p k) := fun k h1 h2 h3 => by rw [← hE, ntS_1' (fun c => pq_n (by omega) c.symm) (pq_inj h2)]; exact tq k h1 h3
  have eg : ∀ k, k < 2000 → k ≠ 1105 → mE.1 k = mT.1 k := fun k h0 h1 => by rw [← hE, ntS_1' h1 (pq_n h0)]
  have eF : ∀ k, k ≠ 13 → k ≠ 21 → k ≠ 26 → F mE (pq p k) = F m (pq p k) := fun k h1 h2 h3 => congrArg Int32.toInt (eq k h1 h2 h3)
  refine l_bnd (pk_mo (hold_0 (N := N) (m := mE) (uu := ff) hv (by omega) (by rw [eJ, tJ 2 (by omega)]; exact hc0) (by omega) (by rw [show F mE 449 = F mT 449 from congrArg Int32.toInt (eg 449 (by omega) (by omega)), tF 449 (by omega) (by omega) (by omega)]; exact h449)) (fun m4 _ h => ?_))
  subst h
  have fm : CFm (toS m p P0 ar) m4 p j B P0 (a + 3) e 0 ((ff : Nat) : Int) [] := by
    have nS : ∀ k, k < 2000 → F (toS m p P0 ar) k = F m k := fun k h => congrArg Int32.toInt (toS_1 (pq_n h))
    refine ⟨⟨fun k h0 h1 h2 h3 h4 h5 => ?_, fun k h0 h1 h2 h3 => ?_, ?_, ?_, ?_, ?_, ?_⟩, ⟨fun K h => ?_, fun k h0 h1 h2 => ?_, fun i hi => ?_, fun i x hx => by simp at hx, fun i => ?_⟩, fun k h0 h1 => ?_, fun i hi => ?_⟩
    · by_cases c : k = 26
      · subst c
        rw [← hE, ntS_1' (fun c => pq_n (by omega) c.symm) (pq_inj (by omega)), ← hT]
        exact wi_s1.trans wi_s1.symm
      · rw [eq k h1 h2 c, toS_1 (pq_inj c)]
    · rw [eg k h0 h1, t1 k h0 h2 h3, toS_1 (pq_n h0)]
    · rw [eg 1106 (by omega) (by omega), ← hT, toS_1 (pq_n (by omega)), cnM_06, nS 1106 (by omega)]
    · rw [← hE, ntS_1' (fun c => pq_n (by omega) c.symm) (pq_inj (by omega)), ← hT, toS_1 (pq_inj (by omega)), cnM_13, show F (toS m p P0 ar) (pq p 13) = F m (pq p 13) from congrArg Int32.toInt (toS_1 (pq_inj (by omega)))]
    · rw [← hE, ntS_21 (by omega)]
    · rw [eF 24 (by omega) (by omega) (by omega)]
      exact pl.2.1.1
    · rw [← hE, ntS_05 ⟨by omega, by omega⟩]
    · rw [eA K h]
      rfl
    · rw [← hE, ntS_A (pq_inj h1), tA]
      rfl
    · show (m4.2.2.1 (pq p 32) i).toInt = (m.2.2.1 (pq p 32) i).toInt
      rw [← hE, ntS_A (pq_inj (by omega)), tA]
    · rw [← hE, ntS_30 (by omega) (by omega) (by omega) ⟨by omega, by omega⟩ ⟨by omega, by omega⟩, tAa]
      rfl
    · rw [eJ, ← hT]
      by_cases c : k = 35
      · subst c
        show (if pq p 35 = pq p 35 then _ else _) = (if pq p 35 = pq p 35 then _ else _)
        rw [if_pos rfl, if_pos rfl]
        rfl
      · rw [toS_J (pq_inj c), toS_J (pq_inj c)]
        rfl
    · rw [eJ, tJ 33 (by omega), toS_J (pq_inj (by omega))]
  have gm : GGm p (cbM m) m4 := by
    refine GGm.tr (GGm.tr GGm_cn (GGm_toS (P0 := P0) (ar := ar))) ?_
    rw [hT, ← hE]
    exact GGm_ntS
  -- here
  rw [one_13]
  refine r_bb ?_
  refine call_13f (P0 := P0) (ff := ff) hpp (by omega) h26 r11 pl.2.2.1.2.1 hW hx sx hv' (by omega) hd (by omega) h48 ?_
  have x33 : F (wi w 166 1) 133 = ((p : Nat) : Int) := by rw [wi_ne (by omega)]; exact r11
  refine call_go (j1 := j) (tl := 0) hpp (by omega) x33 f2 f3 hne h30 (Or.inr ⟨rfl, hj1⟩) ?_
  have e165 : F (wi w 166 1) 165 = F w 165 := wi_ne (by omega)
  have e119 : F (wi w 166 1) 119 = F w 119 := wi_ne (by omega)
  rw [e165, e119, show A (wi w 166 1) 114 p = A w 114 p from rfl]
  generalize hw1 : wa (wa (wi (wi (wi w 166 1) 165 (F w 165 + 1)) 119 (F w 119 + 1)) 114 p (A w 114 p + 1)) 98 (60 * p + j) ((n + 1 : Nat) : Int) = w1
  have a1 : ∀ K i, K ≠ 114 → K ≠ 98 → A w1 K i = A w K i := fun K i h1 h2 => by rw [← hw1, wa_rne h2, wa_rne h1]; rfl
  have i1 : ∀ l, l ≠ 166 → l ≠ 165 → l ≠ 119 → w1.1 l = w.1 l := fun l h1 h2 h3 => by
    rw [← hw1]
    show (wi (wi (wi w 166 1) 165 (F w 165 + 1)) 119 (F w 119 + 1)).1 l = _
    rw [wi_1 h3, wi_1 h2, wi_1 h1]
  have i165 : w1.1 165 = I (F w 165 + 1) := by
    rw [← hw1]
    show (wi (wi (wi w 166 1) 165 (F w 165 + 1)) 119 (F w 119 + 1)).1 165 = _
    rw [wi_1 (by omega)]
    exact wi_s1
  have i119 : w1.1 119 = I (F w 119 + 1) := by
    rw [← hw1]
    show (wi (wi (wi w 166 1) 165 (F w 165 + 1)) 119 (F w 119 + 1)).1 119 = _
    exact wi_s1
  have i166 : F w1 166 = 1 := by
    rw [← hw1]
    show F (wi (wi (wi w 166 1) 165 (F w 165 + 1)) 119 (F w 119 + 1)) 166 = 1
    rw [wi_ne (by omega), wi_ne (by omega), wi_sm (by omega) (by omega)]
  have j1J : w1.2.2.2 = w.2.2.2 := by rw [← hw1]; rfl
  have hpw : hp w1 p = hp w p := by
    funext k
    show w1.2.2.2 88 (500 * p + k) = _
    rw [j1J]
    rfl
  have y33 : F w1 133 = ((p : Nat) : Int) := (congrArg Int32.toInt (i1 133 (by omega) (by omega) (by omega))).trans r11
  refine frNF_r (f := ((ff : Nat) : Int)) (P0 := P0) (B := B) (j := j) hpp rfl y33 i166 ((a1 92 p (by omega) (by omega)).trans pl.2.2.1.2.1) hW ((a1 94 p (by omega) (by omega)).trans pl.2.1.2.1) hB2 ((a1 95 p (by omega) (by omega)).trans f2) hj1 (fun u fr r => ?_)
  generalize hw3 : frmW u p (j + 1) ((ff : Nat) : Int) P0 B (P0 + ar) = w3
  have uR : ∀ K, u.2.2.1 K = (wa w1 95 p ((j + 1 + 1 : Nat) : Int)).2.2.1 K := fun K => fr.2.2.1 K (by simp)
  have w3i : w3.1 = w1.1 := by
    rw [← hw3]
    funext l
    show u.1 l = _
    rw [fr.1 l (by simp)]
    rfl
  have w3J : ∀ K, K ≠ 93 → K ≠ 91 → w3.2.2.2 K = w.2.2.2 K := fun K h1 h2 => by
    rw [← hw3]
    show u.2.2.2 K = _
    rw [fr.2.2.2 K (by simpa using h2)]
    show w1.2.2.2 K = _
    rw [j1J]
  have w391 : ∀ i, w3.2.2.2 91 i = (toW w p P0 ar).2.2.2 91 i := fun i => by
    rw [← hw3, toW_91]
    show u.2.2.2 91 i = _
    rw [r i, j1J]
  have w393 : w3.2.2.2 93 = w.2.2.2 93 := by
    rw [← hw3]
    show u.2.2.2 93 = _
    rw [fr.2.2.2 93 (by simp)]
    show w1.2.2.2 93 = _
    rw [j1J]
  have row : ∀ K i, ¬ (K = 94 ∧ i = p) → ¬ (K = 101 ∧ i = 60 * p + (j + 1)) → ¬ (K = 99 ∧ i = 60 * p + (j + 1)) → ¬ (K = 100 ∧ i = 60 * p + (j + 1)) → ¬ (K = 97 ∧ i = 60 * p + (j + 1)) → ¬ (K = 96 ∧ i = 60 * p + (j + 1)) → ¬ (K = 92 ∧ i = p) → ¬ (K = 95 ∧ i = p) → ¬ (K = 98 ∧ i = 60 * p + j) → ¬ (K = 114 ∧ i = p) → w3.2.2.1 K i = w.2.2.1 K i := fun K i h1 h2 h3 h4 h5 h6 h7 h8 h9 h10 => by
    rw [← hw3]
    unfold frmW
    rw [wa_at h2, wa_at h1, wa_at h3, wa_at h4, wa_at h5, wa_at h6, wa_at h7, uR, wa_at h8, ← hw1, wa_at h9, wa_at h10]
    rfl
  have w3R : ∀ K, K ≠ 92 → K ≠ 94 → K ≠ 95 → K ≠ 96 → K ≠ 97 → K ≠ 98 → K ≠ 99 → K ≠ 100 → K ≠ 101 → K ≠ 114 → w3.2.2.1 K = w.2.2.1 K := fun K h1 h2 h3 h4 h5 h6 h7 h8 h9 h10 => by
    funext i
    exact row K i (by omega) (by omega) (by omega) (by omega) (by omega) (by omega) (by omega) (by omega) (by omega) (by omega)
  have w3A : ∀ K i, 96 ≤ K → K ≤ 101 → i ≠ 60 * p + (j + 1) → ¬ (K = 98 ∧ i = 60 * p + j) → w3.2.2.1 K i = w.2.2.1 K i := fun K i h1 h2 h3 h4 => row K i (by omega) (by omega) (by omega) (by omega) (by omega) (by omega) (by omega) (by omega) h4 (by omega)
  have o1 : ∀ K i, (K = 92 ∨ K = 94 ∨ K = 95 ∨ K = 114) → i ≠ p → w3.2.2.1 K i = w.2.2.1 K i := fun K i h1 h2 => row K i (by omega) (by omega) (by omega) (by omega) (by omega) (by omega) (by omega) (by omega) (by omega) (by omega)
  have rd : ∀ K i, K ≠ 94 → K ≠ 101 → A w3 K i = A (frmW u p (j + 1) ((ff : Nat) : Int) P0 B (P0 + ar)) K i := fun K i h1 h2 => by rw [← hw3]
  have v101 : A w3 101 (60 * p + (j + 1)) = ((0 : Nat) : Int) := by rw [← hw3]; exact wa_sm (by omega) (by omega)
  have v94 : A w3 94 p = ((B + 0 : Nat) : Int) := by
    rw [← hw3]
    unfold frmW
    rw [wa_rne (by omega), wa_sm (by omega) (by omega)]
    rfl
  have v99 : A w3 99 (60 * p + (j + 1)) = ((B : Nat) : Int) := by
    rw [rd 99 _ (by omega) (by omega)]
    unfold frmW
    rw [wa_rne (by omega), wa_rne (by omega), wa_sm (by omega) (by omega)]
  have v100 : A w3 100 (60 * p + (j + 1)) = ((P0 : Nat) : Int) := by
    rw [rd 100 _ (by omega) (by omega)]
    unfold frmW
    rw [wa_rne (by omega), wa_rne (by omega), wa_rne (by omega), wa_sm (by omega) (by omega)]
  have v97 : A w3 97 (60 * p + (j + 1)) = -1 := by
    rw [rd 97 _ (by omega) (by omega)]
    unfold frmW
    rw [wa_rne (by omega), wa_rne (by omega), wa_rne (by omega), wa_rne (by omega), wa_sm (by omega) (by omega)]
  have v96 : A w3 96 (60 * p + (j + 1)) = ((ff : Nat) : Int) := by
    rw [rd 96 _ (by omega) (by omega)]
    unfold frmW
    rw [wa_rne (by omega), wa_rne (by omega), wa_rne (by omega), wa_rne (by omega), wa_rne (by omega), wa_sm (by omega) (by omega)]
  have v92 : A w3 92 p = ((P0 + ar : Nat) : Int) := by
    rw [rd 92 _ (by omega) (by omega)]
    unfold frmW
    rw [wa_rne (by omega), wa_rne (by omega), wa_rne (by omega), wa_rne (by omega), wa_rne (by omega), wa_rne (by omega), wa_sm (by omega) (by omega)]
  have u95 : ∀ K i, A u K i = A (wa w1 95 p ((j + 1 + 1 : Nat) : Int)) K i := fun K i => FR.A fr (by simp)
  have v95 : A w3 95 p = ((j + 1 + 1 : Nat) : Int) := by
    rw [rd 95 _ (by omega) (by omega)]
    unfold frmW
    rw [wa_rne (by omega), wa_rne (by omega), wa_rne (by omega), wa_rne (by omega), wa_rne (by omega), wa_rne (by omega), wa_rne (by omega), u95, wa_sm (by omega) (by omega)]
  have v98 : A w3 98 (60 * p + j) = ((n + 1 : Nat) : Int) := by
    rw [rd 98 _ (by omega) (by omega)]
    unfold frmW
    rw [wa_rne (by omega), wa_rne (by omega), wa_rne (by omega), wa_rne (by omega), wa_rne (by omega), wa_rne (by omega), wa_rne (by omega), u95, wa_rne (by omega), ← hw1, wa_sm (by omega) (by omega)]
  have v114 : w3.2.2.1 114 p = I (A w 114 p + 1) := by
    rw [← hw3]
    unfold frmW
    rw [wa_21 (by omega), wa_21 (by omega), wa_21 (by omega), wa_21 (by omega), wa_21 (by omega), wa_21 (by omega), wa_21 (by omega), uR, wa_21 (by omega), ← hw1, wa_21 (by omega), wa_s1]
  have z33 : F w3 133 = ((p : Nat) : Int) := by show (w3.1 133).toInt = _; rw [w3i]; exact y33
  have fw : CFw (toW w p P0 ar) w3 p j B P0 ar 0 n ((ff : Nat) : Int) := by
    refine ⟨⟨fun l h1 h2 h3 => by rw [w3i]; exact i1 l h1 h2 h3, by rw [w3i]; exact i165⟩, ⟨fun K h => ?_, fun i hi => ?_⟩, fun K h1 h2 h3 h4 h5 h6 h7 h8 h9 h10 => by rw [w3R K h1 h2 h3 h4 h5 h6 h7 h8 h9 h10, toW_A h1], fun K i h1 h2 h3 h4 => by rw [w3A K i h1 h2 h3 h4, toW_A (by omega)], ⟨v92, v94, v95, v96, v97, v98, v99, v100, v101⟩, ?_⟩
    · by_cases c : K = 91
      · subst c
        funext i
        exact w391 i
      · rw [w3J K h c, toW_J c]
    · rw [w393, toW_J (by omega)]
    · rw [v114]
      congr 2
  have pr : ∀ K, PRr K → w3.2.2.1 K = w.2.2.1 K := fun K h => by
    unfold PRr at h
    exact w3R K (by omega) (by omega) (by omega) (by omega) (by omega) (by omega) (by omega) (by omega) (by omega) (by omega)
  have prT : ∀ K, PRr K → (toW w p P0 ar).2.2.1 K = w.2.2.1 K := fun K h => toW_A (by unfold PRr at h; omega)
  have ruN : RUs (toS m p P0 ar) (toW w p P0 ar) p j nb Hs Os none a n := RUs_mv ru FGm_toS (FGw_toW hW) (by rw [show F (toS m p P0 ar) 1105 = F m 1105 from congrArg Int32.toInt (toS_1 (pq_n (by omega)))]; exact r2) (by show ((toW w p P0 ar).2.2.1 98 (60 * p + j)).toInt = _; rw [toW_A (by omega)]; exact r3) ⟨f0, cr0⟩
  rw [show decide (I ((ff : Nat) : Int) = (-1 : Int32)) = false from by rw [m1I, decE (by omega) (by omega) (by omega) (by omega)]; exact decide_eq_false (by omega), br_f]
  refine rb_ck (fun _ => ?_)
  have v50 : A w3 50 ff = ((c : Nat) : Int) := by show (w3.2.2.1 50 ff).toInt = _; rw [pr 50 (by unfold PRr; omega)]; exact h50
  rw [tnI (n := ff) rfl (by omega), I_A' v50]
  refine clof_r (j := j + 1) (a := 0) (nbn := B) hpp z33 v95 hj1 v99 v101 ?_
  have core := callH_core (c := c) (ra := a + 3) (e := e) (H := []) (L := 0) (PLs_to pl hW) ruN (by omega) hj1 (by omega) fm fw rfl List.nodup_nil (fun i hi => absurd hi (Nat.not_lt_zero _)) (by rw [ROs_eq prT, toW_J (by omega)]; exact cr) (by rw [ROs_eq prT, toW_J (by omega)]; exact zr)
  obtain ⟨tr, pl4, sc4⟩ := core
  refine k _ _ tr pl4 gm ?_ (fun s => sc4 (SC_fg s FGm_toS (FGw_toW (j := j) hW))) ⟨w3J 88 (by omega) (by omega), by rw [wi_1 (by omega), wi_1 (by omega), wi_1 (by omega), wi_1 (by omega), w3i]; exact i1 140 (by omega) (by omega) (by omega)⟩
  generalize hw4 : wi (wi (wi (wi w3 153 0) 155 ((c : Nat) : Int)) 154 ((c : Nat) : Int)) 156 ((B + 0 : Nat) : Int) = w4
  have w42 : w4.2 = w3.2 := by rw [← hw4]; rfl
  have w41 : ∀ l, l ≠ 153 → l ≠ 154 → l ≠ 155 → l ≠ 156 → w4.1 l = w3.1 l := fun l h1 h2 h3 h4 => by rw [← hw4, wi_1 h4, wi_1 h2, wi_1 h3, wi_1 h1]
  have ow : ∀ r K i, K ≠ 92 → K ≠ 94 → K ≠ 95 → K ≠ 114 → (96 ≤ K → K ≤ 101 → r ≠ p → 60 * r ≤ i ∧ i < 60 * r + 60) → r ≠ p → w4.2.2.1 K i = w.2.2.1 K i := fun r K i h1 h2 h3 h4 h5 h6 => by
    rw [w42]
    by_cases c : 96 ≤ K ∧ K ≤ 101
    · have := h5 c.1 c.2 h6
      exact w3A K i c.1 c.2 (by omega) (by omega)
    · rw [w3R K h1 h2 h3 (by omega) (by omega) (by omega) (by omega) (by omega) (by omega) h4]
  have wi1 : ∀ l, l ≤ 132 ∨ l = 150 ∨ l = 164 ∨ l = 165 → w4.1 l = (cbW w).1 l := fun l hl => by
    rw [w41 l (by omega) (by omega) (by omega) (by omega), w3i]
    unfold cbW
    by_cases c : l = 119
    · subst c
      rw [i119, wi_1 (by omega), wi_s1]
    · by_cases c5 : l = 165
      · subst c5
        rw [i165, wi_s1]
      · rw [i1 l (by omega) c5 c, wi_1 c5, wi_1 c]
  have jx : ∀ K d i, d ≠ p → (K = 88 ∨ K = 107 ∨ K = 148 ∨ K = 34 ∨ K = 111) → w4.2.2.2 K i = w.2.2.2 K i := fun K d i _ h => by rw [w42, w3J K (by omega) (by omega)]
  refine ⟨fun d hd => ⟨fun K i h => ?_, fun K h => ?_, fun i _ _ => ?_, by rw [w42, w3J 111 (by omega) (by omega)]; rfl, fun i _ _ => by rw [w42, w3J 88 (by omega) (by omega)]; rfl, fun i h1 h2 => ?_, fun i h1 h2 => ?_, fun i _ _ => by rw [w42, w3J 107 (by omega) (by omega)]; rfl⟩, ⟨fun K h => by rw [w42]; exact pr K h, by rw [w42, w3J 34 (by omega) (by omega)]; rfl, ?_, ?_, wi1 14 (by omega)⟩, wi1 150 (by omega), fun K h => ?_, by rw [w42, w3J 148 (by omega) (by omega)]; rfl, fun K h => ?_, fun l h => wi1 l (by omega)⟩
  · show w4.2.2.1 K i = w.2.2.1 K i
    by_cases c : K = 92 ∨ K = 94 ∨ K = 95 ∨ K = 114
    · rw [w42]
      refine o1 K i c ?_
      unfold OWi at h
      omega
    · refine ow d K i (by omega) (by omega) (by omega) (by omega) (fun h1 h2 _ => ?_) hd
      unfold OWi at h
      omega
  · exact ow d K d (by omega) (by omega) (by omega) (by omega) (fun h1 h2 _ => by omega) hd
  · exact ow d 131 i (by omega) (by omega) (by omega) (by omega) (fun h1 h2 _ => by omega) hd
  · rw [w42, w391 i, toW_91, if_neg (by omega)]
    rfl
  · rw [w42, w393]
    rfl
  · show w4.2.2.1 12 = w.2.2.1 12
    rw [w42]
    exact w3R 12 (by omega) (by omega) (by omega) (by omega) (by omega) (by omega) (by omega) (by omega) (by omega) (by omega)
  · show w4.2.2.1 13 = w.2.2.1 13
    rw [w42]
    exact w3R 13 (by omega) (by omega) (by omega) (by omega) (by omega) (by omega) (by omega) (by omega) (by omega) (by omega)
  · show w4.2.2.1 K = w.2.2.1 K
    rw [w42]
    exact w3R K (by omega) (by omega) (by omega) (by omega) (by omega) (by omega) (by omega) (by omega) (by omega) (by omega)
  · show w4.2.2.1 K = w.2.2.1 K
    rw [w42]
    exact w3R K (by omega) (by omega) (by omega) (by omega) (by omega) (by omega) (by omega) (by omega) (by omega) (by omega)
end
