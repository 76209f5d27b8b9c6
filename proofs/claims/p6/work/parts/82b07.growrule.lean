set_option maxRecDepth 100000
theorem grw_n {x : Int32} (h : grw x = true) : 32 ≤ x.toNatClampNeg ∧ x.toNatClampNeg ≤ 33554432 ∧ (x * 2).toNatClampNeg = 2 * x.toNatClampNeg ∧ ¬ x * 2 < 0 ∧ x * 2 ≠ x ∧ ¬ (x * 2 < x) ∧ ¬ x < 0 := by
  have h := of_decide_eq_true h
  rw [I_of x] at h ⊢
  have hr := ti_rng x
  generalize x.toInt = y at *
  obtain ⟨h1, h2⟩ := h
  rw [I_lit (n := 32), I_le (by decide) (by decide) hr.1 hr.2] at h1
  rw [I_lit (n := 33554432), I_le hr.1 hr.2 (by decide) (by decide)] at h2
  have z1 : (OfNat.ofNat 32 : Int) = 32 := rfl
  have z2 : (OfNat.ofNat 33554432 : Int) = 33554432 := rfl
  have z3 : (OfNat.ofNat 0 : Int) = 0 := rfl
  have z4 : (OfNat.ofNat 2 : Int) = 2 := rfl
  have e : I y * 2 = I (y * 2) := by rw [I_lit (n := 2), I_mul, z4]
  rw [e, I_tn hr.1 hr.2, I_tn (by omega) (by omega), I_lit (n := 0), I_lt (by omega) (by omega) (by decide) (by decide), I_lt (by omega) (by omega) hr.1 hr.2, I_lt hr.1 hr.2 (by decide) (by decide)]
  refine ⟨by omega, by omega, by omega, by omega, ?_, by omega, by omega⟩
  rw [Ne, I_eq (by omega) (by omega) hr.1 hr.2]
  omega
theorem inl_i {f f2 : Nat → LV} {a b : Nat} (h : (Sum.inl (a, f) : LC) = .inl (b, f2)) : a = b ∧ f = f2 := by injection h with h; injection h with h1 h2; exact ⟨h1, h2⟩
section
variable {α β : Type} {z : Nat} {o : Option Nat} {V : (Nat → Nat) → α → β → Prop} {c : Nat → Nat} {u : CS} {m : MS} {j q : Nat} {N : Nat}
theorem nwJ_e {x : Int32} (h : wfB u = true) (h0 : ¬ x < 0) (h1 : x.toNatClampNeg ≤ 67108864) : nwJ u x = some (cnew u x.toNatClampNeg (.inr (.inr (.inl (x.toNatClampNeg, fun _ => 0))))) := by
  unfold nwJ nwC
  exact if_pos ⟨h, h0, h1⟩
theorem nwI_e {x : Int32} (h : wfB u = true) (h0 : ¬ x < 0) (h1 : x.toNatClampNeg ≤ 67108864) : nwI u 4 x = some (cnew u x.toNatClampNeg (.inr (.inl (4, x.toNatClampNeg, fun _ => 0)))) := by
  unfold nwI nwC
  exact if_pos ⟨h, h0, h1⟩
theorem gw_e {w : CS} {a : α} (h1 : u.1.1 ≤ w.1.1) (h2 : u.1.2 ≤ w.1.2) : gw u (some (w, a)) = some (w, a) := if_pos ⟨h1, h2⟩
theorem oL_new {a n L : Nat} {x : LC} {g : Nat → Int64} (ha : a < u.1.1) (e : u.2 a = .inr (.inr (.inl (L, g)))) : oL (cnew u n x) a = some (L, g) := by
  unfold oL
  rw [if_pos (show a < (cnew u n x).1.1 from Nat.lt_succ_of_lt ha), cnew_ne (by omega), e]
theorem oL_new0 {n L : Nat} {g : Nat → Int64} : oL (cnew u n (.inr (.inr (.inl (L, g))))) u.1.1 = some (L, g) := by
  unfold oL
  rw [if_pos (show u.1.1 < (cnew u n _).1.1 from Nat.lt_succ_self _), cnew_eq]
theorem oA_new {a n L : Nat} {x : LC} {g : Nat → Int32} (ha : a < u.1.1) (e : u.2 a = .inr (.inl (4, L, g))) : oA (cnew u n x) a 4 = some (L, g) := by
  unfold oA
  rw [if_pos (show a < (cnew u n x).1.1 from Nat.lt_succ_of_lt ha), cnew_ne (by omega), e]
  exact if_pos rfl
theorem oA_new0 {n L : Nat} {g : Nat → Int32} : oA (cnew u n (.inr (.inl (4, L, g)))) u.1.1 4 = some (L, g) := by
  unfold oA
  rw [if_pos (show u.1.1 < (cnew u n _).1.1 from Nat.lt_succ_self _), cnew_eq]
  exact if_pos rfl
theorem copyJ_e {a L : Nat} {x : Int32} {g : Nat → Int64} (hg : grw x = true) (hL : x.toNatClampNeg = L) (h : wfB u = true) (ha : a < u.1.1) (e : u.2 a = .inr (.inr (.inl (L, g)))) : fm_JA_copyOf1 N u (some a) (x * 2) = some (cup (cnew u (2 * L) (.inr (.inr (.inl (2 * L, fun _ => 0))))) u.1.1 (.inr (.inr (.inl (2 * L, va_cpy g (fun _ => 0) 0 0 L)))), some u.1.1) := by
  obtain ⟨h1, h2, h3, h4, h5, h6, h7⟩ := grw_n hg
  rw [hL] at h1 h2 h3
  have eo : oL u a = some (L, g) := by unfold oL; rw [if_pos ha, e]
  have en : nJ u a = some x := by unfold nJ; rw [eo]; show some (Int32.ofNat L) = _; rw [← hL, ofNat_cl h7]
  unfold fm_JA_copyOf1 fb_JA_copyOf1_0
  show bo (nJ u a) _ = _
  rw [en]
  show br (decide (x * 2 = x)) _ _ = _
  rw [decide_eq_false h5]
  show ck (List.all [some a] (okR u.1.1)) _ = _
  rw [all1 (show okR u.1.1 (some a) = true from decide_eq_true ha)]
  show bo (nwJ u (x * 2)) _ = _
  rw [nwJ_e h h4 (by omega), h3]
  have eo2 : oL (cnew u (2 * L) (.inr (.inr (.inl (2 * L, fun _ => 0))))) a = some (L, g) := oL_new ha e
  have eo3 : oL (cnew u (2 * L) (.inr (.inr (.inl (2 * L, fun _ => 0))))) u.1.1 = some (2 * L, fun _ => 0) := oL_new0
  have en2 : nJ (cnew u (2 * L) (.inr (.inr (.inl (2 * L, fun _ => 0))))) a = some x := by unfold nJ; rw [eo2]; show some (Int32.ofNat L) = _; rw [← hL, ofNat_cl h7]
  generalize hw : cnew u (2 * L) (.inr (.inr (.inl (2 * L, fun _ => 0)))) = w at *
  have hc : cpJ w a 0 u.1.1 0 x = some (cup w u.1.1 (.inr (.inr (.inl (2 * L, va_cpy g (fun _ => 0) 0 0 L))))) := by
    unfold cpJ
    rw [eo2, eo3]
    show ck (cpOk 0 0 x L (2 * L)) _ = _
    have : cpOk 0 0 x L (2 * L) = true := by
      unfold cpOk
      refine decide_eq_true ⟨by decide, by decide, h7, ?_, ?_⟩
      · show 0 + x.toNatClampNeg ≤ L; omega
      · show 0 + x.toNatClampNeg ≤ 2 * L; omega
    unfold ck
    rw [if_pos this]
    show some (cup w u.1.1 (.inr (.inr (.inl (2 * L, va_cpy g (fun _ => 0) 0 0 x.toNatClampNeg))))) = _
    rw [hL]
  show gw w (bo (nJ w a) fun r5 => gw w (lt (if x * 2 < r5 then x * 2 else r5) fun y6 => bo (cpJ w a 0 u.1.1 0 y6) fun w7 => some (w7, some u.1.1))) = _
  rw [en2]
  show gw w (gw w (lt (if x * 2 < x then x * 2 else x) fun y6 => bo (cpJ w a 0 u.1.1 0 y6) fun w7 => some (w7, some u.1.1))) = _
  rw [if_neg h6]
  show gw w (gw w (bo (cpJ w a 0 u.1.1 0 x) fun w7 => some (w7, some u.1.1))) = _
  rw [hc]
  show gw w (gw w (some (_, some u.1.1))) = _
  rw [gw_e (u := w) (w := cup w _ _) (Nat.le_refl _) (Nat.le_refl _), gw_e (u := w) (w := cup w _ _) (Nat.le_refl _) (Nat.le_refl _)]
theorem copyI_e {a L : Nat} {x : Int32} {g : Nat → Int32} (hg : grw x = true) (hL : x.toNatClampNeg = L) (h : wfB u = true) (ha : a < u.1.1) (e : u.2 a = .inr (.inl (4, L, g))) : fm_JA_copyOf0 N u (some a) (x * 2) = some (cup (cnew u (2 * L) (.inr (.inl (4, 2 * L, fun _ => 0)))) u.1.1 (.inr (.inl (4, 2 * L, va_cpy g (fun _ => 0) 0 0 L))), some u.1.1) := by
  obtain ⟨h1, h2, h3, h4, h5, h6, h7⟩ := grw_n hg
  rw [hL] at h1 h2 h3
  have eo : oA u a 4 = some (L, g) := by unfold oA; rw [if_pos ha, e]; exact if_pos rfl
  have en : nA u a 4 = some x := by unfold nA; rw [eo]; show some (Int32.ofNat L) = _; rw [← hL, ofNat_cl h7]
  unfold fm_JA_copyOf0 fb_JA_copyOf0_0
  show bo (nA u a 4) _ = _
  rw [en]
  show br (decide (x * 2 = x)) _ _ = _
  rw [decide_eq_false h5]
  show ck (List.all [some a] (okR u.1.1)) _ = _
  rw [all1 (show okR u.1.1 (some a) = true from decide_eq_true ha)]
  show bo (nwI u 4 (x * 2)) _ = _
  rw [nwI_e h h4 (by omega), h3]
  have eo2 : oA (cnew u (2 * L) (.inr (.inl (4, 2 * L, fun _ => 0)))) a 4 = some (L, g) := oA_new ha e
  have eo3 : oA (cnew u (2 * L) (.inr (.inl (4, 2 * L, fun _ => 0)))) u.1.1 4 = some (2 * L, fun _ => 0) := oA_new0
  have en2 : nA (cnew u (2 * L) (.inr (.inl (4, 2 * L, fun _ => 0)))) a 4 = some x := by unfold nA; rw [eo2]; show some (Int32.ofNat L) = _; rw [← hL, ofNat_cl h7]
  generalize hw : cnew u (2 * L) (.inr (.inl (4, 2 * L, fun _ => 0))) = w at *
  have hc : cpI w 4 a 0 u.1.1 0 x = some (cup w u.1.1 (.inr (.inl (4, 2 * L, va_cpy g (fun _ => 0) 0 0 L)))) := by
    unfold cpI
    rw [eo2, eo3]
    show ck (cpOk 0 0 x L (2 * L)) (ck (ftB 4 g (0 : Int32).toNatClampNeg x.toNatClampNeg) _) = _
    have : cpOk 0 0 x L (2 * L) = true := by
      unfold cpOk
      refine decide_eq_true ⟨by decide, by decide, h7, ?_, ?_⟩
      · show 0 + x.toNatClampNeg ≤ L; omega
      · show 0 + x.toNatClampNeg ≤ 2 * L; omega
    unfold ck
    rw [if_pos this, if_pos (show ftB 4 g (0 : Int32).toNatClampNeg x.toNatClampNeg = true from rfl)]
    show some (cup w u.1.1 (.inr (.inl (4, 2 * L, va_cpy g (fun _ => 0) 0 0 x.toNatClampNeg)))) = _
    rw [hL]
  show gw w (bo (nA w a 4) fun r5 => gw w (lt (if x * 2 < r5 then x * 2 else r5) fun y6 => bo (cpI w 4 a 0 u.1.1 0 y6) fun w7 => some (w7, some u.1.1))) = _
  rw [en2]
  show gw w (gw w (lt (if x * 2 < x then x * 2 else x) fun y6 => bo (cpI w 4 a 0 u.1.1 0 y6) fun w7 => some (w7, some u.1.1))) = _
  rw [if_neg h6]
  show gw w (gw w (bo (cpI w 4 a 0 u.1.1 0 x) fun w7 => some (w7, some u.1.1))) = _
  rw [hc]
  show gw w (gw w (some (_, some u.1.1))) = _
  rw [gw_e (u := w) (w := cup w _ _) (Nat.le_refl _) (Nat.le_refl _), gw_e (u := w) (w := cup w _ _) (Nat.le_refl _) (Nat.le_refl _)]
theorem grow_rest {k l f : Nat} {x : LC} (h : RP o c m u) (hj : FVn c j q) (hg : GRK k l f) (hx : grw (m.1 (pq q l)) = true) (hy : okC (u.1.1 + 1) x = true) (x0 : LC) (hr : ROL (cG c q k u.1.1) (upI m (pq q l) (m.1 (pq q l) * 2)) q k x) (hzz : okC (u.1.1 + 1) x0 = true)
    {fk : CS → Option (CS × α)} {g : MS → Option (MS × β)} (hz : zle 1 z) (kk : ∀ c2 m2 w, RP o c2 m2 w → EX 1 c u c2 w → RF z o V c2 w (fk w) (g m2)) :
    RF z o V c u (bx (gw u (some (cup (cnew u (2 * lnQ m q l) x0) u.1.1 x, some u.1.1))) (fun u1 r1 => gw u1 (bo (pF u1 j 4 f (.inr (.inr r1))) fk))) (lt (upI m (pq q l) (m.1 (pq q l) * 2)) g) := by
  obtain ⟨h1, h2, h3, h4, h5, h6, h7⟩ := grw_n hx
  obtain ⟨fo, e, e1, hlt, fo2, e2, rr⟩ := oF_F h hj
  cases e2
  obtain ⟨hq, rfl⟩ := hj
  rw [gw_e (show u.1.1 ≤ u.1.1 + 1 by omega) (show u.1.2 ≤ u.1.2 + 2 * lnQ m q l by omega)]
  generalize hw : cup (cnew u (2 * lnQ m q l) x0) u.1.1 x = w
  have w1 : w.1 = (u.1.1 + 1, u.1.2 + 2 * lnQ m q l) := by rw [← hw]; rfl
  have w2 : w.2 u.1.1 = x := by rw [← hw, cup_eq]
  have w3 : ∀ i, i ≠ u.1.1 → w.2 i = u.2 i := fun i hi => by rw [← hw, cup_ne hi, cnew_ne hi]
  have ww : wfB w = true := by
    rw [← hw]
    exact wf_cup (wf_cnew h.2.1 hzz) (fun _ => hy)
  show RF z o V c u (gw w (bo (pF w (c (pq q 20)) 4 f (.inr (.inr (some u.1.1)))) fk)) _
  have ep : pF w (c (pq q 20)) 4 f (.inr (.inr (some u.1.1))) = some (cup w (c (pq q 20)) (.inl (4, fun i => if i = f then rfv u.1.1 else fo i))) := by
    unfold pF oF
    rw [if_pos (by rw [w1]; show c (pq q 20) < u.1.1 + 1; omega), w3 _ (by omega), e1]
    rfl
  rw [ep]
  have hR : RP o (cG c q k u.1.1) (upI m (pq q l) (m.1 (pq q l) * 2)) (cup w (c (pq q 20)) (.inl (4, fun i => if i = f then rfv u.1.1 else fo i))) := by
    refine RP_grow h hq hg ⟨h3, h4⟩ h1 w1 (x := x) ?_ e1 cup_eq (fun i a b => ?_) ?_ hr
    · rw [cup_ne (by omega)]; exact w2
    · rw [cup_ne b]; exact w3 i a
    · refine wf_cup ww (fun _ => ?_)
      rw [w1]
      exact okC_upd (okC_mono (okC_of h.2.1 hlt e1)) (show okV (u.1.1 + 1) (.inr (.inr (some u.1.1))) = true from decide_eq_true (by omega))
  have hk := GRK_k hg
  have hE : EX 1 c u (cG c q k u.1.1) (cup w (c (pq q 20)) (.inl (4, fun i => if i = f then rfv u.1.1 else fo i))) := by
    refine ⟨fun r hr2 => ⟨(MD_cG ⟨hk.1, hk.2.1⟩).mpr hr2, cG_ne (by omega) hk.2.1 (fun y => hk.1 y.2.symm), cG_ne (by omega) hk.2.1 (fun y => hk.2.2.1 y.2.symm)⟩, ?_, ?_, fun _ r hr2 => cG_ne (by omega) hk.2.1 (fun y => hk.2.2.2.2.2.1 y.2.symm), fun y => (by cases y), fun y => by omega⟩
    · rw [cup_1, w1]; show u.1.1 ≤ u.1.1 + 1; omega
    · rw [cup_1, w1]; show u.1.2 ≤ u.1.2 + 2 * lnQ m q l; omega
  intro m4 b hb
  obtain ⟨c2, u2, a, k1, k2, k3, k4⟩ := kk _ _ _ hR hE m4 b hb
  refine ⟨c2, u2, a, ?_, k2, (hE.mo hz).tr k3, k4⟩
  show gw w (fk _) = _
  rw [k1]
  have := k3.2.1
  have t2 := k3.2.2.1
  rw [cup_1] at this t2
  exact gw_e this t2
theorem RP_extJ {k : Nat} (h : RP o c m u) (hq : MD c q) (hk : isJ k) {g : Nat → Int64} (hg : ∀ i, i < lnJ m q k → m.2.2.2 (pq q k) i = g i) : RP o c (upJ m (pq q k) g) u := by
  obtain ⟨g3, e, e2, h2⟩ := oL_ar (h.lt hq (isJR hk)) ((ROL_J hk).mp (h.rol hq (isJR hk)))
  have := RP_rJ h hq hk (g := g) (g2 := g3) (fun i hi => (h2 i hi).trans (hg i hi))
  have e3 : cup u (c (pq q k)) (.inr (.inr (.inl (lnJ m q k, g3)))) = u := by
    unfold cup
    refine Prod.ext rfl (funext (fun i => ?_))
    show (if i = c (pq q k) then _ else u.2 i) = u.2 i
    by_cases e4 : i = c (pq q k)
    · rw [if_pos e4, e4, e2]
    · rw [if_neg e4]
  rw [e3] at this
  exact this
theorem RP_extI {k : Nat} (h : RP o c m u) (hq : MD c q) (hk : isI k) {g : Nat → Int32} (hg : ∀ i, i < lnI m q k → m.2.2.1 (pq q k) i = g i) : RP o c (upA m (pq q k) g) u := by
  obtain ⟨g3, e, e2, h2⟩ := oA_ar (h.lt hq (isIR hk)) ((ROL_I hk).mp (h.rol hq (isIR hk)))
  have := RP_rI h hq hk (g := g) (g2 := g3) (fun i hi => (h2 i hi).trans (hg i hi))
  have e3 : cup u (c (pq q k)) (.inr (.inl (4, lnI m q k, g3))) = u := by
    unfold cup
    refine Prod.ext rfl (funext (fun i => ?_))
    show (if i = c (pq q k) then _ else u.2 i) = u.2 i
    by_cases e4 : i = c (pq q k)
    · rw [if_pos e4, e4, e2]
    · rw [if_neg e4]
  rw [e3] at this
  exact this
def gJm (m : MS) (q k l : Nat) : MS := upI (upJ m (pq q k) (va_cpy (m.2.2.2 (pq q k)) (fun _ => 0) 0 0 (lnQ m q l))) (pq q l) (m.1 (pq q l) * 2)
def gIm (m : MS) (q k l : Nat) : MS := upI (upA m (pq q k) (va_cpy (m.2.2.1 (pq q k)) (fun _ => 0) 0 0 (lnQ m q l))) (pq q l) (m.1 (pq q l) * 2)
theorem GRK_J {k l f : Nat} (hg : GRK k l f) (hk : k = 33 ∨ k = 35) (m : MS) : lnJ m q k = lnQ m q l := by
  unfold GRK at hg; unfold lnJ
  rcases hg with ⟨rfl, rfl, _⟩ | ⟨rfl, rfl, _⟩ | ⟨rfl, rfl, _⟩ | ⟨rfl, rfl, _⟩ <;> first | rfl | omega
theorem GRK_I {k l f : Nat} (hg : GRK k l f) (hk : k = 32 ∨ k = 37) (m : MS) : lnI m q k = lnQ m q l := by
  unfold GRK at hg; unfold lnI
  rcases hg with ⟨rfl, rfl, _⟩ | ⟨rfl, rfl, _⟩ | ⟨rfl, rfl, _⟩ | ⟨rfl, rfl, _⟩ <;> first | rfl | omega
theorem cpy0 {γ : Type} {f g : Nat → γ} {n i : Nat} (h : i < n) : va_cpy f g 0 0 n i = f i := by
  unfold va_cpy
  rw [if_pos (by omega)]
  exact congrArg f (by omega)
theorem cpy1 {γ : Type} {f g : Nat → γ} {n i : Nat} (h : ¬ i < n) : va_cpy f g 0 0 n i = g i := by
  unfold va_cpy
  rw [if_neg (by omega)]
theorem rf_growJ {k l f : Nat} (h : RP o c m u) (hj : FVn c j q) (hg : GRK k l f) (hk : k = 33 ∨ k = 35) {fk : CS → Option (CS × α)} {g : MS → Option (MS × β)} (hz : zle 1 z) (kk : ∀ c2 m2 w, RP o c2 m2 w → EX 1 c u c2 w → RF z o V c2 w (fk w) (g m2)) :
    RF z o V c u (bx (gw u (fm_JA_copyOf1 N u (some (c (pq q k))) (m.1 (pq q l) * 2))) (fun u1 r1 => gw u1 (bo (pF u1 j 4 f (.inr (.inr r1))) fk))) (ck (grw (m.1 (pq q l))) (lt (gJm m q k l) g)) := by
  cases hx : grw (m.1 (pq q l)) with
  | false => intro m2 b2 h; cases h
  | true =>
    have hJ : isJ k := by unfold isJ; omega
    have hlk := GRK_J (q := q) hg hk m
    obtain ⟨gg, e, e2, h2⟩ := oL_ar (h.lt hj.1 (isJR hJ)) ((ROL_J hJ).mp (h.rol hj.1 (isJR hJ)))
    rw [hlk] at e2 h2
    rw [copyJ_e (u := u) hx rfl h.2.1 (h.lt hj.1 (isJR hJ)) e2]
    have h3 := RP_extJ h hj.1 hJ (g := va_cpy (m.2.2.2 (pq q k)) (fun _ => 0) 0 0 (lnQ m q l)) (fun i hi => by rw [hlk] at hi; exact (cpy0 hi).symm)
    refine grow_rest (m := upJ m (pq q k) (va_cpy (m.2.2.2 (pq q k)) (fun _ => 0) 0 0 (lnQ m q l))) h3 hj hg hx rfl _ ((ROL_J hJ).mpr ?_) rfl hz kk
    rw [GRK_J hg hk]
    have hl2 : lnQ (upI (upJ m (pq q k) (va_cpy (m.2.2.2 (pq q k)) (fun _ => 0) 0 0 (lnQ m q l))) (pq q l) ((upJ m (pq q k) (va_cpy (m.2.2.2 (pq q k)) (fun _ => 0) 0 0 (lnQ m q l))).1 (pq q l) * 2)) q l = 2 * lnQ m q l := by
      rw [show lnQ m q l = (m.1 (pq q l)).toNatClampNeg from rfl, ← (grw_n hx).2.2.1]
      exact congrArg _ (if_pos rfl)
    rw [hl2]
    refine ⟨_, rfl, fun i hi => ?_⟩
    rw [show (upI (upJ m (pq q k) (va_cpy (m.2.2.2 (pq q k)) (fun _ => 0) 0 0 (lnQ m q l))) (pq q l) ((upJ m (pq q k) (va_cpy (m.2.2.2 (pq q k)) (fun _ => 0) 0 0 (lnQ m q l))).1 (pq q l) * 2)).2.2.2 (pq q k) = va_cpy (m.2.2.2 (pq q k)) (fun _ => 0) 0 0 (lnQ m q l) from if_pos rfl]
    by_cases e5 : i < lnQ m q l
    · exact (cpy0 e5).trans ((h2 i e5).trans (cpy0 e5).symm)
    · exact (cpy1 (g := fun _ => 0) e5).trans (cpy1 (g := fun _ => 0) e5).symm
theorem rf_growI {k l f : Nat} (h : RP o c m u) (hj : FVn c j q) (hg : GRK k l f) (hk : k = 32 ∨ k = 37) {fk : CS → Option (CS × α)} {g : MS → Option (MS × β)} (hz : zle 1 z) (kk : ∀ c2 m2 w, RP o c2 m2 w → EX 1 c u c2 w → RF z o V c2 w (fk w) (g m2)) :
    RF z o V c u (bx (gw u (fm_JA_copyOf0 N u (some (c (pq q k))) (m.1 (pq q l) * 2))) (fun u1 r1 => gw u1 (bo (pF u1 j 4 f (.inr (.inr r1))) fk))) (ck (grw (m.1 (pq q l))) (lt (gIm m q k l) g)) := by
  cases hx : grw (m.1 (pq q l)) with
  | false => intro m2 b2 h; cases h
  | true =>
    have hJ : isI k := by unfold isI; omega
    have hlk := GRK_I (q := q) hg hk m
    obtain ⟨gg, e, e2, h2⟩ := oA_ar (h.lt hj.1 (isIR hJ)) ((ROL_I hJ).mp (h.rol hj.1 (isIR hJ)))
    rw [hlk] at e2 h2
    rw [copyI_e (u := u) hx rfl h.2.1 (h.lt hj.1 (isIR hJ)) e2]
    have h3 := RP_extI h hj.1 hJ (g := va_cpy (m.2.2.1 (pq q k)) (fun _ => 0) 0 0 (lnQ m q l)) (fun i hi => by rw [hlk] at hi; exact (cpy0 hi).symm)
    refine grow_rest (m := upA m (pq q k) (va_cpy (m.2.2.1 (pq q k)) (fun _ => 0) 0 0 (lnQ m q l))) h3 hj hg hx rfl _ ((ROL_I hJ).mpr ?_) rfl hz kk
    rw [GRK_I hg hk]
    have hl2 : lnQ (upI (upA m (pq q k) (va_cpy (m.2.2.1 (pq q k)) (fun _ => 0) 0 0 (lnQ m q l))) (pq q l) ((upA m (pq q k) (va_cpy (m.2.2.1 (pq q k)) (fun _ => 0) 0 0 (lnQ m q l))).1 (pq q l) * 2)) q l = 2 * lnQ m q l := by
      rw [show lnQ m q l = (m.1 (pq q l)).toNatClampNeg from rfl, ← (grw_n hx).2.2.1]
      exact congrArg _ (if_pos rfl)
    rw [hl2]
    refine ⟨_, rfl, fun i hi => ?_⟩
    rw [show (upI (upA m (pq q k) (va_cpy (m.2.2.1 (pq q k)) (fun _ => 0) 0 0 (lnQ m q l))) (pq q l) ((upA m (pq q k) (va_cpy (m.2.2.1 (pq q k)) (fun _ => 0) 0 0 (lnQ m q l))).1 (pq q l) * 2)).2.2.1 (pq q k) = va_cpy (m.2.2.1 (pq q k)) (fun _ => 0) 0 0 (lnQ m q l) from if_pos rfl]
    by_cases e5 : i < lnQ m q l
    · exact (cpy0 e5).trans ((h2 i e5).trans (cpy0 e5).symm)
    · exact (cpy1 (g := fun _ => 0) e5).trans (cpy1 (g := fun _ => 0) e5).symm
end
