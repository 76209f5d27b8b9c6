section
variable {Q : MS → Int32 → Prop} {u0 u v w x : MS} {N σ TN SN e R0 many k : Nat} {bw : Nat → Nat} {p o n q c f h s wt g D d B l p1 z : Int} {r v1 v3 v4 : Int32} {S : SG_M_behind}
theorem wa_wa {k i : Nat} {y z : Int} : wa (wa u k i y) k i z = wa u k i z := by
  obtain ⟨u1, u2, u3, u4⟩ := u
  show (u1, u2, (fun k' => if k' = k then upd ((fun k' => if k' = k then upd (u3 k) i (I y) else u3 k') k) i (I z) else (fun k' => if k' = k then upd (u3 k) i (I y) else u3 k') k'), u4) = (u1, u2, (fun k' => if k' = k then upd (u3 k) i (I z) else u3 k'), u4)
  have : (fun k' => if k' = k then upd ((fun k' => if k' = k then upd (u3 k) i (I y) else u3 k') k) i (I z) else (fun k' => if k' = k then upd (u3 k) i (I y) else u3 k') k') = (fun k' => if k' = k then upd (u3 k) i (I z) else u3 k') := by
    funext k'
    by_cases z : k' = k
    · simp only [z, if_true]
      funext j
      unfold upd
      by_cases zj : j = i
      · simp [zj]
      · simp [zj]
    · simp only [z, if_false]
  rw [this]
theorem CHY_nx {xb xb2 : Int} (h : CHY TN SN σ R0 many B o xb l k u w) (hx : xb ≤ xb2) : CHY TN SN σ R0 many B o xb2 l k u (nx1 w) := by
  intro z1 z2 z3
  have kc : KPR σ w (nx1 w) := KPR_w0 KPR_rf (by decide)
  obtain ⟨μ, rr, mm, X, Y, ch, ⟨m0, mk⟩, rl, lk, g1, g2, g3, g4⟩ := h (kc.2.2.2.2.2.1 z1) (kc.2.2.2.2.2.2 z2) z3
  have mv : mks (nx1 w) = mks w := wi_mks (by decide)
  have kn := KPR_n kc
  refine ⟨μ, rr, mm, X, Y, ⟨fun j hj => PTD_mo (PTD_ag (ch.1 j hj) (AGR_kp kc (fun i => ?_))) (Nat.le_refl _) (Nat.le_refl _) (Nat.le_refl _) kn.2.1, ch.2.1, ch.2.2⟩, ⟨m0, mk.trans mv.symm⟩, rl, lk, g1, g2, by omega, g4⟩
  have q2 := CHD_le ch (k - (j + 1)) (j + 1) (by omega) i
  rw [show j + 1 + (k - (j + 1)) = k by omega, mk] at q2
  exact q2
theorem RTL_nx (h : RTL w o n R0) : RTL (nx1 w) o n R0 := by
  obtain ⟨l, c1, c2⟩ := h
  have e : F (nx1 w) 32 = F w 32 := wi_ne (by decide)
  refine ⟨l, ?_, fun r hr => RTD_fr _ _ (c2 r hr) rfl (fun _ _ _ _ _ => rfl)⟩
  rw [e]
  exact (CHL_ag (w := nx1 w) l _ _ c1 (fun _ _ => rfl)).1
theorem RTL_add {n1 : Int} (hv : RTL v o n R0) (e32 : F v 32 = n1) (hkx : KPR σ (wa v 28 R0 e) x) (hR : (R0 : Int) < n) (hn : n ≤ n1 ∧ n1 ≤ e) (rt : RTD x (25 - o).toNat n1.toNat e) (h29 : A x 29 e = A v 28 R0) (he : (e : Int) < F x 32) (re : RG ((e : Nat) : Int)) (hx : w = x ∨ ∃ i y, w = wa x 45 i y) : RTL w o n R0 := by
  obtain ⟨l, c1, c2⟩ := hv
  have wF : F w 32 = F x 32 := by
    rcases hx with y | ⟨i, y, z⟩
    · rw [y]
    · rw [z, F_wa]
  have wA : ∀ t i, t ≠ 45 → A w t i = A x t i := fun t i ht => by
    rcases hx with y | ⟨j, y, z⟩
    · rw [y]
    · rw [z]; exact wa_rne ht
  have m2 : ∀ t, t ∈ [28, 29] → t ∈ [23, 24, 25, 26, 27, 28, 29, 30, 31] ∧ t ≠ 45 := by decide
  have xr : ∀ (t i : Nat), t ∈ [28, 29] → (i : Int) < n1 → (t = 28 → i ≠ R0) → A w t i = A v t i := fun t i ht hi hne => by
    rw [wA t i (m2 t ht).2, hkx.2.1.1 t i (m2 t ht).1 (by rw [F_wa, e32]; exact hi)]
    by_cases z : t = 28
    · exact wa_ne (hne z)
    · exact wa_rne z
  have w28 : A w 28 R0 = e := by
    rw [wA 28 R0 (by decide), hkx.2.1.1 28 R0 (by decide) (by rw [F_wa, e32]; omega)]
    exact wa_eq re
  obtain ⟨d1, d2⟩ := CHL_ag (w := w) l _ _ c1 (fun i hi => xr 29 i (by decide) (by omega) (fun z => by omega))
  refine ⟨e :: l, ⟨w28, by omega, ?_⟩, fun t ht => ?_⟩
  · rw [wA 29 e (by decide), h29]
    exact CHL_mo (by omega) _ _ d1
  · rcases List.mem_cons.mp ht with z | z
    · rw [z]
      refine RTD_dn (a := n1.toNat) (by omega) _ _ ?_
      exact RTD_fr _ _ rt (wA 28 e (by decide)) (fun t i hr _ _ => wA t i (m2 t hr).2)
    · have hb := d2 t z
      have ha := RTD_a _ _ (c2 t z)
      exact RTD_fr _ _ (c2 t z) (xr 28 t (by decide) (by omega) (fun _ => by omega)) (fun t' i hr h1 h2 => xr t' i hr (by omega) (fun _ => by omega))
set_option maxRecDepth 100000 in
theorem parts_loop (tk : TKW u0 TN SN bw) (hN : 20000 ≤ N) (hD : 0 ≤ D ∧ D ≤ 2900) (ho : 0 ≤ o ∧ o ≤ 25) (hg : XGD u0 TN SN bw D o S.2.2.2.2.2.2.2.2.2.2.2.2.2.2.2.1) (hgn : XGN S.2.2.2.2.2.2.2.2.2.2.2.2.2.2.2.1) (hgc : XGC u0 TN SN bw D o S.2.2.2.2.2.2.2.2.2.2.2.2.2.2.1) (hb : XSB u0 TN SN bw D o S.2.2.2.2.1) (hbn : XNO S.2.2.2.2.1) (hu : ST u0 σ p o n q c f h s wt 0 u) (hm : NM TN bw 0 0 0 σ p o n q c f h s wt) (hq : 2 * q + 1 ≤ p) (hB : A u 60 σ = B) (lu : LGS σ u) (hR : (R0 : Int) < n) (hv1 : (v1 = 0 ∧ many = 1) ∨ (v1 = 1 ∧ many = 0)) : ∀ (i : Nat) (v : MS) (k : Nat) (l p1 : Int), PRS u0 TN SN bw σ R0 many B 0 p o n q c f h s wt u v k l p1 → 4003 - p1 < i → OK (fun x r => (r = I c ∧ ∃ k l p2, 0 < k ∧ PRS u0 TN SN bw σ R0 many B 3 p o n q c f h s wt u x k l p2) ∨ FSM u0 TN σ (D + 10) x) (gg_M_parts0 N S i v v1 (I R0) (I (if k = 0 then -1 else c)) (I l) 1) := by
  have hT := tk.1.1
  have fs := NM_fs hm (by omega)
  have e32u : F u 32 = n := hu.2.1.2.2.1
  have e46u : F u 46 = c := hu.2.1.2.2.2.2.1
  have hc : 0 ≤ c ∧ c < 1399 := by unfold NM at hm; omega
  intro i
  induction i with
  | zero => intro v k l p1 hv hi; obtain ⟨-, n1, q1, c1, f1, h1, -, -, b4, -⟩ := hv; omega
  | succ i ih =>
    intro v k l p1 hv hi
    obtain ⟨i', rfl⟩ : ∃ i', i = i' + 1 := ⟨i - 1, by obtain ⟨-, n1, q1, c1, f1, h1, -, -, b4, -⟩ := hv; omega⟩
    obtain ⟨b0, n1, q1, c1, f1, h1, b1, b2, b3, b4, b5, ⟨b6, b7, b8⟩, b9⟩ := hv
    have nm1 := NM_dlt tk hm b4 (by omega) (by omega) b3
    have hc1 : 0 ≤ c1 ∧ c1 < 1399 := by unfold NM at nm1; omega
    have e32 : F v 32 = n1 := b1.2.1.2.2.1
    have e46 : F v 46 = c1 := b1.2.1.2.2.2.2.1
    have hn1 : n ≤ n1 ∧ c ≤ c1 ∧ p ≤ p1 ∧ 2 * q1 + 1 ≤ p1 := by unfold DLT at b4; omega
    have fs1 := NM_fs nm1 (by omega)
    have lv : LGS σ v := fun z => by
      have := lu (b2.2.2.2.2.2.2 z)
      omega
    show OK _ (fb_M_parts0_19 N S (gg_M_parts0 N S (i' + 1)) v v1 (I R0) (I (if k = 0 then -1 else c)) (I l) 1)
    have stop : ∀ (w : MS) (a b : Int32), gg_M_parts0 N S (i' + 1) w v1 (I R0) a b 0 = some (w, a) := fun w a b => rfl
    have lb : (k = 0 ∧ l = -1) ∨ (0 < k ∧ 0 ≤ l ∧ l < c1) := by
      rcases Nat.eq_zero_or_pos k with y | y
      · exact Or.inl ⟨y, (b7 y).1⟩
      · exact Or.inr ⟨y, by have := b8 y; omega, (b8 y).2.1⟩
    refine part_ok (many := many) tk hN hD ho hg hgn hgc hb hbn b1 b0 nm1 hn1.2.2.2 b6 lv (by omega) hv1 (fun x hx => ?_) (fun x hx => ?_)
    · obtain ⟨d0, p2, n2, q2, c2, f2, h2, e, d1, d2, d3, ⟨d4, d5, d6⟩, d7, d8, d9⟩ := hx
      have nm2 := NM_dlt tk nm1 d4 (by omega) (by omega) d3
      have fs2 := NM_fs nm2 (by omega)
      have re : RG ((e : Nat) : Int) := ⟨by omega, by omega⟩
      have e69 : F x 69 = p2 := d1.2.1.1
      have ex32 : F x 32 = n2 := d1.2.1.2.2.1
      have fin : ∀ w, ((k = 0 ∧ w = x) ∨ (0 < k ∧ w = wa x 45 l.toNat c1)) → OK (fun x r => (r = I c ∧ ∃ k l p2, 0 < k ∧ PRS u0 TN SN bw σ R0 many B 3 p o n q c f h s wt u x k l p2) ∨ FSM u0 TN σ (D + 10) x) (fb_M_parts0_214 N S (gg_M_parts0 N S (i' + 1)) w v1 (I R0) (I c) (I c1)) := fun w hw => by
        have wF : ∀ t, F w t = F x t := fun t => by
          rcases hw with ⟨-, y⟩ | ⟨-, y⟩
          · rw [y]
          · rw [y, F_wa]
        have wA : ∀ t i, t ≠ 45 → A w t i = A x t i := fun t i ht => by
          rcases hw with ⟨-, y⟩ | ⟨y0, y⟩
          · rw [y]
          · rw [y]; exact wa_rne ht
        have s1 : ST u0 σ p2 o n2 q2 c2 f2 h2 s wt 0 w := by
          rcases hw with ⟨-, y⟩ | ⟨-, y⟩
          · rw [y]; exact d1
          · rw [y]; exact ST_wa d1 (by decide)
        have w28 : A w 28 R0 = e := by
          rw [wA 28 R0 (by decide), d2.2.1.1 28 R0 (by decide) (by rw [F_wa, e32]; omega)]
          exact wa_eq re
        have k1 : KPR σ (wa u 28 R0 e) x := by
          have := KPR_28 (i := R0) b2 re
          rw [wa_wa] at this
          exact KPR_tr this d2
        have k2 : KPR σ (wa u 28 R0 (A w 28 R0)) w := by
          rw [w28]
          rcases hw with ⟨-, y⟩ | ⟨y0, y⟩
          · rw [y]; exact k1
          · rw [y]; exact KPR_wc k1 (by decide) (by rw [F_wa, e46u]; have := b8 y0; omega)
        have w45 : A w 45 c1.toNat = -1 := by
          rcases hw with ⟨-, y⟩ | ⟨y0, y⟩
          · rw [y]; exact d8.2
          · rw [y, wa_ne (by have := b8 y0; omega)]; exact d8.2
        have rl : RTL w o n R0 := RTL_add b5 e32 d2 hR ⟨hn1.1, d7.1⟩ d7.2.2.1 d7.2.2.2 (by omega) re (by
          rcases hw with ⟨-, y⟩ | ⟨-, y⟩
          · exact Or.inl y
          · exact Or.inr ⟨_, _, y⟩)
        have cy : CHY TN SN σ R0 many B o (p2 - p + 1) c1 (k + 1) u w := CHY_add ⟨e32, e46, by omega, hc1.1⟩ b9 ⟨e32u, hR⟩ (fun y => (b7 y).2.1) d2 re d7.2.2.2 d8.2 (fun y => by have := b8 y; omega) d9 ⟨hn1.2.2.1, by omega⟩ hw hn1.1 ⟨by omega, by omega⟩ (q1 := q1) (f1 := f1) (h1 := h1) (n2 := n2) (q2 := q2) (c2 := c2) (f2 := f2) (h2 := h2)
        have w67 : F w 67 = 0 := (wF 67).trans d0
        have dl : DLT bw 3 0 0 p n q c f h p2 n2 q2 c2 f2 h2 := by unfold DLT at b4 d4 ⊢; omega
        have w60 : A w 60 σ = B := (wA 60 σ (by decide)).trans d8.1
        have w69 : F w 69 = p2 := (wF 69).trans e69
        have pr : ∀ z, z ≤ 3 → PRS u0 TN SN bw σ R0 many B z p o n q c f h s wt u w (k + 1) c1 p2 := fun z hz => ⟨w67, n2, q2, c2, f2, h2, s1, k2, d3, by unfold DLT at dl ⊢; omega, rl, ⟨w60, fun y => by omega, fun _ => ⟨hn1.2.1, by omega, w45, by omega⟩⟩, cy⟩
        unfold fb_M_parts0_214
        refine k_takeSign (s := 7) rfl ⟨by decide, by decide⟩ (by omega) (fun _ y => ?_) (fun _ => ?_)
        · have z2 := ST_IS s1 y
          have ltp := tok_lt tk (by omega) (show ¬ (A u0 6 (p2).toNat = 0 ∨ A u0 6 (p2).toNat = 7) by omega)
          have dn := DLT_1 (n := n2) (q := q2) (c := c2) (f := f2) (h := h2) (m := 0) tk ⟨by omega, ltp⟩ (by omega)
          rw [show n2 + 0 = n2 by omega] at dn
          have kc : KPR σ w (nx1 w) := KPR_w0 KPR_rf (by decide)
          have := ih (nx1 w) (k + 1) c1 (p2 + 1) ⟨(wi_ne (by decide)).trans w67, n2, q2, c2, f2, h2, ST_nx s1 (by omega), KPR_tr k2 kc, by omega, by unfold DLT at dl dn ⊢; omega, RTL_nx rl, ⟨w60, fun y => by omega, fun _ => ⟨hn1.2.1, by omega, w45, by omega⟩⟩, CHY_nx cy (by omega)⟩ (by omega)
          rw [if_neg (by omega)] at this
          exact this
        · rw [stop]
          exact ok_some.mpr (Or.inl ⟨rfl, k + 1, c1, p2, by omega, pr 3 (by omega)⟩)
      unfold pK
      rcases lb with ⟨y, yl⟩ | ⟨y, yl⟩
      · rw [show (I c1 : Int32) = I c from by rw [(b7 y).2.2], if_pos y]
        refine k_eq (x := l) (y := -1) ⟨by omega, by omega⟩ ⟨by decide, by decide⟩ (fun _ => ?_) (fun z => by omega)
        have := fin x (Or.inl ⟨y, rfl⟩)
        rw [show (I c1 : Int32) = I c from by rw [(b7 y).2.2]] at this
        exact this
      · rw [if_neg (by omega)]
        refine k_eq (x := l) (y := -1) ⟨by omega, by omega⟩ ⟨by decide, by decide⟩ (fun z => by omega) (fun _ => ?_)
        refine k_in (k := 45) (n := 1400) rfl (by decide) (by omega) (ok_lt.mpr ?_)
        rw [I_tn (x := l) (by omega) (by omega), wa_e]
        exact fin _ (Or.inr ⟨y, rfl⟩)
    · have bad : ∀ w a b, FSM u0 TN σ (D + 2) w → OK (fun x r => (r = I c ∧ ∃ k l p2, 0 < k ∧ PRS u0 TN SN bw σ R0 many B 3 p o n q c f h s wt u x k l p2) ∨ FSM u0 TN σ (D + 10) x) (fb_M_parts0_214 N S (gg_M_parts0 N S (i' + 1)) w v1 (I R0) a b) := fun w a b hw => by
        unfold fb_M_parts0_214
        refine k_takeSign (s := 7) rfl ⟨by decide, by decide⟩ (FSM_p hw hT) (fun y _ => absurd y hw.2.1) (fun _ => ?_)
        rw [stop]
        exact ok_some.mpr (Or.inr (FSM_mo hw (by omega)))
      unfold pK
      refine k_eq (x := l) (y := -1) ⟨by omega, by omega⟩ ⟨by decide, by decide⟩ (fun _ => bad _ _ _ hx) (fun _ => ?_)
      refine k_in (k := 45) (n := 1400) rfl (by decide) (by omega) (ok_lt.mpr ?_)
      rw [wa_e]
      exact bad _ _ _ (FSM_wa hx (by decide))
def XPT (u0 : MS) (TN SN : Nat) (bw : Nat → Nat) (D o : Int) (fn : MS → Int32 → Int32 → Option (MS × Int32)) : Prop := ∀ (u : MS) (σ R0 many : Nat) (p n q c f h s wt : Int) (v1 : Int32), ST u0 σ p o n q c f h s wt 0 u → F u 67 = 0 → NM TN bw 0 0 0 σ p o n q c f h s wt → LGS σ u → (2 * q + 1 ≤ p ∧ (R0 : Int) < n ∧ A u 28 R0 = -1) → (v1 = 0 ∧ many = 1) ∨ (v1 = 1 ∧ many = 0) → OK (fun x r => (r = I c ∧ ∃ k l p2, 0 < k ∧ PRS u0 TN SN bw σ R0 many (A u 60 σ) 3 p o n q c f h s wt u x k l p2) ∨ FSM u0 TN σ D x) (fn u v1 (I R0))
theorem parts_ok (tk : TKW u0 TN SN bw) (hN : 20000 ≤ N) (hD : 0 ≤ D ∧ D ≤ 2900) (ho : 0 ≤ o ∧ o ≤ 25) (hg : XGD u0 TN SN bw D o S.2.2.2.2.2.2.2.2.2.2.2.2.2.2.2.1) (hgn : XGN S.2.2.2.2.2.2.2.2.2.2.2.2.2.2.2.1) (hgc : XGC u0 TN SN bw D o S.2.2.2.2.2.2.2.2.2.2.2.2.2.2.1) (hb : XSB u0 TN SN bw D o S.2.2.2.2.1) (hbn : XNO S.2.2.2.2.1) : XPT u0 TN SN bw (D + 10) o (fm_M_parts0 N S) := by
  intro u σ R0 many p n q c f h s wt v1 hs hf hm hl ⟨hq, hR, h28⟩ hv1
  have fs := NM_fs hm (by omega)
  unfold fm_M_parts0 fb_M_parts0_0 fb_M_parts0_17
  refine k_F (y := 0) rfl ⟨by decide, by decide⟩ (fun _ => ?_) (fun z => absurd hf z)
  have e28 : wa u 28 R0 (A u 28 R0) = u := wa_self rfl
  have hp : F u 46 = c := hs.2.1.2.2.2.2.1
  refine parts_loop tk hN hD ho hg hgn hgc hb hbn hs hm hq rfl hl hR hv1 N u 0 (-1) p ⟨hf, n, q, c, f, h, hs, by rw [e28]; exact KPR_rf, by omega, by unfold DLT; omega, ⟨[], h28, fun r hr => by cases hr⟩, ⟨rfl, fun _ => ⟨rfl, h28, rfl⟩, fun z => by omega⟩, fun z1 z2 z3 => ?_⟩ (by omega)
  have lg := hl z2
  have sc := (hs.2.2.2.1 σ (Nat.le_refl σ)).1
  exact ⟨fun _ => mks u, fun _ => 0, 0, 0, 0, ⟨fun j hj => by omega, fun j hj => by omega, fun z => by omega⟩, ⟨rfl, rfl⟩, fun j hj => by omega, fun z => by omega, by omega, by omega, by omega, by omega⟩
theorem parts_F {v2 : Int32} (hf : F u 67 ≠ 0) (hN : 1 ≤ N) : fm_M_parts0 N S u v1 v2 = some (u, -1) := by
  obtain ⟨N', rfl⟩ : ∃ N', N = N' + 1 := ⟨N - 1, by omega⟩
  unfold fm_M_parts0 fb_M_parts0_0 fb_M_parts0_17
  have : decide (u.1 67 = 0) = false := by
    refine decide_eq_false (fun z => hf ?_)
    show (u.1 67).toInt = 0
    rw [z]; rfl
  rw [this]
  rfl
end
