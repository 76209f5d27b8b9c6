set_option maxRecDepth 100000
theorem ndg_ge {g : Nat → Int32} {k : Nat} : ∀ m p n, p ≤ (ndg g k m p n).1 := by
  intro m
  induction m with
  | zero => intro p n; exact Nat.le_refl _
  | succ m ih =>
    intro p n
    show p ≤ (if k ≤ p then (p, n) else if isDg (g p) = false then (p, n) else ndg g k m (p + 1) (stn (n * 10 + dgt (g p)))).1
    split
    · exact Nat.le_refl _
    · split
      · exact Nat.le_refl _
      · exact Nat.le_trans (by omega) (ih (p + 1) _)
theorem ndg_le {g : Nat → Int32} {k : Nat} : ∀ m p n, p ≤ k → (ndg g k m p n).1 ≤ k := by
  intro m
  induction m with
  | zero => intro p n h; exact h
  | succ m ih =>
    intro p n h
    show (if k ≤ p then (p, n) else if isDg (g p) = false then (p, n) else ndg g k m (p + 1) (stn (n * 10 + dgt (g p)))).1 ≤ k
    split
    · exact h
    · split
      · exact h
      · exact ih (p + 1) _ (by omega)
theorem ndg_gt {g : Nat → Int32} {k p n : Nat} (h1 : p < k) (h2 : isDg (g p) = true) {m : Nat} (hm : 1 ≤ m) : p < (ndg g k m p n).1 := by
  obtain ⟨m, rfl⟩ : ∃ m2, m = m2 + 1 := ⟨m - 1, by omega⟩
  show p < (if k ≤ p then (p, n) else if isDg (g p) = false then (p, n) else ndg g k m (p + 1) (stn (n * 10 + dgt (g p)))).1
  rw [if_neg (by omega), h2, if_neg (by decide)]
  have := ndg_ge (g := g) (k := k) m (p + 1) (stn (n * 10 + dgt (g p)))
  omega
theorem ndg_2 {g : Nat → Int32} {k : Nat} : ∀ m p n, n ≤ 2147483648 → (ndg g k m p n).2 ≤ 2147483648 := by
  intro m
  induction m with
  | zero => intro p n h; exact h
  | succ m ih =>
    intro p n h
    show (if k ≤ p then (p, n) else if isDg (g p) = false then (p, n) else ndg g k m (p + 1) (stn (n * 10 + dgt (g p)))).2 ≤ _
    split
    · exact h
    · split
      · exact h
      · exact ih (p + 1) _ (stn_le _)
theorem ndM_2 {g : Nat → Int32} {k : Nat} : ∀ m p n, n < 100000000000 → (ndM g k m p n).2 < 100000000000 := by
  intro m
  induction m with
  | zero => intro p n h; exact h
  | succ m ih =>
    intro p n h
    show (if k ≤ p then (p, n) else if isDg (g p) = false then (p, n) else ndM g k m (p + 1) (if n ≤ 2147483647 then n * 10 + dgt (g p) else n)).2 < _
    split
    · exact h
    · by_cases hd : isDg (g p) = false
      · rw [if_pos hd]; exact h
      · rw [if_neg hd]
        refine ih (p + 1) _ ?_
        have hd1 : isDg (g p) = true := by cases hh : isDg (g p) with
          | true => rfl
          | false => exact absurd hh hd
        obtain ⟨d, d1, d2⟩ := dg_nat hd1
        have : dgt (g p) = d := by unfold dgt; rw [d2, q_nat (by omega)]; omega
        rw [this]
        split <;> omega
theorem tk_up10 {w : MS} {i : Nat} {s v x : Int32} : tkM (upI w 10 x) i s v = upI (tkM w i s v) 10 x := by
  refine Prod.ext (funext fun j => ?_) rfl
  show (if j = 9 then Int32.ofNat (i + 1) else if j = 10 then x else w.1 j) = (if j = 10 then x else if j = 9 then Int32.ofNat (i + 1) else w.1 j)
  by_cases e : j = 9
  · rw [if_pos e, if_neg (by omega), if_pos e]
  · rw [if_neg e, if_neg e]
section NUB
variable {u : CS} {w : MS} {n : TN} {N : Nat}
theorem CF_7 {u1 : CS} {i : Nat} {a b : Int32} (cf : CF u u1 i b) : CF u (uA u1 7 (upd (AI u1 7) i a)) i a := by
  have s7 := sa_7 (g := upd (AI u1 7) i a) cf.sk2
  have a7 : AI (uA u1 7 (upd (AI u1 7) i a)) 7 = upd (AI u1 7) i a := fa_7 cf.sk2
  exact ⟨s7, by rw [AI_A (by decide)]; exact cf.a5, by rw [AI_A (by decide)]; exact cf.a6, by rw [AI_A (by decide)]; exact cf.a8, fun j hj => by rw [a7, upd_ne (by omega)]; exact cf.a7 j hj, by rw [a7, upd_self], by rw [AI_A (by decide)]; exact cf.a10, by rw [AI_A (by decide)]; exact cf.a11, by rw [FI_A]; exact cf.f41, by rw [FI_A]; exact cf.f45, by rw [FI_A]; exact cf.f410, by rw [FI_A]; exact cf.f92⟩
theorem num_both (h : TK u w n) (hl : AI u 8 n.i = Int32.ofNat n.l) (hv : AI u 7 n.i = 0) (hp : n.p < n.k) (hd : isDg (AI u 5 n.p) = true) (hN : 100000 ≤ N) : OUT u w n (fm_To_number N u 4) (fm_M_numberToken N w) := by
  have k4 := h.k4
  obtain ⟨u1, i1, i2, i3, i4⟩ := num_loop (N := N) (G0 := fun _ _ _ => none) h.k4 (n.k + 1 - n.p) n.p 0 u (N - (n.k + 1 - n.p) - 1) h.sk h.cu h.pu (by omega) (by omega)
  rw [show N - (n.k + 1 - n.p) - 1 + (n.k + 1 - n.p) + 1 = N from by omega] at i4
  have e1 : fm_To_number N u 4 = fb_To_number_68 N (fun _ _ _ => none) u1 4 (Int64.ofNat (ndg (AI u 5) n.k (n.k + 1 - n.p) n.p 0).2) := i4
  have f4 := numM_loop (N := N) h.cw h.k4 h.bw (n.k + 1 - n.p) n.p 0 (N - (n.k + 1 - n.p) - 1) (by omega) (by omega)
  have ew : upI w 10 (Int32.ofNat n.p) = w := by
    unfold upI
    refine Prod.ext (funext fun j => ?_) rfl
    show (if j = 10 then _ else _) = _
    split
    · rename_i e; rw [e, h.pw]
    · rfl
  rw [show N - (n.k + 1 - n.p) - 1 + (n.k + 1 - n.p) + 1 = N from by omega, ew] at f4
  obtain ⟨q1, q2⟩ := ndM_eq (f := w.2.2.1 4) (g := AI u 5) (k := n.k) (fun j hj => (h.ta j hj).symm) (n.k + 1 - n.p) n.p 0 0 (Or.inl ⟨rfl, by omega⟩)
  rw [q1] at f4
  have e2 : fm_M_numberToken N w = _ := f4
  have g1 := ndg_gt (g := AI u 5) (k := n.k) (p := n.p) (n := 0) hp hd (m := n.k + 1 - n.p) (by omega)
  have g2 := ndg_le (g := AI u 5) (k := n.k) (n.k + 1 - n.p) n.p 0 h.pk
  have g3 := ndg_2 (g := AI u 5) (k := n.k) (n.k + 1 - n.p) n.p 0 (by omega)
  have g4 := ndM_2 (g := w.2.2.1 4) (k := n.k) (n.k + 1 - n.p) n.p 0 (by omega)
  rw [e1, e2]
  generalize (ndg (AI u 5) n.k (n.k + 1 - n.p) n.p 0).1 = e at i3 g1 g2
  generalize (ndg (AI u 5) n.k (n.k + 1 - n.p) n.p 0).2 = b at q2 g3
  generalize (ndM (w.2.2.1 4) n.k (n.k + 1 - n.p) n.p 0).2 = a at q2 g4
  have cf := CF_9 (i := n.i) i1 i2 hv
  have cf2 := CF_7 (a := (Int64.ofNat b).toInt32) cf
  have fi : FI u1 4 5 = Int32.ofNat n.i := by rw [cf.f45]; exact h.iu
  have hip := h.ip
  have h1 := h.b1
  have hb3 := h.b3
  have hb4 := h.b4
  have hb5 := h.b5
  have hc : decide (2147483647 < a) = decide (2147483647 < b) := by
    rcases q2 with ⟨q2, q3⟩ | ⟨q2, q3⟩
    · rw [q2]
    · rw [decide_eq_true q2, decide_eq_true (by omega)]
  have s7 := cf2.sk2
  have p9 : FI (uA u1 7 (upd (AI u1 7) n.i (Int64.ofNat b).toInt32)) 4 9 = Int32.ofNat e := by rw [FI_A]; exact i3
  have l8 : AI (uA u1 7 (upd (AI u1 7) n.i (Int64.ofNat b).toInt32)) 8 n.i = Int32.ofNat n.l := by rw [cf2.a8]; exact hl
  have f5 : FI (uA u1 7 (upd (AI u1 7) n.i (Int64.ofNat b).toInt32)) 4 5 = Int32.ofNat n.i := by rw [cf2.f45]; exact h.iu
  have a2 : ∀ j, j ≠ 7 → j ≠ 4 → AI (uA u1 7 (upd (AI u1 7) n.i (Int64.ofNat b).toInt32)) j = AI u j := fun j x y => by rw [AI_A x]; exact fr4_AI i2 y
  have f2 : ∀ i j, i ≠ 4 → FI (uA u1 7 (upd (AI u1 7) n.i (Int64.ofNat b).toInt32)) i j = FI u i j := fun i j x => by rw [FI_A]; exact fr4_FI i2 x
  have bad : ∀ x : Option (CS × Int32), x = some (uA u1 7 (upd (AI u1 7) n.i (Int64.ofNat b).toInt32), 45) → OUT u w n x (fb_M_numberToken_84 N (fun _ _ => none) (upI w 10 (Int32.ofNat e)) (Int64.ofNat a)) := fun x hx => by
    have i7 : (upI w 10 (Int32.ofNat e)).1 9 = Int32.ofNat n.i := h.iw
    unfold fb_M_numberToken_84 fb_M_numberToken_90
    rw [tok_ok (N := N) (s := 7) (v := (Int64.ofNat a).toInt32) i7 (by omega), q_bn]
    refine ⟨_, upI (tkM w n.i 7 (Int64.ofNat a).toInt32) 10 (Int32.ofNat e), n, 45, hx, ?_, s7, f5, l8, rfl, (FrC.of4 i2).tr FrC.a7, FrM.tk10, Or.inl ⟨rfl, ?_, rfl, rfl, ?_, ?_⟩⟩
    · exact congrArg (fun z => some (z, ())) tk_up10
    · exact TB_bad h cf2 (f2 1 2 (by decide)) (a2 3 (by decide) (by decide)) (a2 2 (by decide) (by decide)) (f2 12 2 (by decide)) (a2 14 (by decide) (by decide)) (a2 13 (by decide) (by decide))
    · exact upd_self
    · show upd (w.2.2.1 8) n.i (w.1 11) n.i = _
      rw [upd_self]; exact h.lw
  unfold fb_To_number_68 finM
  rw [gr_4_3 i1, q_bo, gi_4_5 i1, q_bo, q_bo, fi, si_7 i1, if_pos (q_inb (by omega) (by decide)), q_bo, q_nat (by omega), cmp_gt (by omega), cmp_gt (by omega), hc]
  by_cases hbig : 2147483647 < b
  · rw [decide_eq_true hbig, q_b1, q_b1]
    exact bad _ rfl
  · have eab : a = b := by
      rcases q2 with ⟨q2, q3⟩ | ⟨q2, q3⟩
      · exact q2
      · omega
    subst eab
    have eS : sgA (AI (uA u1 7 (upd (AI u1 7) n.i (Int64.ofNat a).toInt32)) 5) n.k e = sgA (w.2.2.1 4) n.k e := by rw [cf2.a5]; exact sgA_eq h.ta
    rw [decide_eq_false hbig, q_b0, q_b0, gi_4_9 s7, q_bo, p9, q_ck (io_4 s7), atC s7 (by rw [cf2.f41]; exact h.cu) h.k4 (by omega), q_bx, woC, q_bx, eS]
    rw [show (upI w 10 (Int32.ofNat e)).1 10 = Int32.ofNat e from rfl, atM (N := N) (w := upI w 10 (Int32.ofNat e)) (k := n.k) (p := e) h.cw h.k4 (by omega), q_bn, inM, q_bn, b2i_0, show (upI w 10 (Int32.ofNat e)).2.2.1 4 = w.2.2.1 4 from rfl]
    cases hwo : isW (sgA (w.2.2.1 4) n.k e) with
    | true => exact bad _ rfl
    | false =>
      show OUT u w n (fb_To_number_107 N (fun _ _ _ => none) _ 1) (fb_M_numberToken_90 N (fun _ _ => none) _ _ 4)
      have i7 : (upI w 10 (Int32.ofNat e)).1 9 = Int32.ofNat n.i := h.iw
      unfold fb_To_number_107 fb_M_numberToken_90
      rw [tok_ok (N := N) (s := 4) (v := (Int64.ofNat a).toInt32) i7 (by omega), q_bn]
      refine ⟨_, upI (tkM w n.i 4 (Int64.ofNat a).toInt32) 10 (Int32.ofNat e), _, 1, rfl, ?_, s7, f5, l8, ?_, (FrC.of4 i2).tr FrC.a7, FrM.tk10, Or.inr ⟨by decide, by decide, TK_next (a := (Int64.ofNat a).toInt32) (p2 := e) h hl cf2 p9 FrM.rf g1 g2 (AT_fr h.atm (f2 1 2 (by decide)) (a2 3 (by decide) (by decide)) (a2 2 (by decide) (by decide)) rfl rfl rfl) (NM_fr h.nmm (f2 12 2 (by decide)) (a2 14 (by decide) (by decide)) (a2 13 (by decide) (by decide)) rfl rfl rfl) (Nat.le_refl _) (Nat.le_refl _) (fun _ _ => rfl) (by omega) (fun z => by omega) (by omega) (by omega) (by omega) h.f22 (fun j hj => (congrFun (a2 2 (by decide) (by decide)) j).trans (h.s22 j hj)) h.r00 ?_, rfl, g1⟩⟩
      · exact congrArg (fun z => some (z, ())) tk_up10
      · rfl
      · exact Or.inl ⟨rfl, rfl, rfl⟩
theorem sgr : (∀ i, i < 18 → r22 (2 * i + 1) ≠ -1 ∧ Int32.ofNat (20 + i) ≠ 45 ∧ Int32.ofNat (20 + i) ≠ 0) ∧ (∀ i, i < 7 → r21 (3 * i + 2) ≠ -1 ∧ Int32.ofNat (38 + i) ≠ 45 ∧ Int32.ofNat (38 + i) ≠ 0 ∧ by4 (2 * i + 1) ≠ -1) := by decide +kernel
theorem tw_hit {c d : Int32} : ∀ m i x, tw c d m i = some x → by4 (2 * x + 1) = d := by
  intro m
  induction m with
  | zero => intro i x h; cases h
  | succ m ih =>
    intro i x h
    have h : (if by4 (2 * i) = c ∧ by4 (2 * i + 1) = d then some i else tw c d m (i + 1)) = some x := h
    split at h
    · rename_i z
      cases h
      exact z.2
    · exact ih (i + 1) x h
theorem sig_both {c : Int32} (h : TK u w n) (hl : AI u 8 n.i = Int32.ofNat n.l) (hv : AI u 7 n.i = 0) (hp : n.p < n.k) (hN : 100000 ≤ N) : OUT u w n (fm_To_signs N u 4 c) (fm_M_signToken N w c) := by
  have k4 := h.k4
  have hip := h.ip
  have h1 := h.b1
  have hb3 := h.b3
  have hb4 := h.b4
  have hb5 := h.b5
  have t1 := two_loop (N := N) (c := c) (d := sgA (AI u 5) n.k (n.p + 1)) h.sk h.pu 7 0 (N - 27) (by omega)
  rw [show N - 27 + 7 + 20 = N from by omega] at t1
  have t2 := onM_loop (N := N) (w := w) (c := c) (d := sgA (AI u 5) n.k (n.p + 1)) h.co.2.2.2.2.1 h.co.2.2.2.2.2.1 18 0 (N - 27) (-1) (by omega)
  rw [show N - 27 + 18 + 9 = N from by omega] at t2
  have e1 : fm_To_signs N u 4 c = (gg_To_signs N N).1 u 4 c (sgA (AI u 5) n.k (n.p + 1)) (Int32.ofNat (2 * 0)) := by
    unfold fm_To_signs fb_To_signs_0
    rw [gi_4_9 h.sk, q_bo, h.pu, q_suc, q_ck (io_4 h.sk), atC h.sk h.cu h.k4 (by omega), q_bx]
    rfl
  have e2 : fm_M_signToken N w c = (gg_M_signToken N N).1 w c (sgA (AI u 5) n.k (n.p + 1)) (-1) 1 (Int32.ofNat (2 * 0)) := by
    unfold fm_M_signToken fb_M_signToken_0
    rw [h.pw, q_suc, atM (N := N) (w := w) (k := n.k) (p := n.p + 1) h.cw h.k4 (by omega), q_bn, sgA_eq h.ta]
    rfl
  rw [e1, e2, t1, t2]
  have cfp : ∀ p2 : Nat, CF u (uF u 4 9 (.inl (Int32.ofNat p2))) n.i 0 := fun p2 => CF_9 (sf_4_9 h.sk) (Fr4.one (S := S9) (k := 9) rfl) hv
  have good : ∀ (p2 m : Nat) (x : Int32), n.p < p2 → p2 ≤ n.k → m < 25 → x = sgK m → x ≠ 45 → x ≠ 0 → sgV m ≠ -1 → p2 = n.p + (p2 - n.p) → OUT u w n (some (uF u 4 9 (.inl (Int32.ofNat p2)), x)) (finG N w (sgV m) (Int32.ofNat (p2 - n.p))) := fun p2 m x hp1 hp2 hm hx h45 h0 hs he => by
    unfold finG fb_M_signToken_129
    rw [decide_eq_false hs, q_b0, tok_ok (N := N) (s := 6) (v := sgV m) h.iw (by omega), q_bn, q_ls]
    refine ⟨_, upI (tkM w n.i 6 (sgV m)) 10 (Int32.ofNat p2), _, x, rfl, ?_, sf_4_9 h.sk, by rw [FI_F (by decide)]; exact h.iu, by rw [AI_F]; exact hl, ?_, FrC.fi (by decide) (Or.inr (Or.inl rfl)), FrM.tk10, Or.inr ⟨h45, h0, TK_next (a := 0) (p2 := p2) h hl (cfp p2) (fi_4_9 h.sk) FrM.rf hp1 hp2 (AT_fr h.atm (FI_F (by decide)) AI_F AI_F rfl rfl rfl) (NM_fr h.nmm (FI_F (by decide)) AI_F AI_F rfl rfl rfl) (Nat.le_refl _) (Nat.le_refl _) (fun _ _ => rfl) (by omega) (fun z => by omega) (by omega) (by omega) (by omega) h.f22 (fun j hj => (congrFun AI_F j).trans (h.s22 j hj)) h.r00 ?_, rfl, hp1⟩⟩
    · show some (upI (tkM w n.i _ _) 10 (w.1 10 + _), ()) = _
      rw [h.pw, q_add, ← he]
      rfl
    · rfl
    · exact Or.inr (Or.inr (Or.inr (Or.inr (Or.inr ⟨rfl, m, hm, hx, rfl⟩))))
  rcases two_both c (sgA (AI u 5) n.k (n.p + 1)) (onM c 18 0 (-1)) with ⟨a1, a2⟩ | ⟨x, x1, x2, x3⟩
  · rw [a1, a2]
    rcases one_both c with ⟨o1, o2⟩ | ⟨x, x1, x2, x3⟩
    · rw [o1, o2]
      unfold finG fb_M_signToken_129
      rw [show decide ((-1 : Int32) = -1) = true from rfl, q_b1, tok_ok (N := N) (s := 7) (v := -1) h.iw (by omega), q_bn, q_ls]
      refine ⟨_, upI (tkM w n.i 7 (-1)) 10 (Int32.ofNat (n.p + 1)), n, 45, rfl, ?_, sf_4_9 h.sk, by rw [FI_F (by decide)]; exact h.iu, by rw [AI_F]; exact hl, rfl, FrC.fi (by decide) (Or.inr (Or.inl rfl)), FrM.tk10, Or.inl ⟨rfl, ?_, rfl, rfl, upd_self, ?_⟩⟩
      · show some (upI (tkM w n.i _ _) 10 (w.1 10 + 1), ()) = _
        rw [h.pw, q_suc]
        rfl
      · exact TB_bad h (cfp (n.p + 1)) (FI_F (by decide)) AI_F AI_F (FI_F (by decide)) AI_F AI_F
      · show upd (w.2.2.1 8) n.i (w.1 11) n.i = _
        rw [upd_self]; exact h.lw
    · obtain ⟨r1, r2, r3⟩ := sgr.1 x x1
      have ev : sgV x = r22 (2 * x + 1) := if_pos x1
      rw [x2, x3, ← ev]
      have := good (n.p + 1) x (Int32.ofNat (20 + x)) (by omega) (by omega) (by omega) rfl r2 r3 (by rw [ev]; exact r1) (by omega)
      rw [show n.p + 1 - n.p = 1 from by omega] at this
      exact this
  · obtain ⟨r1, r2, r3, r4⟩ := sgr.2 x x1
    have hd := tw_hit 7 0 x x2
    have hk2 : n.p + 1 < n.k := by
      by_cases z : n.p + 1 < n.k
      · exact z
      · have : sgA (AI u 5) n.k (n.p + 1) = -1 := if_neg z
        rw [this] at hd
        exact absurd hd r4
    have ev : sgV (18 + x) = r21 (3 * x + 2) := by
      show (if 18 + x < 18 then _ else r21 (3 * (18 + x - 18) + 2)) = _
      rw [if_neg (by omega), show 18 + x - 18 = x from by omega]
    rw [x2, x3, ← ev]
    have := good (n.p + 2) (18 + x) (Int32.ofNat (38 + x)) (by omega) (by omega) (by omega) (by unfold sgK; rw [show 20 + (18 + x) = 38 + x from by omega]) r2 r3 (by rw [ev]; exact r1) (by omega)
    rw [show n.p + 2 - n.p = 2 from by omega] at this
    exact this
end NUB
