section
set_option maxRecDepth 100000
def A1 (i : Nat) : Prop := i = 2 ∨ i = 3
def F1 (i j : Nat) : Prop := i = 1 ∧ j = 2
def I14 (k : Nat) : Prop := k = 14
def AA (k : Nat) : Prop := k = 12 ∨ k = 13
theorem I14w {k : Nat} (h : I14 k) : IWz k := Or.inl h
theorem AAw {k : Nat} (h : AA k) : AW k := by
  rcases h with h | h
  · exact Or.inl h
  · exact Or.inr (Or.inl h)
theorem AT_more {u : CS} {w : MS} {fr : Nat → Nat} {n N b len : Nat} (h : skB u = true) (ha : AT u w fr n) (hb : b + len ≤ 4000) (hB : bytB (AI u 5)) (ht : ∀ i, i < len → AI u 5 (b + i) = w.2.2.1 4 (b + i)) (hn : n + 1 < 2101) (hf : fr n + len ≤ 4300) (hN : n * (len + 3) + len + 3 ≤ N) : ∃ u2 w2 fr2 n2 r, fm_Wo_find N u 1 (some 5) (Int32.ofNat b) (Int32.ofNat len) = some (u2, Int32.ofNat r) ∧ fm_M_atom N w 4 (Int32.ofNat b) (Int32.ofNat len) = some (w2, Int32.ofNat r) ∧ skB u2 = true ∧ AT u2 w2 fr2 n2 ∧ r < n2 ∧ FrC A1 F1 u u2 ∧ FrM I14 AA w w2 ∧ n ≤ n2 ∧ n2 ≤ n + 1 ∧ fr2 n2 ≤ fr n + len ∧ (∀ j, j ≤ n → fr2 j = fr j) ∧ (∀ j, j < fr n → AI u2 2 j = AI u 2 j) := by
  obtain ⟨u2, w2, fr2, n2, r, a1, a2, a3, a4, a5, a6⟩ := AT_step (N := N) h ha hb hB ht hn hf hN
  refine ⟨u2, w2, fr2, n2, r, a1, a2, a3, a4, a5, ?_⟩
  rcases a6 with ⟨rfl, rfl, rfl, rfl⟩ | ⟨rfl, rfl, rfl, rfl, rfl⟩
  · exact ⟨FrC.rf, FrM.iI rfl, Nat.le_refl _, by omega, by omega, fun _ _ => rfl, fun _ _ => rfl⟩
  · refine ⟨((FrC.ai (by decide) (Or.inl rfl)).tr (FrC.ai (by decide) (Or.inr rfl))).tr (FrC.fi (by decide) ⟨rfl, rfl⟩), ((FrM.iA (Or.inl rfl)).tr (FrM.iA (Or.inr rfl))).tr (FrM.iI rfl), by omega, by omega, ?_, fun j hj => frN_lt hj, fun j hj => ?_⟩
    · rw [frN_n]; exact Nat.le_refl _
    · rw [AI_2_new h, put_lo hj]
theorem wde_gt {g : Nat → Int32} {k p : Nat} (h1 : p < k) (h2 : isW (g p) = true) {m : Nat} (hm : 1 ≤ m) : p < wde g k m p := by
  obtain ⟨m, rfl⟩ : ∃ m2, m = m2 + 1 := ⟨m - 1, by omega⟩
  show p < if k ≤ p then p else if isW (g p) = false then p else wde g k m (p + 1)
  rw [if_neg (by omega), h2, if_neg (by decide)]
  have := wde_ge (g := g) (k := k) m (p + 1)
  omega
theorem wde_end {g : Nat → Int32} {k : Nat} : ∀ m p, p + m = k + 1 → wde g k m p = k + 1 ∨ k ≤ wde g k m p ∨ isW (g (wde g k m p)) = false := by
  intro m
  induction m with
  | zero => intro p h; exact Or.inl h
  | succ m ih =>
    intro p h
    have e : wde g k (m + 1) p = if k ≤ p then p else if isW (g p) = false then p else wde g k m (p + 1) := rfl
    by_cases h1 : k ≤ p
    · rw [e, if_pos h1]; exact Or.inr (Or.inl h1)
    · by_cases h2 : isW (g p) = false
      · rw [e, if_neg h1, if_pos h2]; exact Or.inr (Or.inr h2)
      · rw [e, if_neg h1, if_neg h2]; exact ih (p + 1) (by omega)
theorem frW_a : ∀ j, j < 15 → frW (j + 1) - frW j ≤ 7 ∧ frW j < frW (j + 1) ∧ isSm (sgW (frW j)) = true ∧ frW (j + 1) ≤ 62 := by decide +kernel
theorem sgW_long {tx : Nat → Int32} {b len : Nat} (h : 16 < len) : skN sgW tx frW b len 0 15 = none := (skN_none 15 0).mpr (fun y _ hy z => by
  have := (frW_a y (by omega)).1
  have := z.1
  omega)
theorem sgW_great {tx : Nat → Int32} {b len : Nat} (h : isSm (tx b) = false) : skN sgW tx frW b len 0 15 = none := (skN_none 15 0).mpr (fun y _ hy z => by
  obtain ⟨a1, a2, a3, a4⟩ := frW_a y (by omega)
  obtain ⟨z1, z2⟩ := z
  obtain ⟨m, rfl⟩ : ∃ m2, len = m2 + 1 := ⟨len - 1, by omega⟩
  have z2 : (decide (sgW (frW y) = tx b) && eqN sgW tx (frW y + 1) (b + 1) m) = true := z2
  rw [Bool.and_eq_true, decide_eq_true_eq] at z2
  rw [z2.1, h] at a3
  cases a3)
theorem sgW_eq {f g : Nat → Int32} {b len : Nat} (h : ∀ i, i < len → f (b + i) = g (b + i)) : skN sgW f frW b len 0 15 = skN sgW g frW b len 0 15 := skN_congr (n := 15) (fun j hj => Nat.le_of_lt (frW_a j hj).2.1) (fun _ _ => rfl) h 15 0 rfl
theorem sgW_lt {f : Nat → Int32} {b len r : Nat} (h : skN sgW f frW b len 0 15 = some r) : r < 15 := by
  have := ((skN_some 15 0).mp h).2.1
  omega
theorem c_sm {x : Int32} (hx : nrB x = x) (h1 : isW x = true) (h2 : isDg x = false) : decide (97 ≤ x &&& 255) = isSm x ∧ isSm (x &&& 255) = isSm x := by
  have := sg_all (fun x => !(isW x && !isDg x) || (decide (97 ≤ x &&& 255) == isSm x && isSm (x &&& 255) == isSm x)) (by decide +kernel) hx
  rw [h1, h2] at this
  simp only [Bool.not_false, Bool.and_true, Bool.not_true, Bool.false_or, Bool.and_eq_true, beq_iff_eq] at this
  exact this
theorem WD_rw {u : CS} {w : MS} (h : skB u = true) (hc : CON u w) : WD u 9 10 11 62 16 sgW frW 15 := by
  obtain ⟨c1, c2, c3, -⟩ := hc
  refine ⟨io_9 h, by rw [gi_9_2 h, c1], gr_9_0 h, gr_9_1 h, fun j hj => ?_, fun j hj => ?_, fun j hj => Nat.le_of_lt (frW_a j hj).2.1, fun j hj => ?_, by decide, by decide, by decide⟩
  · rw [ai_11 h, if_pos (q_inb (by omega) (by decide)), q_nat (by omega), c3 j (by omega)]
  · rw [ai_10 h, if_pos (q_inb (by omega) (by decide)), q_nat (by omega), c2 j hj]
  · have : ∀ j, j ≤ 15 → frW j ≤ 62 := by decide +kernel
    exact this j hj
theorem TX_5 {u : CS} (h : skB u = true) : TX u 5 4000 (AI u 5) := ⟨fun j hj => by rw [ai_5 h, if_pos (q_inb hj (by decide)), q_nat (by omega)], by decide⟩
def AX (i : Nat) : Prop := i < 15
def FX (i _ : Nat) : Prop := i = 1 ∨ i = 4 ∨ i = 12
def IX (k : Nat) : Prop := k = 9 ∨ k = 10 ∨ k = 11 ∨ k = 14 ∨ k = 17 ∨ k = 20
def AY (k : Nat) : Prop := k = 6 ∨ k = 7 ∨ k = 8 ∨ k = 12 ∨ k = 13 ∨ k = 15 ∨ k = 16 ∨ k = 18 ∨ k = 19
theorem FrC.of4 {S : Nat → Prop} {u u2 : CS} (h : Fr4 S u u2) : FrC AX FX u u2 := ⟨h.1, fun i hi => fr4_AI h (fun e => hi (by rw [e]; show 4 < 15; decide)), fun i j hi => fr4_FI h (fun e => hi (Or.inr (Or.inl e))), fun i hi => h.2.1 i (by omega)⟩
theorem FrM.tk10 {w : MS} {i : Nat} {s v x : Int32} : FrM IX AY w (upI (tkM w i s v) 10 x) := (tk_fr.mo (fun _ z => Or.inl z) (fun k z => by
  rcases z with z | z | z
  · exact Or.inl z
  · exact Or.inr (Or.inl z)
  · exact Or.inr (Or.inr (Or.inl z)))).tr (FrM.iI (Or.inr (Or.inl rfl)))
theorem FrC.a7 {u : CS} {g : Nat → Int32} : FrC AX FX u (uA u 7 g) := FrC.ai (by decide) (by show 7 < 15; decide)
def OUT (u : CS) (w : MS) (n : TN) (x : Option (CS × Int32)) (y : Option (MS × Unit)) : Prop :=
  ∃ u2 w2 n2 c, x = some (u2, c) ∧ y = some (w2, ()) ∧ skB u2 = true ∧ FI u2 4 5 = Int32.ofNat n.i ∧ AI u2 8 n.i = Int32.ofNat n.l ∧ n2.k = n.k ∧ FrC AX FX u u2 ∧ FrM IX AY w w2 ∧
    ((c = 45 ∧ TB u2 w2 n2 ∧ n2.i = n.i ∧ w2.1 9 = Int32.ofNat (n.i + 1) ∧ w2.2.2.1 6 n.i = 7 ∧ w2.2.2.1 8 n.i = Int32.ofNat n.l) ∨ (c ≠ 45 ∧ c ≠ 0 ∧ TK (finC u2 n.i c) w2 n2 ∧ n2.i = n.i + 1 ∧ n.p < n2.p))
theorem CF_9 {u u1 : CS} {i : Nat} {a : Int32} (hs : skB u1 = true) (f : Fr4 S9 u u1) (ha : AI u 7 i = a) : CF u u1 i a := ⟨hs, fr4_AI f (by decide), fr4_AI f (by decide), fr4_AI f (by decide), fun j _ => by rw [fr4_AI f (by decide)], by rw [fr4_AI f (by decide)]; exact ha, fr4_AI f (by decide), fr4_AI f (by decide), f.2.2 1 (by unfold S9; decide), f.2.2 5 (by unfold S9; decide), f.2.2 10 (by unfold S9; decide), fr4_FI f (by decide)⟩
end
section
set_option maxRecDepth 100000
theorem c45 : ∀ r, r < 15 → Int32.ofNat (5 + r) ≠ 45 ∧ Int32.ofNat (5 + r) ≠ 0 := by decide +kernel
theorem word_both {u : CS} {w : MS} {n : TN} {N : Nat} {c : Int32} (h : TK u w n) (hl : AI u 8 n.i = Int32.ofNat n.l) (hv : AI u 7 n.i = 0) (hp : n.p < n.k) (hc : c = AI u 5 n.p &&& 255) (hw : isW (AI u 5 n.p) = true) (hd : isDg (AI u 5 n.p) = false) (hN : 100000 ≤ N) : OUT u w n (fm_To_word N u 4 c) (fm_M_wordToken N w c) := by
  have k4 := h.k4
  have hx := h.bu n.p (by omega)
  obtain ⟨cs1, cs2⟩ := c_sm hx hw hd
  rw [← hc] at cs1 cs2
  obtain ⟨u1, i1, i2, i3, i4⟩ := wdC_loop (N := N) (c := c) (s := Int32.ofNat n.p) (G0 := fun _ _ _ _ => none) h.k4 (n.k + 1 - n.p) n.p u (N - (n.k + 1 - n.p) - 1) h.sk h.cu h.pu (by omega)
  rw [show N - (n.k + 1 - n.p) - 1 + (n.k + 1 - n.p) + 1 = N from by omega] at i4
  have e1 : fm_To_word N u 4 c = fb_To_word_44 N (fun _ _ _ _ => none) u1 4 c (Int32.ofNat n.p) := by
    rw [← i4]
    unfold fm_To_word fb_To_word_0
    rw [gi_4_9 h.sk, q_bo, h.pu]
  have f4 := wdM_loop (N := N) (c := c) h.cw h.k4 h.pw h.bw (n.k + 1 - n.p) 0 (N - (n.k + 1 - n.p) - 1) (by omega)
  rw [show N - (n.k + 1 - n.p) - 1 + (n.k + 1 - n.p) + 1 = N from by omega, Nat.add_zero] at f4
  have e2 : fm_M_wordToken N w c = finW N w c (Int32.ofNat (wde (AI u 5) n.k (n.k + 1 - n.p) n.p - n.p)) := by
    rw [wde_eq h.ta]
    exact f4
  have g1 := wde_gt (g := AI u 5) (k := n.k) (p := n.p) hp hw (m := n.k + 1 - n.p) (by omega)
  have g2 := wde_le (g := AI u 5) (k := n.k) (n.k + 1 - n.p) n.p h.pk
  have g3 : wde (AI u 5) n.k (n.k + 1 - n.p) n.p = n.k ∨ isW (AI u 5 (wde (AI u 5) n.k (n.k + 1 - n.p) n.p)) = false := by
    rcases wde_end (g := AI u 5) (k := n.k) (n.k + 1 - n.p) n.p (by omega) with z | z | z
    · omega
    · exact Or.inl (by omega)
    · exact Or.inr z
  rw [e1, e2]
  generalize wde (AI u 5) n.k (n.k + 1 - n.p) n.p = e at i3 g1 g2 g3
  have a5 : AI u1 5 = AI u 5 := fr4_AI i2 (by decide)
  have cf := CF_9 (i := n.i) i1 i2 hv
  have fi : FI u1 4 5 = Int32.ofNat n.i := by rw [cf.f45]; exact h.iu
  have l8 : AI u1 8 n.i = Int32.ofNat n.l := by rw [cf.a8]; exact hl
  have at1 : AT u1 w n.fa n.na := AT_fr h.atm (fr4_FI i2 (by decide)) (fr4_AI i2 (by decide)) (fr4_AI i2 (by decide)) rfl rfl rfl
  have nm1 : NMz u1 w n.fc n.fr n.q n.nn := NM_fr h.nmm (fr4_FI i2 (by decide)) (fr4_AI i2 (by decide)) (fr4_AI i2 (by decide)) rfl rfl rfl
  have hip := h.ip
  have b0 : 2 * (n.na - 22 + n.nn) ≤ n.p := by
    have h1 := h.b1
    by_cases z : 2 * (n.na - 22 + n.nn) = n.p + 1
    · rcases h.b2 z with q | q
      · omega
      · rw [hw] at q; cases q
    · omega
  have h22 := h.a22
  have hb3 := h.b3
  have hb4 := h.b4
  have hb5 := h.b5
  have hfl : Int32.ofNat e - Int32.ofNat n.p = Int32.ofNat (e - n.p) := q_sub (by omega)
  have ht : ∀ i, i < e - n.p → AI u1 5 (n.p + i) = w.2.2.1 4 (n.p + i) := fun i hi => by rw [a5]; exact h.ta (n.p + i) (by omega)
  have hwa := wa_ok (N := N) (w := w) (b := n.p) (len := e - n.p) h.co.2.2.2.1 (by omega) (by omega)
  have t151 : ∀ (w9 : MS) (j : Nat), w9.1 10 = Int32.ofNat n.p → ∀ G, fb_M_wordToken_151 N G w9 (Int32.ofNat (e - n.p)) = some (upI w9 10 (Int32.ofNat e), ()) := fun w9 j h9 G => by
    unfold fb_M_wordToken_151
    rw [q_ls, h9, q_add, show n.p + (e - n.p) = e from by omega]
  unfold fb_To_word_44 finW
  rw [gi_4_9 i1, q_bo, i3, hfl, h.pw, hwa, q_bn]
  by_cases hlen : 16 < e - n.p
  · 
    have e16 : decide (Int32.ofNat (e - n.p) ≤ 16) = false := decide_eq_false (fun z => absurd ((q_le (a := e - n.p) (b := 16) (by omega) (by decide)).mp z) (by omega))
    rw [sgW_long hlen, e16, q_b0, show decide (noI none = -1) = true from rfl, q_b1, q_b0, tok_ok (N := N) (s := 7) (v := 0) h.iw (by omega), q_bn]
    refine ⟨u1, upI (tkM w n.i 7 0) 10 (Int32.ofNat e), n, 45, rfl, ?_, i1, fi, l8, rfl, FrC.of4 i2, FrM.tk10, Or.inl ⟨rfl, ?_, rfl, rfl, ?_, ?_⟩⟩
    · exact t151 _ 0 (show (tkM w n.i _ 0).1 10 = _ from h.pw) _
    · exact TB_bad h cf (fr4_FI i2 (by decide)) (fr4_AI i2 (by decide)) (fr4_AI i2 (by decide)) (fr4_FI i2 (by decide)) (fr4_AI i2 (by decide)) (fr4_AI i2 (by decide))
    · exact upd_self
    · show upd (w.2.2.1 8) n.i (w.1 11) n.i = _
      rw [upd_self]; exact h.lw
  · have e16 : decide (Int32.ofNat (e - n.p) ≤ 16) = true := decide_eq_true ((q_le (a := e - n.p) (b := 16) (by omega) (by decide)).mpr (by omega))
    rw [e16, q_b1, q_b1, cs1]
    have hm1 : n.na * (e - n.p + 3) ≤ 2022 * 19 := Nat.mul_le_mul (by omega) (by omega)
    have hm2 : (n.nn + 1) * (e - n.p + 3) ≤ 2001 * 19 := Nat.mul_le_mul (by omega) (by omega)
    cases hsm : isSm (AI u 5 n.p) with
    | true =>
      rw [q_b1, gr_4_6 i1, q_bo, gr_4_0 i1, q_bo, q_bo, q_ck (io_9 i1)]
      have hco1 : CON u1 w := by
        obtain ⟨c1, c2, c3, c4⟩ := h.co
        exact ⟨by rw [cf.f92]; exact c1, fun j hj => by rw [cf.a10]; exact c2 j hj, fun j hj => by rw [cf.a11]; exact c3 j hj, c4⟩
      rw [seek_ok (N := N) (WD_rw i1 hco1) (TX_5 i1) (by omega) (by omega) (by omega), q_bx]
      have es : skN sgW (AI u1 5) frW n.p (e - n.p) 0 15 = skN sgW (w.2.2.1 4) frW n.p (e - n.p) 0 15 := sgW_eq ht
      rw [es]
      cases hk : skN sgW (w.2.2.1 4) frW n.p (e - n.p) 0 15 with
      | some r =>
        have hr := sgW_lt hk
        have en : decide (noI (some r) = -1) = false := decide_eq_false (fun z => by
          have : ∀ r, r < 15 → Int32.ofNat r ≠ -1 := by decide +kernel
          exact this r hr z)
        obtain ⟨r45, r0⟩ := c45 r hr
        rw [en, q_b0, q_b0, tok_ok (N := N) (s := 3) (v := noI (some r)) h.iw (by omega), q_bn]
        refine ⟨u1, upI (tkM w n.i 3 (Int32.ofNat r)) 10 (Int32.ofNat e), _, Int32.ofNat (5 + r), ?_, ?_, i1, fi, l8, ?_, FrC.of4 i2, FrM.tk10, Or.inr ⟨r45, r0, TK_next (a := 0) (p2 := e) h hl cf i3 FrM.rf g1 g2 at1 nm1 (Nat.le_refl _) (Nat.le_refl _) (fun _ _ => rfl) (by omega) (fun z => by omega) (by omega) (by omega) (by omega) h.f22 (fun j hj => (congrFun (fr4_AI i2 (i := 2) (by decide)) j).trans (h.s22 j hj)) h.r00 ?_, rfl, g1⟩⟩
        · show some (u1, 5 + Int32.ofNat r) = _
          rw [show (5 : Int32) = Int32.ofNat 5 from rfl, q_add]
        · exact t151 _ 0 (show (tkM w n.i _ _).1 10 = _ from h.pw) _
        · rfl
        · exact Or.inr (Or.inr (Or.inr (Or.inr (Or.inl ⟨rfl, r, hr, rfl, rfl⟩))))
      | none =>
        rw [show decide (noI none = -1) = true from rfl, q_b1, q_b1]
        obtain ⟨u2, w2, fa2, na2, r, m1, m2, m3, m4, m5, m6, m7, m8, m9, m10, m12, m13⟩ := AT_more (N := N) (b := n.p) (len := e - n.p) i1 at1 (by omega) (by rw [a5]; exact h.bu) ht (by omega) (by omega) (by omega)
        rw [gr_4_3 i1, q_bo, gi_4_5 i1, q_bo, gr_4_7 i1, q_bo, gr_4_0 i1, q_bo, q_bo, q_ck (io_1 i1), m1, q_bx, q_bo, fi, si_7 m3, if_pos (q_inb (by omega) (by decide)), q_bo, smM, q_bn, cs2, hsm, b2i_0]
        show OUT u w n _ (br false _ _)
        have p7 : w2.1 10 = Int32.ofNat n.p := by rw [m7.1 10 (by unfold I14; decide)]; exact h.pw
        have i7 : w2.1 9 = Int32.ofNat n.i := by rw [m7.1 9 (by unfold I14; decide)]; exact h.iw
        rw [q_b0, h.pw, m2, q_bn, tok_ok (N := N) (s := 1) (v := Int32.ofNat r) i7 (by omega), q_bn, q_nat (by omega)]
        have s7 := sa_7 (g := upd (AI u2 7) n.i (Int32.ofNat r)) m3
        have a7 : AI (uA u2 7 (upd (AI u2 7) n.i (Int32.ofNat r))) 7 = upd (AI u2 7) n.i (Int32.ofNat r) := fa_7 m3
        have fA : ∀ j, j ≠ 2 → j ≠ 3 → j ≠ 7 → AI (uA u2 7 (upd (AI u2 7) n.i (Int32.ofNat r))) j = AI u1 j := fun j x1 x2 x3 => by
          rw [AI_A x3]
          exact m6.2.1 j (fun z => by rcases z with z | z; exact x1 z; exact x2 z)
        have fF : ∀ i j, i ≠ 1 → FI (uA u2 7 (upd (AI u2 7) n.i (Int32.ofNat r))) i j = FI u1 i j := fun i j x1 => by
          rw [FI_A]
          exact m6.2.2.1 i j (fun z => x1 z.1)
        have cf2 : CF u (uA u2 7 (upd (AI u2 7) n.i (Int32.ofNat r))) n.i (Int32.ofNat r) := ⟨s7, by rw [fA 5 (by decide) (by decide) (by decide)]; exact cf.a5, by rw [fA 6 (by decide) (by decide) (by decide)]; exact cf.a6, by rw [fA 8 (by decide) (by decide) (by decide)]; exact cf.a8, fun j hj => by
          rw [a7, upd_ne (by omega), m6.2.1 7 (fun z => by rcases z with z | z <;> cases z)]; exact cf.a7 j hj, by rw [a7, upd_self], by rw [fA 10 (by decide) (by decide) (by decide)]; exact cf.a10, by rw [fA 11 (by decide) (by decide) (by decide)]; exact cf.a11, by rw [fF 4 1 (by decide)]; exact cf.f41, by rw [fF 4 5 (by decide)]; exact cf.f45, by rw [fF 4 10 (by decide)]; exact cf.f410, by rw [fF 9 2 (by decide)]; exact cf.f92⟩
        refine ⟨uA u2 7 (upd (AI u2 7) n.i (Int32.ofNat r)), upI (tkM w2 n.i 1 (Int32.ofNat r)) 10 (Int32.ofNat e), _, 2, rfl, ?_, s7, by rw [fF 4 5 (by decide)]; exact fi, by rw [fA 8 (by decide) (by decide) (by decide)]; exact l8, ?_, ((FrC.of4 i2).tr (m6.mo (fun i z => by rcases z with z | z <;> (show i < 15) <;> omega) (fun i j z => Or.inl z.1))).tr FrC.a7, (m7.mo (fun k z => Or.inr (Or.inr (Or.inr (Or.inl z)))) (fun k z => by rcases z with z | z; exact Or.inr (Or.inr (Or.inr (Or.inl z))); exact Or.inr (Or.inr (Or.inr (Or.inr (Or.inl z)))))).tr FrM.tk10, Or.inr ⟨by decide, by decide, TK_next (a := Int32.ofNat r) (p2 := e) (fa2 := fa2) (na2 := na2) h hl cf2 (by rw [fF 4 9 (by decide)]; exact i3) (m7.mo (fun _ => I14w) (fun _ => AAw)) g1 g2 (AT_fr m4 FI_A (AI_A (by decide)) (AI_A (by decide)) rfl rfl rfl) (NM_fr nm1 (by rw [fF 12 2 (by decide)]) (by rw [fA 14 (by decide) (by decide) (by decide)]) (by rw [fA 13 (by decide) (by decide) (by decide)]) ?_ ?_ ?_) m8 (Nat.le_refl _) (fun _ _ => rfl) (by omega) ?_ (by omega) (by omega) (by omega) (fun j hj => (m12 j (by omega)).trans (h.f22 j hj)) (fun j hj => ?_) h.r00 ?_, rfl, g1⟩⟩
        · exact t151 _ 0 (show (tkM w2 n.i _ _).1 10 = _ from p7) _
        · rfl
        · exact m7.1 17 (by unfold I14; decide)
        · exact m7.2.2.1 15 (by unfold AA; decide)
        · exact m7.2.2.1 16 (by unfold AA; decide)
        · exact fun z => g3
        · have h139 : 139 ≤ n.fa n.na := by
            have z := fr_mono h.atm.1.2.2.1 (n.na - 22) 22 (by omega)
            rw [h.f22 22 (Nat.le_refl _)] at z
            exact z
          rw [AI_A (by decide), m13 j (by omega), fr4_AI i2 (i := 2) (by decide)]
          exact h.s22 j hj
        · exact Or.inr (Or.inl ⟨rfl, rfl, r, m5, rfl, rfl⟩)
    | false =>
      rw [sgW_great (by rw [← h.ta n.p hp]; exact hsm), q_b0, show decide (noI none = -1) = true from rfl, q_b1]
      obtain ⟨u2, w1, fc2, fr2, q2, nn2, r, m1, m2, m3, mn, mr, m4, m6, m7, m8, ⟨m9, m10, m11⟩, m12⟩ := NM_step (N := N) (b := n.p) (len := e - n.p) i1 nm1 (by omega) (by omega) (by rw [a5]; exact h.bu) ht (by omega) (by omega) (by omega) (by omega)
      rw [gr_4_3 i1, q_bo, gi_4_5 i1, q_bo, gr_4_8 i1, q_bo, gr_4_0 i1, q_bo, q_bo, q_ck (io_12 i1), m1, q_bx, q_bo, fi, si_7 m3, if_pos (q_inb (by omega) (by decide)), q_bo, smM, q_bn, cs2, hsm, b2i_0]
      show OUT u w n _ (br true _ _)
      have p7 : w1.1 10 = Int32.ofNat n.p := by rw [m7.1 10 (fun z => z)]; exact h.pw
      have n7 : w1.1 17 = Int32.ofNat n.nn := by rw [m7.1 17 (fun z => z)]; exact nm1.2.2.1
      rw [q_b1, h.pw, m2, q_bn, n7, q_nat (by omega)]
      have hr2 : r ≤ n.nn := by
        have z := mr
        rw [mn] at z
        split at z <;> omega
      have e141 : br (decide (Int32.ofNat r = Int32.ofNat n.nn)) (fb_M_wordToken_141 N (fun _ _ _ => none) w1 (Int32.ofNat (e - n.p)) (Int32.ofNat r) (Int32.ofNat n.nn + 1)) (fb_M_wordToken_141 N (fun _ _ _ => none) w1 (Int32.ofNat (e - n.p)) (Int32.ofNat r) (Int32.ofNat n.nn)) = fb_M_wordToken_141 N (fun _ _ _ => none) w1 (Int32.ofNat (e - n.p)) (Int32.ofNat r) (Int32.ofNat nn2) := by
        by_cases z : r = n.nn
        · rw [z, decide_eq_true rfl, q_b1, q_suc, mn, if_pos z]
        · rw [decide_eq_false (fun y => z (q_inj (by omega) (by omega) y)), q_b0, mn, if_neg z]
      rw [e141]
      unfold fb_M_wordToken_141
      have i7 : (upI w1 17 (Int32.ofNat nn2)).1 9 = Int32.ofNat n.i := by
        show w1.1 9 = _
        rw [m7.1 9 (fun z => z)]; exact h.iw
      rw [q_ls, tok_ok (N := N) (s := 2) (v := Int32.ofNat r) i7 (by omega), q_bn]
      have s7 := sa_7 (g := upd (AI u2 7) n.i (Int32.ofNat (nmQ q2 r))) m3
      have a7 : AI (uA u2 7 (upd (AI u2 7) n.i (Int32.ofNat (nmQ q2 r)))) 7 = upd (AI u2 7) n.i (Int32.ofNat (nmQ q2 r)) := fa_7 m3
      have fA : ∀ j, j ≠ 13 → j ≠ 14 → j ≠ 7 → AI (uA u2 7 (upd (AI u2 7) n.i (Int32.ofNat (nmQ q2 r)))) j = AI u1 j := fun j x1 x2 x3 => by
        rw [AI_A x3]
        exact m6.2.1 j (fun z => by rcases z with z | z; exact x1 z; exact x2 z)
      have fF : ∀ i j, i ≠ 12 → FI (uA u2 7 (upd (AI u2 7) n.i (Int32.ofNat (nmQ q2 r)))) i j = FI u1 i j := fun i j x1 => by
        rw [FI_A]
        exact m6.2.2.1 i j (fun z => x1 z.1)
      have cf2 : CF u (uA u2 7 (upd (AI u2 7) n.i (Int32.ofNat (nmQ q2 r)))) n.i (Int32.ofNat (nmQ q2 r)) := ⟨s7, by rw [fA 5 (by decide) (by decide) (by decide)]; exact cf.a5, by rw [fA 6 (by decide) (by decide) (by decide)]; exact cf.a6, by rw [fA 8 (by decide) (by decide) (by decide)]; exact cf.a8, fun j hj => by
        rw [a7, upd_ne (by omega), m6.2.1 7 (fun z => by rcases z with z | z <;> cases z)]; exact cf.a7 j hj, by rw [a7, upd_self], by rw [fA 10 (by decide) (by decide) (by decide)]; exact cf.a10, by rw [fA 11 (by decide) (by decide) (by decide)]; exact cf.a11, by rw [fF 4 1 (by decide)]; exact cf.f41, by rw [fF 4 5 (by decide)]; exact cf.f45, by rw [fF 4 10 (by decide)]; exact cf.f410, by rw [fF 9 2 (by decide)]; exact cf.f92⟩
      have nl : n.nn ≤ nn2 ∧ nn2 ≤ n.nn + 1 := by rw [mn]; split <;> omega
      have mw : FrM IWz AW w (upI w1 17 (Int32.ofNat nn2)) := (m7.mo (fun _ z => z.elim) (fun k z => by rcases z with z | z; exact Or.inr (Or.inr (Or.inl z)); exact Or.inr (Or.inr (Or.inr z)))).tr (FrM.iI (Or.inr rfl))
      refine ⟨uA u2 7 (upd (AI u2 7) n.i (Int32.ofNat (nmQ q2 r))), upI (tkM (upI w1 17 (Int32.ofNat nn2)) n.i 2 (Int32.ofNat r)) 10 (Int32.ofNat e), _, 3, rfl, ?_, s7, by rw [fF 4 5 (by decide)]; exact fi, by rw [fA 8 (by decide) (by decide) (by decide)]; exact l8, ?_, ((FrC.of4 i2).tr (m6.mo (fun i z => by rcases z with z | z <;> (show i < 15) <;> omega) (fun i j z => Or.inr (Or.inr z.1)))).tr FrC.a7, (mw.mo (fun k z => by rcases z with z | z; exact Or.inr (Or.inr (Or.inr (Or.inl z))); exact Or.inr (Or.inr (Or.inr (Or.inr (Or.inl z))))) (fun k z => by rcases z with z | z | z | z; exact Or.inr (Or.inr (Or.inr (Or.inl z))); exact Or.inr (Or.inr (Or.inr (Or.inr (Or.inl z)))); exact Or.inr (Or.inr (Or.inr (Or.inr (Or.inr (Or.inl z))))); exact Or.inr (Or.inr (Or.inr (Or.inr (Or.inr (Or.inr (Or.inl z)))))))).tr FrM.tk10, Or.inr ⟨by decide, by decide, TK_next (a := Int32.ofNat (nmQ q2 r)) (p2 := e) (fc2 := fc2) (fr2 := fr2) (q2 := q2) (nn2 := nn2) h hl cf2 (by rw [fF 4 9 (by decide)]; exact i3) mw g1 g2 (AT_fr at1 (by rw [fF 1 2 (by decide)]) (by rw [fA 3 (by decide) (by decide) (by decide)]) (by rw [fA 2 (by decide) (by decide) (by decide)]) ?_ ?_ ?_) (NM_fr m4 FI_A (AI_A (by decide)) (AI_A (by decide)) rfl rfl rfl) (Nat.le_refl _) nl.1 m8 (by omega) ?_ (by omega) (by omega) (by omega) h.f22 (fun j hj => by rw [fA 2 (by decide) (by decide) (by decide), fr4_AI i2 (i := 2) (by decide)]; exact h.s22 j hj) (m12.trans h.r00) ?_, rfl, g1⟩⟩
      · exact t151 _ 0 (show (tkM (upI w1 17 _) n.i _ _).1 10 = _ from p7) _
      · rfl
      · exact m7.1 14 (fun z => z)
      · exact m7.2.2.1 12 (by unfold A15; decide)
      · exact m7.2.2.1 13 (by unfold A15; decide)
      · exact fun z => g3
      · exact Or.inr (Or.inr (Or.inl ⟨rfl, rfl, r, mr, rfl, rfl⟩))
end
section
set_option maxRecDepth 100000
theorem ndg_ge {g : Nat → Int32} {k : Nat} : ∀ m p n, p ≤ (ndg g k m p n).1 := by
  intro m
  induction m with
  | zero => intro p n; exact Nat.le_refl _
  | succ m ih =>
    intro p n
    show p ≤ (if k ≤ p then (p, n) else if isDg (g p) = false then (p, n) else ndg g k m (p + 1) (stn (n * 10 + dgt (g p)))).1
    split
    · exact Nat.le_refl _
    · split
      · exact Nat.le_refl _
      · exact Nat.le_trans (by omega) (ih (p + 1) _)
theorem ndg_le {g : Nat → Int32} {k : Nat} : ∀ m p n, p ≤ k → (ndg g k m p n).1 ≤ k := by
  intro m
  induction m with
  | zero => intro p n h; exact h
  | succ m ih =>
    intro p n h
    show (if k ≤ p then (p, n) else if isDg (g p) = false then (p, n) else ndg g k m (p + 1) (stn (n * 10 + dgt (g p)))).1 ≤ k
    split
    · exact h
    · split
      · exact h
      · exact ih (p + 1) _ (by omega)
theorem ndg_gt {g : Nat → Int32} {k p n : Nat} (h1 : p < k) (h2 : isDg (g p) = true) {m : Nat} (hm : 1 ≤ m) : p < (ndg g k m p n).1 := by
  obtain ⟨m, rfl⟩ : ∃ m2, m = m2 + 1 := ⟨m - 1, by omega⟩
  show p < (if k ≤ p then (p, n) else if isDg (g p) = false then (p, n) else ndg g k m (p + 1) (stn (n * 10 + dgt (g p)))).1
  rw [if_neg (by omega), h2, if_neg (by decide)]
  have := ndg_ge (g := g) (k := k) m (p + 1) (stn (n * 10 + dgt (g p)))
  omega
theorem ndg_2 {g : Nat → Int32} {k : Nat} : ∀ m p n, n ≤ 2147483648 → (ndg g k m p n).2 ≤ 2147483648 := by
  intro m
  induction m with
  | zero => intro p n h; exact h
  | succ m ih =>
    intro p n h
    show (if k ≤ p then (p, n) else if isDg (g p) = false then (p, n) else ndg g k m (p + 1) (stn (n * 10 + dgt (g p)))).2 ≤ _
    split
    · exact h
    · split
      · exact h
      · exact ih (p + 1) _ (stn_le _)
theorem ndM_2 {g : Nat → Int32} {k : Nat} : ∀ m p n, n < 100000000000 → (ndM g k m p n).2 < 100000000000 := by
  intro m
  induction m with
  | zero => intro p n h; exact h
  | succ m ih =>
    intro p n h
    show (if k ≤ p then (p, n) else if isDg (g p) = false then (p, n) else ndM g k m (p + 1) (if n ≤ 2147483647 then n * 10 + dgt (g p) else n)).2 < _
    split
    · exact h
    · by_cases hd : isDg (g p) = false
      · rw [if_pos hd]; exact h
      · rw [if_neg hd]
        refine ih (p + 1) _ ?_
        have hd1 : isDg (g p) = true := by cases hh : isDg (g p) with
          | true => rfl
          | false => exact absurd hh hd
        obtain ⟨d, d1, d2⟩ := dg_nat hd1
        have : dgt (g p) = d := by unfold dgt; rw [d2, q_nat (by omega)]; omega
        rw [this]
        split <;> omega
theorem tk_up10 {w : MS} {i : Nat} {s v x : Int32} : tkM (upI w 10 x) i s v = upI (tkM w i s v) 10 x := by
  refine Prod.ext (funext fun j => ?_) rfl
  show (if j = 9 then Int32.ofNat (i + 1) else if j = 10 then x else w.1 j) = (if j = 10 then x else if j = 9 then Int32.ofNat (i + 1) else w.1 j)
  by_cases e : j = 9
  · rw [if_pos e, if_neg (by omega), if_pos e]
  · rw [if_neg e, if_neg e]
section NUB
variable {u : CS} {w : MS} {n : TN} {N : Nat}
theorem CF_7 {u1 : CS} {i : Nat} {a b : Int32} (cf : CF u u1 i b) : CF u (uA u1 7 (upd (AI u1 7) i a)) i a := by
  have s7 := sa_7 (g := upd (AI u1 7) i a) cf.sk2
  have a7 : AI (uA u1 7 (upd (AI u1 7) i a)) 7 = upd (AI u1 7) i a := fa_7 cf.sk2
  exact ⟨s7, by rw [AI_A (by decide)]; exact cf.a5, by rw [AI_A (by decide)]; exact cf.a6, by rw [AI_A (by decide)]; exact cf.a8, fun j hj => by rw [a7, upd_ne (by omega)]; exact cf.a7 j hj, by rw [a7, upd_self], by rw [AI_A (by decide)]; exact cf.a10, by rw [AI_A (by decide)]; exact cf.a11, by rw [FI_A]; exact cf.f41, by rw [FI_A]; exact cf.f45, by rw [FI_A]; exact cf.f410, by rw [FI_A]; exact cf.f92⟩
theorem num_both (h : TK u w n) (hl : AI u 8 n.i = Int32.ofNat n.l) (hv : AI u 7 n.i = 0) (hp : n.p < n.k) (hd : isDg (AI u 5 n.p) = true) (hN : 100000 ≤ N) : OUT u w n (fm_To_number N u 4) (fm_M_numberToken N w) := by
  have k4 := h.k4
  obtain ⟨u1, i1, i2, i3, i4⟩ := num_loop (N := N) (G0 := fun _ _ _ => none) h.k4 (n.k + 1 - n.p) n.p 0 u (N - (n.k + 1 - n.p) - 1) h.sk h.cu h.pu (by omega) (by omega)
  rw [show N - (n.k + 1 - n.p) - 1 + (n.k + 1 - n.p) + 1 = N from by omega] at i4
  have e1 : fm_To_number N u 4 = fb_To_number_68 N (fun _ _ _ => none) u1 4 (Int64.ofNat (ndg (AI u 5) n.k (n.k + 1 - n.p) n.p 0).2) := i4
  have f4 := numM_loop (N := N) h.cw h.k4 h.bw (n.k + 1 - n.p) n.p 0 (N - (n.k + 1 - n.p) - 1) (by omega) (by omega)
  have ew : upI w 10 (Int32.ofNat n.p) = w := by
    unfold upI
    refine Prod.ext (funext fun j => ?_) rfl
    show (if j = 10 then _ else _) = _
    split
    · rename_i e; rw [e, h.pw]
    · rfl
  rw [show N - (n.k + 1 - n.p) - 1 + (n.k + 1 - n.p) + 1 = N from by omega, ew] at f4
  obtain ⟨q1, q2⟩ := ndM_eq (f := w.2.2.1 4) (g := AI u 5) (k := n.k) (fun j hj => (h.ta j hj).symm) (n.k + 1 - n.p) n.p 0 0 (Or.inl ⟨rfl, by omega⟩)
  rw [q1] at f4
  have e2 : fm_M_numberToken N w = _ := f4
  have g1 := ndg_gt (g := AI u 5) (k := n.k) (p := n.p) (n := 0) hp hd (m := n.k + 1 - n.p) (by omega)
  have g2 := ndg_le (g := AI u 5) (k := n.k) (n.k + 1 - n.p) n.p 0 h.pk
  have g3 := ndg_2 (g := AI u 5) (k := n.k) (n.k + 1 - n.p) n.p 0 (by omega)
  have g4 := ndM_2 (g := w.2.2.1 4) (k := n.k) (n.k + 1 - n.p) n.p 0 (by omega)
  rw [e1, e2]
  generalize (ndg (AI u 5) n.k (n.k + 1 - n.p) n.p 0).1 = e at i3 g1 g2
  generalize (ndg (AI u 5) n.k (n.k + 1 - n.p) n.p 0).2 = b at q2 g3
  generalize (ndM (w.2.2.1 4) n.k (n.k + 1 - n.p) n.p 0).2 = a at q2 g4
  have cf := CF_9 (i := n.i) i1 i2 hv
  have cf2 := CF_7 (a := (Int64.ofNat b).toInt32) cf
  have fi : FI u1 4 5 = Int32.ofNat n.i := by rw [cf.f45]; exact h.iu
  have hip := h.ip
  have h1 := h.b1
  have hb3 := h.b3
  have hb4 := h.b4
  have hb5 := h.b5
  have hc : decide (2147483647 < a) = decide (2147483647 < b) := by
    rcases q2 with ⟨q2, q3⟩ | ⟨q2, q3⟩
    · rw [q2]
    · rw [decide_eq_true q2, decide_eq_true (by omega)]
  have s7 := cf2.sk2
  have p9 : FI (uA u1 7 (upd (AI u1 7) n.i (Int64.ofNat b).toInt32)) 4 9 = Int32.ofNat e := by rw [FI_A]; exact i3
  have l8 : AI (uA u1 7 (upd (AI u1 7) n.i (Int64.ofNat b).toInt32)) 8 n.i = Int32.ofNat n.l := by rw [cf2.a8]; exact hl
  have f5 : FI (uA u1 7 (upd (AI u1 7) n.i (Int64.ofNat b).toInt32)) 4 5 = Int32.ofNat n.i := by rw [cf2.f45]; exact h.iu
  have a2 : ∀ j, j ≠ 7 → j ≠ 4 → AI (uA u1 7 (upd (AI u1 7) n.i (Int64.ofNat b).toInt32)) j = AI u j := fun j x y => by rw [AI_A x]; exact fr4_AI i2 y
  have f2 : ∀ i j, i ≠ 4 → FI (uA u1 7 (upd (AI u1 7) n.i (Int64.ofNat b).toInt32)) i j = FI u i j := fun i j x => by rw [FI_A]; exact fr4_FI i2 x
  have bad : ∀ x : Option (CS × Int32), x = some (uA u1 7 (upd (AI u1 7) n.i (Int64.ofNat b).toInt32), 45) → OUT u w n x (fb_M_numberToken_84 N (fun _ _ => none) (upI w 10 (Int32.ofNat e)) (Int64.ofNat a)) := fun x hx => by
    have i7 : (upI w 10 (Int32.ofNat e)).1 9 = Int32.ofNat n.i := h.iw
    unfold fb_M_numberToken_84 fb_M_numberToken_90
    rw [tok_ok (N := N) (s := 7) (v := (Int64.ofNat a).toInt32) i7 (by omega), q_bn]
    refine ⟨_, upI (tkM w n.i 7 (Int64.ofNat a).toInt32) 10 (Int32.ofNat e), n, 45, hx, ?_, s7, f5, l8, rfl, (FrC.of4 i2).tr FrC.a7, FrM.tk10, Or.inl ⟨rfl, ?_, rfl, rfl, ?_, ?_⟩⟩
    · exact congrArg (fun z => some (z, ())) tk_up10
    · exact TB_bad h cf2 (f2 1 2 (by decide)) (a2 3 (by decide) (by decide)) (a2 2 (by decide) (by decide)) (f2 12 2 (by decide)) (a2 14 (by decide) (by decide)) (a2 13 (by decide) (by decide))
    · exact upd_self
    · show upd (w.2.2.1 8) n.i (w.1 11) n.i = _
      rw [upd_self]; exact h.lw
  unfold fb_To_number_68 finM
  rw [gr_4_3 i1, q_bo, gi_4_5 i1, q_bo, q_bo, fi, si_7 i1, if_pos (q_inb (by omega) (by decide)), q_bo, q_nat (by omega), cmp_gt (by omega), cmp_gt (by omega), hc]
  by_cases hbig : 2147483647 < b
  · rw [decide_eq_true hbig, q_b1, q_b1]
    exact bad _ rfl
  · have eab : a = b := by
      rcases q2 with ⟨q2, q3⟩ | ⟨q2, q3⟩
      · exact q2
      · omega
    subst eab
    have eS : sgA (AI (uA u1 7 (upd (AI u1 7) n.i (Int64.ofNat a).toInt32)) 5) n.k e = sgA (w.2.2.1 4) n.k e := by rw [cf2.a5]; exact sgA_eq h.ta
    rw [decide_eq_false hbig, q_b0, q_b0, gi_4_9 s7, q_bo, p9, q_ck (io_4 s7), atC s7 (by rw [cf2.f41]; exact h.cu) h.k4 (by omega), q_bx, woC, q_bx, eS]
    rw [show (upI w 10 (Int32.ofNat e)).1 10 = Int32.ofNat e from rfl, atM (N := N) (w := upI w 10 (Int32.ofNat e)) (k := n.k) (p := e) h.cw h.k4 (by omega), q_bn, inM, q_bn, b2i_0, show (upI w 10 (Int32.ofNat e)).2.2.1 4 = w.2.2.1 4 from rfl]
    cases hwo : isW (sgA (w.2.2.1 4) n.k e) with
    | true => exact bad _ rfl
    | false =>
      show OUT u w n (fb_To_number_107 N (fun _ _ _ => none) _ 1) (fb_M_numberToken_90 N (fun _ _ => none) _ _ 4)
      have i7 : (upI w 10 (Int32.ofNat e)).1 9 = Int32.ofNat n.i := h.iw
      unfold fb_To_number_107 fb_M_numberToken_90
      rw [tok_ok (N := N) (s := 4) (v := (Int64.ofNat a).toInt32) i7 (by omega), q_bn]
      refine ⟨_, upI (tkM w n.i 4 (Int64.ofNat a).toInt32) 10 (Int32.ofNat e), _, 1, rfl, ?_, s7, f5, l8, ?_, (FrC.of4 i2).tr FrC.a7, FrM.tk10, Or.inr ⟨by decide, by decide, TK_next (a := (Int64.ofNat a).toInt32) (p2 := e) h hl cf2 p9 FrM.rf g1 g2 (AT_fr h.atm (f2 1 2 (by decide)) (a2 3 (by decide) (by decide)) (a2 2 (by decide) (by decide)) rfl rfl rfl) (NM_fr h.nmm (f2 12 2 (by decide)) (a2 14 (by decide) (by decide)) (a2 13 (by decide) (by decide)) rfl rfl rfl) (Nat.le_refl _) (Nat.le_refl _) (fun _ _ => rfl) (by omega) (fun z => by omega) (by omega) (by omega) (by omega) h.f22 (fun j hj => (congrFun (a2 2 (by decide) (by decide)) j).trans (h.s22 j hj)) h.r00 ?_, rfl, g1⟩⟩
      · exact congrArg (fun z => some (z, ())) tk_up10
      · rfl
      · exact Or.inl ⟨rfl, rfl, rfl⟩
theorem sgr : (∀ i, i < 18 → r22 (2 * i + 1) ≠ -1 ∧ Int32.ofNat (20 + i) ≠ 45 ∧ Int32.ofNat (20 + i) ≠ 0) ∧ (∀ i, i < 7 → r21 (3 * i + 2) ≠ -1 ∧ Int32.ofNat (38 + i) ≠ 45 ∧ Int32.ofNat (38 + i) ≠ 0 ∧ by4 (2 * i + 1) ≠ -1) := by decide +kernel
theorem tw_hit {c d : Int32} : ∀ m i x, tw c d m i = some x → by4 (2 * x + 1) = d := by
  intro m
  induction m with
  | zero => intro i x h; cases h
  | succ m ih =>
    intro i x h
    have h : (if by4 (2 * i) = c ∧ by4 (2 * i + 1) = d then some i else tw c d m (i + 1)) = some x := h
    split at h
    · rename_i z
      cases h
      exact z.2
    · exact ih (i + 1) x h
theorem sig_both {c : Int32} (h : TK u w n) (hl : AI u 8 n.i = Int32.ofNat n.l) (hv : AI u 7 n.i = 0) (hp : n.p < n.k) (hN : 100000 ≤ N) : OUT u w n (fm_To_signs N u 4 c) (fm_M_signToken N w c) := by
  have k4 := h.k4
  have hip := h.ip
  have h1 := h.b1
  have hb3 := h.b3
  have hb4 := h.b4
  have hb5 := h.b5
  have t1 := two_loop (N := N) (c := c) (d := sgA (AI u 5) n.k (n.p + 1)) h.sk h.pu 7 0 (N - 27) (by omega)
  rw [show N - 27 + 7 + 20 = N from by omega] at t1
  have t2 := onM_loop (N := N) (w := w) (c := c) (d := sgA (AI u 5) n.k (n.p + 1)) h.co.2.2.2.2.1 h.co.2.2.2.2.2.1 18 0 (N - 27) (-1) (by omega)
  rw [show N - 27 + 18 + 9 = N from by omega] at t2
  have e1 : fm_To_signs N u 4 c = (gg_To_signs N N).1 u 4 c (sgA (AI u 5) n.k (n.p + 1)) (Int32.ofNat (2 * 0)) := by
    unfold fm_To_signs fb_To_signs_0
    rw [gi_4_9 h.sk, q_bo, h.pu, q_suc, q_ck (io_4 h.sk), atC h.sk h.cu h.k4 (by omega), q_bx]
    rfl
  have e2 : fm_M_signToken N w c = (gg_M_signToken N N).1 w c (sgA (AI u 5) n.k (n.p + 1)) (-1) 1 (Int32.ofNat (2 * 0)) := by
    unfold fm_M_signToken fb_M_signToken_0
    rw [h.pw, q_suc, atM (N := N) (w := w) (k := n.k) (p := n.p + 1) h.cw h.k4 (by omega), q_bn, sgA_eq h.ta]
    rfl
  rw [e1, e2, t1, t2]
  have cfp : ∀ p2 : Nat, CF u (uF u 4 9 (.inl (Int32.ofNat p2))) n.i 0 := fun p2 => CF_9 (sf_4_9 h.sk) (Fr4.one (S := S9) (k := 9) rfl) hv
  have good : ∀ (p2 m : Nat) (x : Int32), n.p < p2 → p2 ≤ n.k → m < 25 → x = sgK m → x ≠ 45 → x ≠ 0 → sgV m ≠ -1 → p2 = n.p + (p2 - n.p) → OUT u w n (some (uF u 4 9 (.inl (Int32.ofNat p2)), x)) (finG N w (sgV m) (Int32.ofNat (p2 - n.p))) := fun p2 m x hp1 hp2 hm hx h45 h0 hs he => by
    unfold finG fb_M_signToken_129
    rw [decide_eq_false hs, q_b0, tok_ok (N := N) (s := 6) (v := sgV m) h.iw (by omega), q_bn, q_ls]
    refine ⟨_, upI (tkM w n.i 6 (sgV m)) 10 (Int32.ofNat p2), _, x, rfl, ?_, sf_4_9 h.sk, by rw [FI_F (by decide)]; exact h.iu, by rw [AI_F]; exact hl, ?_, FrC.fi (by decide) (Or.inr (Or.inl rfl)), FrM.tk10, Or.inr ⟨h45, h0, TK_next (a := 0) (p2 := p2) h hl (cfp p2) (fi_4_9 h.sk) FrM.rf hp1 hp2 (AT_fr h.atm (FI_F (by decide)) AI_F AI_F rfl rfl rfl) (NM_fr h.nmm (FI_F (by decide)) AI_F AI_F rfl rfl rfl) (Nat.le_refl _) (Nat.le_refl _) (fun _ _ => rfl) (by omega) (fun z => by omega) (by omega) (by omega) (by omega) h.f22 (fun j hj => (congrFun AI_F j).trans (h.s22 j hj)) h.r00 ?_, rfl, hp1⟩⟩
    · show some (upI (tkM w n.i _ _) 10 (w.1 10 + _), ()) = _
      rw [h.pw, q_add, ← he]
      rfl
    · rfl
    · exact Or.inr (Or.inr (Or.inr (Or.inr (Or.inr ⟨rfl, m, hm, hx, rfl⟩))))
  rcases two_both c (sgA (AI u 5) n.k (n.p + 1)) (onM c 18 0 (-1)) with ⟨a1, a2⟩ | ⟨x, x1, x2, x3⟩
  · rw [a1, a2]
    rcases one_both c with ⟨o1, o2⟩ | ⟨x, x1, x2, x3⟩
    · rw [o1, o2]
      unfold finG fb_M_signToken_129
      rw [show decide ((-1 : Int32) = -1) = true from rfl, q_b1, tok_ok (N := N) (s := 7) (v := -1) h.iw (by omega), q_bn, q_ls]
      refine ⟨_, upI (tkM w n.i 7 (-1)) 10 (Int32.ofNat (n.p + 1)), n, 45, rfl, ?_, sf_4_9 h.sk, by rw [FI_F (by decide)]; exact h.iu, by rw [AI_F]; exact hl, rfl, FrC.fi (by decide) (Or.inr (Or.inl rfl)), FrM.tk10, Or.inl ⟨rfl, ?_, rfl, rfl, upd_self, ?_⟩⟩
      · show some (upI (tkM w n.i _ _) 10 (w.1 10 + 1), ()) = _
        rw [h.pw, q_suc]
        rfl
      · exact TB_bad h (cfp (n.p + 1)) (FI_F (by decide)) AI_F AI_F (FI_F (by decide)) AI_F AI_F
      · show upd (w.2.2.1 8) n.i (w.1 11) n.i = _
        rw [upd_self]; exact h.lw
    · obtain ⟨r1, r2, r3⟩ := sgr.1 x x1
      have ev : sgV x = r22 (2 * x + 1) := if_pos x1
      rw [x2, x3, ← ev]
      have := good (n.p + 1) x (Int32.ofNat (20 + x)) (by omega) (by omega) (by omega) rfl r2 r3 (by rw [ev]; exact r1) (by omega)
      rw [show n.p + 1 - n.p = 1 from by omega] at this
      exact this
  · obtain ⟨r1, r2, r3, r4⟩ := sgr.2 x x1
    have hd := tw_hit 7 0 x x2
    have hk2 : n.p + 1 < n.k := by
      by_cases z : n.p + 1 < n.k
      · exact z
      · have : sgA (AI u 5) n.k (n.p + 1) = -1 := if_neg z
        rw [this] at hd
        exact absurd hd r4
    have ev : sgV (18 + x) = r21 (3 * x + 2) := by
      show (if 18 + x < 18 then _ else r21 (3 * (18 + x - 18) + 2)) = _
      rw [if_neg (by omega), show 18 + x - 18 = x from by omega]
    rw [x2, x3, ← ev]
    have := good (n.p + 2) (18 + x) (Int32.ofNat (38 + x)) (by omega) (by omega) (by omega) (by unfold sgK; rw [show 20 + (18 + x) = 38 + x from by omega]) r2 r3 (by rw [ev]; exact r1) (by omega)
    rw [show n.p + 2 - n.p = 2 from by omega] at this
    exact this
end NUB
end
section
set_option maxRecDepth 100000
theorem sts_lt {g : Nat → Int32} {k : Nat} : ∀ m p i len, sts g k m p i = some len → i ≤ len ∧ p + (len - i) < k := by
  intro m
  induction m with
  | zero => intro p i len h; cases h
  | succ m ih =>
    intro p i len h
    have h : (if sgA g k p = 34 then some i else if sgA g k p < 32 ∨ 126 < sgA g k p then none else sts g k m (p + 1) (i + 1)) = some len := h
    split at h
    · rename_i z
      cases h
      refine ⟨Nat.le_refl _, ?_⟩
      by_cases y : p < k
      · omega
      · have : sgA g k p = -1 := if_neg y
        rw [this] at z
        exact absurd z (by decide)
    · split at h
      · cases h
      · have := ih (p + 1) (i + 1) len h
        omega
theorem sts_eq {f g : Nat → Int32} {k : Nat} (h : ∀ j, j < k → f j = g j) : ∀ m p i, sts f k m p i = sts g k m p i := by
  intro m
  induction m with
  | zero => intro p i; rfl
  | succ m ih =>
    intro p i
    show (if sgA f k p = 34 then some i else if sgA f k p < 32 ∨ 126 < sgA f k p then none else sts f k m (p + 1) (i + 1)) = (if sgA g k p = 34 then some i else if sgA g k p < 32 ∨ 126 < sgA g k p then none else sts g k m (p + 1) (i + 1))
    rw [sgA_eq (p := p) h, ih]
def wS (w : MS) (i ns f0 b j : Nat) (t : Int32) : MS := upI (upA (tkM (upI (stS w f0 b j) 10 (Int32.ofNat (b + j + 1))) i t (Int32.ofNat ns)) 19 (upd (w.2.2.1 19) (ns + 1) (Int32.ofNat (f0 + j)))) 20 (Int32.ofNat (ns + 1))
def fsN (fs : Nat → Nat) (ns x : Nat) : Nat → Nat := fun r => if r = ns + 1 then x else fs r
section STB
variable {u u2 : CS} {w : MS} {n : TN} {N f0 b j : Nat} {t c a : Int32}
theorem wS_A {i ns k : Nat} (h1 : k ≠ 6) (h2 : k ≠ 7) (h3 : k ≠ 8) (h4 : k ≠ 18) (h5 : k ≠ 19) : (wS w i ns f0 b j t).2.2.1 k = w.2.2.1 k := by
  show (if k = 19 then _ else if k = 8 then _ else if k = 7 then _ else if k = 6 then _ else if k = 18 then _ else w.2.2.1 k) = _
  rw [if_neg h5, if_neg h3, if_neg h2, if_neg h1, if_neg h4]
theorem wS_I {i ns k : Nat} (h1 : k ≠ 9) (h2 : k ≠ 10) (h3 : k ≠ 20) : (wS w i ns f0 b j t).1 k = w.1 k := by
  show (if k = 20 then _ else if k = 9 then _ else if k = 10 then _ else if k = 10 then _ else w.1 k) = _
  rw [if_neg h3, if_neg h1, if_neg h2, if_neg h2]
theorem wS_6 {i ns : Nat} : (wS w i ns f0 b j t).2.2.1 6 = upd (w.2.2.1 6) i t := rfl
theorem wS_7 {i ns : Nat} : (wS w i ns f0 b j t).2.2.1 7 = upd (w.2.2.1 7) i (Int32.ofNat ns) := rfl
theorem wS_8 {i ns : Nat} : (wS w i ns f0 b j t).2.2.1 8 = upd (w.2.2.1 8) i (w.1 11) := rfl
theorem wS_18 {i ns : Nat} : (wS w i ns f0 b j t).2.2.1 18 = put (w.2.2.1 18) (w.2.2.1 4) f0 b j := rfl
theorem wS_19 {i ns : Nat} : (wS w i ns f0 b j t).2.2.1 19 = upd (w.2.2.1 19) (ns + 1) (Int32.ofNat (f0 + j)) := rfl
theorem wS_fr {i ns : Nat} : FrM IX AY w (wS w i ns f0 b j t) := ⟨fun k hk => wS_I (fun e => hk (Or.inl e)) (fun e => hk (Or.inr (Or.inl e))) (fun e => hk (Or.inr (Or.inr (Or.inr (Or.inr (Or.inr e)))))), rfl, fun k hk => wS_A (fun e => hk (Or.inl e)) (fun e => hk (Or.inr (Or.inl e))) (fun e => hk (Or.inr (Or.inr (Or.inl e)))) (fun e => hk (Or.inr (Or.inr (Or.inr (Or.inr (Or.inr (Or.inr (Or.inr (Or.inl e))))))))) (fun e => hk (Or.inr (Or.inr (Or.inr (Or.inr (Or.inr (Or.inr (Or.inr (Or.inr e))))))))), rfl⟩
theorem TB_str (h : TK u w n) (cf : CF u u2 n.i a) (h1 : FI u2 1 2 = FI u 1 2) (h2 : AI u2 3 = AI u 3) (h3 : AI u2 2 = AI u 2) (h4 : FI u2 12 2 = FI u 12 2) (h5 : AI u2 14 = AI u 14) (h6 : AI u2 13 = AI u 13) (hf : f0 = n.fs n.ns) : TB u2 (wS w n.i n.ns f0 b j t) ⟨n.k, n.i, n.p, n.l, n.na, n.fa, n.nn, n.fc, n.fr, n.q, n.ns + 1, fsN n.fs n.ns (f0 + j)⟩ := by
  obtain ⟨c1, c2, c3, c4, c5, c6, c7, c8⟩ := h.co
  have fle : ∀ r, r ≤ n.ns → fsN n.fs n.ns (f0 + j) r = n.fs r := fun r hr => if_neg (by omega)
  have ftop : fsN n.fs n.ns (f0 + j) (n.ns + 1) = f0 + j := if_pos rfl
  refine (TB.mk1 (sk := cf.sk2) (k4 := h.k4) (cu := ?_) (cw := ?_) (ta := fun j hj => ?_) (bu := ?_) (bw := ?_) (co := ⟨?_, fun j hj => ?_, fun j hj => ?_, ?_, ?_, ?_, ?_, ?_⟩) (ik := h.ik) (iu := ?_) (atm := ?_) (nmm := ?_) (a22 := h.a22) (sw := rfl) (sf := fun r hr => ?_) (sm := fun r hr => ?_) (f22 := h.f22) (s22 := fun j hj => (congrFun h3 j).trans (h.s22 j hj)) (r00 := h.r00) (z00 := (fle 0 (Nat.zero_le _)).trans h.z00) (tk := fun r hr => ?_))
  · rw [cf.f41]; exact h.cu
  · rw [wS_I (by decide) (by decide) (by decide)]; exact h.cw
  · rw [cf.a5, wS_A (by decide) (by decide) (by decide) (by decide) (by decide)]; exact h.ta j hj
  · rw [cf.a5]; exact h.bu
  · rw [wS_A (by decide) (by decide) (by decide) (by decide) (by decide)]; exact h.bw
  · rw [cf.f92]; exact c1
  · rw [cf.a10]; exact c2 j hj
  · rw [cf.a11]; exact c3 j hj
  · rw [wS_A (by decide) (by decide) (by decide) (by decide) (by decide)]; exact c4
  · rw [wS_A (by decide) (by decide) (by decide) (by decide) (by decide)]; exact c5
  · rw [wS_A (by decide) (by decide) (by decide) (by decide) (by decide)]; exact c6
  · rw [wS_A (by decide) (by decide) (by decide) (by decide) (by decide)]; exact c7
  · rw [wS_A (by decide) (by decide) (by decide) (by decide) (by decide)]; exact c8
  · rw [cf.f45]; exact h.iu
  · exact AT_fr h.atm h1 h2 h3 (wS_I (by decide) (by decide) (by decide)) (wS_A (by decide) (by decide) (by decide) (by decide) (by decide)) (wS_A (by decide) (by decide) (by decide) (by decide) (by decide))
  · exact NM_fr h.nmm h4 h5 h6 (wS_I (by decide) (by decide) (by decide)) (wS_A (by decide) (by decide) (by decide) (by decide) (by decide)) (wS_A (by decide) (by decide) (by decide) (by decide) (by decide))
  · rw [wS_19]
    by_cases e : r = n.ns + 1
    · subst e; rw [upd_self]; show _ = Int32.ofNat (fsN n.fs n.ns (f0 + j) (n.ns + 1)); rw [ftop]
    · have hr : r ≤ n.ns + 1 := hr
      rw [upd_ne e]; show _ = Int32.ofNat (fsN n.fs n.ns (f0 + j) r); rw [fle r (by omega)]; exact h.sf r (by omega)
  · show fsN n.fs n.ns (f0 + j) (r + 1) ≤ fsN n.fs n.ns (f0 + j) (n.ns + 1)
    rw [ftop]
    by_cases e : r = n.ns
    · rw [e, ftop]; exact Nat.le_refl _
    · have hr : r < n.ns + 1 := hr
      have := h.sm r (by omega)
      rw [fle (r + 1) (by omega)]; omega
  · have hr : r < n.i := hr
    obtain ⟨k1, k2⟩ := h.tk r hr
    rw [cf.a5, cf.a6, cf.a8, cf.a7 r hr, wS_6, wS_7, wS_8, wS_18, upd_ne (by omega), upd_ne (by omega), upd_ne (by omega)]
    exact ⟨KV_mono k1 (Nat.le_refl _) (Nat.le_refl _) (Nat.le_succ _) (fun _ _ => rfl) fle h.sm (fun x hx => put_lo (by omega)), k2⟩
theorem TK_str {len : Nat} (h : TK u w n) (hl : AI u 8 n.i = Int32.ofNat n.l) (cf : CF u u2 n.i (Int32.ofNat (n.p + 1))) (p9 : FI u2 4 9 = Int32.ofNat (n.p + 1 + len + 1)) (h1 : FI u2 1 2 = FI u 1 2) (h2 : AI u2 3 = AI u 3) (h3 : AI u2 2 = AI u 2) (h4 : FI u2 12 2 = FI u 12 2) (h5 : AI u2 14 = AI u 14) (h6 : AI u2 13 = AI u 13) (hs : sts (AI u 5) n.k 41 (n.p + 1) 0 = some len) (h40 : len ≤ 40) :
    TK (finC u2 n.i 4) (wS w n.i n.ns (n.fs n.ns) (n.p + 1) len 5) ⟨n.k, n.i + 1, n.p + 1 + len + 1, n.l, n.na, n.fa, n.nn, n.fc, n.fr, n.q, n.ns + 1, fsN n.fs n.ns (n.fs n.ns + len)⟩ := by
  have B := TB_str (b := n.p + 1) (j := len) (t := 5) h cf h1 h2 h3 h4 h5 h6 rfl
  obtain ⟨-, hlk⟩ := sts_lt 41 (n.p + 1) 0 len hs
  have fle : ∀ r, r ≤ n.ns → fsN n.fs n.ns (n.fs n.ns + len) r = n.fs r := fun r hr => if_neg (by omega)
  have ftop : fsN n.fs n.ns (n.fs n.ns + len) (n.ns + 1) = n.fs n.ns + len := if_pos rfl
  have hip := h.ip
  have hlk2 := h.lk
  have hb1 := h.b1
  have hb3 := h.b3
  have hb4 := h.b4
  have hb5 := h.b5
  have hs2 := h.s2
  have hs3 := h.s3
  refine (TK.mk1 (sk := fin_sk cf.sk2) (k4 := h.k4) (cu := ?_) (cw := B.cw) (ta := fun j hj => ?_) (bu := ?_) (bw := B.bw) (co := ⟨?_, fun j hj => ?_, fun j hj => ?_, B.co.2.2.2⟩) (ik := ?_) (iu := fin_5 cf.sk2) (atm := AT_fr B.atm (fin_F (by decide)) (fin_A (by decide)) (fin_A (by decide)) rfl rfl rfl) (nmm := NM_fr B.nmm (fin_F (by decide)) (fin_A (by decide)) (fin_A (by decide)) rfl rfl rfl) (a22 := h.a22) (sw := B.sw) (sf := B.sf) (sm := B.sm) (f22 := h.f22) (s22 := fun j hj => (congrFun (fin_A (by decide)) j).trans (B.s22 j hj)) (r00 := h.r00) (z00 := B.z00) (tk := fun r hr => ?_) (pk := ?_) (pu := ?_) (pw := rfl) (lk := ?_) (lu := ?_) (lw := ?_) (ip := ?_) (iw := rfl) (b1 := ?_) (b2 := fun z => ?_) (b3 := ?_) (b4 := ?_) (b5 := ?_) (s2 := ?_) (s3 := ?_))
  · rw [fin_F (by decide)]; exact B.cu
  · rw [fin_A (by decide)]; exact B.ta j hj
  · rw [fin_A (by decide)]; exact B.bu
  · rw [fin_F (by decide)]; exact B.co.1
  · rw [fin_A (by decide)]; exact B.co.2.1 j hj
  · rw [fin_A (by decide)]; exact B.co.2.2.1 j hj
  · show n.i + 1 ≤ n.k; omega
  · rw [fin_6 cf.sk2, fin_A (by decide), fin_A (by decide), fin_A (by decide)]
    by_cases e : r = n.i
    · subst e
      rw [upd_self, wS_6, wS_7, wS_8, upd_self, upd_self, upd_self, cf.a7i, cf.a5, cf.a8, hl, h.lw]
      refine ⟨Or.inr (Or.inr (Or.inr (Or.inl ⟨rfl, rfl, n.ns, n.p + 1, len, by show n.ns < n.ns + 1; omega, rfl, rfl, h40, ?_, by show n.p + 1 + len < n.k; omega, hs, fun j hj => ?_⟩))), rfl⟩
      · show fsN n.fs n.ns (n.fs n.ns + len) (n.ns + 1) = fsN n.fs n.ns (n.fs n.ns + len) n.ns + len
        rw [ftop, fle n.ns (Nat.le_refl _)]
      · show (wS _ _ _ _ _ _ _).2.2.1 18 (fsN n.fs n.ns (n.fs n.ns + len) n.ns + j) = _
        rw [fle n.ns (Nat.le_refl _), wS_18, put_in hj]
        exact (h.ta (n.p + 1 + j) (by omega)).symm
    · have hr : r < n.i + 1 := hr
      rw [upd_ne e]
      exact B.tk r (by show r < n.i; omega)
  · show n.p + 1 + len + 1 ≤ n.k; omega
  · rw [fin_F (by decide)]; exact p9
  · show n.l ≤ n.p + 1 + len + 1 + 1; omega
  · rw [fin_F (by decide), cf.f410]; exact h.lu
  · rw [wS_I (by decide) (by decide) (by decide)]; exact h.lw
  · show n.i + 1 ≤ n.p + 1 + len + 1; omega
  · show 2 * (n.na - 22 + n.nn) ≤ n.p + 1 + len + 1 + 1; omega
  · have z : 2 * (n.na - 22 + n.nn) = n.p + 1 + len + 1 + 1 := z
    omega
  · show n.fa n.na ≤ 139 + (n.p + 1 + len + 1); omega
  · show n.fc (ncQ n.q n.nn) ≤ 1 + (n.p + 1 + len + 1); omega
  · show n.fr n.nn ≤ n.p + 1 + len + 1; omega
  · show 2 * (n.ns + 1) ≤ n.p + 1 + len + 1; omega
  · show fsN n.fs n.ns (n.fs n.ns + len) (n.ns + 1) ≤ n.p + 1 + len + 1
    rw [ftop]; omega
theorem upA_id {k : Nat} : upA w k (w.2.2.1 k) = w := by
  unfold upA
  have : (fun j => if j = k then w.2.2.1 k else w.2.2.1 j) = w.2.2.1 := by
    funext j
    by_cases hj : j = k
    · rw [if_pos hj, hj]
    · rw [if_neg hj]
  rw [this]
theorem str_both (h : TK u w n) (hl : AI u 8 n.i = Int32.ofNat n.l) (hp : n.p < n.k) (hN : 100000 ≤ N) : OUT u w n (fm_To_string N u 4) (fm_M_stringToken N w) := by
  have k4 := h.k4
  have hip := h.ip
  have hs2 := h.s2
  have hs3 := h.s3
  have s9 := sf_4_9 (v := Int32.ofNat (n.p + 1)) h.sk
  have e5 : FI (uF u 4 9 (.inl (Int32.ofNat (n.p + 1)))) 4 5 = Int32.ofNat n.i := by rw [FI_F (by decide)]; exact h.iu
  have s7 := sa_7 (g := upd (AI (uF u 4 9 (.inl (Int32.ofNat (n.p + 1)))) 7) n.i (Int32.ofNat (n.p + 1))) s9
  have e1 : fm_To_string N u 4 = gg_To_string N N (uA (uF u 4 9 (.inl (Int32.ofNat (n.p + 1)))) 7 (upd (AI (uF u 4 9 (.inl (Int32.ofNat (n.p + 1)))) 7) n.i (Int32.ofNat (n.p + 1)))) 4 (Int32.ofNat 0) := by
    unfold fm_To_string fb_To_string_0
    rw [gi_4_9 h.sk, q_bo, h.pu, q_suc, pf_4_9 h.sk, q_bo, gr_4_3 s9, q_bo, gi_4_5 s9, q_bo, gi_4_9 s9, q_bo, q_bo, e5, fi_4_9 h.sk, si_7 s9, if_pos (q_inb (by omega) (by decide)), q_bo, q_nat (by omega)]
    rfl
  generalize hu1 : uA (uF u 4 9 (.inl (Int32.ofNat (n.p + 1)))) 7 (upd (AI (uF u 4 9 (.inl (Int32.ofNat (n.p + 1)))) 7) n.i (Int32.ofNat (n.p + 1))) = u1 at s7 e1
  have cf0 : CF u (uF u 4 9 (.inl (Int32.ofNat (n.p + 1)))) n.i (AI u 7 n.i) := CF_9 s9 (Fr4.one (S := S9) (k := 9) rfl) rfl
  have cf1 : CF u u1 n.i (Int32.ofNat (n.p + 1)) := by rw [← hu1]; exact CF_7 cf0
  have A1' : ∀ j, j ≠ 7 → AI u1 j = AI u j := fun j x => by rw [← hu1, AI_A x, AI_F]
  have F1' : ∀ i j, i ≠ 4 → FI u1 i j = FI u i j := fun i j x => by rw [← hu1, FI_A, FI_F (Or.inl x)]
  have p1 : FI u1 4 9 = Int32.ofNat (n.p + 1) := by rw [← hu1, FI_A]; exact fi_4_9 h.sk
  obtain ⟨u2, i1, i2, i3, i4⟩ := strC_loop (N := N) h.k4 41 (n.p + 1) 0 u1 (N - 42) s7 (by rw [cf1.f41]; exact h.cu) p1 (by omega) (by omega)
  rw [show N - 42 + 41 + 1 = N from by omega, A1' 5 (by decide)] at i1
  rw [A1' 5 (by decide)] at i4
  have cf : CF u u2 n.i (Int32.ofNat (n.p + 1)) := by
    have g := CF_9 (i := n.i) i2 i3 cf1.a7i
    exact ⟨i2, g.a5.trans cf1.a5, g.a6.trans cf1.a6, g.a8.trans cf1.a8, fun j hj => (g.a7 j hj).trans (cf1.a7 j hj), g.a7i, g.a10.trans cf1.a10, g.a11.trans cf1.a11, g.f41.trans cf1.f41, g.f45.trans cf1.f45, g.f410.trans cf1.f410, g.f92.trans cf1.f92⟩
  have A2 : ∀ j, j ≠ 7 → j ≠ 4 → AI u2 j = AI u j := fun j x y => (fr4_AI i3 y).trans (A1' j x)
  have F2 : ∀ i j, i ≠ 4 → FI u2 i j = FI u i j := fun i j x => (fr4_FI i3 x).trans (F1' i j x)
  have fru : FrC AX FX u u2 := by
    have z : FrC AX FX u u1 := by rw [← hu1]; exact (FrC.fi (by decide) (Or.inr (Or.inl rfl))).tr FrC.a7
    exact z.tr (FrC.of4 i3)
  obtain ⟨j, j1, j2, j3⟩ := strM_loop (N := N) (k := n.k) (s := n.ns) (f0 := n.fs n.ns) (b := n.p + 1) h.cw h.k4 h.bw h.sw (by omega) (h.sf n.ns (Nat.le_refl _)) (by omega) (by omega) 41 0 (N - 43) (by omega) (by omega)
  rw [show N - 43 + 41 + 2 = N from by omega, Nat.add_zero, sts_eq (fun j hj => (h.ta j hj).symm)] at j2
  rw [Nat.add_zero, sts_eq (fun j hj => (h.ta j hj).symm)] at j3
  have e2 : fm_M_stringToken N w = gg_M_stringToken N N (stS w (n.fs n.ns) (n.p + 1) 0) (Int32.ofNat 0) 1 := by
    unfold fm_M_stringToken fb_M_stringToken_0
    rw [q_ls, h.pw, q_suc]
    have : stS w (n.fs n.ns) (n.p + 1) 0 = upI w 10 (Int32.ofNat (n.p + 1)) := by
      unfold stS
      rw [put_0, upA_id, Nat.add_zero]
    rw [this]
    rfl
  have fin : ∀ t : Int32, vp_nar .byte (t.toInt8.toInt32) = t → finS N (stS w (n.fs n.ns) (n.p + 1) j) j t = some (wS w n.i n.ns (n.fs n.ns) (n.p + 1) j t, ()) := fun t ht => by
    unfold finS fb_M_stringToken_123
    have i9 : (upI (stS w (n.fs n.ns) (n.p + 1) j) 10 ((stS w (n.fs n.ns) (n.p + 1) j).1 10 + 1)).1 9 = Int32.ofNat n.i := h.iw
    have i20 : (upI (stS w (n.fs n.ns) (n.p + 1) j) 10 ((stS w (n.fs n.ns) (n.p + 1) j).1 10 + 1)).1 20 = Int32.ofNat n.ns := h.sw
    rw [tok_ok (N := N) i9 (by omega), q_bn, i20, ht, show (stS w (n.fs n.ns) (n.p + 1) j).1 10 = Int32.ofNat (n.p + 1 + j) from rfl, q_suc]
    have x20 : (tkM (upI (stS w (n.fs n.ns) (n.p + 1) j) 10 (Int32.ofNat (n.p + 1 + j + 1))) n.i t (Int32.ofNat n.ns)).1 20 = Int32.ofNat n.ns := h.sw
    have x19 : (tkM (upI (stS w (n.fs n.ns) (n.p + 1) j) 10 (Int32.ofNat (n.p + 1 + j + 1))) n.i t (Int32.ofNat n.ns)).2.2.1 19 = w.2.2.1 19 := rfl
    show ck (inb ((tkM _ _ _ _).1 20) (ln 19)) _ = _
    rw [x20, q_ck (q_inb (by show n.ns < 2002; omega) (by decide)), q_suc, q_ck (q_inb (by show n.ns + 1 < 2002; omega) (by decide)), q_ls, x19, q_nat (by omega), q_nat (by omega), h.sf n.ns (Nat.le_refl _), q_add, q_ls]
    show some (upI _ 20 ((upA _ 19 _).1 20 + 1), ()) = _
    rw [show (upA (tkM (upI (stS w (n.fs n.ns) (n.p + 1) j) 10 (Int32.ofNat (n.p + 1 + j + 1))) n.i t (Int32.ofNat n.ns)) 19 (upd (w.2.2.1 19) (n.ns + 1) (Int32.ofNat (n.fs n.ns + j)))).1 20 = Int32.ofNat n.ns from x20, q_suc]
    rfl
  rw [e1, e2, i1, j2]
  have l8 : AI u2 8 n.i = Int32.ofNat n.l := by rw [cf.a8]; exact hl
  have f5 : FI u2 4 5 = Int32.ofNat n.i := by rw [cf.f45]; exact h.iu
  cases hs : sts (AI u 5) n.k 41 (n.p + 1) 0 with
  | none =>
    rw [show (if (none : Option Nat).isSome = true then (4 : Int32) else 45) = 45 from rfl, show (if (none : Option Nat).isSome = true then (5 : Int32) else 7) = 7 from rfl, fin 7 rfl]
    refine ⟨u2, _, _, 45, rfl, rfl, i2, f5, l8, ?_, fru, wS_fr, Or.inl ⟨rfl, TB_str (b := n.p + 1) (j := j) (t := 7) h cf (F2 1 2 (by decide)) (A2 3 (by decide) (by decide)) (A2 2 (by decide) (by decide)) (F2 12 2 (by decide)) (A2 14 (by decide) (by decide)) (A2 13 (by decide) (by decide)) rfl, rfl, rfl, upd_self, ?_⟩⟩
    · rfl
    · rw [wS_8, upd_self]; exact h.lw
  | some len =>
    obtain ⟨l1, l2, l3⟩ := i4 len hs
    have hj := j3 len hs
    subst hj
    rw [show (if (some len).isSome = true then (4 : Int32) else 45) = 4 from rfl, show (if (some len).isSome = true then (5 : Int32) else 7) = 5 from rfl, fin 5 rfl]
    refine ⟨u2, _, _, 4, rfl, rfl, i2, f5, l8, ?_, fru, wS_fr, Or.inr ⟨by decide, by decide, TK_str h hl cf (by rw [l3, Nat.sub_zero]) (F2 1 2 (by decide)) (A2 3 (by decide) (by decide)) (A2 2 (by decide) (by decide)) (F2 12 2 (by decide)) (A2 14 (by decide) (by decide)) (A2 13 (by decide) (by decide)) hs l2, rfl, ?_⟩⟩
    · rfl
    · show n.p < n.p + 1 + len + 1; omega
end STB
end
section
set_option maxRecDepth 100000
theorem bx_id {x : Option (CS × Int32)} : bx x (fun u r => some (u, r)) = x := by cases x <;> rfl
theorem sx_all {x : Int32} (hx : nrB x = x) : x &&& 255 ≠ -1 ∧ (isDg (x &&& 255) = true → isSm (x &&& 255) = false ∧ isGr (x &&& 255) = false) := by
  have := sg_all (fun x => !decide (x &&& 255 = -1) && (!isDg (x &&& 255) || (!isSm (x &&& 255) && !isGr (x &&& 255)))) (by decide +kernel) hx
  simp only [Bool.and_eq_true, Bool.not_eq_true', decide_eq_false_iff_not, Bool.or_eq_true] at this
  refine ⟨this.1, fun z => ?_⟩
  rcases this.2 with y | y
  · rw [z] at y; cases y
  · exact y
section SCN
variable {u : CS} {w : MS} {n : TN} {N : Nat}
theorem scan_both {G : (MS → Option (MS × Unit)) × (MS → Option (MS × Unit))} (h : TK u w n) (hl : AI u 8 n.i = Int32.ofNat n.l) (hv : AI u 7 n.i = 0) (hp : n.p < n.k) (x1 : AI u 5 n.p ≠ 10) (x2 : AI u 5 n.p ≠ 9) (x3 : AI u 5 n.p ≠ 32) (x4 : AI u 5 n.p ≠ 37) (hN : 100000 ≤ N) : ∃ Y, fb_M_readTokens_53 N G w = bnd Y (fun u3 _ => G.1 u3) ∧ OUT u w n (fm_To_scan N u 4) Y := by
  have k4 := h.k4
  have hx := h.bu n.p (by omega)
  obtain ⟨z1, z2, z3, z4⟩ := z_and hx
  obtain ⟨y1, y2⟩ := sx_all hx
  have eb : fm_M_byteAt N w (w.1 10) = some (w, AI u 5 n.p &&& 255) := by
    rw [h.pw, atM (N := N) (w := w) (k := n.k) (p := n.p) h.cw h.k4 (by omega)]
    unfold sgA
    rw [if_pos hp, h.ta n.p hp]
  have ec : fm_To_signAt N u 4 (Int32.ofNat n.p) = some (u, AI u 5 n.p &&& 255) := by
    rw [atC h.sk h.cu h.k4 (by omega)]
    unfold sgA
    rw [if_pos hp]
  have ww := w_and hx
  have wd := d_and hx
  have hW : isW (AI u 5 n.p &&& 255) = (isDg (AI u 5 n.p &&& 255) || isSm (AI u 5 n.p &&& 255) || isGr (AI u 5 n.p &&& 255)) := rfl
  unfold fm_To_scan fb_To_scan_0 fb_M_readTokens_53
  rw [gi_4_9 h.sk, q_bo, h.pu, q_ck (io_4 h.sk), ec, q_bx, decide_eq_false y1, q_b0, woC, q_bx, b2i_0, eb, q_bn, z1, decide_eq_false x1, q_b0, z2, decide_eq_false x2, q_b0, z3, decide_eq_false x3, q_b0, z4, decide_eq_false x4, q_b0, smM, q_bn, b2i_0]
  have word : (isSm (AI u 5 n.p &&& 255) = true ∨ isGr (AI u 5 n.p &&& 255) = true) → isW (AI u 5 n.p) = true ∧ isDg (AI u 5 n.p) = false := fun z => by
    have d0 : isDg (AI u 5 n.p &&& 255) = false := by
      cases hd : isDg (AI u 5 n.p &&& 255) with
      | false => rfl
      | true =>
        obtain ⟨a, b⟩ := y2 hd
        rcases z with z | z
        · rw [a] at z; cases z
        · rw [b] at z; cases z
    refine ⟨?_, by rw [← wd]; exact d0⟩
    rw [← ww, hW, d0]
    rcases z with z | z
    · rw [z]; rfl
    · rw [z, Bool.or_true]
  have classW : isW (AI u 5 n.p) = true → isDg (AI u 5 n.p) = false → br (!isW (AI u 5 n.p &&& 255)) (br (decide (AI u 5 n.p &&& 255 = 34)) (ck (isO u 4 9) (bx (fm_To_string N u 4) (fun u5 r5 => fb_To_scan_61 N () u5 r5))) (ck (isO u 4 9) (bx (fm_To_signs N u 4 (AI u 5 n.p &&& 255)) (fun u4 r4 => fb_To_scan_61 N () u4 r4)))) (bx (fm_To_isDigit N u (AI u 5 n.p &&& 255)) (fun u6 r6 => br (decide (r6 = 0)) (ck (isO u6 4 9) (bx (fm_To_word N u6 4 (AI u 5 n.p &&& 255)) (fun u7 r7 => fb_To_scan_42 N () u7 r7))) (ck (isO u6 4 9) (bx (fm_To_number N u6 4) (fun u8 r8 => fb_To_scan_42 N () u8 r8))))) = fm_To_word N u 4 (AI u 5 n.p &&& 255) := fun a b => by
    rw [ww, a]
    show br false _ _ = _
    rw [q_b0, dgC, q_bx, b2i_0, wd, b]
    show br true _ _ = _
    rw [q_b1, q_ck (io_4 h.sk)]
    exact bx_id
  cases hs : isSm (AI u 5 n.p &&& 255) with
  | true =>
    obtain ⟨a, b⟩ := word (Or.inl hs)
    refine ⟨fm_M_wordToken N w (AI u 5 n.p &&& 255), rfl, ?_⟩
    refine Eq.mpr (congrArg (fun z => OUT u w n z (fm_M_wordToken N w (AI u 5 n.p &&& 255))) (classW a b)) ?_
    exact word_both h hl hv hp rfl a b hN
  | false =>
    show ∃ Y, br true _ _ = _ ∧ _
    rw [q_b1, grM, q_bn, b2i_0]
    cases hg : isGr (AI u 5 n.p &&& 255) with
    | true =>
      obtain ⟨a, b⟩ := word (Or.inr hg)
      refine ⟨fm_M_wordToken N w (AI u 5 n.p &&& 255), rfl, ?_⟩
      refine Eq.mpr (congrArg (fun z => OUT u w n z (fm_M_wordToken N w (AI u 5 n.p &&& 255))) (classW a b)) ?_
      exact word_both h hl hv hp rfl a b hN
    | false =>
      show ∃ Y, br true _ _ = _ ∧ _
      rw [q_b1, dgM, q_bn, b2i_0]
      cases hd : isDg (AI u 5 n.p &&& 255) with
      | true =>
        refine ⟨fm_M_numberToken N w, rfl, ?_⟩
        have e : isW (AI u 5 n.p &&& 255) = true := by rw [hW, hd]; rfl
        rw [e]
        show OUT u w n (br false _ _) _
        rw [q_b0, dgC, q_bx, b2i_0, hd]
        show OUT u w n (br false _ _) _
        rw [q_b0, q_ck (io_4 h.sk)]
        refine Eq.mpr (congrArg (fun z => OUT u w n z (fm_M_numberToken N w)) (show bx (fm_To_number N u 4) (fun u8 r8 => fb_To_scan_42 N () u8 r8) = fm_To_number N u 4 from bx_id)) ?_
        exact num_both h hl hv hp (by rw [← wd]; exact hd) hN
      | false =>
        have e : isW (AI u 5 n.p &&& 255) = false := by rw [hW, hd, hs, hg]; rfl
        rw [e]
        show ∃ Y, br true _ _ = _ ∧ OUT u w n (br true _ _) _
        rw [q_b1, q_b1]
        by_cases h34 : AI u 5 n.p &&& 255 = 34
        · rw [decide_eq_true h34, q_b1, q_b1]
          refine ⟨fm_M_stringToken N w, rfl, ?_⟩
          rw [q_ck (io_4 h.sk)]
          refine Eq.mpr (congrArg (fun z => OUT u w n z (fm_M_stringToken N w)) (show bx (fm_To_string N u 4) (fun u5 r5 => fb_To_scan_61 N () u5 r5) = fm_To_string N u 4 from bx_id)) ?_
          exact str_both h hl hp hN
        · rw [decide_eq_false h34, q_b0, q_b0]
          refine ⟨fm_M_signToken N w (AI u 5 n.p &&& 255), rfl, ?_⟩
          rw [q_ck (io_4 h.sk)]
          refine Eq.mpr (congrArg (fun z => OUT u w n z (fm_M_signToken N w (AI u 5 n.p &&& 255))) (show bx (fm_To_signs N u 4 (AI u 5 n.p &&& 255)) (fun u4 r4 => fb_To_scan_61 N () u4 r4) = fm_To_signs N u 4 (AI u 5 n.p &&& 255) from bx_id)) ?_
          exact sig_both h hl hv hp hN
end SCN
end
section
set_option maxRecDepth 100000
theorem skp_le {g : Nat → Int32} {k : Nat} : ∀ m p l cm, p ≤ k → p ≤ (skp g k m p l cm).1 ∧ (skp g k m p l cm).1 ≤ k ∧ (skp g k m p l cm).2 + p ≤ l + (skp g k m p l cm).1 := by
  intro m
  induction m with
  | zero => intro p l cm h; exact ⟨Nat.le_refl _, h, Nat.le_refl _⟩
  | succ m ih =>
    intro p l cm h
    have e : skp g k (m + 1) p l cm = if k ≤ p then (p, l) else if (!decide (g p = 10) && (cm || decide (g p = 37))) = false ∧ g p ≠ 9 ∧ g p ≠ 10 ∧ g p ≠ 32 then (p, l) else skp g k m (p + 1) (if g p = 10 then l + 1 else l) (!decide (g p = 10) && (cm || decide (g p = 37))) := rfl
    rw [e]
    by_cases h1 : k ≤ p
    · rw [if_pos h1]; exact ⟨Nat.le_refl _, h, Nat.le_refl _⟩
    · rw [if_neg h1]
      by_cases h2 : (!decide (g p = 10) && (cm || decide (g p = 37))) = false ∧ g p ≠ 9 ∧ g p ≠ 10 ∧ g p ≠ 32
      · rw [if_pos h2]; exact ⟨Nat.le_refl _, h, Nat.le_refl _⟩
      · rw [if_neg h2]
        obtain ⟨a, b, c⟩ := ih (p + 1) (if g p = 10 then l + 1 else l) (!decide (g p = 10) && (cm || decide (g p = 37))) (by omega)
        refine ⟨by omega, b, ?_⟩
        split at c <;> simp_all <;> omega
theorem skp_end {g : Nat → Int32} {k : Nat} : ∀ m p l cm, p + m = k + 1 → p ≤ k → (skp g k m p l cm).1 = k ∨ (g (skp g k m p l cm).1 ≠ 10 ∧ g (skp g k m p l cm).1 ≠ 9 ∧ g (skp g k m p l cm).1 ≠ 32 ∧ g (skp g k m p l cm).1 ≠ 37) := by
  intro m
  induction m with
  | zero => intro p l cm h h9; omega
  | succ m ih =>
    intro p l cm h h9
    have e : skp g k (m + 1) p l cm = if k ≤ p then (p, l) else if (!decide (g p = 10) && (cm || decide (g p = 37))) = false ∧ g p ≠ 9 ∧ g p ≠ 10 ∧ g p ≠ 32 then (p, l) else skp g k m (p + 1) (if g p = 10 then l + 1 else l) (!decide (g p = 10) && (cm || decide (g p = 37))) := rfl
    rw [e]
    by_cases h1 : k ≤ p
    · rw [if_pos h1]; exact Or.inl (by show p = k; omega)
    · rw [if_neg h1]
      by_cases h2 : (!decide (g p = 10) && (cm || decide (g p = 37))) = false ∧ g p ≠ 9 ∧ g p ≠ 10 ∧ g p ≠ 32
      · rw [if_pos h2]
        obtain ⟨a, b, c, d⟩ := h2
        refine Or.inr ⟨c, b, d, fun z => ?_⟩
        have z : g p = 37 := z
        rw [decide_eq_false c, decide_eq_true z, Bool.or_true] at a
        cases a
      · rw [if_neg h2]
        exact ih (p + 1) _ _ (by omega) (by omega)
theorem skp_eq {f g : Nat → Int32} {k : Nat} (h : ∀ j, j < k → f j = g j) : ∀ m p l cm, skp f k m p l cm = skp g k m p l cm := by
  intro m
  induction m with
  | zero => intro p l cm; rfl
  | succ m ih =>
    intro p l cm
    have e : ∀ g : Nat → Int32, skp g k (m + 1) p l cm = if k ≤ p then (p, l) else if (!decide (g p = 10) && (cm || decide (g p = 37))) = false ∧ g p ≠ 9 ∧ g p ≠ 10 ∧ g p ≠ 32 then (p, l) else skp g k m (p + 1) (if g p = 10 then l + 1 else l) (!decide (g p = 10) && (cm || decide (g p = 37))) := fun _ => rfl
    rw [e, e]
    by_cases h1 : k ≤ p
    · rw [if_pos h1, if_pos h1]
    · rw [if_neg h1, if_neg h1, h p (by omega), ih]
section ALL
variable {u : CS} {w : MS} {n : TN} {N : Nat}
theorem opn_TK (h : TK u w n) : opn w := by
  have hk := h.k4
  have hi := h.ik
  by_cases e : n.i = 0
  · refine Or.inl ?_
    rw [h.iw, e]; rfl
  · have e1 : w.1 9 - 1 = Int32.ofNat (n.i - 1) := by rw [h.iw]; exact q_sub (m := 1) (by omega)
    refine Or.inr ⟨?_, ?_, ?_⟩
    · rw [h.iw]; exact fun z => e (q_inj (by omega) (by decide) z)
    · rw [e1]; exact q_inb (by show n.i - 1 < 4002; omega) (by decide)
    · rw [e1, q_nat (by omega)]
      rcases (h.tk (n.i - 1) (by omega)).1 with ⟨-, a, -⟩ | ⟨-, a, -⟩ | ⟨-, a, -⟩ | ⟨-, a, -⟩ | ⟨a, -⟩ | ⟨a, -⟩ <;> rw [a] <;> decide
theorem TK_skip {u1 : CS} {p2 l2 : Nat} (h : TK u w n) (hs : skB u1 = true) (f : Fr4 S90 u u1) (p9 : FI u1 4 9 = Int32.ofNat p2) (l9 : FI u1 4 10 = Int32.ofNat l2) (hp : n.p ≤ p2) (hk : p2 ≤ n.k) (hl : l2 + n.p ≤ n.l + p2) : TK u1 (sPL w p2 l2) ⟨n.k, n.i, p2, l2, n.na, n.fa, n.nn, n.fc, n.fr, n.q, n.ns, n.fs⟩ := by
  have a : ∀ j, j ≠ 4 → AI u1 j = AI u j := fun j x => fr4_AI f x
  have g : ∀ i j, i ≠ 4 → FI u1 i j = FI u i j := fun i j x => fr4_FI f x
  have g4 : ∀ j, j ≠ 9 → j ≠ 10 → FI u1 4 j = FI u 4 j := fun j x y => f.2.2 j (fun z => by rcases z with z | z; exact x z; exact y z)
  obtain ⟨c1, c2, c3, c4⟩ := h.co
  have h1 := h.b1
  have hlk := h.lk
  have hip := h.ip
  have hb3 := h.b3
  have hb4 := h.b4
  have hb5 := h.b5
  have hs2 := h.s2
  have hs3 := h.s3
  have hb2 : 2 * (n.na - 22 + n.nn) = p2 + 1 → p2 = n.k ∨ isW (AI u1 5 p2) = false := fun z => by
    have e : p2 = n.p := by omega
    rw [a 5 (by decide), e]
    exact h.b2 (by omega)
  exact (TK.mk1 (sk := hs) (k4 := h.k4) (cu := by rw [g4 1 (by decide) (by decide)]; exact h.cu) (cw := h.cw) (ta := fun j hj => by rw [a 5 (by decide)]; exact h.ta j hj) (bu := by rw [a 5 (by decide)]; exact h.bu) (bw := h.bw) (co := ⟨by rw [g 9 2 (by decide)]; exact c1, fun j hj => by rw [a 10 (by decide)]; exact c2 j hj, fun j hj => by rw [a 11 (by decide)]; exact c3 j hj, c4⟩) (ik := h.ik) (iu := by rw [g4 5 (by decide) (by decide)]; exact h.iu) (atm := AT_fr h.atm (g 1 2 (by decide)) (a 3 (by decide)) (a 2 (by decide)) rfl rfl rfl) (nmm := NM_fr h.nmm (g 12 2 (by decide)) (a 14 (by decide)) (a 13 (by decide)) rfl rfl rfl) (a22 := h.a22) (sw := h.sw) (sf := h.sf) (sm := h.sm) (f22 := h.f22) (s22 := fun j hj => (congrFun (a 2 (by decide)) j).trans (h.s22 j hj)) (r00 := h.r00) (z00 := h.z00) (tk := fun j hj => by rw [a 5 (by decide), a 6 (by decide), a 7 (by decide), a 8 (by decide)]; exact h.tk j hj) (pk := hk) (pu := p9) (pw := rfl) (lk := by show l2 ≤ p2 + 1; omega) (lu := l9) (lw := rfl) (ip := by show n.i ≤ p2; omega) (iw := h.iw) (b1 := by show 2 * (n.na - 22 + n.nn) ≤ p2 + 1; omega) (b2 := hb2) (b3 := by show n.fa n.na ≤ 139 + p2; omega) (b4 := by show n.fc (ncQ n.q n.nn) ≤ 1 + p2; omega) (b5 := by show n.fr n.nn ≤ p2; omega) (s2 := by show 2 * n.ns ≤ p2; omega) (s3 := by show n.fs n.ns ≤ p2; omega))
def uLV (u : CS) (i : Nat) (x : Int32) : CS := uA (uA u 8 (upd (AI u 8) i x)) 7 (upd (AI u 7) i 0)
theorem uLV_sk {i : Nat} {x : Int32} (h : skB u = true) : skB (uLV u i x) = true := sa_7 (sa_8 h)
theorem uLV_A {i j : Nat} {x : Int32} (h7 : j ≠ 7) (h8 : j ≠ 8) : AI (uLV u i x) j = AI u j := by unfold uLV; rw [AI_A h7, AI_A h8]
theorem uLV_F {i a b : Nat} {x : Int32} : FI (uLV u i x) a b = FI u a b := by unfold uLV; rw [FI_A, FI_A]
theorem uLV_7 {i : Nat} {x : Int32} (h : skB u = true) : AI (uLV u i x) 7 = upd (AI u 7) i 0 := fa_7 (sa_8 h)
theorem uLV_8 {i : Nat} {x : Int32} (h : skB u = true) : AI (uLV u i x) 8 = upd (AI u 8) i x := by unfold uLV; rw [AI_A (by decide), fa_8 h]
theorem uLV_fr {i : Nat} {x : Int32} : FrC AX FX u (uLV u i x) := (FrC.ai (by decide) (by show 8 < 15; decide)).tr FrC.a7
theorem TK_wr {x : Int32} (h : TK u w n) : TK (uLV u n.i x) w n := by
  have a : ∀ j, j ≠ 7 → j ≠ 8 → AI (uLV u n.i x) j = AI u j := fun j x y => uLV_A x y
  obtain ⟨c1, c2, c3, c4⟩ := h.co
  have htk : ∀ j, j < n.i → KV (AI (uLV u n.i x) 5) n.k (w.2.2.1 18) n.q n.na n.nn n.ns n.fs (AI (uLV u n.i x) 6 j) (AI (uLV u n.i x) 7 j) (w.2.2.1 6 j) (w.2.2.1 7 j) ∧ AI (uLV u n.i x) 8 j = w.2.2.1 8 j := fun j hj => by
    rw [a 5 (by decide) (by decide), a 6 (by decide) (by decide), uLV_7 h.sk, uLV_8 h.sk, upd_ne (by omega), upd_ne (by omega)]
    exact h.tk j hj
  exact (TK.mk1 (sk := uLV_sk h.sk) (k4 := h.k4) (cu := by rw [uLV_F]; exact h.cu) (cw := h.cw) (ta := fun j hj => by rw [a 5 (by decide) (by decide)]; exact h.ta j hj) (bu := by rw [a 5 (by decide) (by decide)]; exact h.bu) (bw := h.bw) (co := ⟨by rw [uLV_F]; exact c1, fun j hj => by rw [a 10 (by decide) (by decide)]; exact c2 j hj, fun j hj => by rw [a 11 (by decide) (by decide)]; exact c3 j hj, c4⟩) (ik := h.ik) (iu := by rw [uLV_F]; exact h.iu) (atm := AT_fr h.atm uLV_F (a 3 (by decide) (by decide)) (a 2 (by decide) (by decide)) rfl rfl rfl) (nmm := NM_fr h.nmm uLV_F (a 14 (by decide) (by decide)) (a 13 (by decide) (by decide)) rfl rfl rfl) (a22 := h.a22) (sw := h.sw) (sf := h.sf) (sm := h.sm) (f22 := h.f22) (s22 := fun j hj => (congrFun (a 2 (by decide) (by decide)) j).trans (h.s22 j hj)) (r00 := h.r00) (z00 := h.z00) (tk := htk) (pk := h.pk) (pu := by rw [uLV_F]; exact h.pu) (pw := h.pw) (lk := h.lk) (lu := by rw [uLV_F]; exact h.lu) (lw := h.lw) (ip := h.ip) (iw := h.iw) (b1 := h.b1) (b2 := fun z => by rw [a 5 (by decide) (by decide)]; exact h.b2 z) (b3 := h.b3) (b4 := h.b4) (b5 := h.b5) (s2 := h.s2) (s3 := h.s3))
end ALL
def TOKS (u : CS) (w : MS) (n : TN) (bad : Bool) : Prop := (TB u w n) ∧ (AI u 6 n.i = if bad = true then 45 else 0) ∧ (AI u 8 n.i = w.2.2.1 8 n.i) ∧ (w.2.2.1 6 n.i = if bad = true then 7 else 0) ∧ (w.1 9 = Int32.ofNat (n.i + if bad = true then 1 else 0)) ∧ (bad = true → w.2.2.1 6 (n.i + 1) = 0)
theorem TOKS.toTB {u : CS} {w : MS} {n : TN} {bad : Bool} (h : TOKS u w n bad) : TB u w n := h.1
theorem TOKS.sk {u : CS} {w : MS} {n : TN} {bad : Bool} (h : TOKS u w n bad) : skB u = true := (TOKS.toTB h).sk
theorem TOKS.k4 {u : CS} {w : MS} {n : TN} {bad : Bool} (h : TOKS u w n bad) : n.k ≤ 4000 := (TOKS.toTB h).k4
theorem TOKS.cu {u : CS} {w : MS} {n : TN} {bad : Bool} (h : TOKS u w n bad) : FI u 4 1 = Int32.ofNat n.k := (TOKS.toTB h).cu
theorem TOKS.cw {u : CS} {w : MS} {n : TN} {bad : Bool} (h : TOKS u w n bad) : w.1 5 = Int32.ofNat n.k := (TOKS.toTB h).cw
theorem TOKS.ta {u : CS} {w : MS} {n : TN} {bad : Bool} (h : TOKS u w n bad) : ∀ j, j < n.k → AI u 5 j = w.2.2.1 4 j := (TOKS.toTB h).ta
theorem TOKS.bu {u : CS} {w : MS} {n : TN} {bad : Bool} (h : TOKS u w n bad) : bytB (AI u 5) := (TOKS.toTB h).bu
theorem TOKS.bw {u : CS} {w : MS} {n : TN} {bad : Bool} (h : TOKS u w n bad) : bytB (w.2.2.1 4) := (TOKS.toTB h).bw
theorem TOKS.co {u : CS} {w : MS} {n : TN} {bad : Bool} (h : TOKS u w n bad) : CON u w := (TOKS.toTB h).co
theorem TOKS.ik {u : CS} {w : MS} {n : TN} {bad : Bool} (h : TOKS u w n bad) : n.i ≤ n.k := (TOKS.toTB h).ik
theorem TOKS.iu {u : CS} {w : MS} {n : TN} {bad : Bool} (h : TOKS u w n bad) : FI u 4 5 = Int32.ofNat n.i := (TOKS.toTB h).iu
theorem TOKS.atm {u : CS} {w : MS} {n : TN} {bad : Bool} (h : TOKS u w n bad) : AT u w n.fa n.na := (TOKS.toTB h).atm
theorem TOKS.nmm {u : CS} {w : MS} {n : TN} {bad : Bool} (h : TOKS u w n bad) : NMz u w n.fc n.fr n.q n.nn := (TOKS.toTB h).nmm
theorem TOKS.a22 {u : CS} {w : MS} {n : TN} {bad : Bool} (h : TOKS u w n bad) : 22 ≤ n.na := (TOKS.toTB h).a22
theorem TOKS.sw {u : CS} {w : MS} {n : TN} {bad : Bool} (h : TOKS u w n bad) : w.1 20 = Int32.ofNat n.ns := (TOKS.toTB h).sw
theorem TOKS.sf {u : CS} {w : MS} {n : TN} {bad : Bool} (h : TOKS u w n bad) : ∀ j, j ≤ n.ns → w.2.2.1 19 j = Int32.ofNat (n.fs j) := (TOKS.toTB h).sf
theorem TOKS.sm {u : CS} {w : MS} {n : TN} {bad : Bool} (h : TOKS u w n bad) : ∀ r, r < n.ns → n.fs (r + 1) ≤ n.fs n.ns := (TOKS.toTB h).sm
theorem TOKS.f22 {u : CS} {w : MS} {n : TN} {bad : Bool} (h : TOKS u w n bad) : ∀ j, j ≤ 22 → n.fa j = fa0 j := (TOKS.toTB h).f22
theorem TOKS.s22 {u : CS} {w : MS} {n : TN} {bad : Bool} (h : TOKS u w n bad) : ∀ j, j < 139 → AI u 2 j = sa0 j := (TOKS.toTB h).s22
theorem TOKS.r00 {u : CS} {w : MS} {n : TN} {bad : Bool} (h : TOKS u w n bad) : n.fr 0 = 0 := (TOKS.toTB h).r00
theorem TOKS.z00 {u : CS} {w : MS} {n : TN} {bad : Bool} (h : TOKS u w n bad) : n.fs 0 = 0 := (TOKS.toTB h).z00
theorem TOKS.tk {u : CS} {w : MS} {n : TN} {bad : Bool} (h : TOKS u w n bad) : ∀ j, j < n.i → KV (AI u 5) n.k (w.2.2.1 18) n.q n.na n.nn n.ns n.fs (AI u 6 j) (AI u 7 j) (w.2.2.1 6 j) (w.2.2.1 7 j) ∧ AI u 8 j = w.2.2.1 8 j := (TOKS.toTB h).tk
theorem TOKS.e6 {u : CS} {w : MS} {n : TN} {bad : Bool} (h : TOKS u w n bad) : AI u 6 n.i = if bad = true then 45 else 0 := h.2.1
theorem TOKS.e8 {u : CS} {w : MS} {n : TN} {bad : Bool} (h : TOKS u w n bad) : AI u 8 n.i = w.2.2.1 8 n.i := h.2.2.1
theorem TOKS.m6 {u : CS} {w : MS} {n : TN} {bad : Bool} (h : TOKS u w n bad) : w.2.2.1 6 n.i = if bad = true then 7 else 0 := h.2.2.2.1
theorem TOKS.m9 {u : CS} {w : MS} {n : TN} {bad : Bool} (h : TOKS u w n bad) : w.1 9 = Int32.ofNat (n.i + if bad = true then 1 else 0) := h.2.2.2.2.1
theorem TOKS.m7 {u : CS} {w : MS} {n : TN} {bad : Bool} (h : TOKS u w n bad) : bad = true → w.2.2.1 6 (n.i + 1) = 0 := h.2.2.2.2.2
theorem TOKS.mk1 {u : CS} {w : MS} {n : TN} {bad : Bool} (sk : skB u = true) (k4 : n.k ≤ 4000) (cu : FI u 4 1 = Int32.ofNat n.k) (cw : w.1 5 = Int32.ofNat n.k) (ta : ∀ j, j < n.k → AI u 5 j = w.2.2.1 4 j) (bu : bytB (AI u 5)) (bw : bytB (w.2.2.1 4)) (co : CON u w) (ik : n.i ≤ n.k) (iu : FI u 4 5 = Int32.ofNat n.i) (atm : AT u w n.fa n.na) (nmm : NMz u w n.fc n.fr n.q n.nn) (a22 : 22 ≤ n.na) (sw : w.1 20 = Int32.ofNat n.ns) (sf : ∀ j, j ≤ n.ns → w.2.2.1 19 j = Int32.ofNat (n.fs j)) (sm : ∀ r, r < n.ns → n.fs (r + 1) ≤ n.fs n.ns) (f22 : ∀ j, j ≤ 22 → n.fa j = fa0 j) (s22 : ∀ j, j < 139 → AI u 2 j = sa0 j) (r00 : n.fr 0 = 0) (z00 : n.fs 0 = 0) (tk : ∀ j, j < n.i → KV (AI u 5) n.k (w.2.2.1 18) n.q n.na n.nn n.ns n.fs (AI u 6 j) (AI u 7 j) (w.2.2.1 6 j) (w.2.2.1 7 j) ∧ AI u 8 j = w.2.2.1 8 j) (e6 : AI u 6 n.i = if bad = true then 45 else 0) (e8 : AI u 8 n.i = w.2.2.1 8 n.i) (m6 : w.2.2.1 6 n.i = if bad = true then 7 else 0) (m9 : w.1 9 = Int32.ofNat (n.i + if bad = true then 1 else 0)) (m7 : bad = true → w.2.2.1 6 (n.i + 1) = 0) : TOKS u w n bad := ⟨⟨sk, k4, cu, cw, ta, bu, bw, co, ik, iu, atm, nmm, a22, sw, sf, sm, f22, s22, r00, z00, tk⟩, e6, e8, m6, m9, m7⟩
theorem TOKS.mk2 {u : CS} {w : MS} {n : TN} {bad : Bool} (toTB : TB u w n) (e6 : AI u 6 n.i = if bad = true then 45 else 0) (e8 : AI u 8 n.i = w.2.2.1 8 n.i) (m6 : w.2.2.1 6 n.i = if bad = true then 7 else 0) (m9 : w.1 9 = Int32.ofNat (n.i + if bad = true then 1 else 0)) (m7 : bad = true → w.2.2.1 6 (n.i + 1) = 0) : TOKS u w n bad := ⟨toTB, e6, e8, m6, m9, m7⟩
end
section
set_option maxRecDepth 100000
section ALB
variable {u : CS} {w : MS} {n : TN} {N : Nat}
theorem TB_int {w2 : MS} (h : TB u w n) (h5 : w2.1 5 = w.1 5) (h14 : w2.1 14 = w.1 14) (h17 : w2.1 17 = w.1 17) (h20 : w2.1 20 = w.1 20) (hA : ∀ k, k ≠ 6 → k ≠ 7 → k ≠ 8 → w2.2.2.1 k = w.2.2.1 k) (h6 : ∀ j, j < n.i → w2.2.2.1 6 j = w.2.2.1 6 j) (h7 : ∀ j, j < n.i → w2.2.2.1 7 j = w.2.2.1 7 j) (h8 : ∀ j, j < n.i → w2.2.2.1 8 j = w.2.2.1 8 j) : TB u w2 n := by
  have a : ∀ k, k ≠ 6 → k ≠ 7 → k ≠ 8 → w2.2.2.1 k = w.2.2.1 k := hA
  obtain ⟨c1, c2, c3, c4, c5, c6, c7, c8⟩ := h.co
  have htk : ∀ j, j < n.i → KV (AI u 5) n.k (w2.2.2.1 18) n.q n.na n.nn n.ns n.fs (AI u 6 j) (AI u 7 j) (w2.2.2.1 6 j) (w2.2.2.1 7 j) ∧ AI u 8 j = w2.2.2.1 8 j := fun j hj => by
    rw [a 18 (by decide) (by decide) (by decide), h6 j hj, h7 j hj, h8 j hj]
    exact h.tk j hj
  exact (TB.mk1 (sk := h.sk) (k4 := h.k4) (cu := h.cu) (cw := h5.trans h.cw) (ta := fun j hj => by rw [a 4 (by decide) (by decide) (by decide)]; exact h.ta j hj) (bu := h.bu) (bw := by rw [a 4 (by decide) (by decide) (by decide)]; exact h.bw) (co := ⟨c1, c2, c3, (a 0 (by decide) (by decide) (by decide)).trans c4, (a 21 (by decide) (by decide) (by decide)).trans c5, (a 22 (by decide) (by decide) (by decide)).trans c6, (a 1 (by decide) (by decide) (by decide)).trans c7, (a 2 (by decide) (by decide) (by decide)).trans c8⟩) (ik := h.ik) (iu := h.iu) (atm := AT_fr h.atm rfl rfl rfl h14 (a 12 (by decide) (by decide) (by decide)) (a 13 (by decide) (by decide) (by decide))) (nmm := NM_fr h.nmm rfl rfl rfl h17 (a 15 (by decide) (by decide) (by decide)) (a 16 (by decide) (by decide) (by decide))) (a22 := h.a22) (sw := h20.trans h.sw) (sf := fun j hj => by rw [a 19 (by decide) (by decide) (by decide)]; exact h.sf j hj) (sm := h.sm) (f22 := h.f22) (s22 := h.s22) (r00 := h.r00) (z00 := h.z00) (tk := htk))
theorem TB_6 {c : Int32} (h : TB u w n) : TB (uA u 6 (upd (AI u 6) n.i c)) w n := by
  have a : ∀ j, j ≠ 6 → AI (uA u 6 (upd (AI u 6) n.i c)) j = AI u j := fun j x => AI_A x
  obtain ⟨c1, c2, c3, c4⟩ := h.co
  have htk : ∀ j, j < n.i → KV (AI (uA u 6 (upd (AI u 6) n.i c)) 5) n.k (w.2.2.1 18) n.q n.na n.nn n.ns n.fs (AI (uA u 6 (upd (AI u 6) n.i c)) 6 j) (AI (uA u 6 (upd (AI u 6) n.i c)) 7 j) (w.2.2.1 6 j) (w.2.2.1 7 j) ∧ AI (uA u 6 (upd (AI u 6) n.i c)) 8 j = w.2.2.1 8 j := fun j hj => by
    rw [a 5 (by decide), a 7 (by decide), a 8 (by decide), fa_6 h.sk, upd_ne (by omega)]
    exact h.tk j hj
  exact (TB.mk1 (sk := sa_6 h.sk) (k4 := h.k4) (cu := FI_A.trans h.cu) (cw := h.cw) (ta := fun j hj => by rw [a 5 (by decide)]; exact h.ta j hj) (bu := by rw [a 5 (by decide)]; exact h.bu) (bw := h.bw) (co := ⟨FI_A.trans c1, fun j hj => by rw [a 10 (by decide)]; exact c2 j hj, fun j hj => by rw [a 11 (by decide)]; exact c3 j hj, c4⟩) (ik := h.ik) (iu := FI_A.trans h.iu) (atm := AT_fr h.atm FI_A (a 3 (by decide)) (a 2 (by decide)) rfl rfl rfl) (nmm := NM_fr h.nmm FI_A (a 14 (by decide)) (a 13 (by decide)) rfl rfl rfl) (a22 := h.a22) (sw := h.sw) (sf := h.sf) (sm := h.sm) (f22 := h.f22) (s22 := fun j hj => (congrFun (a 2 (by decide)) j).trans (h.s22 j hj)) (r00 := h.r00) (z00 := h.z00) (tk := htk))
theorem a6_fr {g : Nat → Int32} : FrC AX FX u (uA u 6 g) := FrC.ai (by decide) (by show 6 < 15; decide)
theorem rt_end {G : (MS → Option (MS × Unit)) × (MS → Option (MS × Unit))} {i : Nat} (h9 : w.1 9 = Int32.ofNat i) (hi : i < 4002) : fb_M_readTokens_216 N G w = some (upI (tkM w i 0 0) 9 (Int32.ofNat i), ()) := by
  unfold fb_M_readTokens_216
  rw [tok_ok (N := N) (s := 0) (v := 0) h9 hi, q_bn, q_ls, show (tkM w i _ 0).1 9 = Int32.ofNat (i + 1) from rfl, show (1 : Int32) = Int32.ofNat 1 from rfl, q_sub (by omega), show i + 1 - 1 = i from by omega]
  rfl
theorem end_fr {i : Nat} : FrM IX AY w (upI (tkM w i 0 0) 9 (Int32.ofNat i)) := (tk_fr.mo (fun _ z => Or.inl z) (fun k z => by
  rcases z with z | z | z
  · exact Or.inl z
  · exact Or.inr (Or.inl z)
  · exact Or.inr (Or.inr (Or.inl z)))).tr (FrM.iI (Or.inl rfl))
theorem sPL_fr {p l : Nat} : FrM IX AY w (sPL w p l) := (FrM.iI (Or.inr (Or.inr (Or.inl rfl)))).tr (FrM.iI (Or.inr (Or.inl rfl)))
theorem sPL_id (h10 : w.1 10 = Int32.ofNat n.p) (h11 : w.1 11 = Int32.ofNat n.l) : sPL w n.p n.l = w := by
  unfold sPL upI
  refine Prod.ext (funext fun j => ?_) rfl
  show (if j = 10 then _ else if j = 11 then _ else w.1 j) = w.1 j
  split
  · rename_i e; rw [e, h10]
  · split
    · rename_i e; rw [e, h11]
    · rfl
def scK (N : Nat) (G : CS → Nat → Int32 → Option (CS × Unit)) (v : Int32) (u13 : CS) (r13 : Int32) : Option (CS × Unit) :=
  bo (some 6) (fun j14 => bo (sI u13 j14 4 v r13) (fun w15 => bo (gR w15 4 9 2) (fun r16 => bo (gI w15 4 9 5) (fun r17 => bo r16 (fun j18 => bo (aI w15 j18 4 r17) (fun r19 => br (decide (r19 = 0)) (fb_To_scanAll_107 N G w15) (bo (gR w15 4 9 2) (fun r20 => bo (gI w15 4 9 5) (fun r21 => bo r20 (fun j22 => bo (aI w15 j22 4 r21) (fun r23 => br (decide (r23 = 45)) (fb_To_scanAll_107 N G w15) (bo (gI w15 4 9 5) (fun r24 => bo (pF w15 4 9 5 (.inl (r24 + 1))) (fun w25 => G w25 4 (v + 1)))))))))))))))
theorem scK_ok {G : CS → Nat → Int32 → Option (CS × Unit)} {c : Int32} {i : Nat} (h : skB u = true) (hi : FI u 4 5 = Int32.ofNat i) (h4 : i ≤ 4000) : scK N G (Int32.ofNat i) u c = if c = 0 ∨ c = 45 then some (uA u 6 (upd (AI u 6) i c), ()) else G (finC u i c) 4 (Int32.ofNat (i + 1)) := by
  have s6 := sa_6 (g := upd (AI u 6) i c) h
  have i6 : FI (uA u 6 (upd (AI u 6) i c)) 4 5 = Int32.ofNat i := FI_A.trans hi
  unfold scK
  rw [q_bo, si_6 h, if_pos (q_inb (by omega) (by decide)), q_bo, q_nat (by omega), gr_4_2 s6, q_bo, gi_4_5 s6, q_bo, q_bo, i6, ai_6 s6, if_pos (q_inb (by omega) (by decide)), q_bo, q_nat (by omega), fa_6 h, upd_self]
  by_cases e0 : c = 0
  · rw [decide_eq_true e0, q_b1, if_pos (Or.inl e0)]; rfl
  · rw [decide_eq_false e0, q_b0, q_bo, q_bo, q_bo, ai_6 s6, if_pos (q_inb (by omega) (by decide)), q_bo, q_nat (by omega), fa_6 h, upd_self]
    by_cases e45 : c = 45
    · rw [decide_eq_true e45, q_b1, if_pos (Or.inr e45)]; rfl
    · rw [decide_eq_false e45, q_b0, q_bo, q_suc, pf_4_5 s6, q_bo, if_neg (fun z => by rcases z with z | z; exact e0 z; exact e45 z)]
      rfl
theorem all_both (hN : 100000000 ≤ N) : ∀ (M : Nat) (u : CS) (w : MS) (n : TN) (Fc Fr : Nat), TK u w n → n.k - n.p < M → n.k + 2 - n.p ≤ Fc → (3 * (n.k + 1) + 1) * (n.k + 1 - n.p) + 5 ≤ Fr → ∃ u2 w2 n2 bad, gg_To_scanAll N Fc u 4 (Int32.ofNat n.i) = some (u2, ()) ∧ (gg_M_readTokens N Fr).1 w = some (w2, ()) ∧ TOKS u2 w2 n2 bad ∧ n2.k = n.k ∧ FrC AX FX u u2 ∧ FrM IX AY w w2 ∧ (bad = false → n2.fs n2.ns ≤ n2.k ∧ 2 * n2.ns ≤ n2.k) := by
  intro M
  induction M with
  | zero => intro u w n Fc Fr h hM; omega
  | succ M ih =>
    intro u w n Fc Fr h hM hFc hFr
    have k4 := h.k4
    have hpk := h.pk
    have hip := h.ip
    have hlk := h.lk
    obtain ⟨Fc, rfl⟩ : ∃ F, Fc = F + 1 := ⟨Fc - 1, by omega⟩
    have i4 : decide (4000 < Int32.ofNat n.i) = false := decide_eq_false (fun z => absurd ((q_lt (a := 4000) (b := n.i) (by decide) (by omega)).mp z) (by omega))
    obtain ⟨u1, s1, s2, s3, s4, s5⟩ := skip_loop (N := N) h.k4 (n.k + 1 - n.p) n.p n.l false u (N - (n.k + 1 - n.p) - 1) h.sk h.cu h.pu h.lu (by omega) (by omega)
    rw [show N - (n.k + 1 - n.p) - 1 + (n.k + 1 - n.p) + 1 = N from by omega] at s1
    have es : fm_To_skip N u 4 = some (u1, ()) := s1
    obtain ⟨q1, q2, q3⟩ := skp_le (g := AI u 5) (k := n.k) (n.k + 1 - n.p) n.p n.l false h.pk
    have q4 := skp_end (g := AI u 5) (k := n.k) (n.k + 1 - n.p) n.p n.l false (by omega) h.pk
    have hm3 : 3 * (n.k + 1 - n.p) ≤ (3 * (n.k + 1) + 1) * (n.k + 1 - n.p) := Nat.mul_le_mul_right _ (by omega)
    obtain ⟨F2, f1, f2⟩ := (skM (N := N) (opn_TK h) h.cw h.k4 h.bw (n.k + 1 - n.p) n.p n.l Fr h.pk (by omega) (by omega)).1
    rw [sPL_id h.pw h.lw, ← skp_eq h.ta] at f2
    have T1 := TK_skip h s2 s3 s4 s5 q1 q2 q3
    rw [← fr4_AI s3 (i := 5) (by decide)] at q4
    rw [f2]
    have fw1 : FrM IX AY w (sPL w (skp (AI u 5) n.k (n.k + 1 - n.p) n.p n.l false).1 (skp (AI u 5) n.k (n.k + 1 - n.p) n.p n.l false).2) := sPL_fr
    rw [fr4_AI s3 (i := 5) (by decide)] at q4
    generalize sPL w (skp (AI u 5) n.k (n.k + 1 - n.p) n.p n.l false).1 (skp (AI u 5) n.k (n.k + 1 - n.p) n.p n.l false).2 = w1 at T1 fw1 ⊢
    generalize (skp (AI u 5) n.k (n.k + 1 - n.p) n.p n.l false).1 = p1 at q1 q2 q3 q4 T1 s4
    generalize (skp (AI u 5) n.k (n.k + 1 - n.p) n.p n.l false).2 = l1 at q3 T1 s5
    have T2 : TK (uLV u1 n.i (Int32.ofNat l1)) w1 ⟨n.k, n.i, p1, l1, n.na, n.fa, n.nn, n.fc, n.fr, n.q, n.ns, n.fs⟩ := TK_wr (x := Int32.ofNat l1) T1
    have i1 : FI u1 4 5 = Int32.ofNat n.i := T1.iu
    have sk2 := T2.sk
    have step : gg_To_scanAll N (Fc + 1) u 4 (Int32.ofNat n.i) = bx (fm_To_scan N (uLV u1 n.i (Int32.ofNat l1)) 4) (scK N (gg_To_scanAll N Fc) (Int32.ofNat n.i)) := by
      show fb_To_scanAll_34 N (gg_To_scanAll N Fc) u 4 (Int32.ofNat n.i) = _
      generalize gg_To_scanAll N Fc = G
      have s8 := sa_8 (g := upd (AI u1 8) n.i (Int32.ofNat l1)) s2
      have i2 : FI (uA u1 8 (upd (AI u1 8) n.i (Int32.ofNat l1))) 4 5 = Int32.ofNat n.i := FI_A.trans i1
      have e7 : AI (uA u1 8 (upd (AI u1 8) n.i (Int32.ofNat l1))) 7 = AI u1 7 := AI_A (by decide)
      unfold fb_To_scanAll_34
      rw [i4, q_b0, q_ck (io_4 h.sk), es, q_bx, gr_4_4 s2, q_bo, gi_4_5 s2, q_bo, gi_4_10 s2, q_bo, q_bo, i1, s5, si_8 s2, if_pos (q_inb (by omega) (by decide)), q_bo, q_nat (by omega), gr_4_3 s8, q_bo, gi_4_5 s8, q_bo, q_bo, i2, si_7 s8, if_pos (q_inb (by omega) (by decide)), q_bo, q_nat (by omega), e7]
      rw [show uA (uA u1 8 (upd (AI u1 8) n.i (Int32.ofNat l1))) 7 (upd (AI u1 7) n.i 0) = uLV u1 n.i (Int32.ofNat l1) from rfl]
      rw [gr_4_2 sk2, q_bo, gi_4_5 sk2, q_bo, q_ck (io_4 sk2), show FI (uLV u1 n.i (Int32.ofNat l1)) 4 5 = Int32.ofNat n.i from T2.iu]
      rfl
    rw [step]
    have fu2 : FrC AX FX u (uLV u1 n.i (Int32.ofNat l1)) := (FrC.of4 s3).tr uLV_fr
    have l2 : AI (uLV u1 n.i (Int32.ofNat l1)) 8 n.i = Int32.ofNat l1 := by rw [uLV_8 s2, upd_self]
    have v2 : AI (uLV u1 n.i (Int32.ofNat l1)) 7 n.i = 0 := by rw [uLV_7 s2, upd_self]
    have a5 : AI (uLV u1 n.i (Int32.ofNat l1)) 5 = AI u 5 := by rw [uLV_A (by decide) (by decide)]; exact fr4_AI s3 (by decide)
    generalize uLV u1 n.i (Int32.ofNat l1) = u2 at T2 sk2 fu2 l2 v2 a5 ⊢
    obtain ⟨F3, rfl⟩ : ∃ F, F2 = F + 1 := ⟨F2 - 1, by omega⟩
    have tkA : ∀ (w9 : MS) (i9 k : Nat), k ≠ 6 → k ≠ 7 → k ≠ 8 → (upI (tkM w9 i9 0 0) 9 (Int32.ofNat i9)).2.2.1 k = w9.2.2.1 k := fun w9 i9 k x1 x2 x3 => (tk_fr (w := w9) (i := i9) (s := 0) (v := 0)).2.2.1 k (fun z => by
      rcases z with z | z | z
      · exact x1 z
      · exact x2 z
      · exact x3 z)
    by_cases hend : p1 = n.k
    · 
      subst hend
      have e1 : fm_To_scan N u2 4 = some (u2, 0) := by
        unfold fm_To_scan fb_To_scan_0
        rw [gi_4_9 sk2, q_bo, show FI u2 4 9 = Int32.ofNat n.k from T2.pu, q_ck (io_4 sk2), atC sk2 T2.cu k4 (by omega), q_bx, show sgA (AI u2 5) n.k n.k = -1 from if_neg (by omega)]
        rfl
      have e2 : (gg_M_readTokens N (F3 + 1)).1 w1 = some (upI (tkM w1 n.i 0 0) 9 (Int32.ofNat n.i), ()) := by
        show fb_M_readTokens_19 N (gg_M_readTokens N F3) w1 = _
        unfold fb_M_readTokens_19
        rw [T2.cw, T2.pw, decide_eq_true ((q_le (a := n.k) (b := n.k) (by omega) (by omega)).mpr (Nat.le_refl _)), q_b1]
        exact rt_end T2.iw (by show n.i < 4002; omega)
      refine ⟨uA u2 6 (upd (AI u2 6) n.i 0), upI (tkM w1 n.i 0 0) 9 (Int32.ofNat n.i), ⟨n.k, n.i, n.k, l1, n.na, n.fa, n.nn, n.fc, n.fr, n.q, n.ns, n.fs⟩, false, ?_, e2, ?_, rfl, fu2.tr a6_fr, fw1.tr end_fr, fun _ => ⟨T2.s3, T2.s2⟩⟩
      · rw [e1, q_bx, scK_ok sk2 T2.iu (by show n.i ≤ 4000; omega), if_pos (Or.inl rfl)]
      · have B := TB_int (w2 := upI (tkM w1 n.i 0 0) 9 (Int32.ofNat n.i)) T2.toTB rfl rfl rfl rfl (tkA w1 n.i) (fun j hj => upd_ne (Nat.ne_of_lt hj)) (fun j hj => upd_ne (Nat.ne_of_lt hj)) (fun j hj => upd_ne (Nat.ne_of_lt hj))
        refine (TOKS.mk2 (toTB := TB_6 B) (e6 := ?_) (e8 := ?_) (m6 := upd_self) (m9 := rfl) (m7 := fun z => by cases z))
        · show AI (uA u2 6 (upd (AI u2 6) n.i 0)) 6 n.i = 0
          rw [fa_6 sk2, upd_self]
        · show AI (uA u2 6 (upd (AI u2 6) n.i 0)) 8 n.i = upd (w1.2.2.1 8) n.i (w1.1 11) n.i
          rw [AI_A (by decide), upd_self, l2]
          exact T2.lw.symm
    · have hp1 : p1 < n.k := by omega
      obtain ⟨x1, x2, x3, x4⟩ := q4.resolve_left hend
      rw [← a5] at x1 x2 x3 x4
      obtain ⟨Y, y1, u3, w3, n3, c, o1, o2, o3, o4, o5, o6, o7, o8, o9⟩ := scan_both (N := N) (G := gg_M_readTokens N F3) T2 l2 v2 hp1 x1 x2 x3 x4 (by omega)
      have o4 : FI u3 4 5 = Int32.ofNat n.i := o4
      have o5 : AI u3 8 n.i = Int32.ofNat l1 := o5
      have o6 : n3.k = n.k := o6
      have e19 : (gg_M_readTokens N (F3 + 1)).1 w1 = (gg_M_readTokens N F3).1 w3 := by
        have hw : sPL w1 p1 l1 = w1 := sPL_id (n := ⟨n.k, n.i, p1, l1, n.na, n.fa, n.nn, n.fc, n.fr, n.q, n.ns, n.fs⟩) T2.pw T2.lw
        have z := rt_19 (N := N) (F := F3) (p := p1) (l := l1) (opn_TK T2) T2.cw k4 hp1
        rw [hw] at z
        rw [z, y1, o2, q_bn]
      rw [e19, o1, q_bx, scK_ok o3 o4 (by omega)]
      rcases o9 with ⟨rfl, b1, b2, b3, b4, b5⟩ | ⟨c45, c0, t1, t2, t3⟩
      · 
        have b2 : n3.i = n.i := b2
        have b3 : w3.1 9 = Int32.ofNat (n.i + 1) := b3
        have b4 : w3.2.2.1 6 n.i = 7 := b4
        have b5 : w3.2.2.1 8 n.i = Int32.ofNat l1 := b5
        rw [if_pos (Or.inr rfl)]
        have hm9 : (3 * (n.k + 1) + 1) * 1 ≤ (3 * (n.k + 1) + 1) * (n.k + 1 - n.p) := Nat.mul_le_mul_left _ (by omega)
        obtain ⟨F4, rfl⟩ : ∃ F, F3 = F + 1 := ⟨F3 - 1, by omega⟩
        have e2 : (gg_M_readTokens N (F4 + 1)).1 w3 = some (upI (tkM w3 (n.i + 1) 0 0) 9 (Int32.ofNat (n.i + 1)), ()) := by
          show fb_M_readTokens_19 N (gg_M_readTokens N F4) w3 = _
          unfold fb_M_readTokens_19
          have z1 : ¬ w3.1 9 = 0 := by rw [b3]; exact fun z => absurd (q_inj (a := n.i + 1) (b := 0) (by omega) (by decide) z) (by omega)
          have z2 : w3.1 9 - 1 = Int32.ofNat n.i := by rw [b3]; exact q_sub (k := n.i + 1) (m := 1) (by omega)
          rw [decide_eq_false z1, q_b0, z2, q_ck (q_inb (by show n.i < 4002; omega) (by decide)), q_nat (by omega), b4, show decide ((7 : Int32) = 7) = true from rfl, q_b1, rt_end b3 (by omega)]
          unfold br; split <;> rfl
        refine ⟨uA u3 6 (upd (AI u3 6) n.i 45), upI (tkM w3 (n.i + 1) 0 0) 9 (Int32.ofNat (n.i + 1)), n3, true, rfl, e2, ?_, o6, (fu2.tr o7).tr a6_fr, (fw1.tr o8).tr end_fr, fun z => by cases z⟩
        have B := TB_int (w2 := upI (tkM w3 (n.i + 1) 0 0) 9 (Int32.ofNat (n.i + 1))) b1 rfl rfl rfl rfl (tkA w3 (n.i + 1)) (fun j hj => upd_ne (by omega)) (fun j hj => upd_ne (by omega)) (fun j hj => upd_ne (by omega))
        rw [← b2] at B
        rw [← b2]
        refine (TOKS.mk2 (toTB := TB_6 B) (e6 := ?_) (e8 := ?_) (m6 := ?_) (m9 := ?_) (m7 := fun _ => ?_))
        · show AI (uA u3 6 (upd (AI u3 6) n3.i 45)) 6 n3.i = 45
          rw [fa_6 o3, upd_self]
        · show AI (uA u3 6 (upd (AI u3 6) n3.i 45)) 8 n3.i = upd (w3.2.2.1 8) (n3.i + 1) (w3.1 11) n3.i
          rw [AI_A (by decide), upd_ne (by omega), b2, o5, b5]
        · show upd (w3.2.2.1 6) (n3.i + 1) 0 n3.i = 7
          rw [upd_ne (by omega), b2, b4]
        · rfl
        · exact upd_self
      · rw [if_neg (fun z => by rcases z with z | z; exact c0 z; exact c45 z)]
        have t2 : n3.i = n.i + 1 := t2
        have t3 : p1 < n3.p := t3
        have hk3 := t1.pk
        have hmul : (3 * (n.k + 1) + 1) * (n3.k + 1 - n3.p) + (3 * (n.k + 1) + 1) ≤ (3 * (n.k + 1) + 1) * (n.k + 1 - n.p) := by
          have : (3 * (n.k + 1) + 1) * (n3.k + 1 - n3.p) + (3 * (n.k + 1) + 1) = (3 * (n.k + 1) + 1) * (n3.k + 1 - n3.p + 1) := (Nat.mul_succ _ _).symm
          rw [this]
          exact Nat.mul_le_mul_left _ (by omega)
        have hF : (3 * (n3.k + 1) + 1) * (n3.k + 1 - n3.p) + 5 ≤ F3 := by
          rw [o6] at hmul
          rw [o6]
          have : 3 * (n.k + 1 - n.p) ≤ 3 * (n.k + 1) := by omega
          omega
        obtain ⟨u4, w4, n4, bad, r1, r2, r3, r4, r5, r6, r7⟩ := ih (finC u3 n.i c) w3 n3 Fc F3 t1 (by omega) (by omega) hF
        have ff : FrC AX FX u3 (finC u3 n.i c) := a6_fr.tr (FrC.fi (by decide) (Or.inr (Or.inl rfl)))
        rw [t2] at r1
        exact ⟨u4, w4, n4, bad, r1, r2, r3, r4.trans o6, ((fu2.tr o7).tr ff).tr r5, (fw1.tr o8).tr r6, r7⟩
end ALB
end
section
set_option maxRecDepth 100000
def fA (j : Nat) : Int32 := mS0.2.2.1 1 j
theorem fa0_a : ∀ t, t < 22 → fA (fa0 t + t) = Int32.ofNat (fa0 (t + 1) - fa0 t) ∧ fa0 t < fa0 (t + 1) ∧ fa0 (t + 1) ≤ 139 ∧ fa0 (t + 1) - fa0 t ≤ 15 := by decide +kernel
theorem fa0_b : ∀ t, t < 22 → ∀ i, i < fa0 (t + 1) - fa0 t → nrB (fA (fa0 t + t + 1 + i)) = sa0 (fa0 t + i) := by decide +kernel
theorem fa0_c : ∀ t, t < 22 → skN sa0 fA fa0 (fa0 t + t + 1) (fa0 (t + 1) - fa0 t) 0 t = none := by decide +kernel
theorem fa0_m : ∀ t, t ≤ 22 → fa0 t ≤ 139 := by decide +kernel
section STA
variable {w : MS} {N : Nat}
def FA (w : MS) (t : Nat) : Prop := w.2.2.1 1 = mS0.2.2.1 1 ∧ w.1 14 = Int32.ofNat t ∧ (∀ j, j ≤ t → w.2.2.1 13 j = Int32.ofNat (fa0 j)) ∧ (∀ j, j < fa0 t → w.2.2.1 12 j = sa0 j)
theorem FA_wt {t : Nat} (h : FA w t) (ht : t ≤ 22) : WT3 w 12 13 1 fa0 t := by
  refine ⟨by decide, by decide, by decide, h.2.2.1, fun j hj => Nat.le_of_lt (fa0_a j (by omega)).2.1, fun j hj => ?_, ?_, by decide, by decide, by decide⟩
  · have := fa0_m j (by omega)
    show fa0 j ≤ 5000; omega
  · show t + 1 < 2200; omega
def I14' (k : Nat) : Prop := k = 14
theorem FA_step {t : Nat} (h : FA w t) (ht : t < 22) (hN : 100000 ≤ N) : ∃ w2, fm_M_atom N w 1 (Int32.ofNat (fa0 t + t + 1)) (Int32.ofNat (fa0 (t + 1) - fa0 t)) = some (w2, Int32.ofNat t) ∧ FA w2 (t + 1) ∧ FrM I14 AA w w2 := by
  obtain ⟨a1, a2, a3, a4⟩ := fa0_a t ht
  obtain ⟨h1, h2, h3, h4⟩ := h
  have hm := fa0_m t (by omega)
  have hmul : t * (fa0 (t + 1) - fa0 t + 3) ≤ 22 * 18 := Nat.mul_le_mul (by omega) (by omega)
  have tx := tx_ok (N := N) (b := fa0 t + t + 1) (len := fa0 (t + 1) - fa0 t) (FA_wt ⟨h1, h2, h3, h4⟩ (by omega)) (by show _ ≤ 161; omega) (by show _ ≤ 5000; omega) (by decide) (by decide) (by omega)
  have sk : skN (w.2.2.1 12) (w.2.2.1 1) fa0 (fa0 t + t + 1) (fa0 (t + 1) - fa0 t) 0 t = none := by
    rw [skN_congr (sg2 := sa0) (tx2 := fA) (n := t) (fun j hj => Nat.le_of_lt (fa0_a j (by omega)).2.1) h4 (fun i _ => by rw [h1]; rfl) t 0 (by omega)]
    exact fa0_c t ht
  rw [sk] at tx
  have e0 : (nwT w 12 13 1 (fa0 t) t (fa0 t + t + 1) (fa0 (t + 1) - fa0 t)).1 14 = Int32.ofNat t := h2
  refine ⟨upI (nwT w 12 13 1 (fa0 t) t (fa0 t + t + 1) (fa0 (t + 1) - fa0 t)) 14 (Int32.ofNat (t + 1)), ?_, ⟨h1, rfl, fun j hj => ?_, fun j hj => ?_⟩, ((FrM.iA (Or.inl rfl)).tr (FrM.iA (Or.inr rfl))).tr (FrM.iI rfl)⟩
  · unfold fm_M_atom fb_M_atom_0
    rw [h2, tx, q_bn]
    show br (decide (Int32.ofNat t = (nwT w 12 13 1 (fa0 t) t (fa0 t + t + 1) (fa0 (t + 1) - fa0 t)).1 14)) _ _ = _
    rw [e0, show decide (Int32.ofNat t = Int32.ofNat t) = true from decide_eq_true rfl, q_b1, q_suc]
    rfl
  · show upd (w.2.2.1 13) (t + 1) (Int32.ofNat (fa0 t + (fa0 (t + 1) - fa0 t))) j = _
    by_cases e : j = t + 1
    · rw [e, upd_self, show fa0 t + (fa0 (t + 1) - fa0 t) = fa0 (t + 1) from by omega]
    · rw [upd_ne e]; exact h3 j (by omega)
  · show put (w.2.2.1 12) (fun j => nrB (w.2.2.1 1 j)) (fa0 t) (fa0 t + t + 1) (fa0 (t + 1) - fa0 t) j = _
    by_cases e : j < fa0 t
    · rw [put_lo e]; exact h4 j e
    · obtain ⟨i, rfl⟩ : ∃ i, j = fa0 t + i := ⟨j - fa0 t, by omega⟩
      rw [put_in (by omega), h1]
      exact fa0_b t ht i (by omega)
theorem FA_all (hN : 100000 ≤ N) : ∀ (m t F : Nat) (w : MS), t + m = 22 → m + 1 ≤ F → FA w t → ∃ w2, gg_M_allFirstAtoms N F w (Int32.ofNat (fa0 t + t)) = some (w2, ()) ∧ FA w2 22 ∧ FrM I14 AA w w2 := by
  intro m
  induction m with
  | zero =>
    intro t F w ht hF h
    have e : t = 22 := by omega
    subst e
    obtain ⟨F, rfl⟩ : ∃ F2, F = F2 + 1 := ⟨F - 1, by omega⟩
    refine ⟨w, ?_, h, FrM.rf⟩
    show fb_M_allFirstAtoms_17 N (gg_M_allFirstAtoms N F) w _ = _
    generalize gg_M_allFirstAtoms N F = G
    unfold fb_M_allFirstAtoms_17
    rw [show decide (Int32.ofNat (ln 1) ≤ Int32.ofNat (fa0 22 + 22)) = true from by decide +kernel, q_b1]
  | succ m ih =>
    intro t F w ht hF h
    have ht2 : t < 22 := by omega
    obtain ⟨F, rfl⟩ : ∃ F2, F = F2 + 1 := ⟨F - 1, by omega⟩
    obtain ⟨a1, a2, a3, a4⟩ := fa0_a t ht2
    have hm := fa0_m t (by omega)
    obtain ⟨w2, s1, s2, s3⟩ := FA_step (N := N) h ht2 hN
    obtain ⟨w3, r1, r2, r3⟩ := ih (t + 1) F w2 (by omega) (by omega) s2
    refine ⟨w3, ?_, r2, s3.tr r3⟩
    rw [← r1]
    show fb_M_allFirstAtoms_17 N (gg_M_allFirstAtoms N F) w _ = _
    generalize gg_M_allFirstAtoms N F = G
    unfold fb_M_allFirstAtoms_17
    have el : decide (Int32.ofNat (ln 1) ≤ Int32.ofNat (fa0 t + t)) = false := decide_eq_false (fun z => absurd ((q_le (a := 161) (b := fa0 t + t) (by decide) (by omega)).mp z) (by
      have : ∀ t, t < 22 → fa0 t + t < 161 := by decide +kernel
      have := this t ht2
      omega))
    have e161 : fa0 t + t < 161 := by
      have : ∀ t, t < 22 → fa0 t + t < 161 := by decide +kernel
      exact this t ht2
    have hv : w.2.2.1 1 (fa0 t + t) = Int32.ofNat (fa0 (t + 1) - fa0 t) := by rw [h.1]; exact a1
    have hv2 : w2.2.2.1 1 (fa0 t + t) = Int32.ofNat (fa0 (t + 1) - fa0 t) := by rw [s2.1]; exact a1
    rw [el, q_b0, q_ck (q_inb (by show _ < 161; exact e161) (by decide)), q_nat (by omega), hv, q_suc, s1, q_bn, q_ck (q_inb (by show _ < 161; exact e161) (by decide)), q_ls, hv2, q_suc, q_add, show fa0 t + t + (fa0 (t + 1) - fa0 t + 1) = fa0 (t + 1) + (t + 1) from by omega]
end STA
def TP (u : CS) (w : MS) : Prop := (CON u w) ∧ (∀ j, j < 139 → AI u 2 j = sa0 j) ∧ (∀ j, j ≤ 22 → AI u 3 j = Int32.ofNat (fa0 j)) ∧ (AI u 13 0 = 95) ∧ (AI u 14 0 = 0 ∧ AI u 14 1 = 1) ∧ (w.2.2.1 13 0 = 0) ∧ (w.2.2.1 16 0 = 0) ∧ (w.2.2.1 19 0 = 0)
theorem TP.co {u : CS} {w : MS} (h : TP u w) : CON u w := h.1
theorem TP.s22 {u : CS} {w : MS} (h : TP u w) : ∀ j, j < 139 → AI u 2 j = sa0 j := h.2.1
theorem TP.f22 {u : CS} {w : MS} (h : TP u w) : ∀ j, j ≤ 22 → AI u 3 j = Int32.ofNat (fa0 j) := h.2.2.1
theorem TP.n13 {u : CS} {w : MS} (h : TP u w) : AI u 13 0 = 95 := h.2.2.2.1
theorem TP.n14 {u : CS} {w : MS} (h : TP u w) : AI u 14 0 = 0 ∧ AI u 14 1 = 1 := h.2.2.2.2.1
theorem TP.m13 {u : CS} {w : MS} (h : TP u w) : w.2.2.1 13 0 = 0 := h.2.2.2.2.2.1
theorem TP.m16 {u : CS} {w : MS} (h : TP u w) : w.2.2.1 16 0 = 0 := h.2.2.2.2.2.2.1
theorem TP.m19 {u : CS} {w : MS} (h : TP u w) : w.2.2.1 19 0 = 0 := h.2.2.2.2.2.2.2
theorem TP.mk1 {u : CS} {w : MS} (co : CON u w) (s22 : ∀ j, j < 139 → AI u 2 j = sa0 j) (f22 : ∀ j, j ≤ 22 → AI u 3 j = Int32.ofNat (fa0 j)) (n13 : AI u 13 0 = 95) (n14 : AI u 14 0 = 0 ∧ AI u 14 1 = 1) (m13 : w.2.2.1 13 0 = 0) (m16 : w.2.2.1 16 0 = 0) (m19 : w.2.2.1 19 0 = 0) : TP u w := ⟨co, s22, f22, n13, n14, m13, m16, m19⟩
theorem TP_of {u : CS} {w : MS} {n : TN} (h : TB u w n) : TP u w := by
  obtain ⟨⟨a1, a2, a3⟩, ⟨b1, b2, b3, b4, b5⟩, c1, c2⟩ := h.atm
  obtain ⟨⟨d1, d2, d3⟩, ⟨e1, e2, e3, e4, e5⟩, g1, g2, g3⟩ := h.nmm
  have h22 := h.a22
  refine ⟨h.co, h.s22, fun j hj => ?_, g2.2.1.2.2, ⟨?_, ?_⟩, ?_, ?_, ?_⟩
  · rw [← h.f22 j hj]; exact a2 j (by omega)
  · have := d2 0 (Nat.zero_le _)
    rw [g2.2.1.1] at this
    exact this
  · have := d2 1 g3
    rw [g2.2.1.2.1] at this
    exact this
  · rw [b4 0 (Nat.zero_le _), h.f22 0 (by decide)]; rfl
  · rw [e4 0 (Nat.zero_le _), h.r00]; rfl
  · rw [h.sf 0 (Nat.zero_le _), h.z00]; rfl
end
section
set_option maxRecDepth 100000
def u00 (u : CS) : CS := uF (uF (uF (uF (uF u 1 2 (.inl 22)) 12 2 (.inl 1)) 4 9 (.inl 0)) 4 10 (.inl 1)) 4 5 (.inl 0)
section TKS
variable {u : CS} {w : MS} {k N : Nat}
theorem u00_s1 (h : skB u = true) : skB (uF u 1 2 (.inl 22)) = true := sf_1_2 h
theorem u00_s2 (h : skB u = true) : skB (uF (uF u 1 2 (.inl 22)) 12 2 (.inl 1)) = true := sf_12_2 (u00_s1 h)
theorem u00_s3 (h : skB u = true) : skB (uF (uF (uF u 1 2 (.inl 22)) 12 2 (.inl 1)) 4 9 (.inl 0)) = true := sf_4_9 (u00_s2 h)
theorem u00_s4 (h : skB u = true) : skB (uF (uF (uF (uF u 1 2 (.inl 22)) 12 2 (.inl 1)) 4 9 (.inl 0)) 4 10 (.inl 1)) = true := sf_4_10 (u00_s3 h)
theorem u00_sk (h : skB u = true) : skB (u00 u) = true := sf_4_5 (u00_s4 h)
theorem u00_A {j : Nat} : AI (u00 u) j = AI u j := by unfold u00; rw [AI_F, AI_F, AI_F, AI_F, AI_F]
theorem u00_F {a b : Nat} (h1 : a ≠ 1 ∨ b ≠ 2) (h2 : a ≠ 12 ∨ b ≠ 2) (h3 : a ≠ 4 ∨ b ≠ 9) (h4 : a ≠ 4 ∨ b ≠ 10) (h5 : a ≠ 4 ∨ b ≠ 5) : FI (u00 u) a b = FI u a b := by
  unfold u00
  rw [FI_F h5, FI_F h4, FI_F h3, FI_F h2, FI_F h1]
theorem u00_fr : FrC AX FX u (u00 u) := ((((FrC.fi (by decide) (Or.inl rfl)).tr (FrC.fi (by decide) (Or.inr (Or.inr rfl)))).tr (FrC.fi (by decide) (Or.inr (Or.inl rfl)))).tr (FrC.fi (by decide) (Or.inr (Or.inl rfl)))).tr (FrC.fi (by decide) (Or.inr (Or.inl rfl)))
theorem TK_start {w2 : MS} (hs : skB u = true) (ht : TT u w k) (hk : k ≤ 4000) (bu : bytB (AI u 5)) (bw : bytB (w.2.2.1 4)) (tp : TP u w) (fa : FA w2 22) (f : FrM IX AA w w2) (h9 : w2.1 9 = 0) (h10 : w2.1 10 = 0) (h11 : w2.1 11 = 1) (h17 : w2.1 17 = 0) (h20 : w2.1 20 = 0) : TK (u00 u) w2 ⟨k, 0, 0, 1, 22, fa0, 0, fun j => j, fun _ => 0, none, 0, fun _ => 0⟩ := by
  have a : ∀ j, j ≠ 12 → j ≠ 13 → w2.2.2.1 j = w.2.2.1 j := fun j x y => f.2.2.1 j (fun z => by rcases z with z | z; exact x z; exact y z)
  have i5 : w2.1 5 = w.1 5 := f.1 5 (by unfold IX; decide)
  obtain ⟨c1, c2, c3, c4, c5, c6, c7, c8⟩ := tp.co
  obtain ⟨g1, g2, g3, g4⟩ := fa
  obtain ⟨v1, v2, v3, v4, v5, v6, v7, v8, v9, v10⟩ := FA_wt ⟨g1, g2, g3, g4⟩ (Nat.le_refl _)
  refine (TK.mk1 (sk := u00_sk hs) (k4 := hk) (cu := ?_) (cw := i5.trans ht.2.1) (ta := fun j hj => ?_) (bu := by rw [u00_A]; exact bu) (bw := by rw [a 4 (by decide) (by decide)]; exact bw) (co := ⟨?_, fun j hj => by rw [u00_A]; exact c2 j hj, fun j hj => by rw [u00_A]; exact c3 j hj, (a 0 (by decide) (by decide)).trans c4, (a 21 (by decide) (by decide)).trans c5, (a 22 (by decide) (by decide)).trans c6, (a 1 (by decide) (by decide)).trans c7, (a 2 (by decide) (by decide)).trans c8⟩) (ik := Nat.zero_le _) (iu := fi_4_5 (u00_s4 hs)) (atm := ⟨⟨?_, fun j hj => ?_, v5, fun j hj => ?_, (show 22 < 2101 by decide)⟩, ⟨v1, v2, by decide, v4, v5, v6, v7, v8, v9, by decide⟩, g2, fun j hj => ?_⟩) (nmm := ⟨⟨?_, fun j hj => ?_, fun j hj => ?_, fun j hj => ?_, (show 1 < 2101 by decide)⟩, ⟨by decide, by decide, by decide, fun j hj => ?_, fun j hj => Nat.le_refl _, fun j hj => Nat.zero_le _, (show 0 + 1 < 2200 by decide), by decide, by decide, by decide⟩, h17, ⟨fun j hj => ?_, ⟨rfl, rfl, ?_⟩, fun x hx => (by cases hx), fun j hj => ?_⟩, Nat.le_refl _⟩) (a22 := Nat.le_refl _) (sw := h20) (sf := fun j hj => ?_) (sm := fun r hr => Nat.le_refl _) (f22 := fun _ _ => rfl) (s22 := fun j hj => by rw [u00_A]; exact tp.s22 j hj) (r00 := rfl) (z00 := rfl) (tk := fun j hj => ?_) (pk := Nat.zero_le _) (pu := ?_) (pw := h10) (lk := Nat.le_refl _) (lu := ?_) (lw := h11) (ip := Nat.le_refl _) (iw := h9) (b1 := (show 2 * (22 - 22 + 0) ≤ 0 + 1 by decide)) (b2 := fun z => (by cases z)) (b3 := (show fa0 22 ≤ 139 + 0 by decide +kernel)) (b4 := (show 1 ≤ 1 + 0 by decide)) (b5 := Nat.le_refl _) (s2 := Nat.le_refl _) (s3 := Nat.le_refl _))
  · rw [u00_F (by decide) (by decide) (by decide) (by decide) (by decide)]; exact ht.1
  · rw [u00_A, a 4 (by decide) (by decide)]; exact ht.2.2 j hj
  · rw [u00_F (by decide) (by decide) (by decide) (by decide) (by decide)]; exact c1
  · show FI (u00 u) 1 2 = 22
    unfold u00
    rw [FI_F (by decide), FI_F (by decide), FI_F (by decide), FI_F (by decide)]
    exact fi_1_2 hs
  · show AI (u00 u) 3 j = _
    rw [u00_A]; exact tp.f22 j hj
  · have := fa0_m j hj
    show fa0 j ≤ 4300
    omega
  · rw [u00_A, g4 j hj]
    exact tp.s22 j (Nat.lt_of_lt_of_le hj (show fa0 22 ≤ 139 by decide +kernel))
  · show FI (u00 u) 12 2 = 1
    unfold u00
    rw [FI_F (by decide), FI_F (by decide), FI_F (by decide)]
    exact fi_12_2 (u00_s1 hs)
  · show AI (u00 u) 14 j = Int32.ofNat j
    rw [u00_A]
    have hj : j ≤ 1 := hj
    by_cases e : j = 0
    · rw [e]; exact tp.n14.1
    · rw [show j = 1 from by omega]; exact tp.n14.2
  · exact Nat.le_succ _
  · have hj : j ≤ 1 := hj
    show j ≤ 4300; omega
  · have hj : j ≤ 0 := hj
    rw [show j = 0 from by omega, a 16 (by decide) (by decide)]; exact tp.m16
  · exact absurd hj (Nat.not_lt_zero _)
  · rw [u00_A]; exact tp.n13
  · exact absurd hj (Nat.not_lt_zero _)
  · have hj : j ≤ 0 := hj
    rw [show j = 0 from by omega, a 19 (by decide) (by decide)]; exact tp.m19
  · exact absurd hj (Nat.not_lt_zero _)
  · unfold u00
    rw [FI_F (by decide), FI_F (by decide)]
    exact fi_4_9 (u00_s2 hs)
  · unfold u00
    rw [FI_F (by decide)]
    exact fi_4_10 (u00_s3 hs)
theorem tokens_both (hs : skB u = true) (ht : TT u w k) (hk : k ≤ 4000) (bu : bytB (AI u 5)) (bw : bytB (w.2.2.1 4)) (tp : TP u w) (hN : 100000000 ≤ N) : ∃ u2 w2 n bad, fm_To_scanAll N u 4 = some (u2, ()) ∧ fm_M_readTokens N w = some (w2, ()) ∧ TOKS u2 w2 n bad ∧ n.k = k ∧ FrC AX FX u u2 ∧ FrM IX AY w w2 ∧ (bad = false → n.fs n.ns ≤ n.k ∧ 2 * n.ns ≤ n.k) := by
  have hFA : FA (upI (upI (upI (upI (upI (upI w 10 0) 11 1) 9 0) 14 0) 17 0) 20 0) 0 := ⟨tp.co.2.2.2.2.2.2.1, rfl, fun j hj => by rw [show j = 0 from by omega]; exact tp.m13, fun j hj => absurd hj (Nat.not_lt_zero _)⟩
  obtain ⟨w2, r1, r2, r3⟩ := FA_all (N := N) (by omega) 22 0 N _ (by omega) (by omega) hFA
  have f0 : FrM IX AA w (upI (upI (upI (upI (upI (upI w 10 0) 11 1) 9 0) 14 0) 17 0) 20 0) := (((((FrM.iI (Or.inr (Or.inl rfl))).tr (FrM.iI (Or.inr (Or.inr (Or.inl rfl))))).tr (FrM.iI (Or.inl rfl))).tr (FrM.iI (Or.inr (Or.inr (Or.inr (Or.inl rfl)))))).tr (FrM.iI (Or.inr (Or.inr (Or.inr (Or.inr (Or.inl rfl))))))).tr (FrM.iI (Or.inr (Or.inr (Or.inr (Or.inr (Or.inr rfl))))))
  have f1 : FrM IX AA w w2 := f0.tr (r3.mo (fun k z => Or.inr (Or.inr (Or.inr (Or.inl z)))) (fun _ z => z))
  have i2 : ∀ j, j ≠ 14 → w2.1 j = (upI (upI (upI (upI (upI (upI w 10 0) 11 1) 9 0) 14 0) 17 0) 20 0).1 j := fun j x => r3.1 j x
  have T := TK_start hs ht hk bu bw tp r2 f1 (i2 9 (by decide)) (i2 10 (by decide)) (i2 11 (by decide)) (i2 17 (by decide)) (i2 20 (by decide))
  have hmul : (3 * (k + 1) + 1) * (k + 1 - 0) ≤ (3 * 4001 + 1) * 4001 := Nat.mul_le_mul (by omega) (by omega)
  obtain ⟨u3, w3, n, bad, a1, a2, a3, a4, a5, a6, a7⟩ := all_both (N := N) hN (k + 1) (u00 u) w2 _ N N T (by show k - 0 < k + 1; omega) (by show k + 2 - 0 ≤ N; omega) (by show (3 * (k + 1) + 1) * (k + 1 - 0) + 5 ≤ N; omega)
  refine ⟨u3, w3, n, bad, ?_, ?_, a3, a4, u00_fr.tr a5, (f1.mo (fun _ z => z) (fun k z => by rcases z with z | z; exact Or.inr (Or.inr (Or.inr (Or.inl z))); exact Or.inr (Or.inr (Or.inr (Or.inr (Or.inl z)))))).tr a6, a7⟩
  · rw [← a1]
    unfold fm_To_scanAll fb_To_scanAll_0
    rw [gr_4_7 hs, q_bo, q_bo, pf_1_2 hs, q_bo, gr_4_8 (u00_s1 hs), q_bo, q_bo, pf_12_2 (u00_s1 hs), q_bo, pf_4_9 (u00_s2 hs), q_bo, pf_4_10 (u00_s3 hs), q_bo, pf_4_5 (u00_s4 hs), q_bo]
    rfl
  · rw [← a2]
    unfold fm_M_readTokens fb_M_readTokens_0
    rw [q_ls, q_ls, q_ls]
    have e : fm_M_allFirstAtoms N (upI (upI (upI w 10 0) 11 1) 9 0) = some (w2, ()) := by
      unfold fm_M_allFirstAtoms fb_M_allFirstAtoms_0
      rw [q_ls, q_ls, q_ls]
      exact r1
    rw [e, q_bn]
end TKS
end
section
set_option maxRecDepth 100000
section
variable {u : CS} {m w : MS} {n : TN} {bad : Bool}
theorem oI {n : Nat} : Int32.ofNat n = I (n : Nat) := Int32.ofInt_eq_ofNat.symm
theorem nmQ_J {q : Option Nat} : NMJ (nmQ q) := by
  cases q with
  | none => exact ⟨fun x y h => Nat.succ.inj h, fun x => Nat.le_refl _⟩
  | some z =>
    have e : ∀ j, nmQ (some z) j = if j = z then 0 else if j < z then j + 1 else j := fun _ => rfl
    refine ⟨fun x y h => ?_, fun x => ?_⟩
    · rw [e, e] at h
      by_cases a : x = z
      · by_cases b : y = z
        · omega
        · rw [if_pos a, if_neg b] at h
          by_cases c : y < z
          · rw [if_pos c] at h; omega
          · rw [if_neg c] at h; omega
      · by_cases b : y = z
        · rw [if_neg a, if_pos b] at h
          by_cases c : x < z
          · rw [if_pos c] at h; omega
          · rw [if_neg c] at h; omega
        · rw [if_neg a, if_neg b] at h
          by_cases c : x < z <;> by_cases d : y < z
          · rw [if_pos c, if_pos d] at h; omega
          · rw [if_pos c, if_neg d] at h; omega
          · rw [if_neg c, if_pos d] at h; omega
          · rw [if_neg c, if_neg d] at h; omega
    · rw [e]
      split
      · omega
      · split <;> omega
theorem sgV_sv : ∀ m, m < 25 → sgV m = I (svK (20 + m) : Nat) := by decide +kernel
theorem sr_wd : ∀ r, r < 15 → srK (5 + r) = 3 ∧ svK (5 + r) = r := by decide +kernel
theorem sr_sg : ∀ m, m < 25 → srK (20 + m) = 6 := by decide +kernel
theorem tk_of (R : RS m u) (h : TOKS u w n bad) (h17 : F w 17 ≤ 1342) : CTZ m w (fun p => (m.2.2.1 6 p).toNatClampNeg) n.i (nmQ n.q) (fun p => (w.2.2.1 7 p).toNatClampNeg) ∧ CTA m w (fun p => (m.2.2.1 6 p).toNatClampNeg) n.i ∧ (m.2.2.1 6 n.i).toNatClampNeg = (if bad = true then 45 else 0) ∧ (∀ j, j < n.i → (m.2.2.1 6 j).toNatClampNeg = 2 → ∃ r : Nat, r < n.na ∧ w.2.2.1 7 j = I (r : Nat)) ∧ ∀ j, j ≤ n.i → m.2.2.1 8 j = w.2.2.1 8 j := by
  have hk := h.k4
  have hik := h.ik
  have r5 : AI u 5 = m.2.2.1 5 := R.2.2.2.1 5 (by decide)
  have r6 : AI u 6 = m.2.2.1 6 := R.2.2.2.1 6 (by decide)
  have r7 : AI u 7 = m.2.2.1 7 := R.2.2.2.1 7 (by decide)
  have r8 : AI u 8 = m.2.2.1 8 := R.2.2.2.1 8 (by decide)
  have r13 : AI u 13 = m.2.2.1 13 := R.2.2.2.1 13 (by decide)
  have nn14 : n.nn < 1400 := by
    have l16 : ln 16 = 2200 := rfl
    have b := h.nmm.2.1.2.2.2.2.2.2.1
    have e : F w 17 = ((n.nn : Nat) : Int) := by
      unfold F
      rw [h.nmm.2.2.1, oI]
      exact I_ti (by omega) (by omega)
    omega
  have one : ∀ p, p < n.i → ∃ k, 1 ≤ k ∧ k ≤ 44 ∧ m.2.2.1 6 p = I (k : Nat) ∧ w.2.2.1 6 p = I (srK k : Nat) ∧ (5 ≤ k → w.2.2.1 7 p = I (svK k : Nat)) ∧ (k = 1 ∨ k = 2 → m.2.2.1 7 p = w.2.2.1 7 p) ∧ (k = 2 → ∃ r : Nat, r < n.na ∧ w.2.2.1 7 p = I (r : Nat)) ∧ (k = 3 → ∃ r : Nat, r < n.nn ∧ w.2.2.1 7 p = I (r : Nat) ∧ m.2.2.1 7 p = I (nmQ n.q r : Nat)) := fun p hp => by
    have kv := (h.tk p hp).1
    rw [r6, r7] at kv
    rcases kv with ⟨a, b, c⟩ | ⟨a, b, r, hr, c, d⟩ | ⟨a, b, r, hr, c, d⟩ | ⟨a, b, -⟩ | ⟨a, r, hr, b, c⟩ | ⟨a, m', hm, b, c⟩
    · exact ⟨1, by decide, by decide, a, b, fun z => by omega, fun _ => c.symm, fun z => by omega, fun z => by omega⟩
    · exact ⟨2, by decide, by decide, a, b, fun z => by omega, fun _ => d.trans c.symm, fun _ => ⟨r, hr, c.trans oI⟩, fun z => by omega⟩
    · exact ⟨3, by decide, by decide, a, b, fun z => by omega, fun z => by omega, fun z => by omega, fun _ => ⟨r, hr, c.trans oI, d.trans oI⟩⟩
    · exact ⟨4, by decide, by decide, a, b, fun z => by omega, fun z => by omega, fun z => by omega, fun z => by omega⟩
    · obtain ⟨s1, s2⟩ := sr_wd r hr
      exact ⟨5 + r, by omega, by omega, b.trans oI, by rw [a, s1]; rfl, fun _ => by rw [c, s2]; exact oI, fun z => by omega, fun z => by omega, fun z => by omega⟩
    · exact ⟨20 + m', by omega, by omega, b.trans oI, by rw [a, sr_sg m' hm]; rfl, fun _ => by rw [c]; exact sgV_sv m' hm, fun z => by omega, fun z => by omega, fun z => by omega⟩
  have kn : ∀ p k : Nat, k ≤ 45 → m.2.2.1 6 p = I (k : Nat) → (m.2.2.1 6 p).toNatClampNeg = k := fun p k hk e => by rw [e]; exact tnI (n := k) rfl (by omega)
  have e6 : m.2.2.1 6 n.i = I ((if bad = true then 45 else 0 : Nat) : Int) := by
    have := h.e6
    rw [r6] at this
    rw [this]
    cases bad <;> rfl
  have ke : (m.2.2.1 6 n.i).toNatClampNeg = (if bad = true then 45 else 0) := kn _ _ (by split <;> decide) e6
  have tkt : TKT (fun p => (m.2.2.1 6 p).toNatClampNeg) n.i := by
    refine ⟨by omega, fun p hp => ?_, ?_⟩
    · obtain ⟨k, k1, k2, k3, -⟩ := one p hp
      show 1 ≤ (m.2.2.1 6 p).toNatClampNeg ∧ (m.2.2.1 6 p).toNatClampNeg ≤ 44
      rw [kn p k (by omega) k3]; exact ⟨k1, k2⟩
    · show (m.2.2.1 6 n.i).toNatClampNeg = 0 ∨ (m.2.2.1 6 n.i).toNatClampNeg = 45
      rw [ke]
      cases bad
      · exact Or.inl rfl
      · exact Or.inr rfl
  refine ⟨⟨⟨tkt, fun p hp => ?_⟩, ⟨tkt, fun p hp => ?_, fun p hp h5 => ?_⟩, nmQ_J, fun j hj k3 => ?_⟩, fun j hj hk => ?_, ke, fun j hj hk => ?_, fun j hj => ?_⟩
  · show m.2.2.1 6 p = I (((m.2.2.1 6 p).toNatClampNeg : Nat) : Int)
    by_cases e : p = n.i
    · rw [e, ke]; exact e6
    · obtain ⟨k, k1, k2, k3, -⟩ := one p (by omega)
      rw [kn p k (by omega) k3]; exact k3
  · show w.2.2.1 6 p = I ((srK (m.2.2.1 6 p).toNatClampNeg : Nat) : Int)
    by_cases e : p = n.i
    · rw [e, ke, h.m6]
      cases bad <;> rfl
    · obtain ⟨k, k1, k2, k3, k4, -⟩ := one p (by omega)
      rw [kn p k (by omega) k3]; exact k4
  · obtain ⟨k, k1, k2, k3, k4, k5, -⟩ := one p hp
    have h5 : 5 ≤ (m.2.2.1 6 p).toNatClampNeg := h5
    show _ = I ((svK (m.2.2.1 6 p).toNatClampNeg : Nat) : Int)
    rw [kn p k (by omega) k3] at h5 ⊢
    exact k5 h5
  · obtain ⟨k, k1, k2, k6, k4, k5, -, -, k9⟩ := one j hj
    have kk : k = 3 := by rw [← kn j k (by omega) k6]; exact k3
    obtain ⟨r, hr, c, d⟩ := k9 kk
    have e7 : (w.2.2.1 7 j).toNatClampNeg = r := by rw [c]; exact tnI (n := r) rfl (by omega)
    show _ = I ((nmQ n.q (w.2.2.1 7 j).toNatClampNeg : Nat) : Int) ∧ _ = I (((w.2.2.1 7 j).toNatClampNeg : Nat) : Int) ∧ (w.2.2.1 7 j).toNatClampNeg < 1400 ∧ (UND w (w.2.2.1 7 j).toNatClampNeg ↔ nmQ n.q (w.2.2.1 7 j).toNatClampNeg = 0)
    rw [e7]
    refine ⟨d, c, by omega, ?_⟩
    obtain ⟨wf, wt, w17, ⟨g1, g2, g3, g4⟩, g5⟩ := h.nmm
    have t16 := wt.2.2.2.1
    have mon := wt.2.2.2.2.1 r hr
    have bnd1 := wt.2.2.2.2.2.1 (r + 1) (by omega)
    have l15 : ln 15 ≤ 100000 := by decide
    have ue : UND w r ↔ n.fr (r + 1) - n.fr r = 1 ∧ w.2.2.1 15 (n.fr r) = 95 := by
      unfold UND
      rw [t16 (r + 1) (by omega), t16 r (by omega), oI, oI, I_sub, tnI (n := n.fr r) rfl (by omega), show (1 : Int32) = I 1 from rfl, I_eq (by omega) (by omega) (by omega) (by omega)]
      constructor
      · rintro ⟨a, b⟩; exact ⟨by omega, b⟩
      · rintro ⟨a, b⟩; exact ⟨by omega, b⟩
    rw [ue]
    by_cases hq : n.q = some r
    · have nq : nmQ n.q r = 0 := by rw [hq]; exact if_pos rfl
      rw [nq]
      obtain ⟨c1, c2⟩ := g1 r hr
      rw [nq, g2.1, g2.2.1] at c1
      have c3 := c2 0 (by omega)
      rw [nq, g2.1] at c3
      refine ⟨fun _ => rfl, fun _ => ⟨by omega, ?_⟩⟩
      rw [show n.fr r = n.fr r + 0 from rfl, c3]
      exact g2.2.2
    · refine ⟨fun z => absurd z (g4 r hr hq), fun z => ?_⟩
      exfalso
      cases hqq : n.q with
      | none => rw [hqq] at z; exact absurd z (Nat.succ_ne_zero _)
      | some x =>
        rw [hqq] at z hq
        have e : nmQ (some x) r = if r = x then 0 else if r < x then r + 1 else r := rfl
        rw [e, if_neg (fun y => hq (by rw [y]))] at z
        by_cases y : r < x
        · rw [if_pos y] at z; omega
        · rw [if_neg y] at z
          exact hq (by rw [show r = x by omega])
  · obtain ⟨k, k1, k2, k6, k4, k5, k7, -⟩ := one j hj
    have kk : (m.2.2.1 6 j).toNatClampNeg = k := kn j k (by omega) k6
    have hk : (m.2.2.1 6 j).toNatClampNeg = 1 ∨ (m.2.2.1 6 j).toNatClampNeg = 2 := hk
    rw [kk] at hk
    exact k7 hk
  · obtain ⟨k, k1, k2, k6, k4, k5, k7, k8, -⟩ := one j hj
    exact k8 (by rw [← kn j k (by omega) k6]; exact hk)
  · by_cases e : j = n.i
    · rw [e, ← r8]; exact h.e8
    · rw [← r8]; exact (h.tk j (by omega)).2
end
end
section
set_option maxRecDepth 100000
def w36 (j : Nat) : Int32 := [115, 101, 108, 102, 115, 112, 97, 119, 110, 108, 105, 110, 107, 117, 110, 108, 105, 110, 107, 119, 97, 116, 99, 104, 117, 110, 119, 97, 116, 99, 104, 116, 114, 97, 112, 101, 120, 105, 116, 116, 104, 114, 111, 119, 101, 114, 114, 111, 114, 112, 114, 105, 110, 116, 114, 101, 102, 110, 97, 109, 101, 117, 110, 110, 97, 109, 101, 110, 97, 109, 101, 100, 97, 108, 105, 118, 101, 110, 111, 119, 105, 115, 95, 110, 117, 109, 98, 101, 114, 105, 115, 95, 97, 116, 111, 109, 105, 115, 95, 108, 105, 115, 116, 105, 115, 95, 116, 117, 112, 108, 101, 105, 115, 95, 102, 117, 110, 105, 115, 95, 112, 114, 111, 99, 101, 115, 115, 105, 115, 95, 114, 101, 102, 104, 100, 116, 108, 108, 101, 110, 103, 116, 104, 101, 108, 101, 109, 101, 110, 116, 115, 105, 122, 101].getD j 0
def f36 (j : Nat) : Nat := [0, 4, 9, 13, 19, 24, 31, 35, 39, 44, 49, 54, 57, 61, 67, 72, 77, 80, 89, 96, 103, 111, 117, 127, 133, 135, 137, 143, 150, 154].getD j 154
def sg36 (k : Nat) : Nat := if k ≤ 7 then k else k - 1
def CW36 (m : MS) : Prop := m.1 722 = I 29 ∧ (∀ j, j ≤ 29 → m.2.2.1 38 j = I (f36 j : Nat)) ∧ ∀ j, j < 154 → m.2.2.1 37 j = w36 j
def ATf (m w : MS) (fa : Nat → Nat) (na : Nat) : Prop := (m.1 22 = I (na : Nat) ∧ (∀ j, j ≤ na → m.2.2.1 3 j = I (fa j : Nat)) ∧ (∀ j, j < na → fa j ≤ fa (j + 1)) ∧ (∀ j, j ≤ na → fa j ≤ 4300) ∧ na < 2101) ∧ (w.1 14 = I (na : Nat) ∧ ∀ j, j ≤ na → w.2.2.1 13 j = I (fa j : Nat)) ∧ ∀ j, j < fa na → m.2.2.1 2 j = w.2.2.1 12 j
def MC36 (m : MS) (fa : Nat → Nat) (a i : Nat) : Prop := fa (a + 1) - fa a = f36 (i + 1) - f36 i ∧ ∀ j, j < f36 (i + 1) - f36 i → w36 (f36 i + j) = m.2.2.1 2 (fa a + j)
theorem f36_m : ∀ i, i < 29 → f36 i ≤ f36 (i + 1) ∧ f36 (i + 1) ≤ 154 := by decide +kernel
theorem d36 : ∀ i, i < 29 → ∀ k, k < 29 → i ≠ k → f36 (i + 1) - f36 i = f36 (k + 1) - f36 k → ∃ j, j < f36 (i + 1) - f36 i ∧ w36 (f36 i + j) ≠ w36 (f36 k + j) := by decide +kernel
theorem r36 : ∀ k, k < 30 → plen k = f36 (sg36 k + 1) - f36 (sg36 k) ∧ sg36 k < 29 ∧ ∀ j, j < plen k → mS0.2.2.1 2 (pst k + 2 + j) = w36 (f36 (sg36 k) + j) := by decide +kernel
theorem h36 : ∀ k, k < 30 → mS0.2.2.1 2 (pst k) = I (npre k : Nat) ∧ mS0.2.2.1 2 (pst k + 1) = I (plen k : Nat) := by decide +kernel
theorem t36 : ∀ k, k < 30 → k ≠ 8 → takL.getD (sg36 k) 0 = I (npre k : Nat) := by decide +kernel
theorem q36 : ∀ i, i < 29 → ∃ k, k < 30 ∧ k ≠ 8 ∧ sg36 k = i ∧ (18 ≤ k ↔ 17 ≤ i) := by decide +kernel
def mc36 (m : MS) (fa : Nat → Nat) (a i : Nat) : Bool := decide (fa (a + 1) - fa a = f36 (i + 1) - f36 i) && (List.range (f36 (i + 1) - f36 i)).all (fun j => decide (w36 (f36 i + j) = m.2.2.1 2 (fa a + j)))
theorem mc36_e {m : MS} {fa : Nat → Nat} {a i : Nat} : mc36 m fa a i = true ↔ MC36 m fa a i := by
  unfold mc36 MC36
  rw [Bool.and_eq_true, decide_eq_true_iff, List.all_eq_true]
  exact ⟨fun h => ⟨h.1, fun j hj => of_decide_eq_true (h.2 j (List.mem_range.mpr hj))⟩, fun h => ⟨h.1, fun j hj => decide_eq_true (h.2 j (List.mem_range.mp hj))⟩⟩
def ix36 (m : MS) (fa : Nat → Nat) (a : Nat) : Option Nat := (List.range 29).find? (fun i => mc36 m fa a i)
def cl36 (o : Option Nat) (y : Int32) : Nat := match o with
  | none => 0
  | some i => if i = 7 ∧ y = 2 then 1 else if takL.getD i 0 = y then (if 17 ≤ i then 2 else 1) else 0
section
variable {m m0 w w0 : MS} {fa : Nat → Nat} {na a i N b len L : Nat} {y : Int32}
theorem MC_u {k : Nat} (h1 : MC36 m fa a i) (h2 : MC36 m fa a k) (hi : i < 29) (hk : k < 29) : i = k := by
  refine Classical.byContradiction (fun e => ?_)
  obtain ⟨j, j1, j2⟩ := d36 i hi k hk e (h1.1.symm.trans h2.1)
  have e1 := h1.1
  have e2 := h2.1
  exact j2 ((h1.2 j j1).trans (h2.2 j (by omega)).symm)
theorem ix_s (h : MC36 m fa a i) (hi : i < 29) : ix36 m fa a = some i := by
  cases q : ix36 m fa a with
  | none => exact absurd (mc36_e.mpr h) (List.find?_eq_none.mp q i (List.mem_range.mpr hi))
  | some k =>
    have k1 : mc36 m fa a k = true := List.find?_some q
    have k2 := List.mem_range.mp (List.mem_of_find?_eq_some q)
    rw [MC_u h (mc36_e.mp k1) hi k2]
theorem ix_n (h : ∀ i, i < 29 → ¬ MC36 m fa a i) : ix36 m fa a = none := List.find?_eq_none.mpr (fun i hi q => h i (List.mem_range.mp hi) (mc36_e.mp q))
theorem same_lp (c : CW36 m) (hi : i < 29) (hb : b ≤ 5000) : ∀ (M t : Nat), t ≤ f36 (i + 1) - f36 i → (∀ j, j < t → w36 (f36 i + j) = m.2.2.1 2 (b + j)) → PK (fun v r => v = m ∧ ((r = 1 ∧ ∀ j, j < f36 (i + 1) - f36 i → w36 (f36 i + j) = m.2.2.1 2 (b + j)) ∨ (r = 0 ∧ ¬ ∀ j, j < f36 (i + 1) - f36 i → w36 (f36 i + j) = m.2.2.1 2 (b + j)))) (hg_Wo_isSame N M m 36 (I (i : Nat)) 2 (I (b : Nat)) (I (f36 i : Nat)) (I ((f36 i + t : Nat) : Int)))
  | 0, _, _, _ => pk_none
  | M + 1, t, ht, hq => by
    have fm := f36_m i hi
    show PK _ (hb_Wo_isSame_12 N (hg_Wo_isSame N M) m 36 (I (i : Nat)) 2 (I (b : Nat)) (I (f36 i : Nat)) (I ((f36 i + t : Nat) : Int)))
    unfold hb_Wo_isSame_12
    rw [i_suc, tnI (n := i + 1) rfl (by omega), tnI (n := f36 i + t) rfl (by omega), show m.2.2.1 (36 + 2) (i + 1) = I (f36 (i + 1) : Nat) from c.2.1 (i + 1) (by omega), decide_eq_decide.mpr (I_le (x := (f36 (i + 1) : Nat)) (y := ((f36 i + t : Nat) : Int)) (by omega) (by omega) (by omega) (by omega)), I_add, I_sub, tnI (x := ((b : Nat) : Int) + ((f36 i + t : Nat) : Int) - ((f36 i : Nat) : Int)) (n := b + t) (by omega) (by omega)]
    by_cases z : f36 (i + 1) ≤ f36 i + t
    · rw [decide_eq_true (by omega), br_tq]
      exact pk_ck (fun _ => pk_ck (fun _ => pk_some ⟨rfl, Or.inl ⟨rfl, fun j hj => hq j (by omega)⟩⟩))
    · rw [decide_eq_false (by omega), br_fq, show m.2.2.1 (36 + 1) (f36 i + t) = w36 (f36 i + t) from c.2.2 _ (by omega)]
      refine pk_ck (fun _ => pk_ck (fun _ => pk_ck (fun _ => pk_br (fun z1 => ?_) (fun z1 => ?_))))
      · rw [i_suc, show f36 i + t + 1 = f36 i + (t + 1) by omega]
        exact same_lp c hi hb M (t + 1) (by omega) (fun j hj => by
          by_cases e : j = t
          · rw [e]; exact of_decide_eq_true z1
          · exact hq j (by omega))
      · exact pk_ck (fun _ => pk_some ⟨rfl, Or.inr ⟨rfl, fun q => of_decide_eq_false z1 (q t (by omega))⟩⟩)
theorem same_p (c : CW36 m) (hi : i < 29) (hb : b ≤ 5000) : PK (fun v r => v = m ∧ ((r = 1 ∧ ∀ j, j < f36 (i + 1) - f36 i → w36 (f36 i + j) = m.2.2.1 2 (b + j)) ∨ (r = 0 ∧ ¬ ∀ j, j < f36 (i + 1) - f36 i → w36 (f36 i + j) = m.2.2.1 2 (b + j)))) (hm_Wo_isSame N m 36 (I (i : Nat)) 2 (I (b : Nat))) := by
  show PK _ (hb_Wo_isSame_0 N (hg_Wo_isSame N N) m 36 (I (i : Nat)) 2 (I (b : Nat)))
  unfold hb_Wo_isSame_0
  rw [tnI (n := i) rfl (by omega), show m.2.2.1 (36 + 2) i = I (f36 i : Nat) from c.2.1 i (by omega)]
  exact pk_ck (fun _ => same_lp c hi hb N 0 (Nat.zero_le _) (fun j hj => absurd hj (by omega)))
theorem sk36_lp (c : CW36 m) (hb : b ≤ 5000) (hl : len ≤ 5000) : ∀ (M i : Nat), i ≤ 29 → (∀ k, k < i → ¬ (len = f36 (k + 1) - f36 k ∧ ∀ j, j < f36 (k + 1) - f36 k → w36 (f36 k + j) = m.2.2.1 2 (b + j))) → PK (fun v r => v = m ∧ ((r = -1 ∧ ∀ k, k < 29 → ¬ (len = f36 (k + 1) - f36 k ∧ ∀ j, j < f36 (k + 1) - f36 k → w36 (f36 k + j) = m.2.2.1 2 (b + j))) ∨ ∃ k : Nat, k < 29 ∧ r = I (k : Nat) ∧ len = f36 (k + 1) - f36 k ∧ ∀ j, j < f36 (k + 1) - f36 k → w36 (f36 k + j) = m.2.2.1 2 (b + j))) (hg_Wo_seek N M m 36 2 (I (b : Nat)) (I (len : Nat)) (I (i : Nat)))
  | 0, _, _, _ => pk_none
  | M + 1, i, hi, hn => by
    show PK _ (hb_Wo_seek_3 N (hg_Wo_seek N M) m 36 2 (I (b : Nat)) (I (len : Nat)) (I (i : Nat)))
    unfold hb_Wo_seek_3 hb_Wo_seek_47
    rw [show m.1 (20 * 36 + 2) = I 29 from c.1, decide_eq_decide.mpr (I_le (x := (29 : Int)) (y := (i : Nat)) (by omega) (by omega) (by omega) (by omega))]
    by_cases z : 29 ≤ i
    · rw [decide_eq_true (by omega), br_tq]
      exact pk_some ⟨rfl, Or.inl ⟨rfl, fun k hk => hn k (by omega)⟩⟩
    · have fm := f36_m i (by omega)
      rw [decide_eq_false (by omega), br_fq, i_suc, tnI (n := i + 1) rfl (by omega), tnI (n := i) rfl (by omega), show m.2.2.1 (36 + 2) (i + 1) = I (f36 (i + 1) : Nat) from c.2.1 (i + 1) (by omega), show m.2.2.1 (36 + 2) i = I (f36 i : Nat) from c.2.1 i (by omega), I_sub]
      have nx : ¬ (len = f36 (i + 1) - f36 i ∧ ∀ j, j < f36 (i + 1) - f36 i → w36 (f36 i + j) = m.2.2.1 2 (b + j)) → PK (fun v r => v = m ∧ ((r = -1 ∧ ∀ k, k < 29 → ¬ (len = f36 (k + 1) - f36 k ∧ ∀ j, j < f36 (k + 1) - f36 k → w36 (f36 k + j) = m.2.2.1 2 (b + j))) ∨ ∃ k : Nat, k < 29 ∧ r = I (k : Nat) ∧ len = f36 (k + 1) - f36 k ∧ ∀ j, j < f36 (k + 1) - f36 k → w36 (f36 k + j) = m.2.2.1 2 (b + j))) (hg_Wo_seek N M m 36 2 (I (b : Nat)) (I (len : Nat)) (I ((i + 1 : Nat) : Int))) := fun hz => sk36_lp c hb hl M (i + 1) (by omega) (fun k hk => by
        by_cases e : k = i
        · rw [e]; exact hz
        · exact hn k (by omega))
      refine pk_ck (fun _ => pk_ck (fun _ => pk_br (fun z1 => pk_bnd (pk_mo (same_p c (by omega) hb) (fun v r hv => ?_))) (fun z1 => nx (fun q => ?_))))
      · obtain ⟨e, hv⟩ := hv
        rw [e]
        have ll : len = f36 (i + 1) - f36 i := by
          have := (I_eq (x := ((f36 (i + 1) : Nat) : Int) - ((f36 i : Nat) : Int)) (y := (len : Nat)) (by omega) (by omega) (by omega) (by omega)).mp (of_decide_eq_true z1)
          omega
        rcases hv with ⟨r1, hv⟩ | ⟨r1, hv⟩
        · rw [r1, show decide ((1 : Int32) = 0) = false from rfl, br_fq]
          exact pk_some ⟨rfl, Or.inr ⟨i, by omega, rfl, ll, hv⟩⟩
        · rw [r1, show decide ((0 : Int32) = 0) = true from rfl, br_tq]
          exact nx (fun q => hv q.2)
      · refine of_decide_eq_false z1 ?_
        rw [I_eq (by omega) (by omega) (by omega) (by omega)]
        omega
theorem skin_p (c : CW36 m) (h : ATf m w fa na) (ha : a < na) : PK (fun v r => v = m ∧ ((r = -1 ∧ ix36 m fa a = none) ∨ ∃ k : Nat, k < 29 ∧ r = I (k : Nat) ∧ ix36 m fa a = some k)) (hm_Wo_seekIn N m 1 36 (I (a : Nat))) := by
  obtain ⟨⟨h1, h2, h3, h4, h5⟩, -⟩ := h
  have f1 := h4 a (by omega)
  have f2 := h4 (a + 1) (by omega)
  have f3 := h3 a ha
  show PK _ (hb_Wo_seekIn_0 N () m 1 36 (I (a : Nat)))
  unfold hb_Wo_seekIn_0 hb_Wo_seekIn_45
  rw [show decide (I (a : Nat) < (0 : Int32)) = false from decide_eq_false (fun z => absurd ((I_lt (x := (a : Nat)) (y := (0 : Int)) (by omega) (by omega) (by omega) (by omega)).mp z) (by omega)), br_fq, show m.1 (20 * 1 + 2) = I (na : Nat) from h1, decide_eq_true ((I_lt (x := (a : Nat)) (y := (na : Nat)) (by omega) (by omega) (by omega) (by omega)).mpr (by omega)), br_tq, i_suc, tnI (n := a + 1) rfl (by omega), tnI (n := a) rfl (by omega), show m.2.2.1 (1 + 2) (a + 1) = I (fa (a + 1) : Nat) from h2 (a + 1) (by omega), show m.2.2.1 (1 + 2) a = I (fa a : Nat) from h2 a (by omega), I_sub, show ((fa (a + 1) : Nat) : Int) - ((fa a : Nat) : Int) = ((fa (a + 1) - fa a : Nat) : Int) by omega]
  refine pk_ck (fun _ => pk_ck (fun _ => pk_ck (fun _ => pk_bnd ?_)))
  have sk : PK _ (hm_Wo_seek N m 36 2 (I (fa a : Nat)) (I ((fa (a + 1) - fa a : Nat) : Int))) := sk36_lp (N := N) (b := fa a) (len := fa (a + 1) - fa a) c (by omega) (by omega) N 0 (Nat.zero_le _) (fun k hk => absurd hk (by omega))
  refine pk_mo sk (fun v r hv => pk_some ⟨hv.1, ?_⟩)
  rcases hv.2 with ⟨r1, r2⟩ | ⟨k, k1, k2, k3, k4⟩
  · exact Or.inl ⟨r1, ix_n (fun i hi q => r2 i hi ⟨q.1, q.2⟩)⟩
  · exact Or.inr ⟨k, k1, k2, ix_s ⟨k3, k4⟩ k1⟩
theorem pre_cl (hN : 200010 ≤ N) (c : CW36 m) (h : ATf m w fa na) (ha : a < na) (w36' : WDc m 36) (w1 : WDc m 1) : ∃ r, hm_Cm_predefinedOf N m (I (a : Nat)) y = some (m, r) ∧ (r = -1 ↔ cl36 (ix36 m fa a) y = 0) ∧ ((¬ r < 17 ∧ r ≤ 28) ↔ cl36 (ix36 m fa a) y = 2) := by
  have h5 := h.1.2.2.2.2
  obtain ⟨w', r', e, -⟩ := preOf_ok (u := m) (x := (a : Nat)) (n := 0) w36' w1 ⟨by omega, by omega⟩ (by decide) hN
  have ex : ∃ v r3, hm_Wo_seekIn N m 1 36 (I (a : Nat)) = some (v, r3) := by
    cases q : hm_Wo_seekIn N m 1 36 (I (a : Nat)) with
    | none =>
      exfalso
      unfold hm_Cm_predefinedOf hb_Cm_predefinedOf_0 at e
      rw [q] at e
      cases e
    | some x => exact ⟨x.1, x.2, rfl⟩
  obtain ⟨v, r3, e3⟩ := ex
  obtain ⟨rfl, hr⟩ := skin_p (N := N) c h ha v r3 e3
  unfold hm_Cm_predefinedOf hb_Cm_predefinedOf_0
  rw [e3, bnd_s]
  rcases hr with ⟨r1, r2⟩ | ⟨k, k1, k2, k3⟩
  · rw [r1, r2]
    refine ⟨-1, rfl, ⟨fun _ => rfl, fun _ => rfl⟩, ⟨fun z => absurd z.1 (by decide), fun z => absurd z (show ¬ ((0 : Nat) = 2) by decide)⟩⟩
  · rw [k2, k3]
    have e27 : hb_Cm_predefinedOf_27 N () v y (I (k : Nat)) = some (v, if takL.getD k 0 = y then I (k : Nat) else -1) := by
      unfold hb_Cm_predefinedOf_27 hb_Cm_predefinedOf_53 hb_Cm_predefinedOf_54
      rw [show decide (I (k : Nat) = (-1 : Int32)) = false from decide_eq_false (fun z => absurd ((I_eq (x := (k : Nat)) (y := (-1 : Int)) (by omega) (by omega) (by omega) (by omega)).mp (z.trans (show (-1 : Int32) = I (-1) from rfl))) (by omega)), br_fq, show decide ((29 : Int32) ≤ I (k : Nat)) = false from decide_eq_false (fun z => absurd ((I_le (x := (29 : Int)) (y := (k : Nat)) (by omega) (by omega) (by omega) (by omega)).mp z) (by omega)), br_fq, (I_inb (x := (k : Nat)) (n := 29) (by omega) (by omega)).mpr ⟨by omega, by omega⟩, tnI (n := k) rfl (by omega)]
      by_cases q : takL.getD k 0 = y
      · rw [decide_eq_true q, if_pos q]; rfl
      · rw [decide_eq_false q, if_neg q]; rfl
    have r27 : ∀ r : Int32, (r = if takL.getD k 0 = y then I (k : Nat) else -1) → ¬ (k = 7 ∧ y = 2) → (r = -1 ↔ cl36 (some k) y = 0) ∧ ((¬ r < 17 ∧ r ≤ 28) ↔ cl36 (some k) y = 2) := fun r hr hn => by
      have ce : cl36 (some k) y = if takL.getD k 0 = y then (if 17 ≤ k then 2 else 1) else 0 := by
        show (if k = 7 ∧ y = 2 then 1 else _) = _
        rw [if_neg hn]
      rw [ce, hr]
      by_cases q : takL.getD k 0 = y
      · rw [if_pos q, if_pos q]
        have i1 : I (k : Nat) ≠ (-1 : Int32) := fun z => absurd ((I_eq (x := (k : Nat)) (y := (-1 : Int)) (by omega) (by omega) (by omega) (by omega)).mp (z.trans (show (-1 : Int32) = I (-1) from rfl))) (by omega)
        have i2 : I (k : Nat) < (17 : Int32) ↔ k < 17 := (I_lt (x := (k : Nat)) (y := (17 : Int)) (by omega) (by omega) (by omega) (by omega)).trans (by omega)
        have i3 : I (k : Nat) ≤ (28 : Int32) ↔ k ≤ 28 := (I_le (x := (k : Nat)) (y := (28 : Int)) (by omega) (by omega) (by omega) (by omega)).trans (by omega)
        rw [i2, i3]
        by_cases g : 17 ≤ k
        · rw [if_pos g]
          exact ⟨⟨fun z => absurd z i1, fun z => absurd z (by decide)⟩, ⟨fun _ => rfl, fun _ => ⟨by omega, by omega⟩⟩⟩
        · rw [if_neg g]
          exact ⟨⟨fun z => absurd z i1, fun z => absurd z (by decide)⟩, ⟨fun z => absurd z.1 (by omega), fun z => absurd z (by decide)⟩⟩
      · rw [if_neg q, if_neg q]
        exact ⟨⟨fun _ => rfl, fun _ => rfl⟩, ⟨fun z => absurd z.1 (by decide), fun z => absurd z (by decide)⟩⟩
    have d7 : decide (I (k : Nat) = (7 : Int32)) = decide (k = 7) := I_dn (by omega) (by decide) rfl
    rw [d7]
    by_cases z : k = 7
    · rw [decide_eq_true z, br_tq]
      by_cases z2 : y = 2
      · rw [decide_eq_true z2, br_tq]
        have ce : cl36 (some k) y = 1 := if_pos ⟨z, z2⟩
        rw [ce]
        exact ⟨29, rfl, ⟨fun q => absurd q (by decide), fun q => absurd q (by decide)⟩, ⟨fun q => absurd q.2 (by decide), fun q => absurd q (by decide)⟩⟩
      · rw [decide_eq_false z2, br_fq]
        exact ⟨_, e27, r27 _ rfl (fun q => z2 q.2)⟩
    · rw [decide_eq_false z, br_fq]
      exact ⟨_, e27, r27 _ rfl (fun q => z q.1)⟩
end
end
section
set_option maxRecDepth 100000
section
variable {m m0 w w0 : MS} {fa : Nat → Nat} {na a i N b len L k : Nat} {y : Int32}
def MR36 (w : MS) (fa : Nat → Nat) (a : Nat) (y : Int32) (k : Nat) : Prop := I (npre k : Nat) = y ∧ fa (a + 1) - fa a = plen k ∧ ∀ j, j < plen k → w36 (f36 (sg36 k) + j) = w.2.2.1 12 (fa a + j)
def PRq (w : MS) (fa : Nat → Nat) (a : Nat) (y : Int32) (v : MS) (r : Int32) : Prop := v = w ∧ ((r = -1 ∧ ∀ k, k < 30 → ¬ MR36 w fa a y k) ∨ ∃ k : Nat, k < 30 ∧ r = I (k : Nat) ∧ MR36 w fa a y k)
theorem pr_in (h2 : w.2.2.1 2 = mS0.2.2.1 2) (h13 : w.2.2.1 13 a = I (fa a : Nat) ∧ fa a ≤ 4300) (ha : a < 2101) (hk : k < 30) {M : Nat} (hO : ¬ MR36 w fa a y k → ∀ M', PK (PRq w fa a y) ((gg_M_predefinedOf N M').1 w (I (a : Nat)) y (I (pst (k + 1) : Nat)) (I ((k + 1 : Nat) : Int)))) : ∀ (M t : Nat) (s : Bool), t ≤ plen k → (s = true → I (npre k : Nat) = y ∧ fa (a + 1) - fa a = plen k ∧ ∀ j, j < t → w36 (f36 (sg36 k) + j) = w.2.2.1 12 (fa a + j)) → (s = false → ¬ MR36 w fa a y k) → PK (PRq w fa a y) ((gg_M_predefinedOf N M).2 w (I (a : Nat)) y (I (pst k : Nat)) (I (k : Nat)) (I (plen k : Nat)) (b2c s) (I (t : Nat)))
  | 0, _, _, _, _, _ => pk_none
  | M + 1, t, s, ht, h1, h0 => by
    have pf := pst_f k hk
    have rf := r36 k hk
    show PK _ (fb_M_predefinedOf_64 N (gg_M_predefinedOf N M) w (I (a : Nat)) y (I (pst k : Nat)) (I (k : Nat)) (I (plen k : Nat)) (b2c s) (I (t : Nat)))
    have no : ¬ MR36 w fa a y k → PK (PRq w fa a y) ((gg_M_predefinedOf N M).1 w (I (a : Nat)) y (I (pst k : Nat) + (I (plen k : Nat) + 2)) (I (k : Nat) + 1)) := fun hz => by
      rw [show (2 : Int32) = I 2 from rfl, I_add, I_add, i_suc, show ((pst k : Nat) : Int) + (((plen k : Nat) : Int) + 2) = ((pst (k + 1) : Nat) : Int) by omega]
      exact hO hz M
    have fin : (s = true → MR36 w fa a y k) → PK (PRq w fa a y) (fb_M_predefinedOf_117 N (gg_M_predefinedOf N M) w (I (a : Nat)) y (I (pst k : Nat)) (I (k : Nat)) (I (plen k : Nat)) (b2c s)) := fun hz => by
      unfold fb_M_predefinedOf_117
      cases s with
      | false =>
        rw [show decide (b2c false = 0) = true from rfl, br_tq]
        exact no (h0 rfl)
      | true =>
        rw [show decide (b2c true = 0) = false from rfl, br_fq]
        exact pk_some ⟨rfl, Or.inr ⟨k, hk, rfl, hz rfl⟩⟩
    unfold fb_M_predefinedOf_64
    rw [decide_eq_decide.mpr (I_le (x := (plen k : Nat)) (y := (t : Nat)) (by omega) (by omega) (by omega) (by omega))]
    by_cases z : plen k ≤ t
    · rw [decide_eq_true (by omega), br_tq]
      refine fin (fun e => ?_)
      obtain ⟨g1, g2, g3⟩ := h1 e
      exact ⟨g1, g2, fun j hj => g3 j (by omega)⟩
    · rw [decide_eq_false (by omega), br_fq]
      cases s with
      | false =>
        rw [show decide (b2c false = 0) = true from rfl, br_tq]
        exact fin (fun e => absurd e (by decide))
      | true =>
        rw [show decide (b2c true = 0) = false from rfl, br_fq]
        obtain ⟨g1, g2, g3⟩ := h1 rfl
        have lt := rf.2.2 t (by omega)
        rw [tnI (x := (a : Nat)) (n := a) rfl (by omega), h13.1, show (2 : Int32) = I 2 from rfl, I_add, I_add, I_add, tnI (x := ((pst k : Nat) : Int) + 2 + ((t : Nat) : Int)) (n := pst k + 2 + t) (by omega) (by omega), tnI (x := ((fa a : Nat) : Int) + ((t : Nat) : Int)) (n := fa a + t) (by omega) (by omega), h2, lt]
        unfold fb_M_predefinedOf_109
        rw [i_suc]
        refine pk_ck (fun _ => pk_ck (fun _ => pk_ck (fun _ => pk_br (fun z1 => ?_) (fun z1 => ?_))))
        · exact pr_in h2 h13 ha hk (M := M) hO M (t + 1) true (by omega) (fun _ => ⟨g1, g2, fun j hj => by
            by_cases e : j = t
            · rw [e]; exact of_decide_eq_true z1
            · exact g3 j (by omega)⟩) (fun e => absurd e (by decide))
        · exact pr_in h2 h13 ha hk (M := M) hO M (t + 1) false (by omega) (fun e => absurd e (by decide)) (fun _ q => of_decide_eq_false z1 (q.2.2 t (by omega)))
theorem pr_out (h2 : w.2.2.1 2 = mS0.2.2.1 2) (h13 : w.2.2.1 13 a = I (fa a : Nat) ∧ fa a ≤ 4300) (h14 : w.2.2.1 13 (a + 1) = I (fa (a + 1) : Nat) ∧ fa (a + 1) ≤ 4300 ∧ fa a ≤ fa (a + 1)) (ha : a < 2101) : ∀ (d k : Nat), k + d = 30 → (∀ i, i < k → ¬ MR36 w fa a y i) → ∀ M, PK (PRq w fa a y) ((gg_M_predefinedOf N M).1 w (I (a : Nat)) y (I (pst k : Nat)) (I (k : Nat)))
  | 0, k, hk, hn, M => by
    cases M with
    | zero => exact pk_none
    | succ M =>
    have : k = 30 := by omega
    subst this
    show PK _ (fb_M_predefinedOf_5 N (gg_M_predefinedOf N M) w (I (a : Nat)) y (I (pst 30 : Nat)) (I ((30 : Nat) : Int)))
    unfold fb_M_predefinedOf_5
    rw [show decide (Int32.ofNat (ln 2) ≤ I (pst 30 : Nat)) = true from by decide +kernel, br_tq]
    exact pk_some ⟨rfl, Or.inl ⟨rfl, hn⟩⟩
  | d + 1, k, hk, hn, M => by
    cases M with
    | zero => exact pk_none
    | succ M =>
    have pf := pst_f k (by omega)
    have hh := h36 k (by omega)
    show PK _ (fb_M_predefinedOf_5 N (gg_M_predefinedOf N M) w (I (a : Nat)) y (I (pst k : Nat)) (I (k : Nat)))
    unfold fb_M_predefinedOf_5
    have l2 : Int32.ofNat (ln 2) = I 218 := rfl
    rw [l2, decide_eq_decide.mpr (I_le (x := (218 : Int)) (y := (pst k : Nat)) (by omega) (by omega) (by omega) (by omega)), decide_eq_false (by omega), br_fq, i_suc, tnI (n := pst k + 1) rfl (by omega), tnI (n := pst k) rfl (by omega), h2, hh.1, hh.2, i_suc, tnI (x := ((a + 1 : Nat) : Int)) (n := a + 1) rfl (by omega), tnI (x := (a : Nat)) (n := a) rfl (by omega), h13.1, h14.1, I_sub]
    have nx : ¬ MR36 w fa a y k → ∀ M', PK (PRq w fa a y) ((gg_M_predefinedOf N M').1 w (I (a : Nat)) y (I (pst (k + 1) : Nat)) (I ((k + 1 : Nat) : Int))) := fun hz M' => pr_out h2 h13 h14 ha d (k + 1) (by omega) (fun i hi => by
      by_cases e : i = k
      · rw [e]; exact hz
      · exact hn i (by omega)) M'
    have go : ∀ s : Bool, (s = true → I (npre k : Nat) = y ∧ fa (a + 1) - fa a = plen k) → (s = false → ¬ MR36 w fa a y k) → PK (PRq w fa a y) ((gg_M_predefinedOf N M).2 w (I (a : Nat)) y (I (pst k : Nat)) (I (k : Nat)) (I (plen k : Nat)) (b2c s) 0) := fun s g1 g2 => pr_in (M := M) h2 h13 ha (by omega) nx M 0 s (Nat.zero_le _) (fun e => ⟨(g1 e).1, (g1 e).2, fun j hj => absurd hj (by omega)⟩) g2
    unfold fb_M_predefinedOf_58 fb_M_predefinedOf_59
    refine pk_ck (fun _ => pk_ltq (pk_ck (fun _ => pk_br (fun z1 => pk_ck (fun _ => pk_ck (fun _ => pk_br (fun z2 => ?_) (fun z2 => ?_)))) (fun z1 => ?_))))
    · have := (I_eq (x := ((fa (a + 1) : Nat) : Int) - ((fa a : Nat) : Int)) (y := (plen k : Nat)) (by omega) (by omega) (by omega) (by omega)).mp (of_decide_eq_true z2)
      exact go true (fun _ => ⟨of_decide_eq_true z1, by omega⟩) (fun e => absurd e (by decide))
    · refine go false (fun e => absurd e (by decide)) (fun _ q => of_decide_eq_false z2 ?_)
      rw [I_eq (by omega) (by omega) (by omega) (by omega)]
      have := q.2.1
      omega
    · exact go false (fun e => absurd e (by decide)) (fun _ q => of_decide_eq_false z1 q.1)
theorem pre_rf (h2 : w.2.2.1 2 = mS0.2.2.1 2) (h : ATf m w0 fa na) (h12 : w.2.2.1 12 = w0.2.2.1 12) (h13 : w.2.2.1 13 = w0.2.2.1 13) (ha : a < na) : PK (fun v r => v = w ∧ (r = -1 ↔ cl36 (ix36 m fa a) y = 0) ∧ (18 ≤ r ↔ cl36 (ix36 m fa a) y = 2)) (fm_M_predefinedOf N w (I (a : Nat)) y) := by
  obtain ⟨⟨a1, a2, a3, a4, a5⟩, ⟨b1, b2⟩, c1⟩ := h
  have f3 := a3 a ha
  have mono : ∀ d j, j + d = na → fa j ≤ fa na := fun d => by
    induction d with
    | zero => intro j hj; rw [show j = na by omega]; exact Nat.le_refl _
    | succ d ih => intro j hj; exact Nat.le_trans (a3 j (by omega)) (ih (j + 1) (by omega))
  have fna := mono (na - (a + 1)) (a + 1) (by omega)
  have pr := pr_out (N := N) (y := y) h2 ⟨by rw [h13]; exact b2 a (by omega), a4 a (by omega)⟩ ⟨by rw [h13]; exact b2 (a + 1) (by omega), a4 (a + 1) (by omega), f3⟩ (by omega) 30 0 rfl (fun i hi => absurd hi (by omega)) N
  have prr : PK (PRq w fa a y) (fm_M_predefinedOf N w (I (a : Nat)) y) := pr
  refine pk_mo prr (fun v r q => ⟨q.1, ?_⟩)
  have mc : ∀ k, k < 30 → MR36 w fa a y k → MC36 m fa a (sg36 k) := fun k hk q => by
    obtain ⟨p1, p2, p3⟩ := r36 k hk
    refine ⟨q.2.1.trans p1, fun j hj => ?_⟩
    rw [q.2.2 j (by omega), h12]
    exact (c1 _ (by have := q.2.1; omega)).symm
  have mr : ∀ k, k < 30 → MC36 m fa a (sg36 k) → I (npre k : Nat) = y → MR36 w fa a y k := fun k hk q hy => by
    obtain ⟨p1, p2, p3⟩ := r36 k hk
    refine ⟨hy, q.1.trans p1.symm, fun j hj => ?_⟩
    rw [h12, ← c1 _ (by have := q.1; omega)]
    exact q.2 j (by omega)
  have sg8 : sg36 8 = 7 := rfl
  have n8 : I ((npre 8 : Nat) : Int) = (2 : Int32) := rfl
  have i18 : ∀ k : Nat, k < 30 → ((18 : Int32) ≤ I (k : Nat) ↔ 18 ≤ k) := fun k hk => (I_le (x := (18 : Int)) (y := (k : Nat)) (by omega) (by omega) (by omega) (by omega)).trans (by omega)
  rcases q.2 with ⟨r1, r2⟩ | ⟨k, k1, k2, k3⟩
  · have c0 : cl36 (ix36 m fa a) y = 0 := by
      cases e : ix36 m fa a with
      | none => rfl
      | some i =>
        have i1 : mc36 m fa a i = true := List.find?_some e
        have i2 := List.mem_range.mp (List.mem_of_find?_eq_some e)
        have i1 := mc36_e.mp i1
        show (if i = 7 ∧ y = 2 then 1 else if takL.getD i 0 = y then (if 17 ≤ i then 2 else 1) else 0) = 0
        by_cases z : i = 7 ∧ y = 2
        · exact absurd (mr 8 (by decide) (by rw [sg8, ← z.1]; exact i1) (by rw [n8, z.2])) (r2 8 (by decide))
        · rw [if_neg z]
          by_cases z2 : takL.getD i 0 = y
          · obtain ⟨k, k1, k2, k3, -⟩ := q36 i i2
            exact absurd (mr k k1 (by rw [k3]; exact i1) (by rw [← t36 k k1 k2, k3]; exact z2)) (r2 k k1)
          · rw [if_neg z2]
    rw [r1, c0]
    exact ⟨⟨fun _ => rfl, fun _ => rfl⟩, ⟨fun z => absurd z (by decide), fun z => absurd z (by decide)⟩⟩
  · have hm := mc k k1 k3
    have hs := (r36 k k1).2.1
    rw [ix_s hm hs, k2, i18 k k1]
    have i1 : I (k : Nat) ≠ (-1 : Int32) := fun z => absurd ((I_eq (x := (k : Nat)) (y := (-1 : Int)) (by omega) (by omega) (by omega) (by omega)).mp (z.trans (show (-1 : Int32) = I (-1) from rfl))) (by omega)
    have ce : cl36 (some (sg36 k)) y = if sg36 k = 7 ∧ y = 2 then 1 else if takL.getD (sg36 k) 0 = y then (if 17 ≤ sg36 k then 2 else 1) else 0 := rfl
    rw [ce]
    by_cases z : sg36 k = 7 ∧ y = 2
    · rw [if_pos z]
      have : k ≤ 8 := by
        have := z.1
        unfold sg36 at this
        split at this <;> omega
      exact ⟨⟨fun q => absurd q i1, fun q => absurd q (by decide)⟩, ⟨fun q => absurd q (by omega), fun q => absurd q (by decide)⟩⟩
    · rw [if_neg z]
      have k8 : k ≠ 8 := fun e => z (by rw [e]; exact ⟨rfl, by rw [← k3.1, e]; rfl⟩)
      rw [if_pos ((t36 k k1 k8).trans k3.1)]
      have se : 17 ≤ sg36 k ↔ 18 ≤ k := by
        unfold sg36
        split <;> omega
      by_cases g : 17 ≤ sg36 k
      · rw [if_pos g]
        exact ⟨⟨fun q => absurd q i1, fun q => absurd q (by decide)⟩, ⟨fun _ => rfl, fun _ => se.mp g⟩⟩
      · rw [if_neg g]
        exact ⟨⟨fun q => absurd q i1, fun q => absurd q (by decide)⟩, ⟨fun q => absurd (se.mpr q) g, fun q => absurd q (by decide)⟩⟩
theorem pdf_all (hN : 200010 ≤ N) (c : CW36 m) (h : ATf m w fa na) (w36' : WDc m 36) (w1 : WDc m 1) (h2 : w.2.2.1 2 = mS0.2.2.1 2) (ha : a < na) : PDF N m w (I (a : Nat)) y (cl36 (ix36 m fa a) y) := by
  refine ⟨fun v hv => pre_rf (by rw [hv 2 (by decide)]; exact h2) h (hv 12 (by decide)) (hv 13 (by decide)) ha, fun m' hm => ?_⟩
  obtain ⟨k1, k2, k3⟩ := hm
  have c' : CW36 m' := ⟨by rw [k2 722 (by decide) (by decide)]; exact c.1, fun j hj => by rw [k3 38 (by decide) (by decide)]; exact c.2.1 j hj, fun j hj => by rw [k3 37 (by decide) (by decide)]; exact c.2.2 j hj⟩
  have h' : ATf m' w fa na := ⟨⟨by rw [k1.1 22 (by decide)]; exact h.1.1, fun j hj => by rw [k1.2 3 (by decide)]; exact h.1.2.1 j hj, h.1.2.2⟩, h.2.1, fun j hj => by rw [k1.2 2 (by decide)]; exact h.2.2 j hj⟩
  have ixe : ix36 m' fa a = ix36 m fa a := by
    unfold ix36 mc36
    rw [k1.2 2 (by decide)]
  have wd : ∀ v, (v = 36 ∨ v = 1) → WDc m v → WDc m' v := fun v hv q => by
    have e1 : F m' (20 * v + 2) = F m (20 * v + 2) := by
      rcases hv with rfl | rfl
      · exact congrArg Int32.toInt (k2 722 (by decide) (by decide))
      · exact congrArg Int32.toInt (k1.1 22 (by decide))
    have e2 : ∀ j, A m' (v + 2) j = A m (v + 2) j := fun j => by
      rcases hv with rfl | rfl
      · exact congrArg Int32.toInt (congrFun (k3 38 (by decide) (by decide)) j)
      · exact congrArg Int32.toInt (congrFun (k1.2 3 (by decide)) j)
    unfold WDc at q ⊢
    rw [e1]
    exact ⟨q.1, q.2.1, q.2.2.1, q.2.2.2.1, fun k hk => by rw [e2, e2]; exact q.2.2.2.2 k hk⟩
  have := pre_cl (y := y) hN c' h' ha (wd 36 (Or.inl rfl) w36') (wd 1 (Or.inr rfl) w1)
  rw [ixe] at this
  exact this
end
end
section
set_option maxRecDepth 100000
section
variable {u12 m w x v0 : MS} {N g c n q TN SN T : Nat} {ps bw : Nat → Nat} {r : Int32}
theorem cmpC_ok (hN : 1000000000 ≤ N) (s12 : STA u12) (c12 : CST u12) (r12w : WRS u12) (tk12 : TKS u12 c ps) (e441 : F u12 441 = 1) (hp : PFI v0 u12 c g c n q) : OK (fun w r => r = 0 → F w 442 ≤ 60 ∧ F w 714 = 1000000000 ∧ F w 711 = 0 ∧ F w 22 ≤ 200 ∧ F w 85 ≤ 1500 ∧ F w 441 < 24000) (hm_Cm_compile N u12) := by
  obtain ⟨-, psi, h42, h6, fns⟩ := hp
  obtain ⟨-, ⟨-, -⟩, ⟨-, hn⟩, h449, -⟩ := psi
  have c4 := tk12.1.2
  unfold hm_Cm_compile hb_Cm_compile_0
  refine ok_lt.mpr (ok_lt.mpr (ok_lt.mpr (ok_lt.mpr ?_)))
  rw [lit0q, wi_e, wi_e, wi_e, show (1000000000 : Int32) = I 1000000000 from rfl, wi_e]
  have fs : FR [714, 711, 712, 713] [] [] [] u12 (wi (wi (wi (wi u12 714 1000000000) 711 0) 712 0) 713 0) := FR.wi (FR.wi (FR.wi (FR.wi FR.rf (by simp)) (by simp)) (by simp)) (by simp)
  have d14 : F (wi (wi (wi (wi u12 714 1000000000) 711 0) 712 0) 713 0) 714 = 1000000000 := by rw [F_wi (by decide) (by decide), if_neg (by decide), F_wi (by decide) (by decide), if_neg (by decide), F_wi (by decide) (by decide), if_neg (by decide), F_wi (by decide) (by decide), if_pos rfl]
  have d11 : F (wi (wi (wi (wi u12 714 1000000000) 711 0) 712 0) 713 0) 711 = 0 := by rw [F_wi (by decide) (by decide), if_neg (by decide), F_wi (by decide) (by decide), if_neg (by decide), F_wi (by decide) (by decide), if_pos rfl]
  have d12 : F (wi (wi (wi (wi u12 714 1000000000) 711 0) 712 0) 713 0) 712 = 0 := by rw [F_wi (by decide) (by decide), if_neg (by decide), F_wi (by decide) (by decide), if_pos rfl]
  have d13 : F (wi (wi (wi (wi u12 714 1000000000) 711 0) 712 0) 713 0) 713 = 0 := by rw [F_wi (by decide) (by decide), if_pos rfl]
  generalize wi (wi (wi (wi u12 714 1000000000) 711 0) 712 0) 713 0 = s at fs d14 d11 d12 d13
  have cs : CST s := CST_fr fs c12 (by simp) (by simp) (by simp) (by simp)
  have rs : WRS s := WRS_fr fs r12w (by simp) (by simp) (by simp) (by simp)
  have ts : TKS s c ps := TKS_fr fs tk12 (by simp) (by simp)
  have w36 : WDc s 36 := WD_fr fs s12.2.2.1 (by simp) (by simp)
  have sA : ∀ r j, A s r j = A u12 r j := fun r j => FRc_A fs (by simp)
  have s441 : F s 441 = 1 := by rw [FRc_F fs (by simp)]; exact e441
  have s42 : F s 442 = ((g : Nat) : Int) := by rw [FRc_F fs (by simp)]; exact h42
  have fn2 : FNSc s g c n q := FNS_k (fs.2.2.1 6 (by simp)) (fs.2.2.1 7 (by simp)) (fun k _ => ⟨sA _ _, sA _ _, sA _ _, sA _ _, sA _ _, sA _ _⟩) (fun f _ => ⟨sA _ _, sA _ _, sA _ _⟩) fns
  obtain ⟨B, b0, b1, b2⟩ := FNS_B fn2
  have xs : CMX s c ps (B g).2.2 := ⟨⟨cs, ts⟩, ⟨w36, rs.1.1⟩, by rw [s42]; omega, by rw [FRc_F fs (by simp), h449, b1]⟩
  have cw : CW0 s := ⟨by rw [s441]; omega, by rw [d14]; omega, Or.inl d11, ⟨d12, d13⟩, fun j hj => by rw [sA, sA]; exact s12.2.2.2.1 j hj⟩
  have sz : szc s = 1 := by show (F s 441).toNat = 1; rw [s441]; rfl
  rw [← lit0q, lit0q]
  refine ok_mono (compileX_ok (N := N) hN xs (by omega) s42 b0 b2 (by rw [b1]; exact Nat.le_refl _) (by rw [b1]; show n ≤ 8000; omega) N 0 s (by omega) (by omega) FR.rf cw (fun _ => by rw [s441, b0]; unfold WBc; omega) (fun _ => by rw [sz, b0]; exact ALP_0)) (fun w r cp e => ?_)
  obtain ⟨k2, cw2, hr⟩ := cp
  obtain ⟨a1, a2, -⟩ := hr e
  exact ⟨a1, a2⟩
theorem CAC_of (h : r = 0 → F m 442 ≤ 60 ∧ F m 714 = 1000000000 ∧ F m 711 = 0 ∧ F m 22 ≤ 200 ∧ F m 85 ≤ 1500 ∧ F m 441 < 24000) : CAC m r := fun z => by
  obtain ⟨a1, a2, a3, a4, a5, a6⟩ := h z
  have r42 := F_r m 442
  have r22 := F_r m 22
  have r85 := F_r m 85
  have r41 := F_r m 441
  refine ⟨I_F' a2, I_F' a3, ?_, ?_, ?_, ?_⟩
  · rw [I_F (k := 442)]
    exact fun q => absurd ((I_lt (x := (60 : Int)) (by omega) (by omega) r42.1 r42.2).mp q) (by omega)
  · rw [I_F (k := 22)]
    exact fun q => absurd ((I_lt (x := (200 : Int)) (by omega) (by omega) r22.1 r22.2).mp q) (by omega)
  · rw [I_F (k := 85)]
    exact (I_le (y := (1500 : Int)) r85.1 r85.2 (by omega) (by omega)).mpr a5
  · rw [I_F (k := 441)]
    exact (I_lt (y := (24000 : Int)) r41.1 r41.2 (by omega) (by omega)).mpr a6
theorem rd27_p : PK (fun v s => s = r ∧ v.1 10 = (if r = 0 then 1 else 0) ∧ v.1 81 = 0 ∧ (∀ k, k < 860 → k ≠ 10 → k ≠ 81 → v.1 k = m.1 k) ∧ ∀ k, k < 44 → v.2.2.1 k = m.2.2.1 k) (hb_H_read_27 N () m r) := by
  unfold hb_H_read_27
  have e45 : ∀ t : Int32, t = (if r = 0 then 1 else 0) → PK (fun v s => s = r ∧ v.1 10 = (if r = 0 then 1 else 0) ∧ v.1 81 = 0 ∧ (∀ k, k < 860 → k ≠ 10 → k ≠ 81 → v.1 k = m.1 k) ∧ ∀ k, k < 44 → v.2.2.1 k = m.2.2.1 k) (hb_H_read_45 N () (upI m 81 0) r t) := fun t ht => by
    unfold hb_H_read_45
    refine pk_ck (fun _ => pk_ltq (pk_bnd (pk_mo (pk_ok (clearAll_new (N := N) (u := upI (upI m 81 0) 10 t))) (fun v _ hv => pk_some ⟨rfl, ?_, ?_, fun k h1 h2 h3 => ?_, fun k hk => ?_⟩))))
    · rw [hv.2.1 10 (by omega) (by simp), upI_at]; exact ht
    · rw [hv.2.1 81 (by omega) (by simp), upI_ne (by decide), upI_at]
    · rw [hv.2.1 k (by omega) (by simp; omega), upI_ne h2, upI_ne h3]
    · rw [hv.2.2.2.1 k (by omega) (by simp)]; rfl
  refine pk_ltq (pk_br (fun z => e45 1 ?_) (fun z => e45 0 ?_))
  · rw [if_pos (of_decide_eq_true z)]
  · rw [if_neg (of_decide_eq_false z)]
theorem prog_bad (hN : 20000 ≤ N) (tk : TKW w TN SN bw) (hT : T < TN) (h7 : A w 6 T = 7) (h67 : F w 67 = 0) (tb : TBL w) (at' : ATM w) (h0 : F w 75 = 0 ∧ F w 77 = 0 ∧ F w 83 = 0) (h71 : 0 ≤ F w 71 ∧ F w 71 < 4002) (k44 : K44 w) (k49 : K49 w) : OK (fun x _ => PRO w x ∧ F x 67 ≠ 0) (fm_M_program N w) := by
  obtain ⟨t1, t2, t3, t4, t5⟩ := tk
  have mono : ∀ d j, j + d = TN → bw j ≤ bw TN := fun d => by
    induction d with
    | zero => intro j hj; rw [show j = TN by omega]; exact Nat.le_refl _
    | succ d ih => intro j hj; have := (t4 j (by omega)).1; have := ih (j + 1) (by omega); omega
  have tkT : TKW w T SN bw := ⟨⟨by omega, Or.inr h7⟩, fun i hi => t2 i (by omega), t3, fun i hi => t4 i (by omega), by have := mono (TN - T) T (by omega); omega⟩
  refine ok_mono (program_ok hN (by omega) (fun _ => tkT) tb at' h0 h71 k44 k49) (fun x _ hx => ?_)
  rcases hx with ⟨G, hG, ⟨f1, f2, ⟨p, n, q, c, f, h, f3, f4, f5⟩, f6, f7⟩, f8⟩ | hx
  · exfalso
    have e69 : F x 69 = p := f3.1.1
    have p0 : 0 ≤ p := f3.2.2.2.2.2.1.1
    have e6 : A x 6 p.toNat = 0 := by
      have : (x.1 69).toNatClampNeg = p.toNat := by rw [tn_F, e69]
      rw [this] at f8
      show (x.2.2.1 6 p.toNat).toInt = 0
      rw [f8]; rfl
    have fa : A x 6 p.toNat = A w 6 p.toNat := f1.A (by decide)
    rw [fa] at e6
    by_cases z : p.toNat < T
    · have := (t2 p.toNat (by omega)).1
      omega
    · rw [show p.toNat = T by omega] at e6
      omega
  · exact ⟨hx.1, hx.2.1⟩
end
end
section
set_option maxRecDepth 100000
def TBA (m w : MS) : Prop := ∃ g : Nat, g ≤ 666 ∧ m.1 442 = I (g : Nat) ∧ w.1 52 = I (g : Nat) ∧ ∀ f, f < g → m.2.2.1 24 f = w.2.2.1 47 f ∧ m.2.2.1 25 f = w.2.2.1 48 f ∧ m.2.2.1 28 f = w.2.2.1 51 f ∧ (∃ a : Nat, a ≤ 6 ∧ w.2.2.1 48 f = I (a : Nat)) ∧ ∃ p : Nat, p < 4000 ∧ w.2.2.1 49 f = I (p : Nat) ∧ m.2.2.1 26 f = w.2.2.1 8 p
def RDZ (m9 w13 m2 : MS) (_ : Int32) (w2 : MS) (_ : Int32) : Prop := ((m2.1 10 = 0 ∧ w2.1 86 = 0) ∨ (m2.1 10 = 1 ∧ w2.1 86 = 1 ∧ TBA m2 w2)) ∧ ((∀ k, k < 300 → k ≠ 10 → k ≠ 81 → m2.1 k = m9.1 k) ∧ (∀ k, k < 15 ∨ (36 ≤ k ∧ k ≤ 38) → m2.2.2.1 k = m9.2.2.1 k) ∧ ∀ k, 720 ≤ k → k < 740 → m2.1 k = m9.1 k) ∧ ((∀ k, k ∈ [9, 10, 11, 14, 17, 20] → w2.1 k = w13.1 k) ∧ ∀ k, k ∈ TRW → w2.2.2.1 k = w13.2.2.1 k)
section
variable {α β : Type} {m w m9 w13 m12 w14 : MS} {K nm Nk : Nat → Nat} {N T c n : Nat} {pd : Int32 → Int32 → Nat} {ps : Nat → Nat} {D : Nat → FDT} {g p q : Nat}
theorem pp_kl {R : MS → α → MS → β → Prop} {Q : MS → α → Prop} {a : Option (MS × α)} {b : Option (MS × β)} (h : PP R a b) (k : PK Q a) : PP (fun m z w r => R m z w r ∧ Q m z) a b := fun m z w r e1 e2 => ⟨h m z w r e1 e2, k m z e1⟩
def rdE (N : Nat) (w14 : MS) : Option (MS × Int32) := lt (upI w14 5 0) (fun w15 => br (decide ((w15.1 67) = 0)) (bnd (fm_M_calls N w15) (fun u16 _ => br (decide ((u16.1 72) = 0)) (br (decide ((u16.1 66) = 0)) (br (decide (60 < (u16.1 52))) (fb_M_read_162 N () u16) (br (decide (200 < (u16.1 14))) (fb_M_read_162 N () u16) (br (decide ((u16.1 9) ≤ 1500)) (lt (upI u16 86 1) (fun w17 => some (w17, 0))) (fb_M_read_162 N () u16)))) (fb_M_read_162 N () u16)) (ck (inb (u16.1 71) (ln 8)) (some (u16, ((u16.1 72) + (16 * (u16.2.2.1 8 (u16.1 71).toNatClampNeg)))))))) (some (w15, ((w15.1 67) + (16 * (w15.1 68))))))
def rdC (N : Nat) (m12 : MS) (r12 : Int32) : Option (MS × Int32) := br (decide (r12 = 0)) (bnd (hm_Cm_compile N m12) (fun u15 r15 => hb_H_read_27 N () u15 (r15))) (hb_H_read_27 N () m12 (r12))
theorem rd_flt {r12 : Int32} (hr : r12 ≠ 0) (hf : FLW w14) (k1 : (∀ k, k < 300 → m12.1 k = m9.1 k) ∧ (∀ k, k < 15 ∨ (36 ≤ k ∧ k ≤ 38) → m12.2.2.1 k = m9.2.2.1 k) ∧ ∀ k, 720 ≤ k → k < 740 → m12.1 k = m9.1 k) (k2 : (∀ k, k ∈ [9, 10, 11, 14, 17, 20] → w14.1 k = w13.1 k) ∧ ∀ k, k ∈ TRW → w14.2.2.1 k = w13.2.2.1 k) (k86 : w14.1 86 = 0) : PP (RDZ m9 w13) (rdC N m12 r12) (rdE N w14) := by
  unfold rdC rdE
  rw [decide_eq_false hr, br_fq]
  refine r_lt ?_
  have e67 : (upI w14 5 0).1 67 ≠ 0 := by rw [upI_ne (by decide)]; exact hf
  rw [decide_eq_false e67, br_fq]
  refine pp_r (pk_mo rd27_p (fun v s hv => ?_))
  obtain ⟨h1, h2, h3, h4, h5⟩ := hv
  rw [if_neg hr] at h2
  refine ⟨Or.inl ⟨h2, by rw [upI_ne (by decide)]; exact k86⟩, ⟨fun k h1 h2 h3 => (h4 k (by omega) h2 h3).trans (k1.1 k h1), fun k hk => (h5 k (by omega)).trans (k1.2.1 k hk), fun k h1 h2 => (h4 k (by omega) (by omega) (by omega)).trans (k1.2.2 k h1 h2)⟩, fun k hk => ?_, k2.2⟩
  rw [upI_ne (by rintro rfl; revert hk; decide)]
  exact k2.1 k hk
theorem rd_ok (hN : 1000000000 ≤ N) (th : TKH N m9 w13 K T nm Nk pd) (kT : K T = 0) (h : PGI N m9 w13 K T nm pd (pS0 m9) (pW0 w13) g p n D m12 w14) (g66 : g ≤ 666) (w67 : w14.1 67 = 0) (w86 : w14.1 86 = 0) (w72 : w13.1 72 = 0) (hln : ∀ j, j ≤ T → m9.2.2.1 8 j = w13.2.2.1 8 j) (hng : ∀ i : Nat, ((i : Nat) : Int) < F w14 32 → A w14 23 i = 12 → 0 ≤ A w14 25 i ∧ A w14 25 i < F w13 14) (ca : PK (fun v r => CAC v r) (hm_Cm_compile N m12)) : PP (RDZ m9 w13) (rdC N m12 0) (rdE N w14) := by
  obtain ⟨c, cA, cP, cQ, e22, e85, -⟩ := th
  have hP : PDK m9 m12 := by
    obtain ⟨-, ⟨pc, -⟩, -⟩ := id h
    refine ⟨h.1.1.1, fun k h1 h2 => ?_, fun k h1 h2 => ?_⟩
    · rw [pc.1 k (by simp only [List.mem_cons, List.not_mem_nil, or_false]; omega)]
      exact pS0_i (by simp only [List.mem_cons, List.not_mem_nil, or_false]; omega)
    · rw [pc.2.1 k (by omega)]; rfl
  have csz := h.2.2.2.2.2.1
  obtain ⟨b, b', ⟨z1, z2, z3, z4⟩, z5, z6⟩ := id csz
  have b0 : b = 0 := by
    have e : (pW0 w13).1 32 = 0 := pW0_0 (by decide)
    have := (I_eq (x := (b : Nat)) (y := (0 : Int)) (by omega) (by omega) (by omega) (by omega)).mp (z1.symm.trans e)
    omega
  subst b0
  have i66 : (pW0 w13).1 66 = 0 := pW0_0 (by decide)
  have i72 : (pW0 w13).1 72 = 0 := by rw [pW0_i (by decide)]; exact w72
  have kt : Ktc w13 w14 := h.1.1.2.1
  have at12 : ∀ i, i < b' → w14.2.2.1 23 i = 12 → PDF N m9 w13 (w14.2.2.1 25 i) (w14.2.2.1 26 i) (pd (w14.2.2.1 25 i) (w14.2.2.1 26 i)) := fun i hi h12 => by
    have f32 : F w14 32 = ((b' : Nat) : Int) := by unfold F; rw [z2]; exact I_ti (by omega) (by omega)
    have a23 : A w14 23 i = 12 := by show (w14.2.2.1 23 i).toInt = 12; rw [h12]; rfl
    obtain ⟨g1, g2⟩ := hng i (by omega) a23
    have e25 : w14.2.2.1 25 i = I (((A w14 25 i).toNat : Nat) : Int) := by
      rw [Int.toNat_of_nonneg g1]
      exact I_of _
    rw [e25]
    exact cQ _ (by omega) _
  have hp : ∀ x, (∃ f, f < g ∧ ∃ b, b ∈ (D f).2.2.2.2.1 :: (D f).2.2.2.2.2 ∧ b.2.2.2.2.2.2 x) → x.2.2 ≠ 2 → PDF N m9 w13 x.1 x.2.1 (pd x.1 x.2.1) := fun x hx h2 => by
    obtain ⟨i, i1, i2, i3, i4⟩ := (z5 x).mpr hx
    rcases i2 with i2 | i2
    · rw [← i3, ← i4]
      exact at12 i i1.2 i2.1
    · exact absurd i2.2 h2
  unfold rdC rdE
  rw [show decide ((0 : Int32) = 0) = true from rfl, br_tq]
  refine r_lt ?_
  generalize hX : upI w14 5 0 = X
  have Xi : ∀ k, k ≠ 5 → X.1 k = w14.1 k := fun k hk => by rw [← hX, upI_ne hk]
  have Xr : X.2.2.1 = w14.2.2.1 := by rw [← hX]; rfl
  clear hX
  rw [decide_eq_true ((Xi 67 (by decide)).trans w67), br_tq]
  have cp := calls_p (N := N) (m0 := m9) (w0 := w13) (w := X) (g := g) (n := b') (pd := pd) (by rw [Xi 52 (by decide)]; exact h.2.1.2.2.1) (by omega) (by rw [Xi 32 (by decide)]; exact z2) z4 (by rw [Xi 67 (by decide)]; exact w67) (fun k hk => by rw [Xr]; exact kt.2 k (by revert hk; simp only [List.mem_cons, List.not_mem_nil, or_false]; rintro (rfl | rfl | rfl) <;> decide)) (fun i hi h12 => by rw [Xr] at h12 ⊢; exact at12 i hi h12)
  refine r_bnd (pk_mo cp (fun Y _ hY => ?_))
  obtain ⟨hK, hY⟩ := hY
  refine l_bnd (pk_mo (pk_andq (cmp_p cA cP h.2.1.2.1 g66 h.2.1.2.2.2 hP) ca) (fun v r hv => ?_))
  obtain ⟨ce, cac⟩ := hv
  have Yi : ∀ k, k ≠ 5 → k ≠ 71 → k ≠ 72 → Y.1 k = w14.1 k := fun k h1 h2 h3 => (hK.1 k h2 h3).trans (Xi k h1)
  have Yr : ∀ k, k ≠ 27 → Y.2.2.1 k = w14.2.2.1 k := fun k hk => by rw [hK.2.1 k hk, Xr]
  have rbd : ∀ x, RBD X g pd x ↔ RBD w14 g pd x := fun x => by
    unfold RBD noF
    rw [Xr]
  have csy : ∀ x, CSY X 0 b' x ↔ CSY w14 0 b' x := fun x => by unfold CSY; rw [Xr]
  have y72 : Y.1 72 = 0 ↔ w14.1 72 = 0 ∧ ∀ x, (∃ f, f < g ∧ ∃ b, b ∈ (D f).2.2.2.2.1 :: (D f).2.2.2.2.2 ∧ b.2.2.2.2.2.2 x) → ¬ RBD w14 g pd x := by
    rw [hY, Xi 72 (by decide)]
    exact ⟨fun z => ⟨z.1, fun x hx q => z.2 x ((csy x).mpr ((z5 x).mpr hx)) ((rbd x).mpr q)⟩, fun z => ⟨z.1, fun x hx q => z.2 x ((z5 x).mp ((csy x).mp hx)) ((rbd x).mp q)⟩⟩
  have v22 : v.1 22 = m9.1 22 := by rw [ce.1.1 22 (by omega), upI_ne (by decide)]; exact h.1.1.1.1 22 (by decide)
  have v85 : v.1 85 = m9.1 85 := by rw [ce.1.1 85 (by omega), upI_ne (by decide)]; exact h.1.1.1.1 85 (by decide)
  have y14 : Y.1 14 = v.1 22 := by rw [Yi 14 (by decide) (by decide) (by decide), kt.1 14 (by decide), v22, e22]
  have y9 : v.1 85 ≤ 1500 ↔ Y.1 9 ≤ 1500 := by rw [Yi 9 (by decide) (by decide) (by decide), kt.1 9 (by decide), v85]; exact e85 kT
  have acc := acc_e (Y := Y) cA (by omega) g66 h hP hp i66 i72 ce cac y72 (Yi 66 (by decide) (by decide) (by decide)) (Yi 52 (by decide) (by decide) (by decide)) y14 y9
  have kv : (∀ k, k < 300 → v.1 k = m9.1 k) ∧ (∀ k, k < 15 ∨ (36 ≤ k ∧ k ≤ 38) → v.2.2.1 k = m9.2.2.1 k) ∧ ∀ k, 720 ≤ k → k < 740 → v.1 k = m9.1 k := by
    refine ⟨fun k hk => ?_, fun k hk => ?_, fun k h1 h2 => ?_⟩
    · rw [ce.1.1 k (by omega), upI_ne (by omega)]; exact h.1.1.1.1 k hk
    · rw [ce.1.2 k (by omega)]
      rcases hk with hk | hk
      · exact h.1.1.1.2 k hk
      · exact hP.2.2 k hk.1 hk.2
    · rw [ce.1.1 k (by omega), upI_ne (by omega)]; exact hP.2.1 k h1 h2
  have kY : (∀ k, k ∈ [9, 10, 11, 14, 17, 20] → Y.1 k = w13.1 k) ∧ ∀ k, k ∈ TRW → Y.2.2.1 k = w13.2.2.1 k := by
    refine ⟨fun k hk => ?_, fun k hk => ?_⟩
    · rw [Yi k (by rintro rfl; revert hk; decide) (by rintro rfl; revert hk; decide) (by rintro rfl; revert hk; decide)]
      exact kt.1 k (by revert hk; simp only [List.mem_cons, List.not_mem_nil, or_false]; rintro (rfl | rfl | rfl | rfl | rfl | rfl) <;> decide)
    · rw [Yr k (by rintro rfl; revert hk; decide)]
      exact kt.2 k hk
  have no : ∀ (Z : MS) (s : Int32), Z = Y → r ≠ 0 → PP (RDZ m9 w13) (hb_H_read_27 N () v r) (some (Z, s)) := fun Z s hZ hr => by
    rw [hZ]
    refine pp_r (pk_mo rd27_p (fun v2 s2 hv => ?_))
    obtain ⟨h1, h2, h3, h4, h5⟩ := hv
    rw [if_neg hr] at h2
    exact ⟨Or.inl ⟨h2, (Yi 86 (by decide) (by decide) (by decide)).trans w86⟩, ⟨fun k h1 h2 h3 => (h4 k (by omega) h2 h3).trans (kv.1 k h1), fun k hk => (h5 k (by omega)).trans (kv.2.1 k hk), fun k h1 h2 => (h4 k (by omega) (by omega) (by omega)).trans (kv.2.2 k h1 h2)⟩, kY⟩
  have n162 : r ≠ 0 → PP (RDZ m9 w13) (hb_H_read_27 N () v r) (fb_M_read_162 N () Y) := fun hr => no Y 8 rfl hr
  refine r_br (fun a1 => r_br (fun a2 => r_br (fun a3 => n162 (fun e => (acc.mp e).2.2.1 (of_decide_eq_true a3))) (fun a3 => r_br (fun a4 => n162 (fun e => (acc.mp e).2.2.2.1 (of_decide_eq_true a4))) (fun a4 => r_br (fun a5 => r_lt ?_) (fun a5 => n162 (fun e => of_decide_eq_false a5 (acc.mp e).2.2.2.2))))) (fun a2 => n162 (fun e => of_decide_eq_false a2 (acc.mp e).2.1))) (fun a1 => r_ck (fun _ => no Y _ rfl (fun e => of_decide_eq_false a1 (acc.mp e).1)))
  have r0 : r = 0 := acc.mpr ⟨of_decide_eq_true a1, of_decide_eq_true a2, of_decide_eq_false a3, of_decide_eq_false a4, of_decide_eq_true a5⟩
  refine pp_r (pk_mo rd27_p (fun v2 s2 hv => ?_))
  obtain ⟨h1, h2, h3, h4, h5⟩ := hv
  rw [if_pos r0] at h2
  refine ⟨Or.inr ⟨h2, upI_at, g, g66, ?_, ?_, fun f hf => ?_⟩, ⟨fun k h1 h2 h3 => (h4 k (by omega) h2 h3).trans (kv.1 k h1), fun k hk => (h5 k (by omega)).trans (kv.2.1 k hk), fun k h1 h2 => (h4 k (by omega) (by omega) (by omega)).trans (kv.2.2 k h1 h2)⟩, fun k hk => ?_, kY.2⟩
  · rw [h4 442 (by decide) (by decide) (by decide), ce.1.1 442 (by omega), upI_ne (by decide)]; exact h.2.1.2.1
  · rw [upI_ne (by decide), Yi 52 (by decide) (by decide) (by decide)]; exact h.2.1.2.2.1
  · have t4 := PGI_t cA h f hf
    have ke := ce.2.1
    have rr : ∀ k, 24 ≤ k → k ≤ 28 → v2.2.2.1 k = m12.2.2.1 k := fun k k1 k2 => by rw [h5 k (by omega), ke k k1 k2]; rfl
    obtain ⟨⟨a1', a2', a3', a4', a5', a6', a7'⟩, d1, d2, d3, d4, d5⟩ := h.2.1.2.2.2 f hf
    obtain ⟨q1, q2, q3, q4⟩ := h.2.2.2.2.2.2 f hf
    refine ⟨?_, ?_, ?_, ⟨(D f).2.2.2.1, a6', by show Y.2.2.1 48 f = _; rw [Yr 48 (by decide)]; exact q2⟩, (D f).1, by have := c.1.1.1; omega, ?_, ?_⟩
    · rw [rr 24 (by decide) (by decide)]
      show _ = Y.2.2.1 47 f
      rw [Yr 47 (by decide)]; exact t4.1
    · rw [rr 25 (by decide) (by decide)]
      show _ = Y.2.2.1 48 f
      rw [Yr 48 (by decide)]; exact t4.2.1
    · rw [rr 28 (by decide) (by decide), d5]
      show _ = Y.2.2.1 51 f
      rw [Yr 51 (by decide)]; exact q4.symm
    · show Y.2.2.1 49 f = _
      rw [Yr 49 (by decide)]; exact q3
    · rw [rr 26 (by decide) (by decide), d3]
      show _ = Y.2.2.1 8 (D f).1
      rw [Yr 8 (by decide), kt.2 8 (by decide)]
      exact hln _ (by omega)
  · rw [upI_ne (by rintro rfl; revert hk; decide)]
    exact kY.1 k hk
end
end
