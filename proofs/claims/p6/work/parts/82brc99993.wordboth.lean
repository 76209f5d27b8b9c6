set_option maxRecDepth 100000
theorem c45 : ∀ r, r < 15 → Int32.ofNat (5 + r) ≠ 45 ∧ Int32.ofNat (5 + r) ≠ 0 := by decide +kernel
theorem word_both {u : CS} {w : MS} {n : TN} {N : Nat} {c : Int32} (h : TK u w n) (hl : AI u 8 n.i = Int32.ofNat n.l) (hv : AI u 7 n.i = 0) (hp : n.p < n.k) (hc : c = AI u 5 n.p &&& 255) (hw : isW (AI u 5 n.p) = true) (hd : isDg (AI u 5 n.p) = false) (hN : 100000 ≤ N) : OUT u w n (fm_To_word N u 4 c) (fm_M_wordToken N w c) := by
  have k4 := h.k4
  have hx := h.bu n.p (by omega)
  obtain ⟨cs1, cs2⟩ := c_sm hx hw hd
  rw [← hc] at cs1 cs2
  obtain ⟨u1, i1, i2, i3, i4⟩ := wdC_loop (N := N) (c := c) (s := Int32.ofNat n.p) (G0 := fun _ _ _ _ => none) h.k4 (n.k + 1 - n.p) n.p u (N - (n.k + 1 - n.p) - 1) h.sk h.cu h.pu (by omega)
  rw [show N - (n.k + 1 - n.p) - 1 + (n.k + 1 - n.p) + 1 = N from by omega] at i4
  have e1 : fm_To_word N u 4 c = fb_To_word_44 N (fun _ _ _ _ => none) u1 4 c (Int32.ofNat n.p) := by
    rw [← i4]
    unfold fm_To_word fb_To_word_0
    rw [gi_4_9 h.sk, q_bo, h.pu]
  have f4 := wdM_loop (N := N) (c := c) h.cw h.k4 h.pw h.bw (n.k + 1 - n.p) 0 (N - (n.k + 1 - n.p) - 1) (by omega)
  rw [show N - (n.k + 1 - n.p) - 1 + (n.k + 1 - n.p) + 1 = N from by omega, Nat.add_zero] at f4
  have e2 : fm_M_wordToken N w c = finW N w c (Int32.ofNat (wde (AI u 5) n.k (n.k + 1 - n.p) n.p - n.p)) := by
    rw [wde_eq h.ta]
    exact f4
  have g1 := wde_gt (g := AI u 5) (k := n.k) (p := n.p) hp hw (m := n.k + 1 - n.p) (by omega)
  have g2 := wde_le (g := AI u 5) (k := n.k) (n.k + 1 - n.p) n.p h.pk
  have g3 : wde (AI u 5) n.k (n.k + 1 - n.p) n.p = n.k ∨ isW (AI u 5 (wde (AI u 5) n.k (n.k + 1 - n.p) n.p)) = false := by
    rcases wde_end (g := AI u 5) (k := n.k) (n.k + 1 - n.p) n.p (by omega) with z | z | z
    · omega
    · exact Or.inl (by omega)
    · exact Or.inr z
  rw [e1, e2]
  generalize wde (AI u 5) n.k (n.k + 1 - n.p) n.p = e at i3 g1 g2 g3
  have a5 : AI u1 5 = AI u 5 := fr4_AI i2 (by decide)
  have cf := CF_9 (i := n.i) i1 i2 hv
  have fi : FI u1 4 5 = Int32.ofNat n.i := by rw [cf.f45]; exact h.iu
  have l8 : AI u1 8 n.i = Int32.ofNat n.l := by rw [cf.a8]; exact hl
  have at1 : AT u1 w n.fa n.na := AT_fr h.atm (fr4_FI i2 (by decide)) (fr4_AI i2 (by decide)) (fr4_AI i2 (by decide)) rfl rfl rfl
  have nm1 : NMz u1 w n.fc n.fr n.q n.nn := NM_fr h.nmm (fr4_FI i2 (by decide)) (fr4_AI i2 (by decide)) (fr4_AI i2 (by decide)) rfl rfl rfl
  have hip := h.ip
  have b0 : 2 * (n.na - 22 + n.nn) ≤ n.p := by
    have h1 := h.b1
    by_cases z : 2 * (n.na - 22 + n.nn) = n.p + 1
    · rcases h.b2 z with q | q
      · omega
      · rw [hw] at q; cases q
    · omega
  have h22 := h.a22
  have hb3 := h.b3
  have hb4 := h.b4
  have hb5 := h.b5
  have hfl : Int32.ofNat e - Int32.ofNat n.p = Int32.ofNat (e - n.p) := q_sub (by omega)
  have ht : ∀ i, i < e - n.p → AI u1 5 (n.p + i) = w.2.2.1 4 (n.p + i) := fun i hi => by rw [a5]; exact h.ta (n.p + i) (by omega)
  have hwa := wa_ok (N := N) (w := w) (b := n.p) (len := e - n.p) h.co.2.2.2.1 (by omega) (by omega)
  have t151 : ∀ (w9 : MS) (j : Nat), w9.1 10 = Int32.ofNat n.p → ∀ G, fb_M_wordToken_151 N G w9 (Int32.ofNat (e - n.p)) = some (upI w9 10 (Int32.ofNat e), ()) := fun w9 j h9 G => by
    unfold fb_M_wordToken_151
    rw [q_ls, h9, q_add, show n.p + (e - n.p) = e from by omega]
  unfold fb_To_word_44 finW
  rw [gi_4_9 i1, q_bo, i3, hfl, h.pw, hwa, q_bn]
  by_cases hlen : 16 < e - n.p
  · 
    have e16 : decide (Int32.ofNat (e - n.p) ≤ 16) = false := decide_eq_false (fun z => absurd ((q_le (a := e - n.p) (b := 16) (by omega) (by decide)).mp z) (by omega))
    rw [sgW_long hlen, e16, q_b0, show decide (noI none = -1) = true from rfl, q_b1, q_b0, tok_ok (N := N) (s := 7) (v := 0) h.iw (by omega), q_bn]
    refine ⟨u1, upI (tkM w n.i 7 0) 10 (Int32.ofNat e), n, 45, rfl, ?_, i1, fi, l8, rfl, FrC.of4 i2, FrM.tk10, Or.inl ⟨rfl, ?_, rfl, rfl, ?_, ?_⟩⟩
    · exact t151 _ 0 (show (tkM w n.i _ 0).1 10 = _ from h.pw) _
    · exact TB_bad h cf (fr4_FI i2 (by decide)) (fr4_AI i2 (by decide)) (fr4_AI i2 (by decide)) (fr4_FI i2 (by decide)) (fr4_AI i2 (by decide)) (fr4_AI i2 (by decide))
    · exact upd_self
    · show upd (w.2.2.1 8) n.i (w.1 11) n.i = _
      rw [upd_self]; exact h.lw
  · have e16 : decide (Int32.ofNat (e - n.p) ≤ 16) = true := decide_eq_true ((q_le (a := e - n.p) (b := 16) (by omega) (by decide)).mpr (by omega))
    rw [e16, q_b1, q_b1, cs1]
    have hm1 : n.na * (e - n.p + 3) ≤ 2022 * 19 := Nat.mul_le_mul (by omega) (by omega)
    have hm2 : (n.nn + 1) * (e - n.p + 3) ≤ 2001 * 19 := Nat.mul_le_mul (by omega) (by omega)
    cases hsm : isSm (AI u 5 n.p) with
    | true =>
      rw [q_b1, gr_4_6 i1, q_bo, gr_4_0 i1, q_bo, q_bo, q_ck (io_9 i1)]
      have hco1 : CON u1 w := by
        obtain ⟨c1, c2, c3, c4⟩ := h.co
        exact ⟨by rw [cf.f92]; exact c1, fun j hj => by rw [cf.a10]; exact c2 j hj, fun j hj => by rw [cf.a11]; exact c3 j hj, c4⟩
      rw [seek_ok (N := N) (WD_rw i1 hco1) (TX_5 i1) (by omega) (by omega) (by omega), q_bx]
      have es : skN sgW (AI u1 5) frW n.p (e - n.p) 0 15 = skN sgW (w.2.2.1 4) frW n.p (e - n.p) 0 15 := sgW_eq ht
      rw [es]
      cases hk : skN sgW (w.2.2.1 4) frW n.p (e - n.p) 0 15 with
      | some r =>
        have hr := sgW_lt hk
        have en : decide (noI (some r) = -1) = false := decide_eq_false (fun z => by
          have : ∀ r, r < 15 → Int32.ofNat r ≠ -1 := by decide +kernel
          exact this r hr z)
        obtain ⟨r45, r0⟩ := c45 r hr
        rw [en, q_b0, q_b0, tok_ok (N := N) (s := 3) (v := noI (some r)) h.iw (by omega), q_bn]
        refine ⟨u1, upI (tkM w n.i 3 (Int32.ofNat r)) 10 (Int32.ofNat e), _, Int32.ofNat (5 + r), ?_, ?_, i1, fi, l8, ?_, FrC.of4 i2, FrM.tk10, Or.inr ⟨r45, r0, TK_next (a := 0) (p2 := e) h hl cf i3 FrM.rf g1 g2 at1 nm1 (Nat.le_refl _) (Nat.le_refl _) (fun _ _ => rfl) (by omega) (fun z => by omega) (by omega) (by omega) (by omega) h.f22 (fun j hj => (congrFun (fr4_AI i2 (i := 2) (by decide)) j).trans (h.s22 j hj)) h.r00 ?_, rfl, g1⟩⟩
        · show some (u1, 5 + Int32.ofNat r) = _
          rw [show (5 : Int32) = Int32.ofNat 5 from rfl, q_add]
        · exact t151 _ 0 (show (tkM w n.i _ _).1 10 = _ from h.pw) _
        · rfl
        · exact Or.inr (Or.inr (Or.inr (Or.inr (Or.inl ⟨rfl, r, hr, rfl, rfl⟩))))
      | none =>
        rw [show decide (noI none = -1) = true from rfl, q_b1, q_b1]
        obtain ⟨u2, w2, fa2, na2, r, m1, m2, m3, m4, m5, m6, m7, m8, m9, m10, m12, m13⟩ := AT_more (N := N) (b := n.p) (len := e - n.p) i1 at1 (by omega) (by rw [a5]; exact h.bu) ht (by omega) (by omega) (by omega)
        rw [gr_4_3 i1, q_bo, gi_4_5 i1, q_bo, gr_4_7 i1, q_bo, gr_4_0 i1, q_bo, q_bo, q_ck (io_1 i1), m1, q_bx, q_bo, fi, si_7 m3, if_pos (q_inb (by omega) (by decide)), q_bo, smM, q_bn, cs2, hsm, b2i_0]
        show OUT u w n _ (br false _ _)
        have p7 : w2.1 10 = Int32.ofNat n.p := by rw [m7.1 10 (by unfold I14; decide)]; exact h.pw
        have i7 : w2.1 9 = Int32.ofNat n.i := by rw [m7.1 9 (by unfold I14; decide)]; exact h.iw
        rw [q_b0, h.pw, m2, q_bn, tok_ok (N := N) (s := 1) (v := Int32.ofNat r) i7 (by omega), q_bn, q_nat (by omega)]
        have s7 := sa_7 (g := upd (AI u2 7) n.i (Int32.ofNat r)) m3
        have a7 : AI (uA u2 7 (upd (AI u2 7) n.i (Int32.ofNat r))) 7 = upd (AI u2 7) n.i (Int32.ofNat r) := fa_7 m3
        have fA : ∀ j, j ≠ 2 → j ≠ 3 → j ≠ 7 → AI (uA u2 7 (upd (AI u2 7) n.i (Int32.ofNat r))) j = AI u1 j := fun j x1 x2 x3 => by
          rw [AI_A x3]
          exact m6.2.1 j (fun z => by rcases z with z | z; exact x1 z; exact x2 z)
        have fF : ∀ i j, i ≠ 1 → FI (uA u2 7 (upd (AI u2 7) n.i (Int32.ofNat r))) i j = FI u1 i j := fun i j x1 => by
          rw [FI_A]
          exact m6.2.2.1 i j (fun z => x1 z.1)
        have cf2 : CF u (uA u2 7 (upd (AI u2 7) n.i (Int32.ofNat r))) n.i (Int32.ofNat r) := ⟨s7, by rw [fA 5 (by decide) (by decide) (by decide)]; exact cf.a5, by rw [fA 6 (by decide) (by decide) (by decide)]; exact cf.a6, by rw [fA 8 (by decide) (by decide) (by decide)]; exact cf.a8, fun j hj => by
          rw [a7, upd_ne (by omega), m6.2.1 7 (fun z => by rcases z with z | z <;> cases z)]; exact cf.a7 j hj, by rw [a7, upd_self], by rw [fA 10 (by decide) (by decide) (by decide)]; exact cf.a10, by rw [fA 11 (by decide) (by decide) (by decide)]; exact cf.a11, by rw [fF 4 1 (by decide)]; exact cf.f41, by rw [fF 4 5 (by decide)]; exact cf.f45, by rw [fF 4 10 (by decide)]; exact cf.f410, by rw [fF 9 2 (by decide)]; exact cf.f92⟩
        refine ⟨uA u2 7 (upd (AI u2 7) n.i (Int32.ofNat r)), upI (tkM w2 n.i 1 (Int32.ofNat r)) 10 (Int32.ofNat e), _, 2, rfl, ?_, s7, by rw [fF 4 5 (by decide)]; exact fi, by rw [fA 8 (by decide) (by decide) (by decide)]; exact l8, ?_, ((FrC.of4 i2).tr (m6.mo (fun i z => by rcases z with z | z <;> (show i < 15) <;> omega) (fun i j z => Or.inl z.1))).tr FrC.a7, (m7.mo (fun k z => Or.inr (Or.inr (Or.inr (Or.inl z)))) (fun k z => by rcases z with z | z; exact Or.inr (Or.inr (Or.inr (Or.inl z))); exact Or.inr (Or.inr (Or.inr (Or.inr (Or.inl z)))))).tr FrM.tk10, Or.inr ⟨by decide, by decide, TK_next (a := Int32.ofNat r) (p2 := e) (fa2 := fa2) (na2 := na2) h hl cf2 (by rw [fF 4 9 (by decide)]; exact i3) (m7.mo (fun _ => I14w) (fun _ => AAw)) g1 g2 (AT_fr m4 FI_A (AI_A (by decide)) (AI_A (by decide)) rfl rfl rfl) (NM_fr nm1 (by rw [fF 12 2 (by decide)]) (by rw [fA 14 (by decide) (by decide) (by decide)]) (by rw [fA 13 (by decide) (by decide) (by decide)]) ?_ ?_ ?_) m8 (Nat.le_refl _) (fun _ _ => rfl) (by omega) ?_ (by omega) (by omega) (by omega) (fun j hj => (m12 j (by omega)).trans (h.f22 j hj)) (fun j hj => ?_) h.r00 ?_, rfl, g1⟩⟩
        · exact t151 _ 0 (show (tkM w2 n.i _ _).1 10 = _ from p7) _
        · rfl
        · exact m7.1 17 (by unfold I14; decide)
        · exact m7.2.2.1 15 (by unfold AA; decide)
        · exact m7.2.2.1 16 (by unfold AA; decide)
        · exact fun z => g3
        · have h139 : 139 ≤ n.fa n.na := by
            have z := fr_mono h.atm.1.2.2.1 (n.na - 22) 22 (by omega)
            rw [h.f22 22 (Nat.le_refl _)] at z
            exact z
          rw [AI_A (by decide), m13 j (by omega), fr4_AI i2 (i := 2) (by decide)]
          exact h.s22 j hj
        · exact Or.inr (Or.inl ⟨rfl, rfl, r, m5, rfl, rfl⟩)
    | false =>
      rw [sgW_great (by rw [← h.ta n.p hp]; exact hsm), q_b0, show decide (noI none = -1) = true from rfl, q_b1]
      obtain ⟨u2, w1, fc2, fr2, q2, nn2, r, m1, m2, m3, mn, mr, m4, m6, m7, m8, ⟨m9, m10, m11⟩, m12⟩ := NM_step (N := N) (b := n.p) (len := e - n.p) i1 nm1 (by omega) (by omega) (by rw [a5]; exact h.bu) ht (by omega) (by omega) (by omega) (by omega)
      rw [gr_4_3 i1, q_bo, gi_4_5 i1, q_bo, gr_4_8 i1, q_bo, gr_4_0 i1, q_bo, q_bo, q_ck (io_12 i1), m1, q_bx, q_bo, fi, si_7 m3, if_pos (q_inb (by omega) (by decide)), q_bo, smM, q_bn, cs2, hsm, b2i_0]
      show OUT u w n _ (br true _ _)
      have p7 : w1.1 10 = Int32.ofNat n.p := by rw [m7.1 10 (fun z => z)]; exact h.pw
      have n7 : w1.1 17 = Int32.ofNat n.nn := by rw [m7.1 17 (fun z => z)]; exact nm1.2.2.1
      rw [q_b1, h.pw, m2, q_bn, n7, q_nat (by omega)]
      have hr2 : r ≤ n.nn := by
        have z := mr
        rw [mn] at z
        split at z <;> omega
      have e141 : br (decide (Int32.ofNat r = Int32.ofNat n.nn)) (fb_M_wordToken_141 N (fun _ _ _ => none) w1 (Int32.ofNat (e - n.p)) (Int32.ofNat r) (Int32.ofNat n.nn + 1)) (fb_M_wordToken_141 N (fun _ _ _ => none) w1 (Int32.ofNat (e - n.p)) (Int32.ofNat r) (Int32.ofNat n.nn)) = fb_M_wordToken_141 N (fun _ _ _ => none) w1 (Int32.ofNat (e - n.p)) (Int32.ofNat r) (Int32.ofNat nn2) := by
        by_cases z : r = n.nn
        · rw [z, decide_eq_true rfl, q_b1, q_suc, mn, if_pos z]
        · rw [decide_eq_false (fun y => z (q_inj (by omega) (by omega) y)), q_b0, mn, if_neg z]
      rw [e141]
      unfold fb_M_wordToken_141
      have i7 : (upI w1 17 (Int32.ofNat nn2)).1 9 = Int32.ofNat n.i := by
        show w1.1 9 = _
        rw [m7.1 9 (fun z => z)]; exact h.iw
      rw [q_ls, tok_ok (N := N) (s := 2) (v := Int32.ofNat r) i7 (by omega), q_bn]
      have s7 := sa_7 (g := upd (AI u2 7) n.i (Int32.ofNat (nmQ q2 r))) m3
      have a7 : AI (uA u2 7 (upd (AI u2 7) n.i (Int32.ofNat (nmQ q2 r)))) 7 = upd (AI u2 7) n.i (Int32.ofNat (nmQ q2 r)) := fa_7 m3
      have fA : ∀ j, j ≠ 13 → j ≠ 14 → j ≠ 7 → AI (uA u2 7 (upd (AI u2 7) n.i (Int32.ofNat (nmQ q2 r)))) j = AI u1 j := fun j x1 x2 x3 => by
        rw [AI_A x3]
        exact m6.2.1 j (fun z => by rcases z with z | z; exact x1 z; exact x2 z)
      have fF : ∀ i j, i ≠ 12 → FI (uA u2 7 (upd (AI u2 7) n.i (Int32.ofNat (nmQ q2 r)))) i j = FI u1 i j := fun i j x1 => by
        rw [FI_A]
        exact m6.2.2.1 i j (fun z => x1 z.1)
      have cf2 : CF u (uA u2 7 (upd (AI u2 7) n.i (Int32.ofNat (nmQ q2 r)))) n.i (Int32.ofNat (nmQ q2 r)) := ⟨s7, by rw [fA 5 (by decide) (by decide) (by decide)]; exact cf.a5, by rw [fA 6 (by decide) (by decide) (by decide)]; exact cf.a6, by rw [fA 8 (by decide) (by decide) (by decide)]; exact cf.a8, fun j hj => by
        rw [a7, upd_ne (by omega), m6.2.1 7 (fun z => by rcases z with z | z <;> cases z)]; exact cf.a7 j hj, by rw [a7, upd_self], by rw [fA 10 (by decide) (by decide) (by decide)]; exact cf.a10, by rw [fA 11 (by decide) (by decide) (by decide)]; exact cf.a11, by rw [fF 4 1 (by decide)]; exact cf.f41, by rw [fF 4 5 (by decide)]; exact cf.f45, by rw [fF 4 10 (by decide)]; exact cf.f410, by rw [fF 9 2 (by decide)]; exact cf.f92⟩
      have nl : n.nn ≤ nn2 ∧ nn2 ≤ n.nn + 1 := by rw [mn]; split <;> omega
      have mw : FrM IWz AW w (upI w1 17 (Int32.ofNat nn2)) := (m7.mo (fun _ z => z.elim) (fun k z => by rcases z with z | z; exact Or.inr (Or.inr (Or.inl z)); exact Or.inr (Or.inr (Or.inr z)))).tr (FrM.iI (Or.inr rfl))
      refine ⟨uA u2 7 (upd (AI u2 7) n.i (Int32.ofNat (nmQ q2 r))), upI (tkM (upI w1 17 (Int32.ofNat nn2)) n.i 2 (Int32.ofNat r)) 10 (Int32.ofNat e), _, 3, rfl, ?_, s7, by rw [fF 4 5 (by decide)]; exact fi, by rw [fA 8 (by decide) (by decide) (by decide)]; exact l8, ?_, ((FrC.of4 i2).tr (m6.mo (fun i z => by rcases z with z | z <;> (show i < 15) <;> omega) (fun i j z => Or.inr (Or.inr z.1)))).tr FrC.a7, (mw.mo (fun k z => by rcases z with z | z; exact Or.inr (Or.inr (Or.inr (Or.inl z))); exact Or.inr (Or.inr (Or.inr (Or.inr (Or.inl z))))) (fun k z => by rcases z with z | z | z | z; exact Or.inr (Or.inr (Or.inr (Or.inl z))); exact Or.inr (Or.inr (Or.inr (Or.inr (Or.inl z)))); exact Or.inr (Or.inr (Or.inr (Or.inr (Or.inr (Or.inl z))))); exact Or.inr (Or.inr (Or.inr (Or.inr (Or.inr (Or.inr (Or.inl z)))))))).tr FrM.tk10, Or.inr ⟨by decide, by decide, TK_next (a := Int32.ofNat (nmQ q2 r)) (p2 := e) (fc2 := fc2) (fr2 := fr2) (q2 := q2) (nn2 := nn2) h hl cf2 (by rw [fF 4 9 (by decide)]; exact i3) mw g1 g2 (AT_fr at1 (by rw [fF 1 2 (by decide)]) (by rw [fA 3 (by decide) (by decide) (by decide)]) (by rw [fA 2 (by decide) (by decide) (by decide)]) ?_ ?_ ?_) (NM_fr m4 FI_A (AI_A (by decide)) (AI_A (by decide)) rfl rfl rfl) (Nat.le_refl _) nl.1 m8 (by omega) ?_ (by omega) (by omega) (by omega) h.f22 (fun j hj => by rw [fA 2 (by decide) (by decide) (by decide), fr4_AI i2 (i := 2) (by decide)]; exact h.s22 j hj) (m12.trans h.r00) ?_, rfl, g1⟩⟩
      · exact t151 _ 0 (show (tkM (upI w1 17 _) n.i _ _).1 10 = _ from p7) _
      · rfl
      · exact m7.1 14 (fun z => z)
      · exact m7.2.2.1 12 (by unfold A15; decide)
      · exact m7.2.2.1 13 (by unfold A15; decide)
      · exact fun z => g3
      · exact Or.inr (Or.inr (Or.inl ⟨rfl, rfl, r, mr, rfl, rfl⟩))
