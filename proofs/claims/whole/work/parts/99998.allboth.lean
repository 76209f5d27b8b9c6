/-! scanAll and readTokens leave the same tokens -/
set_option maxRecDepth 100000
section ALB
variable {u : CS} {w : MS} {n : TN} {N : Nat}
theorem TB_int {w2 : MS} (h : TB u w n) (h5 : w2.1 5 = w.1 5) (h14 : w2.1 14 = w.1 14) (h17 : w2.1 17 = w.1 17) (h20 : w2.1 20 = w.1 20) (hA : ∀ k, k ≠ 6 → k ≠ 7 → k ≠ 8 → w2.2.2.1 k = w.2.2.1 k) (h6 : ∀ j, j < n.i → w2.2.2.1 6 j = w.2.2.1 6 j) (h7 : ∀ j, j < n.i → w2.2.2.1 7 j = w.2.2.1 7 j) (h8 : ∀ j, j < n.i → w2.2.2.1 8 j = w.2.2.1 8 j) : TB u w2 n := by
  have a : ∀ k, k ≠ 6 → k ≠ 7 → k ≠ 8 → w2.2.2.1 k = w.2.2.1 k := hA
  obtain ⟨c1, c2, c3, c4, c5, c6, c7, c8⟩ := h.co
  have htk : ∀ j, j < n.i → KV (AI u 5) n.k (w2.2.2.1 18) n.q n.na n.nn n.ns n.fs (AI u 6 j) (AI u 7 j) (w2.2.2.1 6 j) (w2.2.2.1 7 j) ∧ AI u 8 j = w2.2.2.1 8 j := fun j hj => by
    rw [a 18 (by decide) (by decide) (by decide), h6 j hj, h7 j hj, h8 j hj]
    exact h.tk j hj
  exact { sk := h.sk, k4 := h.k4, cu := h.cu, cw := h5.trans h.cw, ta := fun j hj => by rw [a 4 (by decide) (by decide) (by decide)]; exact h.ta j hj, bu := h.bu, bw := by rw [a 4 (by decide) (by decide) (by decide)]; exact h.bw, co := ⟨c1, c2, c3, (a 0 (by decide) (by decide) (by decide)).trans c4, (a 21 (by decide) (by decide) (by decide)).trans c5, (a 22 (by decide) (by decide) (by decide)).trans c6, (a 1 (by decide) (by decide) (by decide)).trans c7, (a 2 (by decide) (by decide) (by decide)).trans c8⟩, ik := h.ik, iu := h.iu, atm := AT_fr h.atm rfl rfl rfl h14 (a 12 (by decide) (by decide) (by decide)) (a 13 (by decide) (by decide) (by decide)), nmm := NM_fr h.nmm rfl rfl rfl h17 (a 15 (by decide) (by decide) (by decide)) (a 16 (by decide) (by decide) (by decide)), a22 := h.a22, sw := h20.trans h.sw, sf := fun j hj => by rw [a 19 (by decide) (by decide) (by decide)]; exact h.sf j hj, sm := h.sm, f22 := h.f22, s22 := h.s22, r00 := h.r00, z00 := h.z00, tk := htk }
theorem TB_6 {c : Int32} (h : TB u w n) : TB (uA u 6 (upd (AI u 6) n.i c)) w n := by
  have a : ∀ j, j ≠ 6 → AI (uA u 6 (upd (AI u 6) n.i c)) j = AI u j := fun j x => AI_A x
  obtain ⟨c1, c2, c3, c4⟩ := h.co
  have htk : ∀ j, j < n.i → KV (AI (uA u 6 (upd (AI u 6) n.i c)) 5) n.k (w.2.2.1 18) n.q n.na n.nn n.ns n.fs (AI (uA u 6 (upd (AI u 6) n.i c)) 6 j) (AI (uA u 6 (upd (AI u 6) n.i c)) 7 j) (w.2.2.1 6 j) (w.2.2.1 7 j) ∧ AI (uA u 6 (upd (AI u 6) n.i c)) 8 j = w.2.2.1 8 j := fun j hj => by
    rw [a 5 (by decide), a 7 (by decide), a 8 (by decide), fa_6 h.sk, upd_ne (by omega)]
    exact h.tk j hj
  exact { sk := sa_6 h.sk, k4 := h.k4, cu := FI_A.trans h.cu, cw := h.cw, ta := fun j hj => by rw [a 5 (by decide)]; exact h.ta j hj, bu := by rw [a 5 (by decide)]; exact h.bu, bw := h.bw, co := ⟨FI_A.trans c1, fun j hj => by rw [a 10 (by decide)]; exact c2 j hj, fun j hj => by rw [a 11 (by decide)]; exact c3 j hj, c4⟩, ik := h.ik, iu := FI_A.trans h.iu, atm := AT_fr h.atm FI_A (a 3 (by decide)) (a 2 (by decide)) rfl rfl rfl, nmm := NM_fr h.nmm FI_A (a 14 (by decide)) (a 13 (by decide)) rfl rfl rfl, a22 := h.a22, sw := h.sw, sf := h.sf, sm := h.sm, f22 := h.f22, s22 := fun j hj => (congrFun (a 2 (by decide)) j).trans (h.s22 j hj), r00 := h.r00, z00 := h.z00, tk := htk }
theorem a6_fr {g : Nat → Int32} : FrC AX FX u (uA u 6 g) := FrC.ai (by decide) (by show 6 < 15; decide)
/-- the end token of the reference -/
theorem rt_end {G : (MS → Option (MS × Unit)) × (MS → Option (MS × Unit))} {i : Nat} (h9 : w.1 9 = Int32.ofNat i) (hi : i < 4002) : fb_M_readTokens_216 N G w = some (upI (tkM w i 0 0) 9 (Int32.ofNat i), ()) := by
  unfold fb_M_readTokens_216
  rw [tok_ok (N := N) (s := 0) (v := 0) h9 hi, q_bn, q_ls, show (tkM w i _ 0).1 9 = Int32.ofNat (i + 1) from rfl, show (1 : Int32) = Int32.ofNat 1 from rfl, q_sub (by omega), show i + 1 - 1 = i from by omega]
  rfl
theorem end_fr {i : Nat} : FrM IX AY w (upI (tkM w i 0 0) 9 (Int32.ofNat i)) := (tk_fr.mo (fun _ z => Or.inl z) (fun k z => by
  rcases z with z | z | z
  · exact Or.inl z
  · exact Or.inr (Or.inl z)
  · exact Or.inr (Or.inr (Or.inl z)))).tr (FrM.iI (Or.inl rfl))
theorem sPL_fr {p l : Nat} : FrM IX AY w (sPL w p l) := (FrM.iI (Or.inr (Or.inr (Or.inl rfl)))).tr (FrM.iI (Or.inr (Or.inl rfl)))
theorem sPL_id (h10 : w.1 10 = Int32.ofNat n.p) (h11 : w.1 11 = Int32.ofNat n.l) : sPL w n.p n.l = w := by
  unfold sPL upI
  refine Prod.ext (funext fun j => ?_) rfl
  show (if j = 10 then _ else if j = 11 then _ else w.1 j) = w.1 j
  split
  · rename_i e; rw [e, h10]
  · split
    · rename_i e; rw [e, h11]
    · rfl
/-- what the class does behind scan() -/
def scK (N : Nat) (G : CS → Nat → Int32 → Option (CS × Unit)) (v : Int32) (u13 : CS) (r13 : Int32) : Option (CS × Unit) :=
  bo (some 6) (fun j14 => bo (sI u13 j14 4 v r13) (fun w15 => bo (gR w15 4 9 2) (fun r16 => bo (gI w15 4 9 5) (fun r17 => bo r16 (fun j18 => bo (aI w15 j18 4 r17) (fun r19 => br (decide (r19 = 0)) (fb_To_scanAll_107 N G w15) (bo (gR w15 4 9 2) (fun r20 => bo (gI w15 4 9 5) (fun r21 => bo r20 (fun j22 => bo (aI w15 j22 4 r21) (fun r23 => br (decide (r23 = 45)) (fb_To_scanAll_107 N G w15) (bo (gI w15 4 9 5) (fun r24 => bo (pF w15 4 9 5 (.inl (r24 + 1))) (fun w25 => G w25 4 (v + 1)))))))))))))))
theorem scK_ok {G : CS → Nat → Int32 → Option (CS × Unit)} {c : Int32} {i : Nat} (h : skB u = true) (hi : FI u 4 5 = Int32.ofNat i) (h4 : i ≤ 4000) : scK N G (Int32.ofNat i) u c = if c = 0 ∨ c = 45 then some (uA u 6 (upd (AI u 6) i c), ()) else G (finC u i c) 4 (Int32.ofNat (i + 1)) := by
  have s6 := sa_6 (g := upd (AI u 6) i c) h
  have i6 : FI (uA u 6 (upd (AI u 6) i c)) 4 5 = Int32.ofNat i := FI_A.trans hi
  unfold scK
  rw [q_bo, si_6 h, if_pos (q_inb (by omega) (by decide)), q_bo, q_nat (by omega), gr_4_2 s6, q_bo, gi_4_5 s6, q_bo, q_bo, i6, ai_6 s6, if_pos (q_inb (by omega) (by decide)), q_bo, q_nat (by omega), fa_6 h, upd_self]
  by_cases e0 : c = 0
  · rw [decide_eq_true e0, q_b1, if_pos (Or.inl e0)]; rfl
  · rw [decide_eq_false e0, q_b0, q_bo, q_bo, q_bo, ai_6 s6, if_pos (q_inb (by omega) (by decide)), q_bo, q_nat (by omega), fa_6 h, upd_self]
    by_cases e45 : c = 45
    · rw [decide_eq_true e45, q_b1, if_pos (Or.inr e45)]; rfl
    · rw [decide_eq_false e45, q_b0, q_bo, q_suc, pf_4_5 s6, q_bo, if_neg (fun z => by rcases z with z | z; exact e0 z; exact e45 z)]
      rfl
theorem all_both (hN : 100000000 ≤ N) : ∀ (M : Nat) (u : CS) (w : MS) (n : TN) (Fc Fr : Nat), TK u w n → n.k - n.p < M → n.k + 2 - n.p ≤ Fc → (3 * (n.k + 1) + 1) * (n.k + 1 - n.p) + 5 ≤ Fr → ∃ u2 w2 n2 bad, gg_To_scanAll N Fc u 4 (Int32.ofNat n.i) = some (u2, ()) ∧ (gg_M_readTokens N Fr).1 w = some (w2, ()) ∧ TOKS u2 w2 n2 bad ∧ n2.k = n.k ∧ FrC AX FX u u2 ∧ FrM IX AY w w2 ∧ (bad = false → n2.fs n2.ns ≤ n2.k ∧ 2 * n2.ns ≤ n2.k) := by
  intro M
  induction M with
  | zero => intro u w n Fc Fr h hM; omega
  | succ M ih =>
    intro u w n Fc Fr h hM hFc hFr
    have k4 := h.k4
    have hpk := h.pk
    have hip := h.ip
    have hlk := h.lk
    obtain ⟨Fc, rfl⟩ : ∃ F, Fc = F + 1 := ⟨Fc - 1, by omega⟩
    have i4 : decide (4000 < Int32.ofNat n.i) = false := decide_eq_false (fun z => absurd ((q_lt (a := 4000) (b := n.i) (by decide) (by omega)).mp z) (by omega))
    obtain ⟨u1, s1, s2, s3, s4, s5⟩ := skip_loop (N := N) h.k4 (n.k + 1 - n.p) n.p n.l false u (N - (n.k + 1 - n.p) - 1) h.sk h.cu h.pu h.lu (by omega) (by omega)
    rw [show N - (n.k + 1 - n.p) - 1 + (n.k + 1 - n.p) + 1 = N from by omega] at s1
    have es : fm_To_skip N u 4 = some (u1, ()) := s1
    obtain ⟨q1, q2, q3⟩ := skp_le (g := AI u 5) (k := n.k) (n.k + 1 - n.p) n.p n.l false h.pk
    have q4 := skp_end (g := AI u 5) (k := n.k) (n.k + 1 - n.p) n.p n.l false (by omega) h.pk
    have hm3 : 3 * (n.k + 1 - n.p) ≤ (3 * (n.k + 1) + 1) * (n.k + 1 - n.p) := Nat.mul_le_mul_right _ (by omega)
    obtain ⟨F2, f1, f2⟩ := (skM (N := N) (opn_TK h) h.cw h.k4 h.bw (n.k + 1 - n.p) n.p n.l Fr h.pk (by omega) (by omega)).1
    rw [sPL_id h.pw h.lw, ← skp_eq h.ta] at f2
    have T1 := TK_skip h s2 s3 s4 s5 q1 q2 q3
    rw [← fr4_AI s3 (i := 5) (by decide)] at q4
    rw [f2]
    have fw1 : FrM IX AY w (sPL w (skp (AI u 5) n.k (n.k + 1 - n.p) n.p n.l false).1 (skp (AI u 5) n.k (n.k + 1 - n.p) n.p n.l false).2) := sPL_fr
    rw [fr4_AI s3 (i := 5) (by decide)] at q4
    generalize sPL w (skp (AI u 5) n.k (n.k + 1 - n.p) n.p n.l false).1 (skp (AI u 5) n.k (n.k + 1 - n.p) n.p n.l false).2 = w1 at T1 fw1 ⊢
    generalize (skp (AI u 5) n.k (n.k + 1 - n.p) n.p n.l false).1 = p1 at q1 q2 q3 q4 T1 s4
    generalize (skp (AI u 5) n.k (n.k + 1 - n.p) n.p n.l false).2 = l1 at q3 T1 s5
    have T2 : TK (uLV u1 n.i (Int32.ofNat l1)) w1 ⟨n.k, n.i, p1, l1, n.na, n.fa, n.nn, n.fc, n.fr, n.q, n.ns, n.fs⟩ := TK_wr (x := Int32.ofNat l1) T1
    have i1 : FI u1 4 5 = Int32.ofNat n.i := T1.iu
    have sk2 := T2.sk
    have step : gg_To_scanAll N (Fc + 1) u 4 (Int32.ofNat n.i) = bx (fm_To_scan N (uLV u1 n.i (Int32.ofNat l1)) 4) (scK N (gg_To_scanAll N Fc) (Int32.ofNat n.i)) := by
      show fb_To_scanAll_34 N (gg_To_scanAll N Fc) u 4 (Int32.ofNat n.i) = _
      generalize gg_To_scanAll N Fc = G
      have s8 := sa_8 (g := upd (AI u1 8) n.i (Int32.ofNat l1)) s2
      have i2 : FI (uA u1 8 (upd (AI u1 8) n.i (Int32.ofNat l1))) 4 5 = Int32.ofNat n.i := FI_A.trans i1
      have e7 : AI (uA u1 8 (upd (AI u1 8) n.i (Int32.ofNat l1))) 7 = AI u1 7 := AI_A (by decide)
      unfold fb_To_scanAll_34
      rw [i4, q_b0, q_ck (io_4 h.sk), es, q_bx, gr_4_4 s2, q_bo, gi_4_5 s2, q_bo, gi_4_10 s2, q_bo, q_bo, i1, s5, si_8 s2, if_pos (q_inb (by omega) (by decide)), q_bo, q_nat (by omega), gr_4_3 s8, q_bo, gi_4_5 s8, q_bo, q_bo, i2, si_7 s8, if_pos (q_inb (by omega) (by decide)), q_bo, q_nat (by omega), e7]
      rw [show uA (uA u1 8 (upd (AI u1 8) n.i (Int32.ofNat l1))) 7 (upd (AI u1 7) n.i 0) = uLV u1 n.i (Int32.ofNat l1) from rfl]
      rw [gr_4_2 sk2, q_bo, gi_4_5 sk2, q_bo, q_ck (io_4 sk2), show FI (uLV u1 n.i (Int32.ofNat l1)) 4 5 = Int32.ofNat n.i from T2.iu]
      rfl
    rw [step]
    have fu2 : FrC AX FX u (uLV u1 n.i (Int32.ofNat l1)) := (FrC.of4 s3).tr uLV_fr
    have l2 : AI (uLV u1 n.i (Int32.ofNat l1)) 8 n.i = Int32.ofNat l1 := by rw [uLV_8 s2, upd_self]
    have v2 : AI (uLV u1 n.i (Int32.ofNat l1)) 7 n.i = 0 := by rw [uLV_7 s2, upd_self]
    have a5 : AI (uLV u1 n.i (Int32.ofNat l1)) 5 = AI u 5 := by rw [uLV_A (by decide) (by decide)]; exact fr4_AI s3 (by decide)
    generalize uLV u1 n.i (Int32.ofNat l1) = u2 at T2 sk2 fu2 l2 v2 a5 ⊢
    obtain ⟨F3, rfl⟩ : ∃ F, F2 = F + 1 := ⟨F2 - 1, by omega⟩
    have tkA : ∀ (w9 : MS) (i9 k : Nat), k ≠ 6 → k ≠ 7 → k ≠ 8 → (upI (tkM w9 i9 0 0) 9 (Int32.ofNat i9)).2.2.1 k = w9.2.2.1 k := fun w9 i9 k x1 x2 x3 => (tk_fr (w := w9) (i := i9) (s := 0) (v := 0)).2.2.1 k (fun z => by
      rcases z with z | z | z
      · exact x1 z
      · exact x2 z
      · exact x3 z)
    by_cases hend : p1 = n.k
    · -- the end
      subst hend
      have e1 : fm_To_scan N u2 4 = some (u2, 0) := by
        unfold fm_To_scan fb_To_scan_0
        rw [gi_4_9 sk2, q_bo, show FI u2 4 9 = Int32.ofNat n.k from T2.pu, q_ck (io_4 sk2), atC sk2 T2.cu k4 (by omega), q_bx, show sgA (AI u2 5) n.k n.k = -1 from if_neg (by omega)]
        rfl
      have e2 : (gg_M_readTokens N (F3 + 1)).1 w1 = some (upI (tkM w1 n.i 0 0) 9 (Int32.ofNat n.i), ()) := by
        show fb_M_readTokens_19 N (gg_M_readTokens N F3) w1 = _
        unfold fb_M_readTokens_19
        rw [T2.cw, T2.pw, decide_eq_true ((q_le (a := n.k) (b := n.k) (by omega) (by omega)).mpr (Nat.le_refl _)), q_b1]
        exact rt_end T2.iw (by show n.i < 4002; omega)
      refine ⟨uA u2 6 (upd (AI u2 6) n.i 0), upI (tkM w1 n.i 0 0) 9 (Int32.ofNat n.i), ⟨n.k, n.i, n.k, l1, n.na, n.fa, n.nn, n.fc, n.fr, n.q, n.ns, n.fs⟩, false, ?_, e2, ?_, rfl, fu2.tr a6_fr, fw1.tr end_fr, fun _ => ⟨T2.s3, T2.s2⟩⟩
      · rw [e1, q_bx, scK_ok sk2 T2.iu (by show n.i ≤ 4000; omega), if_pos (Or.inl rfl)]
      · have B := TB_int (w2 := upI (tkM w1 n.i 0 0) 9 (Int32.ofNat n.i)) T2.toTB rfl rfl rfl rfl (tkA w1 n.i) (fun j hj => upd_ne (Nat.ne_of_lt hj)) (fun j hj => upd_ne (Nat.ne_of_lt hj)) (fun j hj => upd_ne (Nat.ne_of_lt hj))
        refine { toTB := TB_6 B, e6 := ?_, e8 := ?_, m6 := upd_self, m9 := rfl, m7 := fun z => by cases z }
        · show AI (uA u2 6 (upd (AI u2 6) n.i 0)) 6 n.i = 0
          rw [fa_6 sk2, upd_self]
        · show AI (uA u2 6 (upd (AI u2 6) n.i 0)) 8 n.i = upd (w1.2.2.1 8) n.i (w1.1 11) n.i
          rw [AI_A (by decide), upd_self, l2]
          exact T2.lw.symm
    · have hp1 : p1 < n.k := by omega
      obtain ⟨x1, x2, x3, x4⟩ := q4.resolve_left hend
      rw [← a5] at x1 x2 x3 x4
      obtain ⟨Y, y1, u3, w3, n3, c, o1, o2, o3, o4, o5, o6, o7, o8, o9⟩ := scan_both (N := N) (G := gg_M_readTokens N F3) T2 l2 v2 hp1 x1 x2 x3 x4 (by omega)
      have o4 : FI u3 4 5 = Int32.ofNat n.i := o4
      have o5 : AI u3 8 n.i = Int32.ofNat l1 := o5
      have o6 : n3.k = n.k := o6
      have e19 : (gg_M_readTokens N (F3 + 1)).1 w1 = (gg_M_readTokens N F3).1 w3 := by
        have hw : sPL w1 p1 l1 = w1 := sPL_id (n := ⟨n.k, n.i, p1, l1, n.na, n.fa, n.nn, n.fc, n.fr, n.q, n.ns, n.fs⟩) T2.pw T2.lw
        have z := rt_19 (N := N) (F := F3) (p := p1) (l := l1) (opn_TK T2) T2.cw k4 hp1
        rw [hw] at z
        rw [z, y1, o2, q_bn]
      rw [e19, o1, q_bx, scK_ok o3 o4 (by omega)]
      rcases o9 with ⟨rfl, b1, b2, b3, b4, b5⟩ | ⟨c45, c0, t1, t2, t3⟩
      · -- a bad one
        have b2 : n3.i = n.i := b2
        have b3 : w3.1 9 = Int32.ofNat (n.i + 1) := b3
        have b4 : w3.2.2.1 6 n.i = 7 := b4
        have b5 : w3.2.2.1 8 n.i = Int32.ofNat l1 := b5
        rw [if_pos (Or.inr rfl)]
        have hm9 : (3 * (n.k + 1) + 1) * 1 ≤ (3 * (n.k + 1) + 1) * (n.k + 1 - n.p) := Nat.mul_le_mul_left _ (by omega)
        obtain ⟨F4, rfl⟩ : ∃ F, F3 = F + 1 := ⟨F3 - 1, by omega⟩
        have e2 : (gg_M_readTokens N (F4 + 1)).1 w3 = some (upI (tkM w3 (n.i + 1) 0 0) 9 (Int32.ofNat (n.i + 1)), ()) := by
          show fb_M_readTokens_19 N (gg_M_readTokens N F4) w3 = _
          unfold fb_M_readTokens_19
          have z1 : ¬ w3.1 9 = 0 := by rw [b3]; exact fun z => absurd (q_inj (a := n.i + 1) (b := 0) (by omega) (by decide) z) (by omega)
          have z2 : w3.1 9 - 1 = Int32.ofNat n.i := by rw [b3]; exact q_sub (k := n.i + 1) (m := 1) (by omega)
          rw [decide_eq_false z1, q_b0, z2, q_ck (q_inb (by show n.i < 4002; omega) (by decide)), q_nat (by omega), b4, show decide ((7 : Int32) = 7) = true from rfl, q_b1, rt_end b3 (by omega)]
          unfold br; split <;> rfl
        refine ⟨uA u3 6 (upd (AI u3 6) n.i 45), upI (tkM w3 (n.i + 1) 0 0) 9 (Int32.ofNat (n.i + 1)), n3, true, rfl, e2, ?_, o6, (fu2.tr o7).tr a6_fr, (fw1.tr o8).tr end_fr, fun z => by cases z⟩
        have B := TB_int (w2 := upI (tkM w3 (n.i + 1) 0 0) 9 (Int32.ofNat (n.i + 1))) b1 rfl rfl rfl rfl (tkA w3 (n.i + 1)) (fun j hj => upd_ne (by omega)) (fun j hj => upd_ne (by omega)) (fun j hj => upd_ne (by omega))
        rw [← b2] at B
        rw [← b2]
        refine { toTB := TB_6 B, e6 := ?_, e8 := ?_, m6 := ?_, m9 := ?_, m7 := fun _ => ?_ }
        · show AI (uA u3 6 (upd (AI u3 6) n3.i 45)) 6 n3.i = 45
          rw [fa_6 o3, upd_self]
        · show AI (uA u3 6 (upd (AI u3 6) n3.i 45)) 8 n3.i = upd (w3.2.2.1 8) (n3.i + 1) (w3.1 11) n3.i
          rw [AI_A (by decide), upd_ne (by omega), b2, o5, b5]
        · show upd (w3.2.2.1 6) (n3.i + 1) 0 n3.i = 7
          rw [upd_ne (by omega), b2, b4]
        · rfl
        · exact upd_self
      · rw [if_neg (fun z => by rcases z with z | z; exact c0 z; exact c45 z)]
        have t2 : n3.i = n.i + 1 := t2
        have t3 : p1 < n3.p := t3
        have hk3 := t1.pk
        have hmul : (3 * (n.k + 1) + 1) * (n3.k + 1 - n3.p) + (3 * (n.k + 1) + 1) ≤ (3 * (n.k + 1) + 1) * (n.k + 1 - n.p) := by
          have : (3 * (n.k + 1) + 1) * (n3.k + 1 - n3.p) + (3 * (n.k + 1) + 1) = (3 * (n.k + 1) + 1) * (n3.k + 1 - n3.p + 1) := (Nat.mul_succ _ _).symm
          rw [this]
          exact Nat.mul_le_mul_left _ (by omega)
        have hF : (3 * (n3.k + 1) + 1) * (n3.k + 1 - n3.p) + 5 ≤ F3 := by
          rw [o6] at hmul
          rw [o6]
          have : 3 * (n.k + 1 - n.p) ≤ 3 * (n.k + 1) := by omega
          omega
        obtain ⟨u4, w4, n4, bad, r1, r2, r3, r4, r5, r6, r7⟩ := ih (finC u3 n.i c) w3 n3 Fc F3 t1 (by omega) (by omega) hF
        have ff : FrC AX FX u3 (finC u3 n.i c) := a6_fr.tr (FrC.fi (by decide) (Or.inr (Or.inl rfl)))
        rw [t2] at r1
        exact ⟨u4, w4, n4, bad, r1, r2, r3, r4.trans o6, ((fu2.tr o7).tr ff).tr r5, (fw1.tr o8).tr r6, r7⟩
end ALB
