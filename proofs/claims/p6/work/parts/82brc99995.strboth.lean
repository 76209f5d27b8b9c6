set_option maxRecDepth 100000
theorem sts_lt {g : Nat → Int32} {k : Nat} : ∀ m p i len, sts g k m p i = some len → i ≤ len ∧ p + (len - i) < k := by
  intro m
  induction m with
  | zero => intro p i len h; cases h
  | succ m ih =>
    intro p i len h
    have h : (if sgA g k p = 34 then some i else if sgA g k p < 32 ∨ 126 < sgA g k p then none else sts g k m (p + 1) (i + 1)) = some len := h
    split at h
    · rename_i z
      cases h
      refine ⟨Nat.le_refl _, ?_⟩
      by_cases y : p < k
      · omega
      · have : sgA g k p = -1 := if_neg y
        rw [this] at z
        exact absurd z (by decide)
    · split at h
      · cases h
      · have := ih (p + 1) (i + 1) len h
        omega
theorem sts_eq {f g : Nat → Int32} {k : Nat} (h : ∀ j, j < k → f j = g j) : ∀ m p i, sts f k m p i = sts g k m p i := by
  intro m
  induction m with
  | zero => intro p i; rfl
  | succ m ih =>
    intro p i
    show (if sgA f k p = 34 then some i else if sgA f k p < 32 ∨ 126 < sgA f k p then none else sts f k m (p + 1) (i + 1)) = (if sgA g k p = 34 then some i else if sgA g k p < 32 ∨ 126 < sgA g k p then none else sts g k m (p + 1) (i + 1))
    rw [sgA_eq (p := p) h, ih]
def wS (w : MS) (i ns f0 b j : Nat) (t : Int32) : MS := upI (upA (tkM (upI (stS w f0 b j) 10 (Int32.ofNat (b + j + 1))) i t (Int32.ofNat ns)) 19 (upd (w.2.2.1 19) (ns + 1) (Int32.ofNat (f0 + j)))) 20 (Int32.ofNat (ns + 1))
def fsN (fs : Nat → Nat) (ns x : Nat) : Nat → Nat := fun r => if r = ns + 1 then x else fs r
section STB
variable {u u2 : CS} {w : MS} {n : TN} {N f0 b j : Nat} {t c a : Int32}
theorem wS_A {i ns k : Nat} (h1 : k ≠ 6) (h2 : k ≠ 7) (h3 : k ≠ 8) (h4 : k ≠ 18) (h5 : k ≠ 19) : (wS w i ns f0 b j t).2.2.1 k = w.2.2.1 k := by
  show (if k = 19 then _ else if k = 8 then _ else if k = 7 then _ else if k = 6 then _ else if k = 18 then _ else w.2.2.1 k) = _
  rw [if_neg h5, if_neg h3, if_neg h2, if_neg h1, if_neg h4]
theorem wS_I {i ns k : Nat} (h1 : k ≠ 9) (h2 : k ≠ 10) (h3 : k ≠ 20) : (wS w i ns f0 b j t).1 k = w.1 k := by
  show (if k = 20 then _ else if k = 9 then _ else if k = 10 then _ else if k = 10 then _ else w.1 k) = _
  rw [if_neg h3, if_neg h1, if_neg h2, if_neg h2]
theorem wS_6 {i ns : Nat} : (wS w i ns f0 b j t).2.2.1 6 = upd (w.2.2.1 6) i t := rfl
theorem wS_7 {i ns : Nat} : (wS w i ns f0 b j t).2.2.1 7 = upd (w.2.2.1 7) i (Int32.ofNat ns) := rfl
theorem wS_8 {i ns : Nat} : (wS w i ns f0 b j t).2.2.1 8 = upd (w.2.2.1 8) i (w.1 11) := rfl
theorem wS_18 {i ns : Nat} : (wS w i ns f0 b j t).2.2.1 18 = put (w.2.2.1 18) (w.2.2.1 4) f0 b j := rfl
theorem wS_19 {i ns : Nat} : (wS w i ns f0 b j t).2.2.1 19 = upd (w.2.2.1 19) (ns + 1) (Int32.ofNat (f0 + j)) := rfl
theorem wS_fr {i ns : Nat} : FrM IX AY w (wS w i ns f0 b j t) := ⟨fun k hk => wS_I (fun e => hk (Or.inl e)) (fun e => hk (Or.inr (Or.inl e))) (fun e => hk (Or.inr (Or.inr (Or.inr (Or.inr (Or.inr e)))))), rfl, fun k hk => wS_A (fun e => hk (Or.inl e)) (fun e => hk (Or.inr (Or.inl e))) (fun e => hk (Or.inr (Or.inr (Or.inl e)))) (fun e => hk (Or.inr (Or.inr (Or.inr (Or.inr (Or.inr (Or.inr (Or.inr (Or.inl e))))))))) (fun e => hk (Or.inr (Or.inr (Or.inr (Or.inr (Or.inr (Or.inr (Or.inr (Or.inr e))))))))), rfl⟩
theorem TB_str (h : TK u w n) (cf : CF u u2 n.i a) (h1 : FI u2 1 2 = FI u 1 2) (h2 : AI u2 3 = AI u 3) (h3 : AI u2 2 = AI u 2) (h4 : FI u2 12 2 = FI u 12 2) (h5 : AI u2 14 = AI u 14) (h6 : AI u2 13 = AI u 13) (hf : f0 = n.fs n.ns) : TB u2 (wS w n.i n.ns f0 b j t) ⟨n.k, n.i, n.p, n.l, n.na, n.fa, n.nn, n.fc, n.fr, n.q, n.ns + 1, fsN n.fs n.ns (f0 + j)⟩ := by
  obtain ⟨c1, c2, c3, c4, c5, c6, c7, c8⟩ := h.co
  have fle : ∀ r, r ≤ n.ns → fsN n.fs n.ns (f0 + j) r = n.fs r := fun r hr => if_neg (by omega)
  have ftop : fsN n.fs n.ns (f0 + j) (n.ns + 1) = f0 + j := if_pos rfl
  refine (TB.mk1 (sk := cf.sk2) (k4 := h.k4) (cu := ?_) (cw := ?_) (ta := fun j hj => ?_) (bu := ?_) (bw := ?_) (co := ⟨?_, fun j hj => ?_, fun j hj => ?_, ?_, ?_, ?_, ?_, ?_⟩) (ik := h.ik) (iu := ?_) (atm := ?_) (nmm := ?_) (a22 := h.a22) (sw := rfl) (sf := fun r hr => ?_) (sm := fun r hr => ?_) (f22 := h.f22) (s22 := fun j hj => (congrFun h3 j).trans (h.s22 j hj)) (r00 := h.r00) (z00 := (fle 0 (Nat.zero_le _)).trans h.z00) (tk := fun r hr => ?_))
  · rw [cf.f41]; exact h.cu
  · rw [wS_I (by decide) (by decide) (by decide)]; exact h.cw
  · rw [cf.a5, wS_A (by decide) (by decide) (by decide) (by decide) (by decide)]; exact h.ta j hj
  · rw [cf.a5]; exact h.bu
  · rw [wS_A (by decide) (by decide) (by decide) (by decide) (by decide)]; exact h.bw
  · rw [cf.f92]; exact c1
  · rw [cf.a10]; exact c2 j hj
  · rw [cf.a11]; exact c3 j hj
  · rw [wS_A (by decide) (by decide) (by decide) (by decide) (by decide)]; exact c4
  · rw [wS_A (by decide) (by decide) (by decide) (by decide) (by decide)]; exact c5
  · rw [wS_A (by decide) (by decide) (by decide) (by decide) (by decide)]; exact c6
  · rw [wS_A (by decide) (by decide) (by decide) (by decide) (by decide)]; exact c7
  · rw [wS_A (by decide) (by decide) (by decide) (by decide) (by decide)]; exact c8
  · rw [cf.f45]; exact h.iu
  · exact AT_fr h.atm h1 h2 h3 (wS_I (by decide) (by decide) (by decide)) (wS_A (by decide) (by decide) (by decide) (by decide) (by decide)) (wS_A (by decide) (by decide) (by decide) (by decide) (by decide))
  · exact NM_fr h.nmm h4 h5 h6 (wS_I (by decide) (by decide) (by decide)) (wS_A (by decide) (by decide) (by decide) (by decide) (by decide)) (wS_A (by decide) (by decide) (by decide) (by decide) (by decide))
  · rw [wS_19]
    by_cases e : r = n.ns + 1
    · subst e; rw [upd_self]; show _ = Int32.ofNat (fsN n.fs n.ns (f0 + j) (n.ns + 1)); rw [ftop]
    · have hr : r ≤ n.ns + 1 := hr
      rw [upd_ne e]; show _ = Int32.ofNat (fsN n.fs n.ns (f0 + j) r); rw [fle r (by omega)]; exact h.sf r (by omega)
  · show fsN n.fs n.ns (f0 + j) (r + 1) ≤ fsN n.fs n.ns (f0 + j) (n.ns + 1)
    rw [ftop]
    by_cases e : r = n.ns
    · rw [e, ftop]; exact Nat.le_refl _
    · have hr : r < n.ns + 1 := hr
      have := h.sm r (by omega)
      rw [fle (r + 1) (by omega)]; omega
  · have hr : r < n.i := hr
    obtain ⟨k1, k2⟩ := h.tk r hr
    rw [cf.a5, cf.a6, cf.a8, cf.a7 r hr, wS_6, wS_7, wS_8, wS_18, upd_ne (by omega), upd_ne (by omega), upd_ne (by omega)]
    exact ⟨KV_mono k1 (Nat.le_refl _) (Nat.le_refl _) (Nat.le_succ _) (fun _ _ => rfl) fle h.sm (fun x hx => put_lo (by omega)), k2⟩
theorem TK_str {len : Nat} (h : TK u w n) (hl : AI u 8 n.i = Int32.ofNat n.l) (cf : CF u u2 n.i (Int32.ofNat (n.p + 1))) (p9 : FI u2 4 9 = Int32.ofNat (n.p + 1 + len + 1)) (h1 : FI u2 1 2 = FI u 1 2) (h2 : AI u2 3 = AI u 3) (h3 : AI u2 2 = AI u 2) (h4 : FI u2 12 2 = FI u 12 2) (h5 : AI u2 14 = AI u 14) (h6 : AI u2 13 = AI u 13) (hs : sts (AI u 5) n.k 41 (n.p + 1) 0 = some len) (h40 : len ≤ 40) :
    TK (finC u2 n.i 4) (wS w n.i n.ns (n.fs n.ns) (n.p + 1) len 5) ⟨n.k, n.i + 1, n.p + 1 + len + 1, n.l, n.na, n.fa, n.nn, n.fc, n.fr, n.q, n.ns + 1, fsN n.fs n.ns (n.fs n.ns + len)⟩ := by
  have B := TB_str (b := n.p + 1) (j := len) (t := 5) h cf h1 h2 h3 h4 h5 h6 rfl
  obtain ⟨-, hlk⟩ := sts_lt 41 (n.p + 1) 0 len hs
  have fle : ∀ r, r ≤ n.ns → fsN n.fs n.ns (n.fs n.ns + len) r = n.fs r := fun r hr => if_neg (by omega)
  have ftop : fsN n.fs n.ns (n.fs n.ns + len) (n.ns + 1) = n.fs n.ns + len := if_pos rfl
  have hip := h.ip
  have hlk2 := h.lk
  have hb1 := h.b1
  have hb3 := h.b3
  have hb4 := h.b4
  have hb5 := h.b5
  have hs2 := h.s2
  have hs3 := h.s3
  refine (TK.mk1 (sk := fin_sk cf.sk2) (k4 := h.k4) (cu := ?_) (cw := B.cw) (ta := fun j hj => ?_) (bu := ?_) (bw := B.bw) (co := ⟨?_, fun j hj => ?_, fun j hj => ?_, B.co.2.2.2⟩) (ik := ?_) (iu := fin_5 cf.sk2) (atm := AT_fr B.atm (fin_F (by decide)) (fin_A (by decide)) (fin_A (by decide)) rfl rfl rfl) (nmm := NM_fr B.nmm (fin_F (by decide)) (fin_A (by decide)) (fin_A (by decide)) rfl rfl rfl) (a22 := h.a22) (sw := B.sw) (sf := B.sf) (sm := B.sm) (f22 := h.f22) (s22 := fun j hj => (congrFun (fin_A (by decide)) j).trans (B.s22 j hj)) (r00 := h.r00) (z00 := B.z00) (tk := fun r hr => ?_) (pk := ?_) (pu := ?_) (pw := rfl) (lk := ?_) (lu := ?_) (lw := ?_) (ip := ?_) (iw := rfl) (b1 := ?_) (b2 := fun z => ?_) (b3 := ?_) (b4 := ?_) (b5 := ?_) (s2 := ?_) (s3 := ?_))
  · rw [fin_F (by decide)]; exact B.cu
  · rw [fin_A (by decide)]; exact B.ta j hj
  · rw [fin_A (by decide)]; exact B.bu
  · rw [fin_F (by decide)]; exact B.co.1
  · rw [fin_A (by decide)]; exact B.co.2.1 j hj
  · rw [fin_A (by decide)]; exact B.co.2.2.1 j hj
  · show n.i + 1 ≤ n.k; omega
  · rw [fin_6 cf.sk2, fin_A (by decide), fin_A (by decide), fin_A (by decide)]
    by_cases e : r = n.i
    · subst e
      rw [upd_self, wS_6, wS_7, wS_8, upd_self, upd_self, upd_self, cf.a7i, cf.a5, cf.a8, hl, h.lw]
      refine ⟨Or.inr (Or.inr (Or.inr (Or.inl ⟨rfl, rfl, n.ns, n.p + 1, len, by show n.ns < n.ns + 1; omega, rfl, rfl, h40, ?_, by show n.p + 1 + len < n.k; omega, hs, fun j hj => ?_⟩))), rfl⟩
      · show fsN n.fs n.ns (n.fs n.ns + len) (n.ns + 1) = fsN n.fs n.ns (n.fs n.ns + len) n.ns + len
        rw [ftop, fle n.ns (Nat.le_refl _)]
      · show (wS _ _ _ _ _ _ _).2.2.1 18 (fsN n.fs n.ns (n.fs n.ns + len) n.ns + j) = _
        rw [fle n.ns (Nat.le_refl _), wS_18, put_in hj]
        exact (h.ta (n.p + 1 + j) (by omega)).symm
    · have hr : r < n.i + 1 := hr
      rw [upd_ne e]
      exact B.tk r (by show r < n.i; omega)
  · show n.p + 1 + len + 1 ≤ n.k; omega
  · rw [fin_F (by decide)]; exact p9
  · show n.l ≤ n.p + 1 + len + 1 + 1; omega
  · rw [fin_F (by decide), cf.f410]; exact h.lu
  · rw [wS_I (by decide) (by decide) (by decide)]; exact h.lw
  · show n.i + 1 ≤ n.p + 1 + len + 1; omega
  · show 2 * (n.na - 22 + n.nn) ≤ n.p + 1 + len + 1 + 1; omega
  · have z : 2 * (n.na - 22 + n.nn) = n.p + 1 + len + 1 + 1 := z
    omega
  · show n.fa n.na ≤ 139 + (n.p + 1 + len + 1); omega
  · show n.fc (ncQ n.q n.nn) ≤ 1 + (n.p + 1 + len + 1); omega
  · show n.fr n.nn ≤ n.p + 1 + len + 1; omega
  · show 2 * (n.ns + 1) ≤ n.p + 1 + len + 1; omega
  · show fsN n.fs n.ns (n.fs n.ns + len) (n.ns + 1) ≤ n.p + 1 + len + 1
    rw [ftop]; omega
theorem upA_id {k : Nat} : upA w k (w.2.2.1 k) = w := by
  unfold upA
  have : (fun j => if j = k then w.2.2.1 k else w.2.2.1 j) = w.2.2.1 := by
    funext j
    by_cases hj : j = k
    · rw [if_pos hj, hj]
    · rw [if_neg hj]
  rw [this]
theorem str_both (h : TK u w n) (hl : AI u 8 n.i = Int32.ofNat n.l) (hp : n.p < n.k) (hN : 100000 ≤ N) : OUT u w n (fm_To_string N u 4) (fm_M_stringToken N w) := by
  have k4 := h.k4
  have hip := h.ip
  have hs2 := h.s2
  have hs3 := h.s3
  have s9 := sf_4_9 (v := Int32.ofNat (n.p + 1)) h.sk
  have e5 : FI (uF u 4 9 (.inl (Int32.ofNat (n.p + 1)))) 4 5 = Int32.ofNat n.i := by rw [FI_F (by decide)]; exact h.iu
  have s7 := sa_7 (g := upd (AI (uF u 4 9 (.inl (Int32.ofNat (n.p + 1)))) 7) n.i (Int32.ofNat (n.p + 1))) s9
  have e1 : fm_To_string N u 4 = gg_To_string N N (uA (uF u 4 9 (.inl (Int32.ofNat (n.p + 1)))) 7 (upd (AI (uF u 4 9 (.inl (Int32.ofNat (n.p + 1)))) 7) n.i (Int32.ofNat (n.p + 1)))) 4 (Int32.ofNat 0) := by
    unfold fm_To_string fb_To_string_0
    rw [gi_4_9 h.sk, q_bo, h.pu, q_suc, pf_4_9 h.sk, q_bo, gr_4_3 s9, q_bo, gi_4_5 s9, q_bo, gi_4_9 s9, q_bo, q_bo, e5, fi_4_9 h.sk, si_7 s9, if_pos (q_inb (by omega) (by decide)), q_bo, q_nat (by omega)]
    rfl
  generalize hu1 : uA (uF u 4 9 (.inl (Int32.ofNat (n.p + 1)))) 7 (upd (AI (uF u 4 9 (.inl (Int32.ofNat (n.p + 1)))) 7) n.i (Int32.ofNat (n.p + 1))) = u1 at s7 e1
  have cf0 : CF u (uF u 4 9 (.inl (Int32.ofNat (n.p + 1)))) n.i (AI u 7 n.i) := CF_9 s9 (Fr4.one (S := S9) (k := 9) rfl) rfl
  have cf1 : CF u u1 n.i (Int32.ofNat (n.p + 1)) := by rw [← hu1]; exact CF_7 cf0
  have A1' : ∀ j, j ≠ 7 → AI u1 j = AI u j := fun j x => by rw [← hu1, AI_A x, AI_F]
  have F1' : ∀ i j, i ≠ 4 → FI u1 i j = FI u i j := fun i j x => by rw [← hu1, FI_A, FI_F (Or.inl x)]
  have p1 : FI u1 4 9 = Int32.ofNat (n.p + 1) := by rw [← hu1, FI_A]; exact fi_4_9 h.sk
  obtain ⟨u2, i1, i2, i3, i4⟩ := strC_loop (N := N) h.k4 41 (n.p + 1) 0 u1 (N - 42) s7 (by rw [cf1.f41]; exact h.cu) p1 (by omega) (by omega)
  rw [show N - 42 + 41 + 1 = N from by omega, A1' 5 (by decide)] at i1
  rw [A1' 5 (by decide)] at i4
  have cf : CF u u2 n.i (Int32.ofNat (n.p + 1)) := by
    have g := CF_9 (i := n.i) i2 i3 cf1.a7i
    exact ⟨i2, g.a5.trans cf1.a5, g.a6.trans cf1.a6, g.a8.trans cf1.a8, fun j hj => (g.a7 j hj).trans (cf1.a7 j hj), g.a7i, g.a10.trans cf1.a10, g.a11.trans cf1.a11, g.f41.trans cf1.f41, g.f45.trans cf1.f45, g.f410.trans cf1.f410, g.f92.trans cf1.f92⟩
  have A2 : ∀ j, j ≠ 7 → j ≠ 4 → AI u2 j = AI u j := fun j x y => (fr4_AI i3 y).trans (A1' j x)
  have F2 : ∀ i j, i ≠ 4 → FI u2 i j = FI u i j := fun i j x => (fr4_FI i3 x).trans (F1' i j x)
  have fru : FrC AX FX u u2 := by
    have z : FrC AX FX u u1 := by rw [← hu1]; exact (FrC.fi (by decide) (Or.inr (Or.inl rfl))).tr FrC.a7
    exact z.tr (FrC.of4 i3)
  obtain ⟨j, j1, j2, j3⟩ := strM_loop (N := N) (k := n.k) (s := n.ns) (f0 := n.fs n.ns) (b := n.p + 1) h.cw h.k4 h.bw h.sw (by omega) (h.sf n.ns (Nat.le_refl _)) (by omega) (by omega) 41 0 (N - 43) (by omega) (by omega)
  rw [show N - 43 + 41 + 2 = N from by omega, Nat.add_zero, sts_eq (fun j hj => (h.ta j hj).symm)] at j2
  rw [Nat.add_zero, sts_eq (fun j hj => (h.ta j hj).symm)] at j3
  have e2 : fm_M_stringToken N w = gg_M_stringToken N N (stS w (n.fs n.ns) (n.p + 1) 0) (Int32.ofNat 0) 1 := by
    unfold fm_M_stringToken fb_M_stringToken_0
    rw [q_ls, h.pw, q_suc]
    have : stS w (n.fs n.ns) (n.p + 1) 0 = upI w 10 (Int32.ofNat (n.p + 1)) := by
      unfold stS
      rw [put_0, upA_id, Nat.add_zero]
    rw [this]
    rfl
  have fin : ∀ t : Int32, vp_nar .byte (t.toInt8.toInt32) = t → finS N (stS w (n.fs n.ns) (n.p + 1) j) j t = some (wS w n.i n.ns (n.fs n.ns) (n.p + 1) j t, ()) := fun t ht => by
    unfold finS fb_M_stringToken_123
    have i9 : (upI (stS w (n.fs n.ns) (n.p + 1) j) 10 ((stS w (n.fs n.ns) (n.p + 1) j).1 10 + 1)).1 9 = Int32.ofNat n.i := h.iw
    have i20 : (upI (stS w (n.fs n.ns) (n.p + 1) j) 10 ((stS w (n.fs n.ns) (n.p + 1) j).1 10 + 1)).1 20 = Int32.ofNat n.ns := h.sw
    rw [tok_ok (N := N) i9 (by omega), q_bn, i20, ht, show (stS w (n.fs n.ns) (n.p + 1) j).1 10 = Int32.ofNat (n.p + 1 + j) from rfl, q_suc]
    have x20 : (tkM (upI (stS w (n.fs n.ns) (n.p + 1) j) 10 (Int32.ofNat (n.p + 1 + j + 1))) n.i t (Int32.ofNat n.ns)).1 20 = Int32.ofNat n.ns := h.sw
    have x19 : (tkM (upI (stS w (n.fs n.ns) (n.p + 1) j) 10 (Int32.ofNat (n.p + 1 + j + 1))) n.i t (Int32.ofNat n.ns)).2.2.1 19 = w.2.2.1 19 := rfl
    show ck (inb ((tkM _ _ _ _).1 20) (ln 19)) _ = _
    rw [x20, q_ck (q_inb (by show n.ns < 2002; omega) (by decide)), q_suc, q_ck (q_inb (by show n.ns + 1 < 2002; omega) (by decide)), q_ls, x19, q_nat (by omega), q_nat (by omega), h.sf n.ns (Nat.le_refl _), q_add, q_ls]
    show some (upI _ 20 ((upA _ 19 _).1 20 + 1), ()) = _
    rw [show (upA (tkM (upI (stS w (n.fs n.ns) (n.p + 1) j) 10 (Int32.ofNat (n.p + 1 + j + 1))) n.i t (Int32.ofNat n.ns)) 19 (upd (w.2.2.1 19) (n.ns + 1) (Int32.ofNat (n.fs n.ns + j)))).1 20 = Int32.ofNat n.ns from x20, q_suc]
    rfl
  rw [e1, e2, i1, j2]
  have l8 : AI u2 8 n.i = Int32.ofNat n.l := by rw [cf.a8]; exact hl
  have f5 : FI u2 4 5 = Int32.ofNat n.i := by rw [cf.f45]; exact h.iu
  cases hs : sts (AI u 5) n.k 41 (n.p + 1) 0 with
  | none =>
    rw [show (if (none : Option Nat).isSome = true then (4 : Int32) else 45) = 45 from rfl, show (if (none : Option Nat).isSome = true then (5 : Int32) else 7) = 7 from rfl, fin 7 rfl]
    refine ⟨u2, _, _, 45, rfl, rfl, i2, f5, l8, ?_, fru, wS_fr, Or.inl ⟨rfl, TB_str (b := n.p + 1) (j := j) (t := 7) h cf (F2 1 2 (by decide)) (A2 3 (by decide) (by decide)) (A2 2 (by decide) (by decide)) (F2 12 2 (by decide)) (A2 14 (by decide) (by decide)) (A2 13 (by decide) (by decide)) rfl, rfl, rfl, upd_self, ?_⟩⟩
    · rfl
    · rw [wS_8, upd_self]; exact h.lw
  | some len =>
    obtain ⟨l1, l2, l3⟩ := i4 len hs
    have hj := j3 len hs
    subst hj
    rw [show (if (some len).isSome = true then (4 : Int32) else 45) = 4 from rfl, show (if (some len).isSome = true then (5 : Int32) else 7) = 5 from rfl, fin 5 rfl]
    refine ⟨u2, _, _, 4, rfl, rfl, i2, f5, l8, ?_, fru, wS_fr, Or.inr ⟨by decide, by decide, TK_str h hl cf (by rw [l3, Nat.sub_zero]) (F2 1 2 (by decide)) (A2 3 (by decide) (by decide)) (A2 2 (by decide) (by decide)) (F2 12 2 (by decide)) (A2 14 (by decide) (by decide)) (A2 13 (by decide) (by decide)) hs l2, rfl, ?_⟩⟩
    · rfl
    · show n.p < n.p + 1 + len + 1; omega
end STB
