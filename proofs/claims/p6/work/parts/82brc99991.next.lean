set_option maxRecDepth 100000
def CF (u u2 : CS) (i : Nat) (a : Int32) : Prop := (skB u2 = true) ∧ (AI u2 5 = AI u 5) ∧ (AI u2 6 = AI u 6) ∧ (AI u2 8 = AI u 8) ∧ (∀ j, j < i → AI u2 7 j = AI u 7 j) ∧ (AI u2 7 i = a) ∧ (AI u2 10 = AI u 10) ∧ (AI u2 11 = AI u 11) ∧ (FI u2 4 1 = FI u 4 1) ∧ (FI u2 4 5 = FI u 4 5) ∧ (FI u2 4 10 = FI u 4 10) ∧ (FI u2 9 2 = FI u 9 2)
theorem CF.sk2 {u u2 : CS} {i : Nat} {a : Int32} (h : CF u u2 i a) : skB u2 = true := h.1
theorem CF.a5 {u u2 : CS} {i : Nat} {a : Int32} (h : CF u u2 i a) : AI u2 5 = AI u 5 := h.2.1
theorem CF.a6 {u u2 : CS} {i : Nat} {a : Int32} (h : CF u u2 i a) : AI u2 6 = AI u 6 := h.2.2.1
theorem CF.a8 {u u2 : CS} {i : Nat} {a : Int32} (h : CF u u2 i a) : AI u2 8 = AI u 8 := h.2.2.2.1
theorem CF.a7 {u u2 : CS} {i : Nat} {a : Int32} (h : CF u u2 i a) : ∀ j, j < i → AI u2 7 j = AI u 7 j := h.2.2.2.2.1
theorem CF.a7i {u u2 : CS} {i : Nat} {a : Int32} (h : CF u u2 i a) : AI u2 7 i = a := h.2.2.2.2.2.1
theorem CF.a10 {u u2 : CS} {i : Nat} {a : Int32} (h : CF u u2 i a) : AI u2 10 = AI u 10 := h.2.2.2.2.2.2.1
theorem CF.a11 {u u2 : CS} {i : Nat} {a : Int32} (h : CF u u2 i a) : AI u2 11 = AI u 11 := h.2.2.2.2.2.2.2.1
theorem CF.f41 {u u2 : CS} {i : Nat} {a : Int32} (h : CF u u2 i a) : FI u2 4 1 = FI u 4 1 := h.2.2.2.2.2.2.2.2.1
theorem CF.f45 {u u2 : CS} {i : Nat} {a : Int32} (h : CF u u2 i a) : FI u2 4 5 = FI u 4 5 := h.2.2.2.2.2.2.2.2.2.1
theorem CF.f410 {u u2 : CS} {i : Nat} {a : Int32} (h : CF u u2 i a) : FI u2 4 10 = FI u 4 10 := h.2.2.2.2.2.2.2.2.2.2.1
theorem CF.f92 {u u2 : CS} {i : Nat} {a : Int32} (h : CF u u2 i a) : FI u2 9 2 = FI u 9 2 := h.2.2.2.2.2.2.2.2.2.2.2
theorem CF.mk1 {u u2 : CS} {i : Nat} {a : Int32} (sk2 : skB u2 = true) (a5 : AI u2 5 = AI u 5) (a6 : AI u2 6 = AI u 6) (a8 : AI u2 8 = AI u 8) (a7 : ∀ j, j < i → AI u2 7 j = AI u 7 j) (a7i : AI u2 7 i = a) (a10 : AI u2 10 = AI u 10) (a11 : AI u2 11 = AI u 11) (f41 : FI u2 4 1 = FI u 4 1) (f45 : FI u2 4 5 = FI u 4 5) (f410 : FI u2 4 10 = FI u 4 10) (f92 : FI u2 9 2 = FI u 9 2) : CF u u2 i a := ⟨sk2, a5, a6, a8, a7, a7i, a10, a11, f41, f45, f410, f92⟩
def IWz (k : Nat) : Prop := k = 14 ∨ k = 17
def AW (k : Nat) : Prop := k = 12 ∨ k = 13 ∨ k = 15 ∨ k = 16
theorem AWn {k : Nat} (h1 : k ≠ 12) (h2 : k ≠ 13) (h3 : k ≠ 15) (h4 : k ≠ 16) : ¬ AW k := fun z => by
  rcases z with z | z | z | z
  · exact h1 z
  · exact h2 z
  · exact h3 z
  · exact h4 z
theorem IWn {k : Nat} (h1 : k ≠ 14) (h2 : k ≠ 17) : ¬ IWz k := fun z => by
  rcases z with z | z
  · exact h1 z
  · exact h2 z
theorem fin_sk {u : CS} {i : Nat} {c : Int32} (h : skB u = true) : skB (finC u i c) = true := sf_4_5 (sa_6 h)
theorem fin_A {u : CS} {i j : Nat} {c : Int32} (h : j ≠ 6) : AI (finC u i c) j = AI u j := by
  unfold finC
  rw [AI_F, AI_A h]
theorem fin_6 {u : CS} {i : Nat} {c : Int32} (h : skB u = true) : AI (finC u i c) 6 = upd (AI u 6) i c := by
  unfold finC
  rw [AI_F, fa_6 h]
theorem fin_F {u : CS} {i a b : Nat} {c : Int32} (h : a ≠ 4 ∨ b ≠ 5) : FI (finC u i c) a b = FI u a b := by
  unfold finC
  rw [FI_F h, FI_A]
theorem fin_5 {u : CS} {i : Nat} {c : Int32} (h : skB u = true) : FI (finC u i c) 4 5 = Int32.ofNat (i + 1) := fi_4_5 (sa_6 h)
section NXT
variable {u u2 : CS} {w w1 : MS} {n : TN} {c a s v : Int32}
theorem TK_next {p2 na2 nn2 : Nat} {fa2 fc2 fr2 : Nat → Nat} {q2 : Option Nat} (h : TK u w n) (hl : AI u 8 n.i = Int32.ofNat n.l) (cf : CF u u2 n.i a) (p9 : FI u2 4 9 = Int32.ofNat p2) (m : FrM IWz AW w w1) (hp : n.p < p2) (hpk : p2 ≤ n.k) (at2 : AT u2 w1 fa2 na2) (nm2 : NMz u2 w1 fc2 fr2 q2 nn2) (hna : n.na ≤ na2) (hnn : n.nn ≤ nn2) (hq : ∀ r, r < n.nn → nmQ q2 r = nmQ n.q r)
    (b1 : 2 * (na2 - 22 + nn2) ≤ p2 + 1) (b2 : 2 * (na2 - 22 + nn2) = p2 + 1 → p2 = n.k ∨ isW (AI u 5 p2) = false) (b3 : fa2 na2 ≤ 139 + p2) (b4 : fc2 (ncQ q2 nn2) ≤ 1 + p2) (b5 : fr2 nn2 ≤ p2) (hf22 : ∀ j, j ≤ 22 → fa2 j = fa0 j) (hs22 : ∀ j, j < 139 → AI u2 2 j = sa0 j) (hr0 : fr2 0 = 0)
    (kv : KV (AI u 5) n.k (w.2.2.1 18) q2 na2 nn2 n.ns n.fs c a s v) :
    TK (finC u2 n.i c) (upI (tkM w1 n.i s v) 10 (Int32.ofNat p2)) ⟨n.k, n.i + 1, p2, n.l, na2, fa2, nn2, fc2, fr2, q2, n.ns, n.fs⟩ := by
  have mA : ∀ k, k ≠ 12 → k ≠ 13 → k ≠ 15 → k ≠ 16 → w1.2.2.1 k = w.2.2.1 k := fun k x1 x2 x3 x4 => m.2.2.1 k (AWn x1 x2 x3 x4)
  have mI : ∀ k, k ≠ 14 → k ≠ 17 → w1.1 k = w.1 k := fun k x1 x2 => m.1 k (IWn x1 x2)
  have w2A : ∀ k, k ≠ 6 → k ≠ 7 → k ≠ 8 → (upI (tkM w1 n.i s v) 10 (Int32.ofNat p2)).2.2.1 k = w1.2.2.1 k := fun k x1 x2 x3 => (tk_fr (w := w1) (i := n.i) (s := s) (v := v)).2.2.1 k (fun z => by
    rcases z with z | z | z
    · exact x1 z
    · exact x2 z
    · exact x3 z)
  have w2I : ∀ k, k ≠ 9 → k ≠ 10 → (upI (tkM w1 n.i s v) 10 (Int32.ofNat p2)).1 k = w1.1 k := fun k x1 x2 => by
    show (if k = 10 then _ else (tkM w1 n.i s v).1 k) = _
    rw [if_neg x2]
    exact (tk_fr (w := w1) (i := n.i) (s := s) (v := v)).1 k x1
  have hi := h.ip
  have hpk0 := h.pk
  obtain ⟨c1, c2, c3, c4, c5, c6, c7, c8⟩ := h.co
  refine (TK.mk1 (sk := fin_sk cf.sk2) (k4 := h.k4) (cu := ?_) (cw := ?_) (ta := fun j hj => ?_) (bu := ?_) (bw := ?_) (co := ⟨?_, fun j hj => ?_, fun j hj => ?_, ?_, ?_, ?_, ?_, ?_⟩) (ik := ?_) (iu := fin_5 cf.sk2) (atm := ?_) (nmm := ?_) (a22 := Nat.le_trans h.a22 hna) (sw := ?_) (sf := fun j hj => ?_) (sm := h.sm) (f22 := hf22) (s22 := fun j hj => (congrFun (fin_A (by decide)) j).trans (hs22 j hj)) (r00 := hr0) (z00 := h.z00) (tk := fun j hj => ?_) (pk := hpk) (pu := ?_) (pw := rfl) (lk := ?_) (lu := ?_) (lw := ?_) (ip := ?_) (iw := rfl) (b1 := b1) (b2 := fun z => ?_) (b3 := b3) (b4 := b4) (b5 := b5) (s2 := ?_) (s3 := ?_))
  · rw [fin_F (by decide), cf.f41]; exact h.cu
  · rw [w2I 5 (by decide) (by decide), mI 5 (by decide) (by decide)]; exact h.cw
  · rw [fin_A (by decide), cf.a5, w2A 4 (by decide) (by decide) (by decide), mA 4 (by decide) (by decide) (by decide) (by decide)]; exact h.ta j hj
  · rw [fin_A (by decide), cf.a5]; exact h.bu
  · rw [w2A 4 (by decide) (by decide) (by decide), mA 4 (by decide) (by decide) (by decide) (by decide)]; exact h.bw
  · rw [fin_F (by decide), cf.f92]; exact c1
  · rw [fin_A (by decide), cf.a10]; exact c2 j hj
  · rw [fin_A (by decide), cf.a11]; exact c3 j hj
  · rw [w2A 0 (by decide) (by decide) (by decide), mA 0 (by decide) (by decide) (by decide) (by decide)]; exact c4
  · rw [w2A 21 (by decide) (by decide) (by decide), mA 21 (by decide) (by decide) (by decide) (by decide)]; exact c5
  · rw [w2A 22 (by decide) (by decide) (by decide), mA 22 (by decide) (by decide) (by decide) (by decide)]; exact c6
  · rw [w2A 1 (by decide) (by decide) (by decide), mA 1 (by decide) (by decide) (by decide) (by decide)]; exact c7
  · rw [w2A 2 (by decide) (by decide) (by decide), mA 2 (by decide) (by decide) (by decide) (by decide)]; exact c8
  · show n.i + 1 ≤ n.k; omega
  · exact AT_fr at2 (fin_F (by decide)) (fin_A (by decide)) (fin_A (by decide)) (w2I 14 (by decide) (by decide)) (w2A 12 (by decide) (by decide) (by decide)) (w2A 13 (by decide) (by decide) (by decide))
  · exact NM_fr nm2 (fin_F (by decide)) (fin_A (by decide)) (fin_A (by decide)) (w2I 17 (by decide) (by decide)) (w2A 15 (by decide) (by decide) (by decide)) (w2A 16 (by decide) (by decide) (by decide))
  · rw [w2I 20 (by decide) (by decide), mI 20 (by decide) (by decide)]; exact h.sw
  · rw [w2A 19 (by decide) (by decide) (by decide), mA 19 (by decide) (by decide) (by decide) (by decide)]; exact h.sf j hj
  · rw [fin_6 cf.sk2, fin_A (by decide), fin_A (by decide), fin_A (by decide), cf.a5, cf.a6, cf.a8, w2A 18 (by decide) (by decide) (by decide), mA 18 (by decide) (by decide) (by decide) (by decide)]
    show KV (AI u 5) n.k (w.2.2.1 18) q2 na2 nn2 n.ns n.fs _ _ (upd (w1.2.2.1 6) n.i s j) (upd (w1.2.2.1 7) n.i v j) ∧ _ = upd (w1.2.2.1 8) n.i (w1.1 11) j
    by_cases e : j = n.i
    · subst e
      rw [upd_self, upd_self, upd_self, upd_self, cf.a7i]
      refine ⟨kv, ?_⟩
      rw [hl, mI 11 (by decide) (by decide), h.lw]
    · have hj : j < n.i + 1 := hj
      have hj2 : j < n.i := by omega
      obtain ⟨k1, k2⟩ := h.tk j hj2
      rw [upd_ne e, upd_ne e, upd_ne e, upd_ne e, cf.a7 j hj2, mA 6 (by decide) (by decide) (by decide) (by decide), mA 7 (by decide) (by decide) (by decide) (by decide), mA 8 (by decide) (by decide) (by decide) (by decide)]
      exact ⟨KV_mono k1 hna hnn (Nat.le_refl _) hq (fun _ _ => rfl) h.sm (fun _ _ => rfl), k2⟩
  · rw [fin_F (by decide)]; exact p9
  · show n.l ≤ p2 + 1; have := h.lk; omega
  · rw [fin_F (by decide), cf.f410]; exact h.lu
  · rw [w2I 11 (by decide) (by decide), mI 11 (by decide) (by decide)]; exact h.lw
  · show n.i + 1 ≤ p2; omega
  · rw [fin_A (by decide), cf.a5]; exact b2 z
  · show 2 * n.ns ≤ p2; have := h.s2; omega
  · show n.fs n.ns ≤ p2; have := h.s3; omega
theorem TB_bad {p2 : Int32} (h : TK u w n) (cf : CF u u2 n.i a) (h1 : FI u2 1 2 = FI u 1 2) (h2 : AI u2 3 = AI u 3) (h3 : AI u2 2 = AI u 2) (h4 : FI u2 12 2 = FI u 12 2) (h5 : AI u2 14 = AI u 14) (h6 : AI u2 13 = AI u 13) : TB u2 (upI (tkM w n.i s v) 10 p2) n := by
  have w2A : ∀ k, k ≠ 6 → k ≠ 7 → k ≠ 8 → (upI (tkM w n.i s v) 10 p2).2.2.1 k = w.2.2.1 k := fun k x1 x2 x3 => (tk_fr (w := w) (i := n.i) (s := s) (v := v)).2.2.1 k (fun z => by
    rcases z with z | z | z
    · exact x1 z
    · exact x2 z
    · exact x3 z)
  have w2I : ∀ k, k ≠ 9 → k ≠ 10 → (upI (tkM w n.i s v) 10 p2).1 k = w.1 k := fun k x1 x2 => by
    show (if k = 10 then _ else (tkM w n.i s v).1 k) = _
    rw [if_neg x2]
    exact (tk_fr (w := w) (i := n.i) (s := s) (v := v)).1 k x1
  obtain ⟨c1, c2, c3, c4, c5, c6, c7, c8⟩ := h.co
  refine (TB.mk1 (sk := cf.sk2) (k4 := h.k4) (cu := ?_) (cw := ?_) (ta := fun j hj => ?_) (bu := ?_) (bw := ?_) (co := ⟨?_, fun j hj => ?_, fun j hj => ?_, ?_, ?_, ?_, ?_, ?_⟩) (ik := h.ik) (iu := ?_) (atm := ?_) (nmm := ?_) (a22 := h.a22) (sw := ?_) (sf := fun j hj => ?_) (sm := h.sm) (f22 := h.f22) (s22 := fun j hj => (congrFun h3 j).trans (h.s22 j hj)) (r00 := h.r00) (z00 := h.z00) (tk := fun j hj => ?_))
  · rw [cf.f41]; exact h.cu
  · rw [w2I 5 (by decide) (by decide)]; exact h.cw
  · rw [cf.a5, w2A 4 (by decide) (by decide) (by decide)]; exact h.ta j hj
  · rw [cf.a5]; exact h.bu
  · rw [w2A 4 (by decide) (by decide) (by decide)]; exact h.bw
  · rw [cf.f92]; exact c1
  · rw [cf.a10]; exact c2 j hj
  · rw [cf.a11]; exact c3 j hj
  · rw [w2A 0 (by decide) (by decide) (by decide)]; exact c4
  · rw [w2A 21 (by decide) (by decide) (by decide)]; exact c5
  · rw [w2A 22 (by decide) (by decide) (by decide)]; exact c6
  · rw [w2A 1 (by decide) (by decide) (by decide)]; exact c7
  · rw [w2A 2 (by decide) (by decide) (by decide)]; exact c8
  · rw [cf.f45]; exact h.iu
  · exact AT_fr h.atm h1 h2 h3 (w2I 14 (by decide) (by decide)) (w2A 12 (by decide) (by decide) (by decide)) (w2A 13 (by decide) (by decide) (by decide))
  · exact NM_fr h.nmm h4 h5 h6 (w2I 17 (by decide) (by decide)) (w2A 15 (by decide) (by decide) (by decide)) (w2A 16 (by decide) (by decide) (by decide))
  · rw [w2I 20 (by decide) (by decide)]; exact h.sw
  · rw [w2A 19 (by decide) (by decide) (by decide)]; exact h.sf j hj
  · obtain ⟨k1, k2⟩ := h.tk j hj
    rw [cf.a5, cf.a6, cf.a8, cf.a7 j hj, w2A 18 (by decide) (by decide) (by decide)]
    show KV _ _ _ _ _ _ _ _ _ _ (upd (w.2.2.1 6) n.i s j) (upd (w.2.2.1 7) n.i v j) ∧ _ = upd (w.2.2.1 8) n.i (w.1 11) j
    rw [upd_ne (by omega), upd_ne (by omega), upd_ne (by omega)]
    exact ⟨k1, k2⟩
end NXT
