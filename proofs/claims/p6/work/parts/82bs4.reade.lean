set_option maxRecDepth 100000
def TBA (m w : MS) : Prop := ∃ g : Nat, g ≤ 666 ∧ m.1 442 = I (g : Nat) ∧ w.1 52 = I (g : Nat) ∧ ∀ f, f < g → m.2.2.1 24 f = w.2.2.1 47 f ∧ m.2.2.1 25 f = w.2.2.1 48 f ∧ m.2.2.1 28 f = w.2.2.1 51 f ∧ (∃ a : Nat, a ≤ 6 ∧ w.2.2.1 48 f = I (a : Nat)) ∧ ∃ p : Nat, p < 4000 ∧ w.2.2.1 49 f = I (p : Nat) ∧ m.2.2.1 26 f = w.2.2.1 8 p
def RDZ (m9 w13 m2 : MS) (_ : Int32) (w2 : MS) (_ : Int32) : Prop := ((m2.1 10 = 0 ∧ w2.1 86 = 0) ∨ (m2.1 10 = 1 ∧ w2.1 86 = 1 ∧ TBA m2 w2)) ∧ ((∀ k, k < 300 → k ≠ 10 → k ≠ 81 → m2.1 k = m9.1 k) ∧ (∀ k, k < 15 ∨ (36 ≤ k ∧ k ≤ 38) → m2.2.2.1 k = m9.2.2.1 k) ∧ ∀ k, 720 ≤ k → k < 740 → m2.1 k = m9.1 k) ∧ ((∀ k, k ∈ [9, 10, 11, 14, 17, 20] → w2.1 k = w13.1 k) ∧ ∀ k, k ∈ TRW → w2.2.2.1 k = w13.2.2.1 k)
section
variable {α β : Type} {m w m9 w13 m12 w14 : MS} {K nm Nk : Nat → Nat} {N T c n : Nat} {pd : Int32 → Int32 → Nat} {ps : Nat → Nat} {D : Nat → FDT} {g p q : Nat}
theorem pp_kl {R : MS → α → MS → β → Prop} {Q : MS → α → Prop} {a : Option (MS × α)} {b : Option (MS × β)} (h : PP R a b) (k : PK Q a) : PP (fun m z w r => R m z w r ∧ Q m z) a b := fun m z w r e1 e2 => ⟨h m z w r e1 e2, k m z e1⟩
def rdE (N : Nat) (w14 : MS) : Option (MS × Int32) := lt (upI w14 5 0) (fun w15 => br (decide ((w15.1 67) = 0)) (bnd (fm_M_calls N w15) (fun u16 _ => br (decide ((u16.1 72) = 0)) (br (decide ((u16.1 66) = 0)) (br (decide (60 < (u16.1 52))) (fb_M_read_162 N () u16) (br (decide (200 < (u16.1 14))) (fb_M_read_162 N () u16) (br (decide ((u16.1 9) ≤ 1500)) (lt (upI u16 86 1) (fun w17 => some (w17, 0))) (fb_M_read_162 N () u16)))) (fb_M_read_162 N () u16)) (ck (inb (u16.1 71) (ln 8)) (some (u16, ((u16.1 72) + (16 * (u16.2.2.1 8 (u16.1 71).toNatClampNeg)))))))) (some (w15, ((w15.1 67) + (16 * (w15.1 68))))))
def rdC (N : Nat) (m12 : MS) (r12 : Int32) : Option (MS × Int32) := br (decide (r12 = 0)) (bnd (hm_Cm_compile N m12) (fun u15 r15 => hb_H_read_27 N () u15 (r15))) (hb_H_read_27 N () m12 (r12))
theorem rd_flt {r12 : Int32} (hr : r12 ≠ 0) (hf : FLW w14) (k1 : (∀ k, k < 300 → m12.1 k = m9.1 k) ∧ (∀ k, k < 15 ∨ (36 ≤ k ∧ k ≤ 38) → m12.2.2.1 k = m9.2.2.1 k) ∧ ∀ k, 720 ≤ k → k < 740 → m12.1 k = m9.1 k) (k2 : (∀ k, k ∈ [9, 10, 11, 14, 17, 20] → w14.1 k = w13.1 k) ∧ ∀ k, k ∈ TRW → w14.2.2.1 k = w13.2.2.1 k) (k86 : w14.1 86 = 0) : PP (RDZ m9 w13) (rdC N m12 r12) (rdE N w14) := by
  unfold rdC rdE
  rw [decide_eq_false hr, br_fq]
  refine r_lt ?_
  have e67 : (upI w14 5 0).1 67 ≠ 0 := by rw [upI_ne (by decide)]; exact hf
  rw [decide_eq_false e67, br_fq]
  refine pp_r (pk_mo rd27_p (fun v s hv => ?_))
  obtain ⟨h1, h2, h3, h4, h5⟩ := hv
  rw [if_neg hr] at h2
  refine ⟨Or.inl ⟨h2, by rw [upI_ne (by decide)]; exact k86⟩, ⟨fun k h1 h2 h3 => (h4 k (by omega) h2 h3).trans (k1.1 k h1), fun k hk => (h5 k (by omega)).trans (k1.2.1 k hk), fun k h1 h2 => (h4 k (by omega) (by omega) (by omega)).trans (k1.2.2 k h1 h2)⟩, fun k hk => ?_, k2.2⟩
  rw [upI_ne (by rintro rfl; revert hk; decide)]
  exact k2.1 k hk
theorem rd_ok (hN : 1000000000 ≤ N) (th : TKH N m9 w13 K T nm Nk pd) (kT : K T = 0) (h : PGI N m9 w13 K T nm pd (pS0 m9) (pW0 w13) g p n D m12 w14) (g66 : g ≤ 666) (w67 : w14.1 67 = 0) (w86 : w14.1 86 = 0) (w72 : w13.1 72 = 0) (hln : ∀ j, j ≤ T → m9.2.2.1 8 j = w13.2.2.1 8 j) (hng : ∀ i : Nat, ((i : Nat) : Int) < F w14 32 → A w14 23 i = 12 → 0 ≤ A w14 25 i ∧ A w14 25 i < F w13 14) (ca : PK (fun v r => CAC v r) (hm_Cm_compile N m12)) : PP (RDZ m9 w13) (rdC N m12 0) (rdE N w14) := by
  obtain ⟨c, cA, cP, cQ, e22, e85, -⟩ := th
  have hP : PDK m9 m12 := by
    obtain ⟨-, ⟨pc, -⟩, -⟩ := id h
    refine ⟨h.1.1.1, fun k h1 h2 => ?_, fun k h1 h2 => ?_⟩
    · rw [pc.1 k (by simp only [List.mem_cons, List.not_mem_nil, or_false]; omega)]
      exact pS0_i (by simp only [List.mem_cons, List.not_mem_nil, or_false]; omega)
    · rw [pc.2.1 k (by omega)]; rfl
  have csz := h.2.2.2.2.2.1
  obtain ⟨b, b', ⟨z1, z2, z3, z4⟩, z5, z6⟩ := id csz
  have b0 : b = 0 := by
    have e : (pW0 w13).1 32 = 0 := pW0_0 (by decide)
    have := (I_eq (x := (b : Nat)) (y := (0 : Int)) (by omega) (by omega) (by omega) (by omega)).mp (z1.symm.trans e)
    omega
  subst b0
  have i66 : (pW0 w13).1 66 = 0 := pW0_0 (by decide)
  have i72 : (pW0 w13).1 72 = 0 := by rw [pW0_i (by decide)]; exact w72
  have kt : Ktc w13 w14 := h.1.1.2.1
  have at12 : ∀ i, i < b' → w14.2.2.1 23 i = 12 → PDF N m9 w13 (w14.2.2.1 25 i) (w14.2.2.1 26 i) (pd (w14.2.2.1 25 i) (w14.2.2.1 26 i)) := fun i hi h12 => by
    have f32 : F w14 32 = ((b' : Nat) : Int) := by unfold F; rw [z2]; exact I_ti (by omega) (by omega)
    have a23 : A w14 23 i = 12 := by show (w14.2.2.1 23 i).toInt = 12; rw [h12]; rfl
    obtain ⟨g1, g2⟩ := hng i (by omega) a23
    have e25 : w14.2.2.1 25 i = I (((A w14 25 i).toNat : Nat) : Int) := by
      rw [Int.toNat_of_nonneg g1]
      exact I_of _
    rw [e25]
    exact cQ _ (by omega) _
  have hp : ∀ x, (∃ f, f < g ∧ ∃ b, b ∈ (D f).2.2.2.2.1 :: (D f).2.2.2.2.2 ∧ b.2.2.2.2.2.2 x) → x.2.2 ≠ 2 → PDF N m9 w13 x.1 x.2.1 (pd x.1 x.2.1) := fun x hx h2 => by
    obtain ⟨i, i1, i2, i3, i4⟩ := (z5 x).mpr hx
    rcases i2 with i2 | i2
    · rw [← i3, ← i4]
      exact at12 i i1.2 i2.1
    · exact absurd i2.2 h2
  unfold rdC rdE
  rw [show decide ((0 : Int32) = 0) = true from rfl, br_tq]
  refine r_lt ?_
  generalize hX : upI w14 5 0 = X
  have Xi : ∀ k, k ≠ 5 → X.1 k = w14.1 k := fun k hk => by rw [← hX, upI_ne hk]
  have Xr : X.2.2.1 = w14.2.2.1 := by rw [← hX]; rfl
  clear hX
  rw [decide_eq_true ((Xi 67 (by decide)).trans w67), br_tq]
  have cp := calls_p (N := N) (m0 := m9) (w0 := w13) (w := X) (g := g) (n := b') (pd := pd) (by rw [Xi 52 (by decide)]; exact h.2.1.2.2.1) (by omega) (by rw [Xi 32 (by decide)]; exact z2) z4 (by rw [Xi 67 (by decide)]; exact w67) (fun k hk => by rw [Xr]; exact kt.2 k (by revert hk; simp only [List.mem_cons, List.not_mem_nil, or_false]; rintro (rfl | rfl | rfl) <;> decide)) (fun i hi h12 => by rw [Xr] at h12 ⊢; exact at12 i hi h12)
  refine r_bnd (pk_mo cp (fun Y _ hY => ?_))
  obtain ⟨hK, hY⟩ := hY
  refine l_bnd (pk_mo (pk_and (cmp_p cA cP h.2.1.2.1 g66 h.2.1.2.2.2 hP) ca) (fun v r hv => ?_))
  obtain ⟨ce, cac⟩ := hv
  have Yi : ∀ k, k ≠ 5 → k ≠ 71 → k ≠ 72 → Y.1 k = w14.1 k := fun k h1 h2 h3 => (hK.1 k h2 h3).trans (Xi k h1)
  have Yr : ∀ k, k ≠ 27 → Y.2.2.1 k = w14.2.2.1 k := fun k hk => by rw [hK.2.1 k hk, Xr]
  have rbd : ∀ x, RBD X g pd x ↔ RBD w14 g pd x := fun x => by
    unfold RBD noF
    rw [Xr]
  have csy : ∀ x, CSY X 0 b' x ↔ CSY w14 0 b' x := fun x => by unfold CSY; rw [Xr]
  have y72 : Y.1 72 = 0 ↔ w14.1 72 = 0 ∧ ∀ x, (∃ f, f < g ∧ ∃ b, b ∈ (D f).2.2.2.2.1 :: (D f).2.2.2.2.2 ∧ b.2.2.2.2.2.2 x) → ¬ RBD w14 g pd x := by
    rw [hY, Xi 72 (by decide)]
    exact ⟨fun z => ⟨z.1, fun x hx q => z.2 x ((csy x).mpr ((z5 x).mpr hx)) ((rbd x).mpr q)⟩, fun z => ⟨z.1, fun x hx q => z.2 x ((z5 x).mp ((csy x).mp hx)) ((rbd x).mp q)⟩⟩
  have v22 : v.1 22 = m9.1 22 := by rw [ce.1.1 22 (by omega), upI_ne (by decide)]; exact h.1.1.1.1 22 (by decide)
  have v85 : v.1 85 = m9.1 85 := by rw [ce.1.1 85 (by omega), upI_ne (by decide)]; exact h.1.1.1.1 85 (by decide)
  have y14 : Y.1 14 = v.1 22 := by rw [Yi 14 (by decide) (by decide) (by decide), kt.1 14 (by decide), v22, e22]
  have y9 : v.1 85 ≤ 1500 ↔ Y.1 9 ≤ 1500 := by rw [Yi 9 (by decide) (by decide) (by decide), kt.1 9 (by decide), v85]; exact e85 kT
  have acc := acc_e (Y := Y) cA (by omega) g66 h hP hp i66 i72 ce cac y72 (Yi 66 (by decide) (by decide) (by decide)) (Yi 52 (by decide) (by decide) (by decide)) y14 y9
  have kv : (∀ k, k < 300 → v.1 k = m9.1 k) ∧ (∀ k, k < 15 ∨ (36 ≤ k ∧ k ≤ 38) → v.2.2.1 k = m9.2.2.1 k) ∧ ∀ k, 720 ≤ k → k < 740 → v.1 k = m9.1 k := by
    refine ⟨fun k hk => ?_, fun k hk => ?_, fun k h1 h2 => ?_⟩
    · rw [ce.1.1 k (by omega), upI_ne (by omega)]; exact h.1.1.1.1 k hk
    · rw [ce.1.2 k (by omega)]
      rcases hk with hk | hk
      · exact h.1.1.1.2 k hk
      · exact hP.2.2 k hk.1 hk.2
    · rw [ce.1.1 k (by omega), upI_ne (by omega)]; exact hP.2.1 k h1 h2
  have kY : (∀ k, k ∈ [9, 10, 11, 14, 17, 20] → Y.1 k = w13.1 k) ∧ ∀ k, k ∈ TRW → Y.2.2.1 k = w13.2.2.1 k := by
    refine ⟨fun k hk => ?_, fun k hk => ?_⟩
    · rw [Yi k (by rintro rfl; revert hk; decide) (by rintro rfl; revert hk; decide) (by rintro rfl; revert hk; decide)]
      exact kt.1 k (by revert hk; simp only [List.mem_cons, List.not_mem_nil, or_false]; rintro (rfl | rfl | rfl | rfl | rfl | rfl) <;> decide)
    · rw [Yr k (by rintro rfl; revert hk; decide)]
      exact kt.2 k hk
  have no : ∀ (Z : MS) (s : Int32), Z = Y → r ≠ 0 → PP (RDZ m9 w13) (hb_H_read_27 N () v r) (some (Z, s)) := fun Z s hZ hr => by
    rw [hZ]
    refine pp_r (pk_mo rd27_p (fun v2 s2 hv => ?_))
    obtain ⟨h1, h2, h3, h4, h5⟩ := hv
    rw [if_neg hr] at h2
    exact ⟨Or.inl ⟨h2, (Yi 86 (by decide) (by decide) (by decide)).trans w86⟩, ⟨fun k h1 h2 h3 => (h4 k (by omega) h2 h3).trans (kv.1 k h1), fun k hk => (h5 k (by omega)).trans (kv.2.1 k hk), fun k h1 h2 => (h4 k (by omega) (by omega) (by omega)).trans (kv.2.2 k h1 h2)⟩, kY⟩
  have n162 : r ≠ 0 → PP (RDZ m9 w13) (hb_H_read_27 N () v r) (fb_M_read_162 N () Y) := fun hr => no Y 8 rfl hr
  refine r_br (fun a1 => r_br (fun a2 => r_br (fun a3 => n162 (fun e => (acc.mp e).2.2.1 (of_decide_eq_true a3))) (fun a3 => r_br (fun a4 => n162 (fun e => (acc.mp e).2.2.2.1 (of_decide_eq_true a4))) (fun a4 => r_br (fun a5 => r_lt ?_) (fun a5 => n162 (fun e => of_decide_eq_false a5 (acc.mp e).2.2.2.2))))) (fun a2 => n162 (fun e => of_decide_eq_false a2 (acc.mp e).2.1))) (fun a1 => r_ck (fun _ => no Y _ rfl (fun e => of_decide_eq_false a1 (acc.mp e).1)))
  have r0 : r = 0 := acc.mpr ⟨of_decide_eq_true a1, of_decide_eq_true a2, of_decide_eq_false a3, of_decide_eq_false a4, of_decide_eq_true a5⟩
  refine pp_r (pk_mo rd27_p (fun v2 s2 hv => ?_))
  obtain ⟨h1, h2, h3, h4, h5⟩ := hv
  rw [if_pos r0] at h2
  refine ⟨Or.inr ⟨h2, upI_at, g, g66, ?_, ?_, fun f hf => ?_⟩, ⟨fun k h1 h2 h3 => (h4 k (by omega) h2 h3).trans (kv.1 k h1), fun k hk => (h5 k (by omega)).trans (kv.2.1 k hk), fun k h1 h2 => (h4 k (by omega) (by omega) (by omega)).trans (kv.2.2 k h1 h2)⟩, fun k hk => ?_, kY.2⟩
  · rw [h4 442 (by decide) (by decide) (by decide), ce.1.1 442 (by omega), upI_ne (by decide)]; exact h.2.1.2.1
  · rw [upI_ne (by decide), Yi 52 (by decide) (by decide) (by decide)]; exact h.2.1.2.2.1
  · have t4 := PGI_t cA h f hf
    have ke := ce.2.1
    have rr : ∀ k, 24 ≤ k → k ≤ 28 → v2.2.2.1 k = m12.2.2.1 k := fun k k1 k2 => by rw [h5 k (by omega), ke k k1 k2]; rfl
    obtain ⟨⟨a1', a2', a3', a4', a5', a6', a7'⟩, d1, d2, d3, d4, d5⟩ := h.2.1.2.2.2 f hf
    obtain ⟨q1, q2, q3, q4⟩ := h.2.2.2.2.2.2 f hf
    refine ⟨?_, ?_, ?_, ⟨(D f).2.2.2.1, a6', by show Y.2.2.1 48 f = _; rw [Yr 48 (by decide)]; exact q2⟩, (D f).1, by have := c.1.1.1; omega, ?_, ?_⟩
    · rw [rr 24 (by decide) (by decide)]
      show _ = Y.2.2.1 47 f
      rw [Yr 47 (by decide)]; exact t4.1
    · rw [rr 25 (by decide) (by decide)]
      show _ = Y.2.2.1 48 f
      rw [Yr 48 (by decide)]; exact t4.2.1
    · rw [rr 28 (by decide) (by decide), d5]
      show _ = Y.2.2.1 51 f
      rw [Yr 51 (by decide)]; exact q4.symm
    · show Y.2.2.1 49 f = _
      rw [Yr 49 (by decide)]; exact q3
    · rw [rr 26 (by decide) (by decide), d3]
      show _ = Y.2.2.1 8 (D f).1
      rw [Yr 8 (by decide), kt.2 8 (by decide)]
      exact hln _ (by omega)
  · rw [upI_ne (by rintro rfl; revert hk; decide)]
    exact kY.1 k hk
end
