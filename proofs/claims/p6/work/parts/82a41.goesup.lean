def OTF (p : Nat) (u w : MS) : Prop := (∀ z, z ≠ p → A w 92 z = A u 92 z ∧ A w 94 z = A u 94 z ∧ A w 95 z = A u 95 z ∧ A w 106 z = A u 106 z) ∧ (∀ i, ¬ (60 * p ≤ i ∧ i < 60 * p + 60) → A w 98 i = A u 98 i ∧ A w 99 i = A u 99 i ∧ A w 100 i = A u 100 i ∧ A w 101 i = A u 101 i) ∧ (∀ i, ¬ (1600 * p ≤ i ∧ i < 1600 * p + 1600) → A w 102 i = A u 102 i ∧ A w 103 i = A u 103 i ∧ A w 104 i = A u 104 i ∧ A w 105 i = A u 105 i) ∧ (∀ i, A w 97 i = A u 97 i ∨ (-1 ≤ A w 97 i ∧ A w 97 i < 1400)) ∧ (∀ i, ¬ (60 * p ≤ i ∧ i < 60 * p + 60) → A w 96 i = A u 96 i) ∧ ∀ z, z ≠ p → A w 170 z = A u 170 z ∧ A w 110 z = A u 110 z ∧ w.2.2.2 111 z = u.2.2.2 111 z
theorem OTF.tr {p : Nat} {u v w : MS} (a : OTF p u v) (b : OTF p v w) : OTF p u w := by
  refine ⟨fun z hz => ?_, fun i hi => ?_, fun i hi => ?_, fun i => ?_, fun i hi => (b.2.2.2.2.1 i hi).trans (a.2.2.2.2.1 i hi), fun z hz => ⟨(b.2.2.2.2.2 z hz).1.trans (a.2.2.2.2.2 z hz).1, (b.2.2.2.2.2 z hz).2.1.trans (a.2.2.2.2.2 z hz).2.1, (b.2.2.2.2.2 z hz).2.2.trans (a.2.2.2.2.2 z hz).2.2⟩⟩
  · have h1 := a.1 z hz; have h2 := b.1 z hz; exact ⟨h2.1.trans h1.1, h2.2.1.trans h1.2.1, h2.2.2.1.trans h1.2.2.1, h2.2.2.2.trans h1.2.2.2⟩
  · have h1 := a.2.1 i hi; have h2 := b.2.1 i hi; exact ⟨h2.1.trans h1.1, h2.2.1.trans h1.2.1, h2.2.2.1.trans h1.2.2.1, h2.2.2.2.trans h1.2.2.2⟩
  · have h1 := a.2.2.1 i hi; have h2 := b.2.2.1 i hi; exact ⟨h2.1.trans h1.1, h2.2.1.trans h1.2.1, h2.2.2.1.trans h1.2.2.1, h2.2.2.2.trans h1.2.2.2⟩
  · rcases b.2.2.2.1 i with h | h
    · rw [h]; exact a.2.2.2.1 i
    · exact Or.inr h
theorem OTF_fr {p : Nat} {u w : MS} {is ls as js : List Nat} (f : FR is ls as js u w) (h : ∀ k, k ∈ [92, 94, 95, 96, 97, 98, 99, 100, 101, 102, 103, 104, 105, 106, 110, 170] → k ∉ as) (hj : 111 ∉ js := by decide) : OTF p u w :=
  ⟨fun z _ => ⟨FR.A f (h _ (by decide)), FR.A f (h _ (by decide)), FR.A f (h _ (by decide)), FR.A f (h _ (by decide))⟩, fun i _ => ⟨FR.A f (h _ (by decide)), FR.A f (h _ (by decide)), FR.A f (h _ (by decide)), FR.A f (h _ (by decide))⟩, fun i _ => ⟨FR.A f (h _ (by decide)), FR.A f (h _ (by decide)), FR.A f (h _ (by decide)), FR.A f (h _ (by decide))⟩, fun i => Or.inl (FR.A f (h _ (by decide))), fun i _ => FR.A f (h _ (by decide)), fun z _ => ⟨FR.A f (h _ (by decide)), FR.A f (h _ (by decide)), by rw [f.2.2.2 111 hj]⟩⟩
theorem OTF_9 {p : Nat} {u w : MS} {is ls as js : List Nat} (f : FR is ls as js u w) (h : ∀ k, k ∈ [96, 97, 110, 170] → k ∉ as) (hj : 111 ∉ js := by decide) : (∀ i, A w 97 i = A u 97 i ∨ (-1 ≤ A w 97 i ∧ A w 97 i < 1400)) ∧ (∀ i, ¬ (60 * p ≤ i ∧ i < 60 * p + 60) → A w 96 i = A u 96 i) ∧ ∀ z, z ≠ p → A w 170 z = A u 170 z ∧ A w 110 z = A u 110 z ∧ w.2.2.2 111 z = u.2.2.2 111 z := ⟨fun i => Or.inl (FR.A f (h _ (by decide))), fun i _ => FR.A f (h _ (by decide)), fun z _ => ⟨FR.A f (h _ (by decide)), FR.A f (h _ (by decide)), by rw [f.2.2.2 111 hj]⟩⟩
theorem OTF_at {p : Nat} {u w : MS} {is ls js : List Nat} {k0 i0 : Nat} (f : FR is ls [k0] js u w) (h : ∀ i, i ≠ i0 → A w k0 i = A u k0 i) (hk : (k0 ∈ [92, 94, 95, 106] ∧ i0 = p) ∨ (k0 ∈ [98, 99, 100, 101] ∧ 60 * p ≤ i0 ∧ i0 < 60 * p + 60) ∨ (k0 ∈ [102, 103, 104, 105] ∧ 1600 * p ≤ i0 ∧ i0 < 1600 * p + 1600)) (hj : 111 ∉ js := by decide) : OTF p u w := by
  have key : ∀ k i, (k = k0 → i ≠ i0) → A w k i = A u k i := fun k i e => by
    by_cases z : k = k0
    · subst z; exact h i (e rfl)
    · exact FR.A f (by simpa using z)
  refine ⟨fun z hz => ?_, fun i hi => ?_, fun i hi => ?_, OTF_9 f (fun k hk' => ?_) hj⟩
  · have : ∀ k, k ∈ [92, 94, 95, 106] → A w k z = A u k z := fun k hk' => key k z (fun e => by
      subst e
      rcases hk with ⟨-, y⟩ | ⟨y, -⟩ | ⟨y, -⟩
      · omega
      · simp at hk' y; omega
      · simp at hk' y; omega)
    exact ⟨this _ (by decide), this _ (by decide), this _ (by decide), this _ (by decide)⟩
  · have : ∀ k, k ∈ [98, 99, 100, 101] → A w k i = A u k i := fun k hk' => key k i (fun e => by
      subst e
      rcases hk with ⟨y, -⟩ | ⟨-, y⟩ | ⟨y, -⟩
      · simp at hk' y; omega
      · omega
      · simp at hk' y; omega)
    exact ⟨this _ (by decide), this _ (by decide), this _ (by decide), this _ (by decide)⟩
  · have : ∀ k, k ∈ [102, 103, 104, 105] → A w k i = A u k i := fun k hk' => key k i (fun e => by
      subst e
      rcases hk with ⟨y, -⟩ | ⟨y, -⟩ | ⟨-, y⟩
      · simp at hk' y; omega
      · simp at hk' y; omega
      · omega)
    exact ⟨this _ (by decide), this _ (by decide), this _ (by decide), this _ (by decide)⟩
  · rcases hk with ⟨y, -⟩ | ⟨y, -⟩ | ⟨y, -⟩ <;> (simp at hk' y ⊢; omega)
theorem OTF_97 {p i0 : Nat} {u : MS} {c : Int} (hc : -1 ≤ c ∧ c < 1400) : OTF p u (wa u 97 i0 c) := by
  have f : FR [] [] [97] [] u (wa u 97 i0 c) := FR.wa FR.rf (by decide)
  refine ⟨fun z _ => ⟨FR.A f (by decide), FR.A f (by decide), FR.A f (by decide), FR.A f (by decide)⟩, fun i _ => ⟨FR.A f (by decide), FR.A f (by decide), FR.A f (by decide), FR.A f (by decide)⟩, fun i _ => ⟨FR.A f (by decide), FR.A f (by decide), FR.A f (by decide), FR.A f (by decide)⟩, fun i => ?_, fun i _ => FR.A f (by decide), fun z _ => ⟨FR.A f (by decide), FR.A f (by decide), rfl⟩⟩
  rw [A_eq (by omega) (by omega)]
  by_cases e : i = i0
  · rw [if_pos e]; exact Or.inr hc
  · rw [if_neg e]; exact Or.inl rfl
theorem OTF_110 {p : Nat} {u : MS} {x : Int} (h1 : -2147483648 ≤ x) (h2 : x < 2147483648) : OTF p u (wa u 110 p x) := by
  have f : FR [] [] [110] [] u (wa u 110 p x) := FR.wa FR.rf (by decide)
  refine ⟨fun z _ => ⟨FR.A f (by decide), FR.A f (by decide), FR.A f (by decide), FR.A f (by decide)⟩, fun i _ => ⟨FR.A f (by decide), FR.A f (by decide), FR.A f (by decide), FR.A f (by decide)⟩, fun i _ => ⟨FR.A f (by decide), FR.A f (by decide), FR.A f (by decide), FR.A f (by decide)⟩, fun i => Or.inl (FR.A f (by decide)), fun i _ => FR.A f (by decide), fun z hz => ⟨FR.A f (by decide), by rw [A_eq h1 h2, if_neg hz], rfl⟩⟩
theorem OTF_111 {p : Nat} {u : MS} {x : Int64} : OTF p u (wj u 111 p x) := by
  have f : FR [] [] [] [111] u (wj u 111 p x) := FR.wj FR.rf (by decide)
  refine ⟨fun z _ => ⟨FR.A f (by decide), FR.A f (by decide), FR.A f (by decide), FR.A f (by decide)⟩, fun i _ => ⟨FR.A f (by decide), FR.A f (by decide), FR.A f (by decide), FR.A f (by decide)⟩, fun i _ => ⟨FR.A f (by decide), FR.A f (by decide), FR.A f (by decide), FR.A f (by decide)⟩, fun i => Or.inl (FR.A f (by decide)), fun i _ => FR.A f (by decide), fun z hz => ⟨FR.A f (by decide), FR.A f (by decide), by rw [J_wj, if_pos rfl, if_neg hz]⟩⟩
section
variable {Fv : Int64 → Int64 → Prop} {P : Int64 → Prop} {w w2 : MS} {PR N p n opM bnM bxM ND fr k tp mu CN PN SN UN FN : Nat} {ow kd ro rn rh cb pc ct pM pE : Nat → Nat} {T : TY} {C : CY}
def STP (Fv : Int64 → Int64 → Prop) (P : Int64 → Prop) (PR : Nat) (T : TY) (ND p mu : Nat) (u w : MS) : Prop := (ENDD Fv P PR p w ∨ ∃ m, m < mu ∧ ATN Fv P PR T ND p m w) ∧ STG p u w ∧ OTF p u w ∧ ∀ z, z ≠ p → A w 109 z = A u 109 z
theorem PRG_19 (hg : PRG w T C pM pE ND CN PN SN UN FN) (hn : n < ND) (h : A w 23 n = 19) : tG T n = 0 ∧ tH T (n + 1) = tH T n ∧ tM T (n + 1) = tM T n ∧ tL T (n + 1) = tL T n ∧ tK T (n + 1) = tK T n + 1 ∧ tG T (n + 1) = 0 ∧ tB T (n + 1) = tH T n ∧ tD T (n + 1) = tM T n ∧ tC T (n + 1) = n ∧ tR T (n + 1) < tR T n ∧ ∃ a : Nat, A w 25 n = a ∧ a < ND ∧ NX T n a (tH T n + 1) (tM T n) := by
  obtain ⟨-, ha, -⟩ := hg.2.2.1 n hn
  obtain ⟨-, -, -, -, -, -, -, h8, -⟩ := ha
  exact h8 h
theorem FRS_fall {i0 kk a : Nat} (h : FRS w T ND p fr ro rn rh cb pc ct k tp) (hi : i0 < fr) (hk : 0 < kk) (hc : CTI w T ND p ct i0 (cb i0) kk n (ro i0) (rn i0) (rh i0)) (hp : p < 24) (f : FR [136, 138, 140] [139] [89, 90, 92, 94, 95, 98, 106, 135] [88, 91, 93, 107, 134, 137] w w2) (h95 : A w2 95 p = ((i0 + 1 : Nat) : Int)) (h98 : ∀ j, A w2 98 j = if j = 60 * p + i0 then ((a : Nat) : Int) else A w 98 j) (hx : NX T n a (tH T n + 1) (tM T n)) : FRS w2 T ND p (i0 + 1) ro rn rh cb pc ct (tK T a) (tC T a) := by
  obtain ⟨⟨q1, q2, q3⟩, z, h5, h6, h7⟩ := h
  obtain ⟨n1, n2, n3, n4, n5, n6, n7, n8, n9⟩ := hx
  obtain ⟨t1, t2, t3, t4, t5, t6, t8, t9, t10, t11⟩ := hc (kk - 1) (by omega)
  have t10' := t10 (by omega)
  refine ⟨⟨by omega, by omega, h95⟩, z, fun i hi' => by rw [FR.A f (by decide), FR.A f (by decide), FR.A f (by decide)]; exact h5 i (by omega), fun i hi' => ?_, ?_⟩
  · obtain ⟨r1, r2⟩ := h6 i (by omega)
    obtain ⟨s1, s2, s3, s5, s6, s7, s8, s9⟩ := r2
    exact ⟨by rw [h98, if_neg (by omega)]; exact r1, s1, s2, s3, s5, s6, s7, s8, CTI_fr s9 f (by decide) (by decide) (by decide) (by decide) (by decide)⟩
  · rw [n4, n8, ← t10', t5, show i0 + 1 - 1 = i0 from by omega]
    have hc2 := CTI_fr hc f (by decide) (by decide) (by decide) (by decide) (by decide)
    intro j hj
    obtain ⟨y1, y2, y3, y4, y5, y6, y8, y9, y10, y11⟩ := hc2 j (by omega)
    exact ⟨y1, y2, y3, y4, y5, y6, y8, y9, fun e => t11 j (by omega), y11⟩
theorem goesUp_ok {S : SG_M_error} {t : Int64} {kn : Int} {rq : Nat} (i : MEI Fv P PR w p n ow kd opM bnM bxM) (h : FRS w T ND p fr ro rn rh cb pc ct k tp) (hg : PRG w T C pM pE ND CN PN SN UN FN) (hPB : PB P PR) (g : GT n ow kd P t) (hk : 0 ≤ kn ∧ kn ≤ 2) (h1 : 0 < k → ro (fr - 1) + tH T tp ≤ opM ∧ rn (fr - 1) + rh (fr - 1) + tM T tp ≤ bnM ∧ ∃ a : Nat, A w 25 tp = a ∧ tR T a < rq) (h2 : ro (fr - 1) ≤ opM ∧ rn (fr - 1) ≤ bnM) (h106 : A w 106 p = ((cb (fr - 1) + k : Nat) : Int)) (hk26 : k ≤ 26) (h109 : A w 109 p = 0) (h152 : F w 152 = 0) (hcl : CLK w (sR T pc (fr - 1) + rq) mu) (hN : 60000 ≤ N) : OK (fun w2 _ => STP Fv P PR T ND p mu w w2) (fm_M_goesUp N S w (I kn) t) := by
  have x4 := MEI_p i
  have m3 := i.2.2.1
  have hf := h.1
  have cbb := (h.2.2.1 (fr - 1) (by omega)).2.2.2.2.2.2
  unfold fm_M_goesUp fb_M_goesUp_0
  rw [I_F' m3, I_F' h152, lit0q, decE (by omega) (by omega) (by omega) (by omega), decide_eq_true rfl, br_tq, inb_at (k := 106) (n := 24) rfl (by omega) (by omega) (by decide), ck_t, I_tn (x := (p : Int)) (by omega) (by omega), Int.toNat_natCast, I_A' h106, decE (by omega) (by omega) (by omega) (by omega)]
  have en : ∀ x : Int, 0 ≤ x → x ≤ 2 → OK (fun w2 _ => STP Fv P PR T ND p mu w w2) (fb_M_goesUp_43 N S () w t (I x)) := fun x x0 x1 => by
    unfold fb_M_goesUp_43
    refine ok_bnd.mpr (ok_mono (ends_ok (N := N) i g ⟨x0, x1⟩) (fun v _ q => ok_some.mpr ⟨Or.inl q.1, Or.inr ⟨FR.mo q.2.1 (by decide) (by decide) (by decide) (by decide), q.1.2⟩, OTF_fr q.2.1 (by decide), q.2.2⟩))
  refine ok_br.mpr ⟨fun _ => ok_br.mpr ⟨fun _ => en 1 (by omega) (by omega), fun _ => ok_br.mpr ⟨fun _ => en 0 (by omega) (by omega), fun _ => en 2 (by omega) (by omega)⟩⟩, fun z => ?_⟩
  have z' : 0 < cb (fr - 1) + k := by have := of_decide_eq_false z; omega
  obtain ⟨i0, kk, tt, s1, s2, s3, s4, s5, s6, s7⟩ := CT_top hg h h1 h2 z'
  obtain ⟨t1, t2, t3, t4, t5, t6, t8, t9, t10, -⟩ := s4 (kk - 1) (by omega)
  have t10' := t10 (by omega)
  clear t10
  rw [t10'] at t2 t3 t4 t5 t6 t8 t9
  obtain ⟨-, -, -, -, -, -, -, -, -, -, a, pa1, pa2, pa3⟩ := PRG_19 hg t3 t4
  have t7 := (PRG_19 hg t3 t4).1
  have s7' := s7 a pa1
  clear s7
  have nd := hg.1.1
  have hro := (h.2.2.1 i0 (by omega))
  have hH := (hg.2.2.1 _ t3).1.1
  have hMM := (hg.2.2.1 _ t3).1.2.1
  rw [ck_t, ck_t, lt_e, lit1q, I_sub, show ((cb (fr - 1) + k : Nat) : Int) - 1 = ((cb i0 + (kk - 1) : Nat) : Int) from by omega, wa_e]
  have f5 : FR [] [] [106] [] w (wa w 106 p ((cb i0 + (kk - 1) : Nat) : Int)) := FR.wa FR.rf (by decide)
  have e5 : ∀ j, A (wa w 106 p ((cb i0 + (kk - 1) : Nat) : Int)) 106 j = if j = p then ((cb i0 + (kk - 1) : Nat) : Int) else A w 106 j := fun j => A_eq (by omega) (by omega)
  have i5 := MEI_fr i f5 (by decide) (by decide) (by decide) (by decide) (by decide) (by decide) (by decide) (by decide) (by decide) (by decide) (by decide) (by decide) (by decide) (by decide) (by decide) (by decide) (by decide) (by decide)
  generalize wa w 106 p ((cb i0 + (kk - 1) : Nat) : Int) = w5 at *
  rw [I_F' i5.2.2.1, inb_at (k := 106) (n := 24) rfl (by omega) (by omega) (by decide), ck_t, I_tn (x := (p : Int)) (by omega) (by omega), Int.toNat_natCast, I_A' (show A w5 106 p = _ by rw [e5, if_pos rfl]), lt_e, show (1600 : Int32) = I 1600 from rfl, I_mul, I_add, show (p : Int) * 1600 + ((cb i0 + (kk - 1) : Nat) : Int) = ((1600 * p + (cb i0 + (kk - 1)) : Nat) : Int) from by omega]
  have hc : cb i0 + (kk - 1) < 1600 := by omega
  generalize hcc : cb i0 + (kk - 1) = c at *
  rw [inb_at (k := 102) (n := 38400) rfl (by omega) (by omega) (by decide), ck_t, inb_at (k := 95) (n := 24) rfl (by omega) (by omega) (by decide), ck_t, lt_e, I_tn (x := ((1600 * p + c : Nat) : Int)) (by omega) (by omega), Int.toNat_natCast, I_A' (show A w5 102 (1600 * p + c) = ((i0 : Nat) : Int) by rw [FR.A f5 (by decide)]; exact t1), I_add, wa_e]
  have f7 : FR [] [] [95] [] w5 (wa w5 95 p ((i0 : Int) + 1)) := FR.wa FR.rf (by decide)
  have e7 : ∀ j, A (wa w5 95 p ((i0 : Int) + 1)) 95 j = if j = p then (i0 : Int) + 1 else A w5 95 j := fun j => A_eq (by omega) (by omega)
  have i7 := MEI_fr i5 f7 (by decide) (by decide) (by decide) (by decide) (by decide) (by decide) (by decide) (by decide) (by decide) (by decide) (by decide) (by decide) (by decide) (by decide) (by decide) (by decide) (by decide) (by decide)
  generalize wa w5 95 p ((i0 : Int) + 1) = w7 at *
  rw [I_F' i7.2.2.1, inb_at (k := 104) (n := 38400) rfl (by omega) (by omega) (by decide), ck_t, inb_at (k := 92) (n := 24) rfl (by omega) (by omega) (by decide), ck_t, lt_e, I_tn (x := (p : Int)) (by omega) (by omega), Int.toNat_natCast, I_A' (show A w7 104 (1600 * p + c) = ((ro i0 + tH T tt : Nat) : Int) by rw [FR.A f7 (by decide), FR.A f5 (by decide)]; exact t8), wa_e]
  have f8 : FR [] [] [92] [] w7 (wa w7 92 p ((ro i0 + tH T tt : Nat) : Int)) := FR.wa FR.rf (by decide)
  have e8 : ∀ j, j ≠ p → A (wa w7 92 p ((ro i0 + tH T tt : Nat) : Int)) 92 j = A w7 92 j := fun j hj => by rw [A_eq (by omega) (by omega), if_neg hj]
  have i8 := ops_less i7 (k := ro i0 + tH T tt) (by omega)
  generalize wa w7 92 p ((ro i0 + tH T tt : Nat) : Int) = w8 at *
  rw [I_F' i8.2.2.1, inb_at (k := 105) (n := 38400) rfl (by omega) (by omega) (by decide), ck_t, inb_at (k := 94) (n := 24) rfl (by omega) (by omega) (by decide), ck_t, lt_e, I_tn (x := (p : Int)) (by omega) (by omega), Int.toNat_natCast, I_A' (show A w8 105 (1600 * p + c) = ((rn i0 + rh i0 + tM T tt : Nat) : Int) by rw [FR.A f8 (by decide), FR.A f7 (by decide), FR.A f5 (by decide)]; exact t9), wa_e]
  have f9 : FR [] [] [94] [] w8 (wa w8 94 p ((rn i0 + rh i0 + tM T tt : Nat) : Int)) := FR.wa FR.rf (by decide)
  have e9 : ∀ j, j ≠ p → A (wa w8 94 p ((rn i0 + rh i0 + tM T tt : Nat) : Int)) 94 j = A w8 94 j := fun j hj => by rw [A_eq (by omega) (by omega), if_neg hj]
  have i9 := names_less i8 (k := rn i0 + rh i0 + tM T tt) (by omega)
  generalize wa w8 94 p ((rn i0 + rh i0 + tM T tt : Nat) : Int) = w9 at *
  have f59 : FR [] [] [92, 94, 95, 106] [] w w9 := FR.tr (FR.tr (FR.mo f5 (by decide) (by decide) (by decide) (by decide)) (FR.mo f7 (by decide) (by decide) (by decide) (by decide))) (FR.tr (FR.mo f8 (by decide) (by decide) (by decide) (by decide)) (FR.mo f9 (by decide) (by decide) (by decide) (by decide)))
  have o9 : OTF p w w9 := OTF.tr (OTF.tr (OTF_at f5 (i0 := p) (fun j hj => by rw [e5, if_neg hj]) (Or.inl ⟨by decide, rfl⟩)) (OTF_at f7 (i0 := p) (fun j hj => by rw [e7, if_neg hj]) (Or.inl ⟨by decide, rfl⟩))) (OTF.tr (OTF_at f8 (i0 := p) e8 (Or.inl ⟨by decide, rfl⟩)) (OTF_at f9 (i0 := p) e9 (Or.inl ⟨by decide, rfl⟩)))
  have h95 : A w9 95 p = ((i0 + 1 : Nat) : Int) := by rw [FR.A f9 (by decide), FR.A f8 (by decide), e7, if_pos rfl]; omega
  have h106' : A w9 106 p = ((c : Nat) : Int) := by rw [FR.A f9 (by decide), FR.A f8 (by decide), FR.A f7 (by decide), e5, if_pos rfl]
  have g9 := gU9 (N := N) (S := S) (c := c) (i0 := i0) (cn := tt) (a := a) i9 hPB g hk hc (by rw [FR.A f59 (by decide)]; exact t2) (by omega) (by rw [FR.A f59 (by decide)]; exact pa1) (by omega) h95 (by omega) (by omega) hN
  refine ok_mono g9 (fun v _ q => ?_)
  rcases q with ⟨q1, q2, q3⟩ | ⟨n2, ow2, kd2, q1, q2, q3, q4⟩
  · exact ⟨Or.inl q1, Or.inr ⟨FR.tr (FR.mo f59 (by decide) (by decide) (by decide) (by decide)) (FR.mo q2 (by decide) (by decide) (by decide) (by decide)), q1.2⟩, OTF.tr o9 (OTF_fr q2 (by decide)), fun z hz => by rw [q3 z hz, FR.A f59 (by decide)]⟩
  · have fv : FR [136, 138, 140] [139] [89, 90, 92, 94, 95, 98, 106, 135] [88, 91, 93, 107, 134, 137] w v := FR.tr (FR.mo f59 (by decide) (by decide) (by decide) (by decide)) (FR.mo q2 (by decide) (by decide) (by decide) (by decide))
    have frs := FRS_fall (n := tt) (a := a) h s1 s2 s4 x4 fv (by rw [FR.A q2 (by decide)]; exact h95) (fun j => by rw [q3, FR.A f59 (by decide)]) pa3
    obtain ⟨n1, n2', n3, n4, n5, n6, n7, n8, n9⟩ := pa3
    refine ⟨Or.inr ⟨mu - 1, ?_, i0 + 1, ro, rn, rh, cb, pc, ct, a, n2, ow2, kd2, bxM, ?_, frs, ?_, pa2, ?_, ?_, ?_, by rw [FR.A fv (by decide)]; exact h109, ?_, ?_⟩, Or.inl (FR.mo fv (by decide) (by decide) (by decide) (by decide)), ?_, fun z _ => FR.A fv (by decide)⟩
    · obtain ⟨c1, c2, c3, c4⟩ := hcl; omega
    · rw [show i0 + 1 - 1 = i0 from by omega, n1, n2']; exact q1
    · rw [show i0 + 1 - 1 = i0 from by omega, q3, if_pos rfl]
    · rw [show i0 + 1 - 1 = i0 from by omega, n3, t6]
    · rw [show i0 + 1 - 1 = i0 from by omega, n4, t5, FR.A q2 (by decide), h106']; omega
    · rw [n5]; exact t7
    · rw [FR.F fv (by decide)]; exact h152
    · obtain ⟨c1, c2, c3, c4⟩ := hcl
      unfold CLK
      rw [FR.F fv (by decide), FR.F fv (by decide), show i0 + 1 - 1 = i0 from by omega]
      refine ⟨c1, c2, c3, by omega⟩
    · refine OTF.tr o9 ?_
      refine ⟨fun z hz => ?_, fun j hj => ?_, fun j hj => ⟨FR.A q2 (by decide), FR.A q2 (by decide), FR.A q2 (by decide), FR.A q2 (by decide)⟩, OTF_9 q2 (by decide)⟩
      · refine ⟨?_, FR.A q2 (by decide), FR.A q2 (by decide), FR.A q2 (by decide)⟩
        exact q4 z hz
      · refine ⟨by rw [q3, if_neg (by omega)], FR.A q2 (by decide), FR.A q2 (by decide), FR.A q2 (by decide)⟩
end
