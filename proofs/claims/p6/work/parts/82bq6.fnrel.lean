set_option maxRecDepth 100000
def FCL (N : Nat) (K nm : Nat → Nat) (m : MS) (lo nl n : Nat) (l : List CLT) (a : CLT) : Prop := (∀ b, b ∈ l → CLOb N K nm m lo nl b) ∧ CLOb N K nm m nl n a ∧ (lo ≤ nl ∧ nl ≤ n) ∧ NXT m ((l ++ [a]).map (fun b => b.1))
def NMt (m0 : MS) (p0 ar : Nat) (b : CLT) : Prop := m0.2.2.1 7 b.2.1 = m0.2.2.1 7 p0 ∧ b.2.2.1 = ar
def FWE (wB w : MS) : Prop := ∀ k, k ∈ [5, 9, 10, 11, 14, 17, 20, 67, 70, 73, 75, 77, 83] → w.1 k = wB.1 k
def CSZ (wB w : MS) (Q : Int32 × Int32 × Int32 → Prop) : Prop := ∃ b b' : Nat, (wB.1 32 = I (b : Nat) ∧ w.1 32 = I (b' : Nat) ∧ b ≤ b' ∧ b' ≤ 100000) ∧ (∀ x, CSY w b b' x ↔ Q x) ∧ NKP b wB w
def FWI (m0 w0 wB w : MS) (f p0 ar : Nat) (l : List CLT) : Prop := FWE wB w ∧ (w.1 66 = 0 ↔ wB.1 66 = 0 ∧ ∀ b, b ∈ l → b.2.2.2.1 ≤ 40 ∧ b.2.2.2.2.2.1 = false) ∧ (w.1 72 = 0 ↔ wB.1 72 = 0 ∧ ∀ b, b ∈ l → b.2.2.2.2.1 = false ∧ NMt m0 p0 ar b) ∧ CSZ wB w (fun x => ∃ b, b ∈ l ∧ b.2.2.2.2.2.2 x) ∧ w.1 52 = I ((f + 1 : Nat) : Int) ∧ (w.2.2.1 47 f = w0.2.2.1 7 p0 ∧ w.2.2.1 48 f = I (ar : Nat) ∧ w.2.2.1 49 f = I (p0 : Nat)) ∧ ∀ k, 47 ≤ k → k ≤ 51 → ∀ j, j < f → w.2.2.1 k j = wB.2.2.1 k j
section
variable {α : Type} {m0 w0 m w v u m2 m3 w2 w' mB wB : MS} {K nm Nk W : Nat → Nat} {T p n N q q1 X Y n0 n1 n2 n3 lo lo2 nl π b k d o M D tok f p0 ar : Nat} {v1 v2 r : Int32} {a a' : CLT} {l : List CLT} {Q Q2 : Int32 × Int32 × Int32 → Prop}
theorem CLOb_k (h : CLOb N K nm m lo n a) (k : ∀ j, lo < j → j ≤ n → nod m2 j = nod m j ∧ (j ≠ a.1 → m2.2.2.1 21 j = m.2.2.1 21 j)) (kc : Kcc m m2) (h1 : lo2 ≤ lo) (h2 : n ≤ n2) : CLOb N K nm m2 lo2 n2 a := by
  obtain ⟨mi, li, ni, q0, q1, q4, sc1, e5, X1, X2, W, R1, R2, Z1, Z2, C1, C2, lp, a1, a2, a3, a4, a5, a6, a7, a8, a9⟩ := h
  have kn : ∀ j, lo < j → j ≤ n → m2.2.2.1 17 j = m.2.2.1 17 j ∧ m2.2.2.1 18 j = m.2.2.1 18 j := fun j j1 j2 => by
    have := (k j j1 j2).1
    unfold nod at this
    exact ⟨congrArg (fun z => z.2.1) this, congrArg (fun z => z.2.2.1) this⟩
  refine ⟨mi, li, ni, q0, q1, q4, sc1, e5, X1, X2, W, R1, R2, Z1, Z2, C1, C2, lp, ⟨by omega, by omega, a1.2.2⟩, ⟨fun j j1 j2 => ?_, Kc_tr a2.2 kc⟩, a3, a4, a5, a6, ⟨by rw [(kn a.1 (by omega) (by omega)).2]; exact a7.1, NXT_k a7.2.1 (fun x hx => ?_), a7.2.2⟩, ⟨by rw [(kn a.1 (by omega) (by omega)).1]; exact a8.1, a8.2⟩, a9⟩
  · obtain ⟨g1, g2⟩ := a2.1 j j1 j2
    obtain ⟨g3, g4⟩ := k j (by omega) (by omega)
    exact ⟨g3.trans g1, fun z => (g4 z).trans (g2 z)⟩
  · obtain ⟨g1, g2, g3⟩ := a7.2.2.1 x hx
    exact (k x (by omega) (by omega)).2 g3
theorem NXT_mem : ∀ {l : List Nat}, NXT m l → ∀ x, x ∈ l → 1 ≤ x ∧ x ≤ 8015
  | [], _, x, h => by cases h
  | y :: l, h, x, hx => by
    rcases List.mem_cons.mp hx with rfl | hx
    · exact h.2.1
    · exact NXT_mem h.2.2 x hx
theorem NXT_snoc {x x' : Nat} : ∀ {l : List Nat}, NXT m (l ++ [x]) → (∀ y, y ∈ l → m2.2.2.1 21 y = m.2.2.1 21 y) → m2.2.2.1 21 x = I (x' : Nat) → m2.2.2.1 21 x' = 0 → 1 ≤ x' ∧ x' ≤ 8015 → NXT m2 ((l ++ [x]) ++ [x'])
  | [], h, _, e1, e2, hb => ⟨e1, h.2.1, e2, hb, trivial⟩
  | y :: l, h, hk, e1, e2, hb => by
    obtain ⟨h1, h2, h3⟩ := h
    refine ⟨?_, h2, NXT_snoc h3 (fun z hz => hk z (List.mem_cons_of_mem _ hz)) e1 e2 hb⟩
    rw [hk y List.mem_cons_self, h1]
    cases l <;> rfl
theorem FCL_s (h : FCL N K nm m lo nl n l a) (ko : KPO n m m2) (kc : Kcc m m3) (h1 : CLOb N K nm m2 n n2 a') (h21 : m2.2.2.1 21 a'.1 = 0) (hn : n ≤ n2) (e1 : ∀ j, nod m3 j = nod m2 j) (e2 : ∀ j, j ≠ a.1 → m3.2.2.1 21 j = m2.2.2.1 21 j) (e3 : m3.2.2.1 21 a.1 = I (a'.1 : Nat)) (kc2 : Kcc m2 m3) : FCL N K nm m3 lo n n2 (l ++ [a]) a' := by
  obtain ⟨a1, a2, a3, a4⟩ := h
  have ba : ∀ {lo n : Nat} {m : MS} {a : CLT}, CLOb N K nm m lo n a → lo < a.1 ∧ a.1 ≤ n ∧ n ≤ n ∧ a.1 ≤ 8015 := fun h => by
    obtain ⟨mi, li, ni, q0, q1, q4, sc1, e5, X1, X2, W, R1, R2, Z1, Z2, C1, C2, lp, a1, _⟩ := h
    omega
  have b2 := ba a2
  have b1 := ba h1
  refine ⟨fun b hb => ?_, CLOb_k h1 (fun j j1 j2 => ⟨e1 j, fun _ => e2 j (by omega)⟩) kc2 (Nat.le_refl _) (Nat.le_refl _), ⟨by omega, hn⟩, ?_⟩
  · rcases List.mem_append.mp hb with hb | hb
    · have b3 := ba (a1 b hb)
      exact CLOb_k (a1 b hb) (fun j j1 j2 => ⟨(e1 j).trans (ko j (by omega)).1, fun _ => (e2 j (by omega)).trans (ko j (by omega)).2⟩) kc (Nat.le_refl _) a3.2
    · have : b = a := by simpa using hb
      subst this
      exact CLOb_k a2 (fun j j1 j2 => ⟨(e1 j).trans (ko j (by omega)).1, fun z => (e2 j z).trans (ko j (by omega)).2⟩) kc a3.1 (Nat.le_refl _)
  · rw [List.map_append]
    rw [List.map_append] at a4
    rw [List.map_append]
    refine NXT_snoc (x := a.1) (x' := a'.1) a4 (fun y hy => ?_) e3 ?_ ⟨by omega, by omega⟩
    · obtain ⟨b, hb, rfl⟩ := List.mem_map.mp hy
      have b3 := ba (a1 b hb)
      exact (e2 _ (by omega)).trans (ko _ (by omega)).2
    · rw [e2 _ (by omega)]; exact h21
theorem CSZ_tr (h : CSZ w v Q) (k : CSZ v u Q2) : CSZ w u (fun x => Q x ∨ Q2 x) := by
  obtain ⟨a, b, a1, a2, a3⟩ := h
  obtain ⟨b', c, b1, b2, b3⟩ := k
  have e : b = b' := by
    have := (I_eq (x := (b : Nat)) (y := (b' : Nat)) (by omega) (by omega) (by omega) (by omega)).mp (a1.2.1.symm.trans b1.1)
    omega
  subst e
  refine ⟨a, c, ⟨a1.1, b1.2.1, by omega, b1.2.2.2⟩, fun x => ?_, NKP_tr a3 b3 a1.2.2.1⟩
  rw [CSY_split a1.2.2.1 b1.2.2.1, b2 x, CSY_k b3, a2 x]
theorem CSZ_q (h : CSZ w v Q) (k : ∀ x, Q x ↔ Q2 x) : CSZ w v Q2 := by
  obtain ⟨a, b, a1, a2, a3⟩ := h
  exact ⟨a, b, a1, fun x => (a2 x).trans (k x), a3⟩
theorem CSZ_rf (h : ND w) : CSZ w w (fun _ => False) := by
  obtain ⟨a, h1, h2⟩ := h
  exact ⟨a, a, ⟨h1, h1, Nat.le_refl _, h2⟩, fun x => ⟨fun ⟨j, j1, _⟩ => absurd j1 (by omega), False.elim⟩, NKP_rf⟩
theorem CSZ_r (h : CSZ w v Q) (e1 : u.1 32 = v.1 32) (e2 : ∀ k, 23 ≤ k → k ≤ 27 → u.2.2.1 k = v.2.2.1 k) : CSZ w u Q := by
  obtain ⟨a, b, a1, a2, a3⟩ := h
  have e := e2 23 (by omega) (by omega)
  have e5 := e2 25 (by omega) (by omega)
  have e6 := e2 26 (by omega) (by omega)
  have e7 := e2 27 (by omega) (by omega)
  refine ⟨a, b, ⟨a1.1, by rw [e1]; exact a1.2.1, a1.2.2⟩, fun x => ?_, ?_⟩
  · unfold CSY
    rw [e, e5, e6, e7]
    exact a2 x
  · unfold NKP
    rw [e, e5, e6, e7]
    exact a3
theorem CSZ_l (h : CSZ w v Q) (e1 : w.1 32 = u.1 32) (e2 : ∀ k, 23 ≤ k → k ≤ 27 → w.2.2.1 k = u.2.2.1 k) : CSZ u v Q := by
  obtain ⟨a, b, a1, a2, a3⟩ := h
  have e := e2 23 (by omega) (by omega)
  have e5 := e2 25 (by omega) (by omega)
  have e6 := e2 26 (by omega) (by omega)
  have e7 := e2 27 (by omega) (by omega)
  refine ⟨a, b, ⟨by rw [← e1]; exact a1.1, a1.2⟩, a2, ?_⟩
  unfold NKP at a3 ⊢
  rw [← e, ← e5, ← e6, ← e7]
  exact a3
theorem CSZ_nd (h : CSZ w v Q) : ND v := by
  obtain ⟨a, b, a1, a2, a3⟩ := h
  exact ⟨b, a1.2.1, a1.2.2.2⟩
def DUP (w : MS) (f j : Nat) : Prop := w.2.2.1 47 j = w.2.2.1 47 f ∧ w.2.2.1 48 j = w.2.2.1 48 f
def RUL (w v : MS) : Prop := v.1 72 ≠ 0 ∧ (∀ k, k ≠ 71 → k ≠ 72 → v.1 k = w.1 k) ∧ v.2.2.1 = w.2.2.1
theorem dup_lp (hf : f ≤ 1000) (h0 : w.1 67 = 0) : ∀ (M j : Nat) (c : Bool), j ≤ f → PK (fun v (_ : Unit) => ((c = true ∨ ∃ i, j ≤ i ∧ i < f ∧ DUP w f i) ∧ RUL w v) ∨ ((c = false ∧ ∀ i, j ≤ i → i < f → ¬ DUP w f i) ∧ v = w)) ((gg_M_function0 N M).2 w (I (f : Nat)) (b2c c) (I (j : Nat)))
  | 0, _, _, _ => pk_none
  | M + 1, j, c, hj => by
    show PK _ (fb_M_function0_264 N (gg_M_function0 N M) w (I (f : Nat)) (b2c c) (I (j : Nat)))
    unfold fb_M_function0_264
    rw [decide_eq_decide.mpr (I_le (x := (f : Nat)) (y := (j : Nat)) (by omega) (by omega) (by omega) (by omega))]
    by_cases z : f ≤ j
    · rw [decide_eq_true (by omega), br_tq]
      unfold fb_M_function0_341
      cases c with
      | false =>
        rw [show decide (b2c false = 0) = true from rfl, br_tq]
        exact pk_some (Or.inr ⟨⟨rfl, fun i h1 h2 => absurd h2 (by omega)⟩, rfl⟩)
      | true =>
        rw [show decide (b2c true = 0) = false from rfl, br_fq, decide_eq_true h0, br_tq]
        exact pk_ck (fun _ => pk_bnd (pk_mo (rule_p (by decide)) (fun v _ q => pk_some (Or.inl ⟨Or.inl rfl, q⟩))))
    · rw [decide_eq_false (by omega), br_fq, tnI (n := f) rfl (by omega), tnI (n := j) rfl (by omega)]
      have st : ∀ c2 : Bool, (c2 = true ↔ DUP w f j) → PK (fun v (_ : Unit) => ((c = true ∨ ∃ i, j ≤ i ∧ i < f ∧ DUP w f i) ∧ RUL w v) ∨ ((c = false ∧ ∀ i, j ≤ i → i < f → ¬ DUP w f i) ∧ v = w)) (fb_M_function0_309 N (gg_M_function0 N M) w (I (f : Nat)) (I (j : Nat)) (b2c c) (b2c c2)) := fun c2 hc => by
        unfold fb_M_function0_309
        rw [show (b2c c ||| b2c c2) = b2c (c || c2) by cases c <;> cases c2 <;> rfl, i_suc]
        refine pk_mo (dup_lp hf h0 M (j + 1) (c || c2) (by omega)) (fun v _ q => ?_)
        rcases q with ⟨q, q2⟩ | ⟨q, q2⟩
        · refine Or.inl ⟨?_, q2⟩
          rcases q with q | ⟨i, i1, i2, i3⟩
          · rcases (Bool.or_eq_true _ _).mp q with q | q
            · exact Or.inl q
            · exact Or.inr ⟨j, Nat.le_refl _, by omega, hc.mp q⟩
          · exact Or.inr ⟨i, by omega, i2, i3⟩
        · obtain ⟨q0, q3⟩ := q
          have := (Bool.or_eq_false_iff.mp q0)
          refine Or.inr ⟨⟨this.1, fun i i1 i2 hd => ?_⟩, q2⟩
          by_cases e : i = j
          · subst e
            rw [hc.mpr hd] at this
            exact absurd this.2 (by decide)
          · exact q3 i (by omega) i2 hd
      refine pk_ck (fun _ => pk_ck (fun _ => pk_br (fun z1 => pk_ck (fun _ => pk_ck (fun _ => pk_br (fun z2 => ?_) (fun z2 => ?_)))) (fun z1 => ?_)))
      · exact st true ⟨fun _ => ⟨of_decide_eq_true z1, of_decide_eq_true z2⟩, fun _ => rfl⟩
      · exact st false ⟨fun y => absurd y (by decide), fun y => absurd y.2 (of_decide_eq_false z2)⟩
      · exact st false ⟨fun y => absurd y (by decide), fun y => absurd y.1 (of_decide_eq_false z1)⟩
end
