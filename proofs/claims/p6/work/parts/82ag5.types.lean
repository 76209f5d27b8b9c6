def Z0 : Nat → Nat := fun _ => 0
def TEN : Nat → Nat := fun t => if t = 8 then 20000 else 0
section
variable {w : MS} {SN k many G : Nat} {l : Int} {a b : Nat → Nat} {Bd : Nat → Nat → Nat}
theorem KOUT_0 {T : TY} {rk n : Nat} (h : 0 < tK T n) (y : KOUT T Z0 rk n) : False := by
  have : tK T n = 0 := y.2.1
  omega
theorem GOUT_0 {T : TY} {rk m n : Nat} (h : tG T n ≠ 0) (y : GOUT w T Z0 rk m n) : False := h y.2.2.2.2.1
theorem fn_types (h : FCY SN a b w k many l) (hk : 0 < k) (hb : b 0 - a 0 ≤ 15000) (T0 : Nat → Nat) : ∃ (T : TY) (C : CY) (r : Nat), FRG w T C Z0 1 0 a b SN (fun _ => False) (fun _ => False) ∧ (∀ t, t ≤ 8 → T t (b 0) = T0 t) ∧ (cH C (a 1) = many ∧ cB C (a 1) = 0 ∧ cM C (a 1) = 0 ∧ cL C (a 1) = 0 ∧ cK C (a 1) = 0 ∧ cC C (a 1) = 0 ∧ cR C (a 1) = r) ∧ (A w 41 (a 1) = ((many : Nat) : Int) ∧ many ≤ 6 ∧ a 1 < b 1) ∧ (A w 23 (b 0 - 1) = 29 ∧ a 0 < b 0) := by
  obtain ⟨μ, rr, mm, X, Y, ch, ⟨m0, mk⟩, hr, -, b1, b2, b3⟩ := h
  have le : ∀ t, a t ≤ b t := fun t => by
    have := CHD_le ch k 0 (by omega) t
    rw [Nat.zero_add, m0, mk] at this
    exact this
  have p0 := ch.1 0 hk
  have pm : A w 41 (a 1) = ((many : Nat) : Int) ∧ many ≤ 6 := by
    obtain ⟨_, _, _, _, _, _, -, q, -⟩ := p0
    rw [m0] at q
    exact ⟨q.1, q.2.1⟩
  obtain ⟨T, C, y1, y2, y3, y5, y4⟩ := chain_ok (hg := many) (hb := 0) (Z := Z0) (rk := 1) (RR := 1 + (μ k 0 - μ 0 0)) T0 ch rfl (fun _ => rfl) (by omega) (by omega) (by show 0 + Y ≤ 26; omega) (Nat.zero_le _) (by show mm + 0 ≤ 40; omega) ⟨Nat.zero_le _, Nat.zero_le _⟩ (Nat.zero_le _) (by omega) (by omega) (by rw [m0, mk]; omega)
  rw [mk] at y5
  have y4' : FRG w T C Z0 1 0 a b SN (CE true k μ) (CS2 k rr) := by rw [← m0, ← mk]; exact y4
  have c0 := y1 0 (by omega) hk
  rw [m0] at c0
  refine ⟨T, C, _, ⟨fun n h1 h2 => ?_, y4'.2.1, y4'.2.2⟩, y5, ⟨c0.1, c0.2.1, c0.2.2.1, c0.2.2.2.1, c0.2.2.2.2.1, c0.2.2.2.2.2.1, c0.2.2.2.2.2.2⟩, ⟨pm.1, pm.2, ?_⟩, ?_, ?_⟩
  · have nd := y4'.1 n h1 h2
    refine NODE_E nd (fun z => by cases z.1) (fun z => Or.inr ?_)
    obtain ⟨j, hj, hn⟩ := z
    have rn := nd.2.2.2.2.2.2.2
    exact ⟨rn.1, Or.inr (Or.inl (by rw [hn]; exact hr j hj))⟩
  · have q := (PTD_le p0).2.2.1
    have q2 := CHD_le ch (k - 1) 1 (by omega) 1
    rw [show 1 + (k - 1) = k by omega, mk] at q2
    rw [m0] at q
    have q3 : μ (0 + 1) 1 = μ 1 1 := rfl
    omega
  · have pl := ch.1 (k - 1) (by omega)
    rw [show k - 1 + 1 = k by omega, mk] at pl
    obtain ⟨mN, mE, p, e, p2, p3, -, -, -, -, ⟨o0, o1, -⟩, fin⟩ := pl
    rcases fin with ⟨-, q⟩ | ⟨q, -⟩
    · rw [show b 0 - 1 = p3 0 by omega]; exact q.1
    · cases q
  · have q := (PTD_le p0).2.1
    have q2 := CHD_le ch (k - 1) 1 (by omega) 0
    rw [show 1 + (k - 1) = k by omega, mk] at q2
    rw [m0] at q
    have q3 : μ (0 + 1) 0 = μ 1 0 := rfl
    omega
theorem CLS_cat {C C1 : CY} {CN CN2 m hg hb mm l k cc r c x : Nat} (e : CLS C1 w CN m hg hb mm l k cc r ((c : Nat) : Int)) (hc : ∀ t, C t c = C1 t c) (hn : CN ≤ CN2) : CLS C w CN2 m hg hb mm l k cc r ((c : Nat) : Int) := CLS_eq e hc hn
set_option maxRecDepth 100000 in
theorem all_types (h : FNT w SN G Bd) (hn : Bd G 0 ≤ 15000) : ∀ d f, f + d = G → ∃ (T : TY) (C : CY), FRG w T C Z0 1 0 (Bd f) (Bd G) SN (fun _ => False) (fun _ => False) ∧ (∀ t, t ≤ 8 → T t (Bd G 0) = TEN t) ∧ (∀ i, Bd f i ≤ Bd G i) ∧ (f < G → A w 23 (Bd G 0 - 1) = 29 ∧ Bd f 0 < Bd G 0) ∧ ∀ f', f ≤ f' → f' < G → ∃ a r : Nat, A w 48 f' = ((a : Nat) : Int) ∧ a ≤ 6 ∧ Bd f 1 ≤ Bd f' 1 ∧ A w 50 f' = ((Bd f' 1 : Nat) : Int) ∧ CLS C w (Bd G 1) a a 0 0 0 0 0 r ((Bd f' 1 : Nat) : Int) := by
  intro d
  induction d with
  | zero =>
    intro f hf
    obtain rfl : f = G := by omega
    exact ⟨fun t _ => TEN t, fun _ _ => 0, ⟨fun n h1 h2 => by omega, fun n h1 h2 => by omega, fun n h1 h2 => by omega⟩, fun _ _ => rfl, fun _ => Nat.le_refl _, fun z => by omega, fun f' h1 h2 => by omega⟩
  | succ d ih =>
    intro f hf
    obtain ⟨T1, C1, v1, v2, v3, v4, v5⟩ := ih (f + 1) (by omega)
    obtain ⟨u1, many, k, l, u2, u3, u4, u5⟩ := h.2 f (by omega)
    have v30 := v3 0
    have v31 := v3 1
    have u10 := u1 0
    have u11 := u1 1
    have u13 := u1 3
    have v33 := v3 3
    obtain ⟨T2, C2, r, w1, w2, w3, w4, w5, w6⟩ := fn_types u5 u2 (by omega) (fun t => T1 t (Bd (f + 1) 0))
    have le : ∀ i, Bd f i ≤ Bd G i := fun i => Nat.le_trans (u1 i) (v3 i)
    have eL : ∀ t n, t ≤ 8 → Bd f 0 ≤ n → n ≤ Bd (f + 1) 0 → cat (Bd (f + 1) 0) T2 T1 t n = T2 t n := fun t n ht h1 h2 => by
      rcases Nat.lt_or_ge n (Bd (f + 1) 0) with z | z
      · exact cat_l z
      · obtain rfl : n = Bd (f + 1) 0 := by omega
        rw [cat_r (Nat.le_refl _), w2 t ht]
    have eR : ∀ t n, Bd (f + 1) 0 ≤ n → cat (Bd (f + 1) 0) T2 T1 t n = T1 t n := fun t n h1 => cat_r h1
    have gL : ∀ t n, n < Bd (f + 1) 1 → cat (Bd (f + 1) 1) C2 C1 t n = C2 t n := fun t n h1 => cat_l h1
    have gR : ∀ t n, Bd (f + 1) 1 ≤ n → cat (Bd (f + 1) 1) C2 C1 t n = C1 t n := fun t n h1 => cat_r h1
    have A1 := FRG_tr (T := cat (Bd (f + 1) 0) T2 T1) (C := cat (Bd (f + 1) 1) C2 C1) (a2 := Bd f) (b2 := Bd G) (Z := Z0) (rk := 1) (m := 0) (E := fun _ => False) (S := fun _ => False) w1 (fun _ => Nat.le_refl _) v3 eL (fun t c _ h2 => gL t c h2) (fun n h1 h2 y0 y => (KOUT_0 y0 y).elim) (fun n h1 h2 y0 y => (GOUT_0 y0 y).elim) (fun _ => id) (fun _ => id)
    have A2 := FRG_tr (T := cat (Bd (f + 1) 0) T2 T1) (C := cat (Bd (f + 1) 1) C2 C1) (a2 := Bd f) (b2 := Bd G) (Z := Z0) (rk := 1) (m := 0) (E := fun _ => False) (S := fun _ => False) v1 u1 (fun _ => Nat.le_refl _) (fun t n _ h1 _ => eR t n h1) (fun t c h1 _ => gR t c h1) (fun n h1 h2 y0 y => (KOUT_0 y0 y).elim) (fun n h1 h2 y0 y => (GOUT_0 y0 y).elim) (fun _ => id) (fun _ => id)
    refine ⟨cat (Bd (f + 1) 0) T2 T1, cat (Bd (f + 1) 1) C2 C1, ⟨fun n h1 h2 => ?_, fun n h1 h2 => ?_, fun n h1 h2 => ?_⟩, fun t ht => by rw [eR t _ v30]; exact v2 t ht, le, fun _ => ?_, fun f' h1 h2 => ?_⟩
    · rcases Nat.lt_or_ge n (Bd (f + 1) 0) with z | z
      · exact A1.1 n h1 z
      · exact A2.1 n z h2
    · rcases Nat.lt_or_ge n (Bd (f + 1) 1) with z | z
      · exact A1.2.1 n h1 z
      · exact A2.2.1 n z h2
    · rcases Nat.lt_or_ge n (Bd (f + 1) 3) with z | z
      · exact A1.2.2 n h1 z
      · exact A2.2.2 n z h2
    · rcases Nat.lt_or_ge (f + 1) G with z | z
      · have := v4 z
        exact ⟨this.1, by omega⟩
      · have e : f + 1 = G := by omega
        rw [e] at w5 w6
        exact ⟨w5, w6⟩
    · rcases Nat.lt_or_ge f f' with z | z
      · obtain ⟨a, r, q1, q2, q3, q4, q5⟩ := v5 f' (by omega) h2
        exact ⟨a, r, q1, q2, by omega, q4, CLS_eq q5 (fun t => gR t _ q3) (Nat.le_refl _)⟩
      · obtain rfl : f' = f := by omega
        refine ⟨many, r, u3, w4.2.1, Nat.le_refl _, u4, Bd f' 1, rfl, by omega, w4.1, ?_⟩
        have q : ∀ t, cat (Bd (f' + 1) 1) C2 C1 t (Bd f' 1) = C2 t (Bd f' 1) := fun t => gL t _ w4.2.2
        unfold cH cB cM cL cK cC cR at w3 ⊢
        rw [q, q, q, q, q, q, q]
        exact w3
end
