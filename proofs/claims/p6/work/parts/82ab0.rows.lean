section
variable {u0 u v v2 w : MS} {N σ TN SN j : Nat} {bw : Nat → Nat} {p o n q c f h s wt g x y k d p1 q1 p2 q2 l : Int} {r : Int32}
def PAQ (u0 : MS) (TN SN σ : Nat) (p o n q c f h s wt g : Int) (u v : MS) (r : Int32) : Prop := F v 67 = 0 ∧ r = I q ∧ ∃ p2 q2 : Int, ST u0 σ p2 o n q2 c f h s wt g v ∧ KPR σ u v ∧ (p2 ≤ TN ∧ q < q2 ∧ 2 * (q2 - q) ≤ p2 - p + 1) ∧ PEND u0 p.toNat p2.toNat ∧ PTT v SN q.toNat q2.toNat (A u 60 σ).toNat (A v 60 σ).toNat (A v 63 σ).toNat ∧ A v 37 q.toNat = -1 ∧ (F v 66 = 0 → A v 60 σ ≤ 40 ∨ A v 60 σ = A u 60 σ)
def FPA (u0 : MS) (TN σ : Nat) (d : Int) (v : MS) (r : Int32) : Prop := FSM u0 TN σ d v ∧ ∃ x : Int, r = I x ∧ -1 ≤ x ∧ x < 5000
def LSTI (j : Nat) (e : Nat → Nat) (l : Int) : Prop := (j = 0 ∧ l = -1) ∨ (0 < j ∧ l = ((e (j - 1) : Nat) : Int))
def RWL (u0 : MS) (SN σ : Nat) (u v : MS) (p q kd : Int) (j : Nat) (p1 q1 l : Int) : Prop := ∃ e mm : Nat → Nat, (e 0 = q.toNat + 1 ∧ e j = q1.toNat ∧ mm 0 = (A u 60 σ).toNat ∧ mm j = (A v 60 σ).toNat) ∧ (∀ i, i < j → PTT v SN (e i) (e (i + 1)) (mm i) (mm (i + 1)) (A v 63 σ).toNat) ∧ LNK v j e ∧ LSTI j e l ∧ BIN2 u0 p.toNat p1.toNat ∧ (A v 33 q.toNat = kd ∧ A v 38 q.toNat = 0 ∧ A v 37 q.toNat = -1 ∧ (0 < j → A v 36 q.toNat = ((q.toNat + 1 : Nat) : Int)) ∧ (j = 0 → A v 36 q.toNat = -1)) ∧ (F v 66 = 0 → A v 60 σ ≤ 40 ∨ A v 60 σ = A u 60 σ)
theorem RWL_e {kd : Int} {e mm : Nat → Nat} (h : ∀ i, i < j → PTT v SN (e i) (e (i + 1)) (mm i) (mm (i + 1)) k.toNat) {i : Nat} (hi : i ≤ j) : e 0 ≤ e i := (JND_le h i hi).1
theorem RWL_add {kd : Int} (a : RWL u0 SN σ u v p q kd j p1 q1 l) (b : PAQ u0 TN SN σ p1 o n q1 c f h s wt g v v2 r) (hq : 0 ≤ q ∧ q < q1) (hq1 : F v 39 = q1) (hx : RG q1) (hw : (j = 0 ∧ w = wa v2 36 q.toNat q1) ∨ (0 < j ∧ w = wa v2 37 l.toNat q1)) (sc : 0 ≤ A v 60 σ) : ∃ p2 q2, ST u0 σ p2 o n q2 c f h s wt g w ∧ (p2 ≤ TN ∧ q1 < q2 ∧ 2 * (q2 - q1) ≤ p2 - p1 + 1 ∧ p1 < p2) ∧ RWL u0 SN σ u w p q kd (j + 1) p2 q2 q1 ∧ F w 67 = 0 := by
  obtain ⟨e, mm, ⟨e1, e2, e3, e4⟩, pt, ln, ls, bn, ⟨k1, k2, k3, k4, k5⟩, lg⟩ := a
  obtain ⟨b1, b2, p2, q2, b3, b4, b5, b6, b7, b8, b9⟩ := b
  have bl := PTT_lt b7
  have e0 := JND_le pt j (Nat.le_refl _)
  have kp : ∀ (r i : Nat), r ∈ [33, 35, 36, 37, 38] → (i : Int) < q1 → A v2 r i = A v r i := fun r i hr hi => b4.2.1.2.1 r i hr (by rw [hq1]; exact hi)
  have h63 := (b4.2.2.1.2.2.2 σ (Nat.le_refl σ)).2.1
  have ei : ∀ i, i < j → e i < e j := PTT_e pt
  have e1i : ∀ i, i ≤ j → e 0 ≤ e i := fun i hi => (JND_le pt i hi).1
  have w36 : ∀ (r i : Nat), r ∈ [33, 35, 37, 38] → (r = 37 → (i : Int) ≠ l ∨ j = 0) → A w r i = A v2 r i := fun r i hr hi => by
    rcases hw with ⟨-, hw⟩ | ⟨hj, hw⟩
    · rw [hw, wa_rne]
      have : ∀ r, r ∈ [33, 35, 37, 38] → r ≠ 36 := by decide
      exact this r hr
    · rw [hw]
      by_cases z : r = 37
      · rw [wa_ne]
        rcases hi z with y | y
        · intro e; rw [e] at y
          rcases ls with ⟨ls, -⟩ | ⟨-, ls⟩
          · omega
          · rw [ls] at y; exact y (by rw [Int.toNat_natCast])
        · omega
      · rw [wa_rne z]
  have wr : ∀ r i, r ∉ [36, 37] → A w r i = A v2 r i := fun r i hr => by
    rcases hw with ⟨-, hw⟩ | ⟨-, hw⟩
    · rw [hw, wa_rne (fun z => hr (by rw [z]; decide))]
    · rw [hw, wa_rne (fun z => hr (by rw [z]; decide))]
  have wf : ∀ k, F w k = F v2 k := fun k => by
    rcases hw with ⟨-, hw⟩ | ⟨-, hw⟩
    · rw [hw]; rfl
    · rw [hw]; rfl
  have w36' : ∀ i, i ≠ q.toNat → A w 36 i = A v2 36 i := fun i hi => by
    rcases hw with ⟨-, hw⟩ | ⟨-, hw⟩
    · rw [hw, wa_ne hi]
    · rw [hw, wa_rne (by decide)]
  have sw : ST u0 σ p2 o n q2 c f h s wt g w := by
    rcases hw with ⟨-, hw⟩ | ⟨-, hw⟩
    · rw [hw]; exact ST_wa b3 (by decide)
    · rw [hw]; exact ST_wa b3 (by decide)
  have hl : l < q1 ∧ (0 < j → q < l ∧ l.toNat = e (j - 1)) := by
    rcases ls with ⟨ls, l2⟩ | ⟨ls, l2⟩
    · exact ⟨by omega, fun z => by omega⟩
    · have := ei (j - 1) (by omega)
      have := e1i (j - 1) (by omega)
      exact ⟨by omega, fun _ => by omega⟩
  refine ⟨p2, q2, sw, ⟨b5.1, b5.2.1, b5.2.2, ?_⟩, ⟨fun i => if i ≤ j then e i else q2.toNat, fun i => if i ≤ j then mm i else (A w 60 σ).toNat, ⟨?_, ?_, ?_, ?_⟩, fun i hi => ?_, ⟨fun i hi => ?_, fun _ => ?_⟩, Or.inr ⟨by omega, ?_⟩, BIN2_p bn b6, ⟨?_, ?_, ?_, fun _ => ?_, fun z => by omega⟩, ?_⟩, by rw [wf]; exact b1⟩
  · have := (PEND_b b6).1; omega
  · simp only [if_pos (Nat.zero_le j)]; exact e1
  · simp only [if_neg (show ¬ j + 1 ≤ j by omega)]
  · simp only [if_pos (Nat.zero_le j)]; exact e3
  · simp only [if_neg (show ¬ j + 1 ≤ j by omega)]
  · by_cases z : i = j
    · subst z
      simp only [if_pos (Nat.le_refl i), if_neg (show ¬ i + 1 ≤ i by omega)]
      rw [e2, e4, wr 60 _ (by decide), wr 63 _ (by decide)]
      refine PTT_ag b7 (fun r t hr t1 t2 => ?_) (fun t t1 t2 => ?_) (Nat.le_refl _)
      · by_cases y : r = 36
        · rw [y]; exact w36' t (by omega)
        · have : ∀ r, r ∈ [33, 35, 36, 38] → r ≠ 36 → r ∈ [33, 35, 37, 38] ∧ r ≠ 37 := by decide
          exact w36 r t (this r hr y).1 (fun z => absurd z (this r hr y).2)
      · exact w36 37 t (by decide) (fun _ => Or.inl (by omega))
    · simp only [if_pos (show i ≤ j by omega), if_pos (show i + 1 ≤ j by omega)]
      have hi' : i < j := by omega
      have t1' := ei i hi'
      have t2' := e1i i (by omega)
      have t3' : e (i + 1) ≤ e j := by
        rcases Nat.lt_or_ge (i + 1) j with y | y
        · exact Nat.le_of_lt (ei _ y)
        · rw [show i + 1 = j by omega]; exact Nat.le_refl _
      rw [wr 63 _ (by decide)]
      refine PTT_ag (pt i hi') (fun r t hr t1 t2 => ?_) (fun t t1 t2 => ?_) (by omega)
      · by_cases y : r = 36
        · rw [y, w36' t (by omega)]; exact kp 36 t (by decide) (by omega)
        · have : ∀ r, r ∈ [33, 35, 36, 38] → r ≠ 36 → r ∈ [33, 35, 37, 38] ∧ r ≠ 37 ∧ r ∈ [33, 35, 36, 37, 38] := by decide
          rw [w36 r t (this r hr y).1 (fun z => absurd z (this r hr y).2.1)]
          exact kp r t (this r hr y).2.2 (by omega)
      · rw [w36 37 t (by decide) (fun _ => Or.inl ?_)]
        · exact kp 37 t (by decide) (by omega)
        · have h1 := (hl.2 (by omega)).2
          have h2 := (hl.2 (by omega)).1
          intro e5
          have e6 : t = e (j - 1) := by omega
          rcases Nat.lt_or_ge (i + 1) j with y | y
          · have : e (i + 1) ≤ e (j - 1) := by
              rcases Nat.lt_or_ge (i + 1) (j - 1) with y2 | y2
              · have := PTT_e (e := e) (j := j - 1) (fun a ha => pt a (by omega)) (i + 1) y2
                omega
              · rw [show i + 1 = j - 1 by omega]; exact Nat.le_refl _
            omega
          · rw [show j - 1 = i by omega] at e6; omega
  · simp only [if_pos (show i ≤ j by omega)]
    by_cases z : i + 1 = j
    · have hj : 0 < j := by omega
      simp only [if_pos (show i + 1 ≤ j by omega)]
      rcases hw with ⟨hj0, hw⟩ | ⟨-, hw⟩
      · omega
      · rw [hw, z, e2, (hl.2 hj).2, show j - 1 = i by omega, wa_eq hx]; omega
    · simp only [if_pos (show i + 1 ≤ j by omega)]
      have t1 := ei i (by omega)
      have t2 := e1i i (by omega)
      rw [w36 37 (e i) (by decide) (fun _ => Or.inl ?_), kp 37 (e i) (by decide) (by omega)]
      · exact ln.1 i (by omega)
      · have h1 := (hl.2 (by omega)).2
        have h2 := (hl.2 (by omega)).1
        have := PTT_e (e := e) (j := j - 1) (fun a ha => pt a (by omega)) i (by omega)
        omega
  · simp only [show j + 1 - 1 = j by omega, if_pos (Nat.le_refl j)]
    rw [e2, w36 37 q1.toNat (by decide) (fun _ => Or.inl (by omega))]
    exact b8
  · simp only [show j + 1 - 1 = j by omega, if_pos (Nat.le_refl j)]; omega
  · rw [wr 33 _ (by decide), kp 33 q.toNat (by decide) (by omega)]; exact k1
  · rw [wr 38 _ (by decide), kp 38 q.toNat (by decide) (by omega)]; exact k2
  · rw [w36 37 q.toNat (by decide) (fun _ => ?_), kp 37 q.toNat (by decide) (by omega)]
    · exact k3
    · rcases Nat.eq_zero_or_pos j with z | z
      · exact Or.inr z
      · have := (hl.2 z).1
        exact Or.inl (by omega)
  · rcases hw with ⟨hj, hw⟩ | ⟨hj, hw⟩
    · rw [hw, wa_eq hx, ← e1, ← hj, e2]; omega
    · rw [hw, wa_rne (by decide), kp 36 q.toNat (by decide) (by omega)]; exact k4 hj
  · rw [wr 60 _ (by decide), wf]
    intro z
    have z2 := lg (b4.2.2.2.2.2.2 z)
    have := b9 z
    omega
theorem RWL_fin {kd t : Int} (a : RWL u0 SN σ u v p q kd j p1 q1 l) (hq : 0 ≤ q ∧ q < q1) (hk : (kd = 5 ∧ t = j ∧ j ≤ 8 ∧ w = wa v 35 q.toNat t) ∨ (kd = 6 ∧ t = j ∧ j ≤ 8 ∧ w = wa v 35 q.toNat t) ∨ (kd = 6 ∧ 2 ≤ j ∧ t = ((j - 1 : Nat) : Int) ∧ j ≤ 9 ∧ w = wa (wa v 38 q.toNat 1) 35 q.toNat t)) : PTT w SN q.toNat q1.toNat (A u 60 σ).toNat (A w 60 σ).toNat (A w 63 σ).toNat ∧ A w 37 q.toNat = -1 ∧ (F w 66 = 0 → A w 60 σ ≤ 40 ∨ A w 60 σ = A u 60 σ) ∧ BIN2 u0 p.toNat p1.toNat := by
  obtain ⟨e, mm, ⟨e1, e2, e3, e4⟩, pt, ln, ls, bn, ⟨k1, k2, k3, k4, k5⟩, lg⟩ := a
  have ht : RG t := ⟨by omega, by omega⟩
  have wr : ∀ r i, r ∉ [35, 38] → A w r i = A v r i := fun r i hr => by
    rcases hk with ⟨-, -, -, hw⟩ | ⟨-, -, -, hw⟩ | ⟨-, -, -, -, hw⟩
    · rw [hw, wa_rne (fun z => hr (by rw [z]; decide))]
    · rw [hw, wa_rne (fun z => hr (by rw [z]; decide))]
    · rw [hw, wa_rne (fun z => hr (by rw [z]; decide)), wa_rne (fun z => hr (by rw [z]; decide))]
  have wi' : ∀ r i, i ≠ q.toNat → A w r i = A v r i := fun r i hi => by
    rcases hk with ⟨-, -, -, hw⟩ | ⟨-, -, -, hw⟩ | ⟨-, -, -, -, hw⟩
    · rw [hw, wa_ne hi]
    · rw [hw, wa_ne hi]
    · rw [hw, wa_ne hi, wa_ne hi]
  have wf : ∀ k, F w k = F v k := fun k => by
    rcases hk with ⟨-, -, -, hw⟩ | ⟨-, -, -, hw⟩ | ⟨-, -, -, -, hw⟩
    · rw [hw]; rfl
    · rw [hw]; rfl
    · rw [hw]; rfl
  have w35 : A w 35 q.toNat = t := by
    rcases hk with ⟨-, -, -, hw⟩ | ⟨-, -, -, hw⟩ | ⟨-, -, -, -, hw⟩
    · rw [hw, wa_eq ht]
    · rw [hw, wa_eq ht]
    · rw [hw, wa_eq ht]
  have eh : ∀ i, i ≤ j → q.toNat < e i := fun i hi => by have := (JND_le pt i hi).1; omega
  rw [wr 60 _ (by decide), wr 63 _ (by decide), wr 37 _ (by decide), wf]
  refine ⟨?_, k3, lg, bn⟩
  rw [← e2, ← e3, ← e4]
  refine PTT_row (w := w) (fun i hi => PTT_ag (pt i hi) (fun r t _ t1 t2 => wi' r t (by have := eh i (by omega); omega)) (fun t t1 t2 => wi' 37 t (by have := eh i (by omega); omega)) (Nat.le_refl _)) ⟨fun i hi => by rw [wi' 37 _ (by have := eh i (by omega); omega)]; exact ln.1 i hi, fun hj => by rw [wi' 37 _ (by have := eh (j - 1) (by omega); omega)]; exact ln.2 hj⟩ e1 ?_ (fun hj => by rw [wr 36 _ (by decide)]; exact k4 hj)
  rw [wr 33 _ (by decide), w35, wr 36 _ (by decide), k1]
  rcases hk with ⟨z1, z2, z3, hw⟩ | ⟨z1, z2, z3, hw⟩ | ⟨z1, z2, z3, z4, hw⟩
  · exact Or.inl ⟨z1, z2, z3, k5⟩
  · exact Or.inr (Or.inl ⟨z1, by rw [hw, wa_rne (by decide)]; exact k2, z2, z3⟩)
  · refine Or.inr (Or.inr ⟨z1, ?_, z2, z3, z4⟩)
    rw [hw, wa_rne (by decide), wa_eq ⟨by decide, by decide⟩]
    decide
end
