section
section
variable {u0 u v v2 w : MS} {N σ TN SN j : Nat} {bw : Nat → Nat} {p o n q c f h s wt g x y k d p1 q1 p2 q2 l : Int} {r : Int32}
def PAQ (u0 : MS) (TN SN σ : Nat) (p o n q c f h s wt g : Int) (u v : MS) (r : Int32) : Prop := F v 67 = 0 ∧ r = I q ∧ ∃ p2 q2 : Int, ST u0 σ p2 o n q2 c f h s wt g v ∧ KPR σ u v ∧ (p2 ≤ TN ∧ q < q2 ∧ 2 * (q2 - q) ≤ p2 - p + 1) ∧ PEND u0 p.toNat p2.toNat ∧ PTT v SN q.toNat q2.toNat (A u 60 σ).toNat (A v 60 σ).toNat (A v 63 σ).toNat ∧ A v 37 q.toNat = -1 ∧ (F v 66 = 0 → A v 60 σ ≤ 40 ∨ A v 60 σ = A u 60 σ)
def FPA (u0 : MS) (TN σ : Nat) (d : Int) (v : MS) (r : Int32) : Prop := FSM u0 TN σ d v ∧ ∃ x : Int, r = I x ∧ -1 ≤ x ∧ x < 5000
def LSTI (j : Nat) (e : Nat → Nat) (l : Int) : Prop := (j = 0 ∧ l = -1) ∨ (0 < j ∧ l = ((e (j - 1) : Nat) : Int))
def RWL (u0 : MS) (SN σ : Nat) (u v : MS) (p q kd : Int) (j : Nat) (p1 q1 l : Int) : Prop := ∃ e mm : Nat → Nat, (e 0 = q.toNat + 1 ∧ e j = q1.toNat ∧ mm 0 = (A u 60 σ).toNat ∧ mm j = (A v 60 σ).toNat) ∧ (∀ i, i < j → PTT v SN (e i) (e (i + 1)) (mm i) (mm (i + 1)) (A v 63 σ).toNat) ∧ LNK v j e ∧ LSTI j e l ∧ BIN2 u0 p.toNat p1.toNat ∧ (A v 33 q.toNat = kd ∧ A v 38 q.toNat = 0 ∧ A v 37 q.toNat = -1 ∧ (0 < j → A v 36 q.toNat = ((q.toNat + 1 : Nat) : Int)) ∧ (j = 0 → A v 36 q.toNat = -1)) ∧ (F v 66 = 0 → A v 60 σ ≤ 40 ∨ A v 60 σ = A u 60 σ)
theorem RWL_e {kd : Int} {e mm : Nat → Nat} (h : ∀ i, i < j → PTT v SN (e i) (e (i + 1)) (mm i) (mm (i + 1)) k.toNat) {i : Nat} (hi : i ≤ j) : e 0 ≤ e i := (JND_le h i hi).1
theorem RWL_add {kd : Int} (a : RWL u0 SN σ u v p q kd j p1 q1 l) (b : PAQ u0 TN SN σ p1 o n q1 c f h s wt g v v2 r) (hq : 0 ≤ q ∧ q < q1) (hq1 : F v 39 = q1) (hx : RG q1) (hw : (j = 0 ∧ w = wa v2 36 q.toNat q1) ∨ (0 < j ∧ w = wa v2 37 l.toNat q1)) (sc : 0 ≤ A v 60 σ) : ∃ p2 q2, ST u0 σ p2 o n q2 c f h s wt g w ∧ (p2 ≤ TN ∧ q1 < q2 ∧ 2 * (q2 - q1) ≤ p2 - p1 + 1 ∧ p1 < p2) ∧ RWL u0 SN σ u w p q kd (j + 1) p2 q2 q1 ∧ F w 67 = 0 := by
  obtain ⟨e, mm, ⟨e1, e2, e3, e4⟩, pt, ln, ls, bn, ⟨k1, k2, k3, k4, k5⟩, lg⟩ := a
  obtain ⟨b1, b2, p2, q2, b3, b4, b5, b6, b7, b8, b9⟩ := b
  have bl := PTT_lt b7
  have e0 := JND_le pt j (Nat.le_refl _)
  have kp : ∀ (r i : Nat), r ∈ [33, 35, 36, 37, 38] → (i : Int) < q1 → A v2 r i = A v r i := fun r i hr hi => b4.2.1.2.1 r i hr (by rw [hq1]; exact hi)
  have h63 := (b4.2.2.1.2.2.2 σ (Nat.le_refl σ)).2.1
  have ei : ∀ i, i < j → e i < e j := PTT_e pt
  have e1i : ∀ i, i ≤ j → e 0 ≤ e i := fun i hi => (JND_le pt i hi).1
  have w36 : ∀ (r i : Nat), r ∈ [33, 35, 37, 38] → (r = 37 → (i : Int) ≠ l ∨ j = 0) → A w r i = A v2 r i := fun r i hr hi => by
    rcases hw with ⟨-, hw⟩ | ⟨hj, hw⟩
    · rw [hw, wa_rne]
      have : ∀ r, r ∈ [33, 35, 37, 38] → r ≠ 36 := by decide
      exact this r hr
    · rw [hw]
      by_cases z : r = 37
      · rw [wa_ne]
        rcases hi z with y | y
        · intro e; rw [e] at y
          rcases ls with ⟨ls, -⟩ | ⟨-, ls⟩
          · omega
          · rw [ls] at y; exact y (by rw [Int.toNat_natCast])
        · omega
      · rw [wa_rne z]
  have wr : ∀ r i, r ∉ [36, 37] → A w r i = A v2 r i := fun r i hr => by
    rcases hw with ⟨-, hw⟩ | ⟨-, hw⟩
    · rw [hw, wa_rne (fun z => hr (by rw [z]; decide))]
    · rw [hw, wa_rne (fun z => hr (by rw [z]; decide))]
  have wf : ∀ k, F w k = F v2 k := fun k => by
    rcases hw with ⟨-, hw⟩ | ⟨-, hw⟩
    · rw [hw]; rfl
    · rw [hw]; rfl
  have w36' : ∀ i, i ≠ q.toNat → A w 36 i = A v2 36 i := fun i hi => by
    rcases hw with ⟨-, hw⟩ | ⟨-, hw⟩
    · rw [hw, wa_ne hi]
    · rw [hw, wa_rne (by decide)]
  have sw : ST u0 σ p2 o n q2 c f h s wt g w := by
    rcases hw with ⟨-, hw⟩ | ⟨-, hw⟩
    · rw [hw]; exact ST_wa b3 (by decide)
    · rw [hw]; exact ST_wa b3 (by decide)
  have hl : l < q1 ∧ (0 < j → q < l ∧ l.toNat = e (j - 1)) := by
    rcases ls with ⟨ls, l2⟩ | ⟨ls, l2⟩
    · exact ⟨by omega, fun z => by omega⟩
    · have := ei (j - 1) (by omega)
      have := e1i (j - 1) (by omega)
      exact ⟨by omega, fun _ => by omega⟩
  refine ⟨p2, q2, sw, ⟨b5.1, b5.2.1, b5.2.2, ?_⟩, ⟨fun i => if i ≤ j then e i else q2.toNat, fun i => if i ≤ j then mm i else (A w 60 σ).toNat, ⟨?_, ?_, ?_, ?_⟩, fun i hi => ?_, ⟨fun i hi => ?_, fun _ => ?_⟩, Or.inr ⟨by omega, ?_⟩, BIN2_p bn b6, ⟨?_, ?_, ?_, fun _ => ?_, fun z => by omega⟩, ?_⟩, by rw [wf]; exact b1⟩
  · have := (PEND_b b6).1; omega
  · simp only [if_pos (Nat.zero_le j)]; exact e1
  · simp only [if_neg (show ¬ j + 1 ≤ j by omega)]
  · simp only [if_pos (Nat.zero_le j)]; exact e3
  · simp only [if_neg (show ¬ j + 1 ≤ j by omega)]
  · by_cases z : i = j
    · subst z
      simp only [if_pos (Nat.le_refl i), if_neg (show ¬ i + 1 ≤ i by omega)]
      rw [e2, e4, wr 60 _ (by decide), wr 63 _ (by decide)]
      refine PTT_ag b7 (fun r t hr t1 t2 => ?_) (fun t t1 t2 => ?_) (Nat.le_refl _)
      · by_cases y : r = 36
        · rw [y]; exact w36' t (by omega)
        · have : ∀ r, r ∈ [33, 35, 36, 38] → r ≠ 36 → r ∈ [33, 35, 37, 38] ∧ r ≠ 37 := by decide
          exact w36 r t (this r hr y).1 (fun z => absurd z (this r hr y).2)
      · exact w36 37 t (by decide) (fun _ => Or.inl (by omega))
    · simp only [if_pos (show i ≤ j by omega), if_pos (show i + 1 ≤ j by omega)]
      have hi' : i < j := by omega
      have t1' := ei i hi'
      have t2' := e1i i (by omega)
      have t3' : e (i + 1) ≤ e j := by
        rcases Nat.lt_or_ge (i + 1) j with y | y
        · exact Nat.le_of_lt (ei _ y)
        · rw [show i + 1 = j by omega]; exact Nat.le_refl _
      rw [wr 63 _ (by decide)]
      refine PTT_ag (pt i hi') (fun r t hr t1 t2 => ?_) (fun t t1 t2 => ?_) (by omega)
      · by_cases y : r = 36
        · rw [y, w36' t (by omega)]; exact kp 36 t (by decide) (by omega)
        · have : ∀ r, r ∈ [33, 35, 36, 38] → r ≠ 36 → r ∈ [33, 35, 37, 38] ∧ r ≠ 37 ∧ r ∈ [33, 35, 36, 37, 38] := by decide
          rw [w36 r t (this r hr y).1 (fun z => absurd z (this r hr y).2.1)]
          exact kp r t (this r hr y).2.2 (by omega)
      · rw [w36 37 t (by decide) (fun _ => Or.inl ?_)]
        · exact kp 37 t (by decide) (by omega)
        · have h1 := (hl.2 (by omega)).2
          have h2 := (hl.2 (by omega)).1
          intro e5
          have e6 : t = e (j - 1) := by omega
          rcases Nat.lt_or_ge (i + 1) j with y | y
          · have : e (i + 1) ≤ e (j - 1) := by
              rcases Nat.lt_or_ge (i + 1) (j - 1) with y2 | y2
              · have := PTT_e (e := e) (j := j - 1) (fun a ha => pt a (by omega)) (i + 1) y2
                omega
              · rw [show i + 1 = j - 1 by omega]; exact Nat.le_refl _
            omega
          · rw [show j - 1 = i by omega] at e6; omega
  · simp only [if_pos (show i ≤ j by omega)]
    by_cases z : i + 1 = j
    · have hj : 0 < j := by omega
      simp only [if_pos (show i + 1 ≤ j by omega)]
      rcases hw with ⟨hj0, hw⟩ | ⟨-, hw⟩
      · omega
      · rw [hw, z, e2, (hl.2 hj).2, show j - 1 = i by omega, wa_eq hx]; omega
    · simp only [if_pos (show i + 1 ≤ j by omega)]
      have t1 := ei i (by omega)
      have t2 := e1i i (by omega)
      rw [w36 37 (e i) (by decide) (fun _ => Or.inl ?_), kp 37 (e i) (by decide) (by omega)]
      · exact ln.1 i (by omega)
      · have h1 := (hl.2 (by omega)).2
        have h2 := (hl.2 (by omega)).1
        have := PTT_e (e := e) (j := j - 1) (fun a ha => pt a (by omega)) i (by omega)
        omega
  · simp only [show j + 1 - 1 = j by omega, if_pos (Nat.le_refl j)]
    rw [e2, w36 37 q1.toNat (by decide) (fun _ => Or.inl (by omega))]
    exact b8
  · simp only [show j + 1 - 1 = j by omega, if_pos (Nat.le_refl j)]; omega
  · rw [wr 33 _ (by decide), kp 33 q.toNat (by decide) (by omega)]; exact k1
  · rw [wr 38 _ (by decide), kp 38 q.toNat (by decide) (by omega)]; exact k2
  · rw [w36 37 q.toNat (by decide) (fun _ => ?_), kp 37 q.toNat (by decide) (by omega)]
    · exact k3
    · rcases Nat.eq_zero_or_pos j with z | z
      · exact Or.inr z
      · have := (hl.2 z).1
        exact Or.inl (by omega)
  · rcases hw with ⟨hj, hw⟩ | ⟨hj, hw⟩
    · rw [hw, wa_eq hx, ← e1, ← hj, e2]; omega
    · rw [hw, wa_rne (by decide), kp 36 q.toNat (by decide) (by omega)]; exact k4 hj
  · rw [wr 60 _ (by decide), wf]
    intro z
    have z2 := lg (b4.2.2.2.2.2.2 z)
    have := b9 z
    omega
theorem RWL_fin {kd t : Int} (a : RWL u0 SN σ u v p q kd j p1 q1 l) (hq : 0 ≤ q ∧ q < q1) (hk : (kd = 5 ∧ t = j ∧ j ≤ 8 ∧ w = wa v 35 q.toNat t) ∨ (kd = 6 ∧ t = j ∧ j ≤ 8 ∧ w = wa v 35 q.toNat t) ∨ (kd = 6 ∧ 2 ≤ j ∧ t = ((j - 1 : Nat) : Int) ∧ j ≤ 9 ∧ w = wa (wa v 38 q.toNat 1) 35 q.toNat t)) : PTT w SN q.toNat q1.toNat (A u 60 σ).toNat (A w 60 σ).toNat (A w 63 σ).toNat ∧ A w 37 q.toNat = -1 ∧ (F w 66 = 0 → A w 60 σ ≤ 40 ∨ A w 60 σ = A u 60 σ) ∧ BIN2 u0 p.toNat p1.toNat := by
  obtain ⟨e, mm, ⟨e1, e2, e3, e4⟩, pt, ln, ls, bn, ⟨k1, k2, k3, k4, k5⟩, lg⟩ := a
  have ht : RG t := ⟨by omega, by omega⟩
  have wr : ∀ r i, r ∉ [35, 38] → A w r i = A v r i := fun r i hr => by
    rcases hk with ⟨-, -, -, hw⟩ | ⟨-, -, -, hw⟩ | ⟨-, -, -, -, hw⟩
    · rw [hw, wa_rne (fun z => hr (by rw [z]; decide))]
    · rw [hw, wa_rne (fun z => hr (by rw [z]; decide))]
    · rw [hw, wa_rne (fun z => hr (by rw [z]; decide)), wa_rne (fun z => hr (by rw [z]; decide))]
  have wi' : ∀ r i, i ≠ q.toNat → A w r i = A v r i := fun r i hi => by
    rcases hk with ⟨-, -, -, hw⟩ | ⟨-, -, -, hw⟩ | ⟨-, -, -, -, hw⟩
    · rw [hw, wa_ne hi]
    · rw [hw, wa_ne hi]
    · rw [hw, wa_ne hi, wa_ne hi]
  have wf : ∀ k, F w k = F v k := fun k => by
    rcases hk with ⟨-, -, -, hw⟩ | ⟨-, -, -, hw⟩ | ⟨-, -, -, -, hw⟩
    · rw [hw]; rfl
    · rw [hw]; rfl
    · rw [hw]; rfl
  have w35 : A w 35 q.toNat = t := by
    rcases hk with ⟨-, -, -, hw⟩ | ⟨-, -, -, hw⟩ | ⟨-, -, -, -, hw⟩
    · rw [hw, wa_eq ht]
    · rw [hw, wa_eq ht]
    · rw [hw, wa_eq ht]
  have eh : ∀ i, i ≤ j → q.toNat < e i := fun i hi => by have := (JND_le pt i hi).1; omega
  rw [wr 60 _ (by decide), wr 63 _ (by decide), wr 37 _ (by decide), wf]
  refine ⟨?_, k3, lg, bn⟩
  rw [← e2, ← e3, ← e4]
  refine PTT_row (w := w) (fun i hi => PTT_ag (pt i hi) (fun r t _ t1 t2 => wi' r t (by have := eh i (by omega); omega)) (fun t t1 t2 => wi' 37 t (by have := eh i (by omega); omega)) (Nat.le_refl _)) ⟨fun i hi => by rw [wi' 37 _ (by have := eh i (by omega); omega)]; exact ln.1 i hi, fun hj => by rw [wi' 37 _ (by have := eh (j - 1) (by omega); omega)]; exact ln.2 hj⟩ e1 ?_ (fun hj => by rw [wr 36 _ (by decide)]; exact k4 hj)
  rw [wr 33 _ (by decide), w35, wr 36 _ (by decide), k1]
  rcases hk with ⟨z1, z2, z3, hw⟩ | ⟨z1, z2, z3, hw⟩ | ⟨z1, z2, z3, z4, hw⟩
  · exact Or.inl ⟨z1, z2, z3, k5⟩
  · exact Or.inr (Or.inl ⟨z1, by rw [hw, wa_rne (by decide)]; exact k2, z2, z3⟩)
  · refine Or.inr (Or.inr ⟨z1, ?_, z2, z3, z4⟩)
    rw [hw, wa_rne (by decide), wa_eq ⟨by decide, by decide⟩]
    decide
end
end
section
section
variable {u0 u v v2 w : MS} {N σ TN SN j : Nat} {bw : Nat → Nat} {p o n q c f h s wt g x y k d p1 q1 p2 q2 l : Int} {r y1 y2 y3 y5 y6 : Int32} {S : SG_M_rowPattern} {G : MS → Int32 → Int32 → Int32 → Int32 → Int32 → Int32 → Int32 → Option (MS × Int32)}
theorem KPR_wp {i : Nat} {r : Nat} (a : KPR σ u v) (hr : r ∈ [33, 35, 36, 37, 38]) (hi : F u 39 ≤ i) : KPR σ u (wa v r i x) := by
  have : ∀ r, r ∈ [33, 35, 36, 37, 38] → r ∈ [23, 24, 25, 26, 27, 28, 29, 30, 31, 33, 35, 36, 37, 38, 40, 41, 42, 43, 44, 45, 53, 54, 55, 57, 74, 76, 78, 79, 80, 81, 82] ∧ r ∉ [23, 24, 25, 26, 27, 28, 29, 30, 31] ∧ True ∧ r ∉ [40, 41, 42, 43, 45] ∧ r ∉ [53, 54, 55] ∧ r ≠ 57 ∧ r ≠ 74 ∧ r ≠ 76 ∧ r ∉ [79, 80, 81, 82] := by decide
  obtain ⟨b1, b2, b3, b4, b5, b6, b7, b8, b9⟩ := this r hr
  exact KPR_wa a b1 ⟨fun z => absurd z b2, fun _ => hi, fun z => absurd z b4, fun z => absurd z b5, fun z => absurd z b6, fun z => absurd z b7, fun z => absurd z b8, fun z => absurd z b9⟩
theorem KPR_wc {i : Nat} {r : Nat} (a : KPR σ u v) (hr : r ∈ [40, 41, 42, 43, 45]) (hi : F u 46 ≤ i) : KPR σ u (wa v r i x) := by
  have : ∀ r, r ∈ [40, 41, 42, 43, 45] → r ∈ [23, 24, 25, 26, 27, 28, 29, 30, 31, 33, 35, 36, 37, 38, 40, 41, 42, 43, 44, 45, 53, 54, 55, 57, 74, 76, 78, 79, 80, 81, 82] ∧ r ∉ [23, 24, 25, 26, 27, 28, 29, 30, 31] ∧ r ∉ [33, 35, 36, 37, 38] ∧ True ∧ r ∉ [53, 54, 55] ∧ r ≠ 57 ∧ r ≠ 74 ∧ r ≠ 76 ∧ r ∉ [79, 80, 81, 82] := by decide
  obtain ⟨b1, b2, b3, b4, b5, b6, b7, b8, b9⟩ := this r hr
  exact KPR_wa a b1 ⟨fun z => absurd z b2, fun z => absurd z b3, fun _ => hi, fun z => absurd z b5, fun z => absurd z b6, fun z => absurd z b7, fun z => absurd z b8, fun z => absurd z b9⟩
theorem KPR_wf {i : Nat} {r : Nat} (a : KPR σ u v) (hr : r ∈ [53, 54, 55]) (hi : F u 56 ≤ i) : KPR σ u (wa v r i x) := by
  have : ∀ r, r ∈ [53, 54, 55] → r ∈ [23, 24, 25, 26, 27, 28, 29, 30, 31, 33, 35, 36, 37, 38, 40, 41, 42, 43, 44, 45, 53, 54, 55, 57, 74, 76, 78, 79, 80, 81, 82] ∧ r ∉ [23, 24, 25, 26, 27, 28, 29, 30, 31] ∧ r ∉ [33, 35, 36, 37, 38] ∧ r ∉ [40, 41, 42, 43, 45] ∧ True ∧ r ≠ 57 ∧ r ≠ 74 ∧ r ≠ 76 ∧ r ∉ [79, 80, 81, 82] := by decide
  obtain ⟨b1, b2, b3, b4, b5, b6, b7, b8, b9⟩ := this r hr
  exact KPR_wa a b1 ⟨fun z => absurd z b2, fun z => absurd z b3, fun z => absurd z b4, fun _ => hi, fun z => absurd z b6, fun z => absurd z b7, fun z => absurd z b8, fun z => absurd z b9⟩
theorem KPR_ww {i : Nat} {r : Nat} (a : KPR σ u v) (hr : r ∈ [79, 80, 81, 82]) (hi : F u 83 ≤ i) : KPR σ u (wa v r i x) := by
  have : ∀ r, r ∈ [79, 80, 81, 82] → r ∈ [23, 24, 25, 26, 27, 28, 29, 30, 31, 33, 35, 36, 37, 38, 40, 41, 42, 43, 44, 45, 53, 54, 55, 57, 74, 76, 78, 79, 80, 81, 82] ∧ r ∉ [23, 24, 25, 26, 27, 28, 29, 30, 31] ∧ r ∉ [33, 35, 36, 37, 38] ∧ r ∉ [40, 41, 42, 43, 45] ∧ r ∉ [53, 54, 55] ∧ r ≠ 57 ∧ r ≠ 74 ∧ r ≠ 76 ∧ True := by decide
  obtain ⟨b1, b2, b3, b4, b5, b6, b7, b8, b9⟩ := this r hr
  exact KPR_wa a b1 ⟨fun z => absurd z b2, fun z => absurd z b3, fun z => absurd z b4, fun z => absurd z b5, fun z => absurd z b6, fun z => absurd z b7, fun z => absurd z b8, fun _ => hi⟩
theorem FSM_p (hs : FSM u0 TN σ d v) (hT : TN ≤ 4000) : 0 ≤ F v 69 ∧ F v 69 ≤ 4001 := by
  have := hs.2.2.1
  omega
theorem row194_F (hs : FSM u0 TN σ d v) (hT : TN ≤ 4000) (hq : 0 ≤ q ∧ q < 5000) : OK (FPA u0 TN σ d) (fb_M_rowPattern_194 N S G v y3 (I q) y6) := by
  unfold fb_M_rowPattern_194
  refine k_in (k := 35) (n := 5000) rfl (by decide) (by omega) (ok_lt.mpr ?_)
  rw [I_tn (by omega) (by omega), I_of y6, wa_e]
  have h2 : FSM u0 TN σ d (wa v 35 q.toNat y6.toInt) := FSM_wa hs (by decide)
  refine k_needSign (I_of y3) (ti_rng y3) (FSM_p h2 hT) (fun z => absurd z h2.2.1) (fun v3 h3 h4 => ok_some.mpr ⟨FSM_67 h2 h3 h4, q, rfl, by omega, by omega⟩)
theorem row151_F (hs : FSM u0 TN σ d v) (hT : TN ≤ 4000) (hq : 0 ≤ q ∧ q < 5000) : OK (FPA u0 TN σ d) (fb_M_rowPattern_151 N S G v y1 y2 y3 (I q) y5 y6) := by
  unfold fb_M_rowPattern_151
  refine ok_br.mpr ⟨fun _ => k_takeSign (s := 9) rfl ⟨by decide, by decide⟩ (FSM_p hs hT) (fun z => absurd z hs.2.1) (fun _ => ?_), fun _ => row194_F hs hT hq⟩
  rw [br00]
  exact row194_F hs hT hq
theorem row140_F (hs : FSM u0 TN σ d v) (hT : TN ≤ 4000) (hG : ∀ v, FSM u0 TN σ d v → OK (FPA u0 TN σ d) (G v y1 y2 y3 (I q) y5 y6 0)) : OK (FPA u0 TN σ d) (fb_M_rowPattern_140 N S G v y1 y2 y3 (I q) y5 y6) := by
  unfold fb_M_rowPattern_140
  exact k_takeSign (s := 6) rfl ⟨by decide, by decide⟩ (FSM_p hs hT) (fun z => absurd z hs.2.1) (fun _ => hG v hs)
theorem row112_F (hs : FSM u0 TN σ d v) (hT : TN ≤ 4000) (hG : ∀ v, FSM u0 TN σ d v → OK (FPA u0 TN σ d) (G v y1 y2 y3 (I q) y5 (y6 + 1) 0)) : OK (FPA u0 TN σ d) (fb_M_rowPattern_112 N S G v y1 y2 y3 (I q) y6 y5) := by
  unfold fb_M_rowPattern_112
  refine ok_br.mpr ⟨fun _ => k_isSign (s := 6) rfl ⟨by decide, by decide⟩ (FSM_p hs hT) (fun _ => ?_) (fun _ => row140_F hs hT hG), fun _ => row140_F hs hT hG⟩
  exact k_wrong (s := 2) rfl ⟨by decide, by decide⟩ (by decide) (FSM_p hs hT) (fun v h1 h2 => row140_F (FSM_67 hs h1 h2) hT hG)
theorem rowG_F {m : Nat} (hs : FSM u0 TN σ d v) (hT : TN ≤ 4000) (hq : 0 ≤ q ∧ q < 5000) : OK (FPA u0 TN σ d) (gg_M_rowPattern N S (m + 1) v y1 y2 y3 (I q) y5 y6 0) := by
  show OK _ (fb_M_rowPattern_66 N S (gg_M_rowPattern N S m) v y1 y2 y3 (I q) y5 y6 0)
  unfold fb_M_rowPattern_66
  rw [br00]
  exact row151_F hs hT hq
def PPO (u0 : MS) (TN SN σ : Nat) (d : Int) (p o n q c f h s wt g : Int) (u v : MS) (r : Int32) : Prop := PAQ u0 TN SN σ p o n q c f h s wt g u v r ∨ FPA u0 TN σ d v r
theorem brk_c {u0 : MS} {i : Nat} (h : A u0 6 i = 6) (h2 : A u0 7 i = 1 ∨ A u0 7 i = 3 ∨ A u0 7 i = 5) : brk u0 i = -1 := by
  unfold brk
  rw [if_pos h, if_neg (by omega), if_pos h2]
theorem brk_s {u0 : MS} {i : Nat} (h2 : A u0 6 i = 6 → A u0 7 i = 6 ∨ A u0 7 i = 9) : brk u0 i = 0 := by
  unfold brk
  by_cases e : A u0 6 i = 6
  · have := h2 e
    rw [if_pos e, if_neg (by omega), if_neg (by omega)]
  · rw [if_neg e]
theorem close_ok (tk : TKW u0 TN SN bw) (hs : ST u0 σ p1 o n q1 c f h s wt g w) (hf : F w 67 = 0) (kp : KPR σ u w) (hp : PTT w SN q.toNat q1.toNat (A u 60 σ).toNat (A w 60 σ).toNat (A w 63 σ).toNat ∧ A w 37 q.toNat = -1 ∧ (F w 66 = 0 → A w 60 σ ≤ 40 ∨ A w 60 σ = A u 60 σ) ∧ BIN2 u0 p.toNat p1.toNat) (hx : x = 1 ∨ x = 3 ∨ x = 5) (hq : 0 ≤ q ∧ q < q1 ∧ q < 5000 ∧ 2 * (q1 - q) ≤ p1 - p + 2) (hp1 : 0 ≤ p1 ∧ p1 ≤ TN) (hn : 0 ≤ n ∧ n ≤ 12000 + d) (hh : 0 ≤ h ∧ h + 60 * σ ≤ 23400) (hy : y3 = I x) : OK (PPO u0 TN SN σ d p o n q c f h s wt g u) (bnd (fm_M_needSign N w y3) (fun u2 _ => some (u2, I q))) := by
  have hT := tk.1.1
  have e69 : F w 69 = p1 := hs.2.1.1
  refine k_needSign hy ⟨by omega, by omega⟩ (by omega) (fun _ z => ok_some.mpr (Or.inl ?_)) (fun v h1 h2 => ok_some.mpr (Or.inr ⟨FSM_of (ST_67 hs h1) (by omega) hn hh h2, q, rfl, by omega, by omega⟩))
  have z2 := ST_IS hs z
  have lt := tok_lt tk hp1 (by omega)
  refine ⟨(wi_ne (by decide)).trans hf, rfl, p1 + 1, q1, ST_nx hs (by omega), KPR_w0 kp (by decide), ⟨by omega, hq.2.1, by omega⟩, ?_, hp.1, hp.2.1, hp.2.2.1⟩
  rw [show (p1 + 1).toNat = p1.toNat + 1 from by omega]
  exact BIN2_c hp.2.2.2 (brk_c z2.1 (by rw [z2.2]; exact hx))
theorem row194_N {kd t : Int} (tk : TKW u0 TN SN bw) (hs : ST u0 σ p1 o n q1 c f h s wt g v) (hf : F v 67 = 0) (kp : KPR σ u v) (hu : F u 39 = q) (a : RWL u0 SN σ u v p q kd j p1 q1 l) (hk : (kd = 5 ∧ t = j ∧ j ≤ 8 ∧ w = v) ∨ (kd = 6 ∧ t = j ∧ j ≤ 8 ∧ w = v) ∨ (kd = 6 ∧ 2 ≤ j ∧ t = ((j - 1 : Nat) : Int) ∧ j ≤ 9 ∧ w = wa v 38 q.toNat 1)) (hx : x = 1 ∨ x = 3 ∨ x = 5) (hq : 0 ≤ q ∧ q < q1 ∧ q < 5000 ∧ 2 * (q1 - q) ≤ p1 - p + 2) (hp1 : 0 ≤ p1 ∧ p1 ≤ TN) (hn : 0 ≤ n ∧ n ≤ 12000 + d) (hh : 0 ≤ h ∧ h + 60 * σ ≤ 23400) (hy : y3 = I x) : OK (PPO u0 TN SN σ d p o n q c f h s wt g u) (fb_M_rowPattern_194 N S G w y3 (I q) (I t)) := by
  unfold fb_M_rowPattern_194
  refine k_in (k := 35) (n := 5000) rfl (by decide) (by omega) (ok_lt.mpr ?_)
  rw [I_tn (by omega) (by omega), wa_e]
  have m38 : ∀ r, r ∈ [35, 38] → r ∉ [23, 24, 25, 26, 27, 28, 29, 30, 31] ∧ r ∉ [40, 41, 42, 43, 45] ∧ r ∉ [53, 54, 55] ∧ r ∉ [79, 80, 81, 82] := by decide
  have kw : ∀ {v2 : MS} {r : Nat} {z : Int}, r ∈ [35, 38] → KPR σ u v2 → KPR σ u (wa v2 r q.toNat z) := fun {v2 r z} hr hv => by
    have mm := m38 r hr
    have m2 : ∀ r, r ∈ [35, 38] → r ∈ [23, 24, 25, 26, 27, 28, 29, 30, 31, 33, 35, 36, 37, 38, 40, 41, 42, 43, 44, 45, 53, 54, 55, 57, 74, 76, 78, 79, 80, 81, 82] ∧ r ≠ 57 ∧ r ≠ 74 ∧ r ≠ 76 := by decide
    have m3 := m2 r hr
    exact KPR_wa hv m3.1 ⟨fun z => absurd z mm.1, fun _ => by omega, fun z => absurd z mm.2.1, fun z => absurd z mm.2.2.1, fun z => absurd z m3.2.1, fun z => absurd z m3.2.2.1, fun z => absurd z m3.2.2.2, fun z => absurd z mm.2.2.2⟩
  have hw : ST u0 σ p1 o n q1 c f h s wt g w ∧ F w 67 = 0 ∧ KPR σ u w := by
    rcases hk with ⟨-, -, -, hw⟩ | ⟨-, -, -, hw⟩ | ⟨-, -, -, -, hw⟩
    · rw [hw]; exact ⟨hs, hf, kp⟩
    · rw [hw]; exact ⟨hs, hf, kp⟩
    · rw [hw]; exact ⟨ST_wa hs (by decide), hf, kw (by decide) kp⟩
  refine close_ok tk (ST_wa hw.1 (by decide)) hw.2.1 (kw (by decide) hw.2.2) (RWL_fin (w := wa w 35 q.toNat t) (t := t) a ⟨hq.1, hq.2.1⟩ ?_) hx hq hp1 hn hh hy
  rcases hk with ⟨h1, h2, h3, hw⟩ | ⟨h1, h2, h3, hw⟩ | ⟨h1, h2, h3, h4, hw⟩
  · exact Or.inl ⟨h1, h2, h3, by rw [hw]⟩
  · exact Or.inr (Or.inl ⟨h1, h2, h3, by rw [hw]⟩)
  · exact Or.inr (Or.inr ⟨h1, h2, h3, h4, by rw [hw]⟩)
def PASP (u0 : MS) (TN SN σ : Nat) (d : Int) (F1 : MS → Int32 → Option (MS × Int32)) (o : Int) : Prop := ∀ (u : MS) (b : Int32) (p n q c f h s wt g : Int), ST u0 σ p o n q c f h s wt g u → F u 67 = 0 → (0 ≤ p ∧ p ≤ TN) → (0 ≤ q ∧ 2 * q + (TN - p) ≤ 8000 + 2 * o) → (0 ≤ n ∧ n ≤ 12000 + d) → (0 ≤ h ∧ h + 60 * σ ≤ 23400) → OK (PPO u0 TN SN σ d p o n q c f h s wt g u) (F1 u b)
theorem RWL_s {kd : Int} (a : RWL u0 SN σ u v p q kd j p1 q1 l) (hb : brk u0 p1.toNat = 0) (hp : 0 ≤ p1) : RWL u0 SN σ u (nx1 v) p q kd j (p1 + 1) q1 l := by
  obtain ⟨e, mm, a1, a2, a3, a4, a5, a6, a7⟩ := a
  refine ⟨e, mm, a1, a2, a3, a4, ?_, a6, ?_⟩
  · rw [show (p1 + 1).toNat = p1.toNat + 1 from by omega]; exact BIN2_s a5 hb
  · rw [show F (nx1 v) 66 = F v 66 from wi_ne (by decide)]; exact a7
theorem row151_N {kd : Int} (tk : TKW u0 TN SN bw) (hS : PASP u0 TN SN σ d S.2 o) (ho : 0 ≤ o ∧ o ≤ 25) (hs : ST u0 σ p1 o n q1 c f h s wt g v) (hf : F v 67 = 0) (kp : KPR σ u v) (hu : F u 39 = q) (a : RWL u0 SN σ u v p q kd j p1 q1 l) (hj : 0 < j ∧ j ≤ 8) (hk : (kd = 5 ∧ y2 = 1 ∧ y3 = I 3) ∨ (kd = 6 ∧ y2 = 0 ∧ y3 = I 5)) (hq : 0 ≤ q ∧ q < q1 ∧ q < 5000 ∧ 2 * (q1 - q) ≤ p1 - p + 2) (hp : 0 ≤ p ∧ 2 * q + (TN - p) ≤ 8000 + 2 * o - 2) (hp1 : 0 ≤ p1 ∧ p1 ≤ TN) (hn : 0 ≤ n ∧ n ≤ 12000 + d) (hh : 0 ≤ h ∧ h + 60 * σ ≤ 23400) : OK (PPO u0 TN SN σ d p o n q c f h s wt g u) (fb_M_rowPattern_151 N S G v y1 y2 y3 (I q) (I l) (I (j : Int))) := by
  have hT := tk.1.1
  have e69 : F v 69 = p1 := hs.2.1.1
  have e39 : F v 39 = q1 := hs.2.1.2.2.2.1
  have hl : 0 ≤ l ∧ l < q1 ∧ q < l := by
    obtain ⟨e, mm, ⟨a1, a2, -⟩, a3, a4, a5, -⟩ := a
    have t1 := PTT_e a3 (j - 1) (by omega)
    have t2 := (JND_le a3 (j - 1) (by omega)).1
    unfold LSTI at a5
    omega
  unfold fb_M_rowPattern_151
  rcases hk with ⟨k1, k2, k3⟩ | ⟨k1, k2, k3⟩
  · rw [k2, br10]
    exact row194_N tk hs hf kp hu a (Or.inl ⟨k1, rfl, hj.2, rfl⟩) (x := 3) (by omega) hq hp1 hn hh k3
  · rw [k2, br00]
    refine k_takeSign (s := 9) rfl ⟨by decide, by decide⟩ (by omega) (fun _ z => ?_) (fun _ => ?_)
    · rw [br10]
      have z2 := ST_IS hs z
      have lt := tok_lt tk hp1 (by omega)
      have b0 : brk u0 p1.toNat = 0 := brk_s (fun _ => by omega)
      have a2 := RWL_s a b0 hp1.1
      have hs2 := ST_nx hs (show 0 ≤ p1 ∧ p1 ≤ 4001 by omega)
      refine ok_bnd.mpr (ok_mono (hS _ y1 _ _ _ _ _ _ _ _ _ hs2 ((wi_ne (by decide)).trans hf) (by omega) (by omega) hn hh) (fun v2 r2 hv2 => ?_))
      rw [show (-1 : Int32) = I (-1) from rfl]
      refine k_eq ⟨by omega, by omega⟩ ⟨by decide, by decide⟩ (fun z => by omega) (fun _ => ?_)
      refine k_in (k := 37) (n := 5000) rfl (by decide) (by omega) (ok_lt.mpr ?_)
      rw [I_tn (x := l) (by omega) (by omega)]
      rcases hv2 with hv2 | ⟨hv2, x2, hx2, x3, x4⟩
      · rw [hv2.2.1, wa_e]
        have sc : 0 ≤ A v 60 σ := (hs.2.2.2.1 σ (Nat.le_refl σ)).1.1
        obtain ⟨p3, q3, c1, c2, c3, c4⟩ := RWL_add (w := wa v2 37 l.toNat q1) a2 hv2 ⟨hq.1, hq.2.1⟩ (show F (nx1 v) 39 = q1 from (wi_ne (by decide)).trans e39) ⟨by omega, by omega⟩ (Or.inr ⟨hj.1, rfl⟩) sc
        have kp3 : KPR σ u (wa v2 37 l.toNat q1) := by
          obtain ⟨-, -, -, -, -, kv2, -⟩ := hv2
          refine KPR_wp (KPR_tr (KPR_w0 kp (by decide)) kv2) (by decide) (by omega)
        unfold fb_M_rowPattern_186
        refine k_in (k := 38) (n := 5000) rfl (by decide) (by omega) (ok_lt.mpr ?_)
        rw [I_tn (x := q) (by omega) (by omega), nar1, wa_e]
        exact row194_N (j := j + 1) (t := j) tk c1 c4 kp3 hu c3 (Or.inr (Or.inr ⟨k1, by omega, by omega, by omega, rfl⟩)) (x := 5) (by omega) (by omega) (by omega) hn hh k3
      · rw [hx2, wa_e]
        unfold fb_M_rowPattern_186
        refine k_in (k := 38) (n := 5000) rfl (by decide) (by omega) (ok_lt.mpr ?_)
        rw [I_tn (x := q) (by omega) (by omega), nar1, wa_e]
        exact ok_mono (row194_F (FSM_wa (FSM_wa hv2 (by decide)) (by decide)) hT (by omega)) (fun _ _ => Or.inr)
    · rw [br00]
      exact row194_N tk hs hf kp hu a (Or.inr (Or.inl ⟨k1, rfl, hj.2, rfl⟩)) (x := 5) (by omega) hq hp1 hn hh k3
theorem row_loop {kd : Int} (tk : TKW u0 TN SN bw) (hS : PASP u0 TN SN σ d S.2 o) (ho : 0 ≤ o ∧ o ≤ 25) (hu : F u 39 = q) (hk : (kd = 5 ∧ y2 = 1 ∧ y3 = I 3) ∨ (kd = 6 ∧ y2 = 0 ∧ y3 = I 5)) (hp : 0 ≤ p ∧ 2 * q + (TN - p) ≤ 8000 + 2 * o - 2) (hq0 : 0 ≤ q ∧ q < 5000) (hn : 0 ≤ n ∧ n ≤ 12000 + d) (hh : 0 ≤ h ∧ h + 60 * σ ≤ 23400) : ∀ (m j : Nat) (v : MS) (p1 q1 l : Int), ST u0 σ p1 o n q1 c f h s wt g v → F v 67 = 0 → KPR σ u v → RWL u0 SN σ u v p q kd j p1 q1 l → j ≤ 7 → 10 - j < m → (q < q1 ∧ 2 * (q1 - q) ≤ p1 - p + 1) → (0 ≤ p1 ∧ p1 ≤ TN) → OK (PPO u0 TN SN σ d p o n q c f h s wt g u) (gg_M_rowPattern N S m v y1 y2 y3 (I q) (I l) (I (j : Int)) 1) := by
  have hT := tk.1.1
  intro m
  induction m with
  | zero => intro j v p1 q1 l _ _ _ _ _ z; exact absurd z (Nat.not_lt_zero _)
  | succ m ih =>
    intro j v p1 q1 l hs hf kp a hj hm hq hp1
    have e69 : F v 69 = p1 := hs.2.1.1
    have e39 : F v 39 = q1 := hs.2.1.2.2.2.1
    have sc : 0 ≤ A v 60 σ := (hs.2.2.2.1 σ (Nat.le_refl σ)).1.1
    obtain ⟨m', rfl⟩ : ∃ m', m = m' + 1 := ⟨m - 1, by omega⟩
    have hl : (j = 0 ∧ l = -1) ∨ (0 < j ∧ 0 ≤ l ∧ l < q1 ∧ q < l) := by
      obtain ⟨e, mm, ⟨a1, a2, -⟩, a3, a4, a5, -⟩ := a
      unfold LSTI at a5
      rcases Nat.eq_zero_or_pos j with z | z
      · omega
      · have t1 := PTT_e a3 (j - 1) (by omega)
        have t2 := (JND_le a3 (j - 1) (by omega)).1
        omega
    have q5 : q1 < 5000 := by omega
    show OK _ (fb_M_rowPattern_66 N S (gg_M_rowPattern N S (m' + 1)) v y1 y2 y3 (I q) (I l) (I (j : Int)) 1)
    unfold fb_M_rowPattern_66
    rw [br10, I_F' hf, show decide (I 0 = (0 : Int32)) = true from rfl, br_tq]
    refine ok_bnd.mpr (ok_mono (hS v y1 _ _ _ _ _ _ _ _ _ hs hf hp1 (by omega) hn hh) (fun v2 r2 hv2 => ?_))
    rw [show (-1 : Int32) = I (-1) from rfl]
    have tail : ∀ w : MS, (j = 0 ∧ w = wa v2 36 q.toNat q1) ∨ (0 < j ∧ w = wa v2 37 l.toNat q1) → PAQ u0 TN SN σ p1 o n q1 c f h s wt g v v2 r2 → OK (PPO u0 TN SN σ d p o n q c f h s wt g u) (fb_M_rowPattern_112 N S (gg_M_rowPattern N S (m' + 1)) w y1 y2 y3 (I q) (I (j : Int)) (I q1)) := fun w hw hv => by
      obtain ⟨p3, q3, c1, c2, c3, c4⟩ := RWL_add (w := w) a hv ⟨hq0.1, hq.1⟩ e39 ⟨by omega, by omega⟩ hw sc
      have kp3 : KPR σ u w := by
        obtain ⟨-, -, -, -, -, kv2, -⟩ := hv
        rcases hw with ⟨-, hw⟩ | ⟨hj0, hw⟩
        · rw [hw]
          exact KPR_wp (KPR_tr kp kv2) (by decide) (by omega)
        · rw [hw]
          exact KPR_wp (KPR_tr kp kv2) (by decide) (by omega)
      have e69w : F w 69 = p3 := c1.2.1.1
      have q3b : q3 < 5000 := by omega
      have n140 : j + 1 = 8 → ¬ IS w 6 → True := fun _ _ => trivial
      have go : (j + 1 ≤ 7 ∨ ¬ IS w 6) → OK (PPO u0 TN SN σ d p o n q c f h s wt g u) (fb_M_rowPattern_140 N S (gg_M_rowPattern N S (m' + 1)) w y1 y2 y3 (I q) (I q1) (I ((j + 1 : Nat) : Int))) := fun hz => by
        unfold fb_M_rowPattern_140
        refine k_takeSign (s := 6) rfl ⟨by decide, by decide⟩ (by omega) (fun _ z => ?_) (fun _ => ?_)
        · have z2 := ST_IS c1 z
          have lt := tok_lt tk (by omega) (show ¬ (A u0 6 (p3).toNat = 0 ∨ A u0 6 (p3).toNat = 7) by omega)
          have b0 : brk u0 p3.toNat = 0 := brk_s (fun _ => by omega)
          have hj7 : j + 1 ≤ 7 := by
            rcases hz with hz | hz
            · exact hz
            · exact absurd z hz
          exact ih (j + 1) (nx1 w) (p3 + 1) q3 q1 (ST_nx c1 (by omega)) ((wi_ne (by decide)).trans c4) (KPR_w0 kp3 (by decide)) (RWL_s c3 b0 (by omega)) hj7 (by omega) (by omega) (by omega)
        · show OK _ (fb_M_rowPattern_66 N S (gg_M_rowPattern N S m') w y1 y2 y3 (I q) (I q1) (I ((j + 1 : Nat) : Int)) 0)
          unfold fb_M_rowPattern_66
          rw [br00]
          exact row151_N tk hS ho c1 c4 kp3 hu c3 (by omega) hk (by omega) hp (by omega) hn hh
      unfold fb_M_rowPattern_112
      rw [lit1q, I_add, show (j : Int) + 1 = ((j + 1 : Nat) : Int) from by omega, show (8 : Int32) = I 8 from rfl]
      refine k_eq ⟨by omega, by omega⟩ ⟨by decide, by decide⟩ (fun e8 => ?_) (fun e8 => go (Or.inl (by omega)))
      refine k_isSign (s := 6) rfl ⟨by decide, by decide⟩ (by omega) (fun z => ?_) (fun z => go (Or.inr z))
      refine k_wrong (s := 2) rfl ⟨by decide, by decide⟩ (by decide) (by omega) (fun v4 h4 h5 => ?_)
      exact ok_mono (row140_F (FSM_of (ST_67 c1 h4) (by omega) hn hh h5) hT (fun v hv => rowG_F hv hT hq0)) (fun _ _ => Or.inr)
    have tailF : ∀ w : MS, FSM u0 TN σ d w → ∀ x2 : Int, OK (PPO u0 TN SN σ d p o n q c f h s wt g u) (fb_M_rowPattern_112 N S (gg_M_rowPattern N S (m' + 1)) w y1 y2 y3 (I q) (I (j : Int)) (I x2)) := fun w hw x2 => ok_mono (row112_F hw hT (fun v hv => rowG_F hv hT hq0)) (fun _ _ => Or.inr)
    refine k_eq ⟨by omega, by omega⟩ ⟨by decide, by decide⟩ (fun z => ?_) (fun z => ?_)
    · refine k_in (k := 36) (n := 5000) rfl (by decide) (by omega) (ok_lt.mpr ?_)
      rw [I_tn (x := q) (by omega) (by omega)]
      rcases hv2 with hv2 | ⟨hv2, x2, hx2, x3, x4⟩
      · rw [hv2.2.1, wa_e]
        exact tail _ (Or.inl ⟨by omega, rfl⟩) hv2
      · rw [hx2, wa_e]
        exact tailF _ (FSM_wa hv2 (by decide)) x2
    · refine k_in (k := 37) (n := 5000) rfl (by decide) (by omega) (ok_lt.mpr ?_)
      rw [I_tn (x := l) (by omega) (by omega)]
      rcases hv2 with hv2 | ⟨hv2, x2, hx2, x3, x4⟩
      · rw [hv2.2.1, wa_e]
        exact tail _ (Or.inr ⟨by omega, rfl⟩) hv2
      · rw [hx2, wa_e]
        exact tailF _ (FSM_wa hv2 (by decide)) x2
end
end
section
section
variable {α : Type} {Q : MS → α → Prop} {u0 u v v2 w : MS} {N σ TN SN j : Nat} {bw : Nat → Nat} {p o o1 n q c f h s wt g x y k d p1 q1 p2 q2 l : Int} {r y1 y2 y3 y5 y6 : Int32} {S : SG_M_rowPattern}
theorem k_isSign2 {c : Int32} {f : MS → Int32 → Option (MS × α)} (hc : c = I x) (hs : RG x) (hp : 0 ≤ F u 69 ∧ F u 69 ≤ 4001) (a : ∀ b : Int32, (b = 1 ∧ IS u x) ∨ (b = 0 ∧ ¬ IS u x) → OK Q (f u b)) : OK Q (bnd (fm_M_isSign N u c) f) := by
  rw [hc]
  by_cases e : IS u x
  · rw [isSign_1 hp hs e, bnd_so]; exact a 1 (Or.inl ⟨rfl, e⟩)
  · rw [isSign_0 hp hs e, bnd_so]; exact a 0 (Or.inr ⟨rfl, e⟩)
def OPN (u w : MS) : Prop := (F u 70 < 25 ∧ w = op1 u) ∨ (25 ≤ F u 70 ∧ ∃ v, FR [67, 68] [] [] [] u v ∧ F v 67 ≠ 0 ∧ w = op1 v)
theorem k_opens2 {f : MS → Unit → Option (MS × α)} (hp : 0 ≤ F u 69 ∧ F u 69 ≤ 4001) (a : ∀ w, OPN u w → OK Q (f w ())) : OK Q (bnd (fm_M_opens N u) f) := k_opens hp (fun h => a _ (Or.inl ⟨h, rfl⟩)) (fun v h1 h2 h3 => a _ (Or.inr ⟨h1, v, h2, h3, rfl⟩))
theorem OPN_ST (hs : ST u0 σ p o n q c f h s wt g u) (ho : 0 ≤ o ∧ o ≤ 100) (a : OPN u w) : ST u0 σ p (o + 1) n q c f h s wt g w := by
  rcases a with ⟨-, a⟩ | ⟨-, v, a1, -, a⟩
  · rw [a]; exact ST_op hs ho
  · rw [a]; exact ST_op (ST_67 hs a1) ho
theorem OPN_KP (a : OPN u w) : KPR σ u w := by
  rcases a with ⟨-, a⟩ | ⟨-, v, a1, -, a⟩
  · rw [a]; exact KPR_w0 KPR_rf (by decide)
  · rw [a]; exact KPR_w0 (KPR_67 KPR_rf a1) (by decide)
theorem OPN_67 (hf : F u 67 = 0) (a : OPN u w) : (F w 67 = 0 ∧ F u 70 < 25 ∧ w = op1 u) ∨ (F w 67 ≠ 0 ∧ 25 ≤ F u 70) := by
  rcases a with ⟨a1, a⟩ | ⟨a0, v, a1, a2, a⟩
  · rw [a]; exact Or.inl ⟨(wi_ne (by decide)).trans hf, a1, rfl⟩
  · rw [a]; exact Or.inr ⟨by rw [show F (op1 v) 67 = F v 67 from wi_ne (by decide)]; exact a2, a0⟩
theorem OPN_A (a : OPN u w) {r i : Nat} : A w r i = A u r i := by
  rcases a with ⟨-, a⟩ | ⟨-, v, a1, -, a⟩
  · rw [a]; rfl
  · rw [a]; exact a1.A (by intro z; cases z)
theorem OPN_66 (a : OPN u w) : F w 66 = F u 66 := by
  rcases a with ⟨-, a⟩ | ⟨-, v, a1, -, a⟩
  · rw [a]; exact wi_ne (by decide)
  · rw [a]; exact (wi_ne (by decide)).trans (a1.F (by decide))
def RPSP (u0 : MS) (TN SN σ : Nat) (d : Int) (F1 : MS → Int32 → Option (MS × Int32)) (o : Int) : Prop := ∀ (u : MS) (b : Int32) (p n q c f h s wt g : Int), ST u0 σ p o n q c f h s wt g u → F u 67 = 0 → IS u 2 ∨ IS u 4 → (0 ≤ p ∧ p ≤ TN) → (0 ≤ q ∧ 2 * q + (TN - p) ≤ 8000 + 2 * o - 2) → (0 ≤ n ∧ n ≤ 12000 + d) → (0 ≤ h ∧ h + 60 * σ ≤ 23400) → OK (PPO u0 TN SN σ d p o n q c f h s wt g u) (F1 u b)
def RPFM (u0 : MS) (TN σ : Nat) (d : Int) (F1 : MS → Int32 → Option (MS × Int32)) : Prop := ∀ (u : MS) (b : Int32) (p o n q c f h s wt g : Int), ST u0 σ p o n q c f h s wt g u → F u 67 ≠ 0 → (0 ≤ p ∧ p ≤ TN) → (0 ≤ q ∧ q < 5000) → (0 ≤ n ∧ n ≤ 12000 + d) → (0 ≤ h ∧ h + 60 * σ ≤ 23400) → OK (FPA u0 TN σ d) (F1 u b)
theorem rowPat_F (hT : TN ≤ 4000) : RPFM u0 TN σ d (fm_M_rowPattern N S) := by
  intro u b p o n q c f h s wt g hs hf hp hq hn hh
  have e69 : F u 69 = p := hs.2.1.1
  have e39 : F u 39 = q := hs.2.1.2.2.2.1
  unfold fm_M_rowPattern fb_M_rowPattern_0 fb_M_rowPattern_15 fb_M_rowPattern_27
  have main : ∀ (t c2 : Int32) (k : Int), vp_nar .byte (t.toInt8.toInt32) = I k → 0 ≤ k ∧ k ≤ 31 → OK (FPA u0 TN σ d) (bnd (fm_M_pattern N u t) (fun u13 r13 => lt (upI u13 69 ((u13.1 69) + 1)) (fun w14 => br (decide ((w14.1 67) = 0)) (bnd (fm_M_isSign N w14 c2) (fun u15 r15 => br (decide (r15 = 0)) (gg_M_rowPattern N S N u15 b 0 c2 r13 (-1) 0 1) (fb_M_rowPattern_194 N S (gg_M_rowPattern N S N) u15 c2 r13 0))) (fb_M_rowPattern_194 N S (gg_M_rowPattern N S N) w14 c2 r13 0)))) := fun t c2 k h1 h2 => by
    refine k_pattern h1 h2 (by omega) (fun v hv => ok_lt.mpr ?_)
    rw [nx1_e, e39]
    have hs2 := ST_nx (ST_pt hs hv) (show 0 ≤ p ∧ p ≤ 4001 by omega)
    have f2 : F (nx1 v) 67 ≠ 0 := by rw [show F (nx1 v) 67 = F v 67 from wi_ne (by decide), hv.1.F (by decide)]; exact hf
    exact k_F (y := 0) rfl ⟨by decide, by decide⟩ (fun z => absurd z f2) (fun _ => row194_F (FSM_of hs2 (by omega) hn hh f2) hT hq)
  have main2 : ∀ (t c2 : Int32) (k : Int), vp_nar .byte (t.toInt8.toInt32) = I k → 0 ≤ k ∧ k ≤ 31 → OK (FPA u0 TN σ d) (bnd (fm_M_pattern N u t) (fun u13 r13 => lt (upI u13 69 ((u13.1 69) + 1)) (fun w14 => br (decide ((w14.1 67) = 0)) (bnd (fm_M_isSign N w14 c2) (fun u15 r15 => br (decide (r15 = 0)) (gg_M_rowPattern N S N u15 b 1 c2 r13 (-1) 0 1) (fb_M_rowPattern_194 N S (gg_M_rowPattern N S N) u15 c2 r13 0))) (fb_M_rowPattern_194 N S (gg_M_rowPattern N S N) w14 c2 r13 0)))) := fun t c2 k h1 h2 => by
    refine k_pattern h1 h2 (by omega) (fun v hv => ok_lt.mpr ?_)
    rw [nx1_e, e39]
    have hs2 := ST_nx (ST_pt hs hv) (show 0 ≤ p ∧ p ≤ 4001 by omega)
    have f2 : F (nx1 v) 67 ≠ 0 := by rw [show F (nx1 v) 67 = F v 67 from wi_ne (by decide), hv.1.F (by decide)]; exact hf
    exact k_F (y := 0) rfl ⟨by decide, by decide⟩ (fun z => absurd z f2) (fun _ => row194_F (FSM_of hs2 (by omega) hn hh f2) hT hq)
  refine k_isSign (s := 2) rfl ⟨by decide, by decide⟩ (by omega) (fun _ => ?_) (fun _ => ?_)
  · rw [br10]; exact main2 5 3 5 rfl (by decide)
  · rw [br00]; exact main 6 5 6 rfl (by decide)
theorem rowPat_N (tk : TKW u0 TN SN bw) (hN : 5000 ≤ N) (ho : 0 ≤ o ∧ o ≤ 25) (hS : PASP u0 TN SN σ d S.2 o) : RPSP u0 TN SN σ d (fm_M_rowPattern N S) o := by
  intro u b p n q c f h s wt g hs hf hi hp hq hn hh
  have hT := tk.1.1
  have e69 : F u 69 = p := hs.2.1.1
  have e39 : F u 39 = q := hs.2.1.2.2.2.1
  have lt : p < TN := by
    rcases hi with z | z
    · exact tok_lt tk hp (by have := (ST_IS hs z).1; omega)
    · exact tok_lt tk hp (by have := (ST_IS hs z).1; omega)
  have bk : brk u0 p.toNat = 1 := by
    unfold brk
    rcases hi with z | z
    · have z2 := ST_IS hs z
      rw [if_pos z2.1, if_pos (by omega)]
    · have z2 := ST_IS hs z
      rw [if_pos z2.1, if_pos (by omega)]
  unfold fm_M_rowPattern fb_M_rowPattern_0 fb_M_rowPattern_15
  have main : ∀ (t y2 y3 : Int32) (k x : Int), vp_nar .byte (t.toInt8.toInt32) = I k → (k = 5 ∧ y2 = 1 ∧ y3 = I 3) ∨ (k = 6 ∧ y2 = 0 ∧ y3 = I 5) → y3 = I x → x = 1 ∨ x = 3 ∨ x = 5 → OK (PPO u0 TN SN σ d p o n q c f h s wt g u) (fb_M_rowPattern_27 N S (gg_M_rowPattern N S N) u b y2 y3 t) := fun t y2 y3 k x h1 hk hx hx2 => by
    unfold fb_M_rowPattern_27
    refine k_pattern h1 (by omega) (by omega) (fun v hv => ok_lt.mpr ?_)
    rw [nx1_e, e39]
    have hs2 := ST_nx (ST_pt hs hv) (show 0 ≤ p ∧ p ≤ 4001 by omega)
    obtain ⟨v1, v2, ⟨v3, v4, v5, v6, v7⟩, v8⟩ := id hv
    rw [e39] at v3 v4 v5 v6 v7
    have f2 : F (nx1 v) 67 = 0 := by rw [show F (nx1 v) 67 = F v 67 from wi_ne (by decide), v1.F (by decide)]; exact hf
    have f66 : F (nx1 v) 66 = F u 66 := by rw [show F (nx1 v) 66 = F v 66 from wi_ne (by decide), v1.F (by decide)]
    have kp : KPR σ u (nx1 v) := KPR_w0 (KPR_pt KPR_rf hv (by omega)) (by decide)
    have a60 : A (nx1 v) 60 σ = A u 60 σ := v1.A (by decide)
    have a : RWL u0 SN σ u (nx1 v) p q k 0 (p + 1) (q + 1) (-1) := by
      refine ⟨fun _ => q.toNat + 1, fun _ => (A u 60 σ).toNat, ⟨rfl, by show q.toNat + 1 = (q + 1).toNat; omega, rfl, by rw [a60]⟩, fun i hi => by omega, ⟨fun i hi => by omega, fun hi => by omega⟩, Or.inl ⟨rfl, rfl⟩, ?_, ⟨v3, v7, v6, fun z => by omega, fun _ => v5⟩, fun _ => Or.inr a60⟩
      rw [show (p + 1).toNat = p.toNat + 1 from by omega]
      exact BIN2_0 bk
    refine k_F (y := 0) rfl ⟨by decide, by decide⟩ (fun _ => ?_) (fun z => absurd f2 z)
    have e69n : F (nx1 v) 69 = p + 1 := hs2.2.1.1
    refine k_isSign hx ⟨by omega, by omega⟩ (by omega) (fun z => ?_) (fun z => ?_)
    · rw [lit0q]
      exact row194_N (kd := k) (t := 0) (x := x) tk hs2 f2 kp e39 a (by rcases hk with hk | hk; exact Or.inl ⟨hk.1, rfl, by omega, rfl⟩; exact Or.inr (Or.inl ⟨hk.1, rfl, by omega, rfl⟩)) hx2 (by omega) (by omega) hn hh hx
    · rw [show (-1 : Int32) = I (-1) from rfl, lit0q]
      exact row_loop (kd := k) tk hS ho e39 hk (by omega) (by omega) hn hh N 0 (nx1 v) (p + 1) (q + 1) (-1) hs2 f2 kp a (by omega) (by omega) (by omega) (by omega)
  refine k_isSign (s := 2) rfl ⟨by decide, by decide⟩ (by omega) (fun _ => ?_) (fun _ => ?_)
  · rw [br10]; exact main 5 1 3 5 3 rfl (Or.inl ⟨rfl, rfl, rfl⟩) rfl (by omega)
  · rw [br00]; exact main 6 0 5 6 5 rfl (Or.inr ⟨rfl, rfl, rfl⟩) rfl (by omega)
theorem pat388_F (hs : FSM u0 TN σ d v) (hx : r = I x ∧ -1 ≤ x ∧ x < 5000) : OK (FPA u0 TN σ d) (fb_M_patternAt_388 N S () v r) := by
  unfold fb_M_patternAt_388
  rw [clo1_e]
  exact ok_lt.mpr (ok_some.mpr ⟨FSM_wi hs (by decide), x, hx⟩)
theorem PEND_i {i : Nat} (h : A u0 6 i ≠ 6) : PEND u0 i (i + 1) := Or.inl ⟨h, rfl⟩
def BEG (u0 u : MS) (i : Nat) : Prop := A u0 6 i = 2 ∨ A u0 6 i = 4 ∨ A u0 6 i = 1 ∨ A u0 6 i = 5 ∨ IS u 2 ∨ IS u 4 ∨ IS u 0 ∨ IS u 19
def MFL (u : MS) (b : Int32) : Prop := (b = 1 ∧ IS u 19) ∨ (b = 0 ∧ ¬ IS u 19)
def PGD (u0 : MS) (TN SN σ : Nat) (p q p2 q2 : Int) (u v : MS) : Prop := (p2 ≤ TN ∧ q < q2 ∧ 2 * (q2 - q) ≤ p2 - p + 1) ∧ PEND u0 p.toNat p2.toNat ∧ PTT v SN q.toNat q2.toNat (A u 60 σ).toNat (A v 60 σ).toNat (A v 63 σ).toNat ∧ A v 37 q.toNat = -1 ∧ (F v 66 = 0 → A v 60 σ ≤ 40 ∨ A v 60 σ = A u 60 σ)
theorem pat_fin (ho : 0 ≤ o ∧ o ≤ 25) (hq : 0 ≤ q ∧ q < 5000) (hn : 0 ≤ n ∧ n ≤ 12000 + d) (hh : 0 ≤ h ∧ h + 60 * σ ≤ 23400) (h1 : ST u0 σ p2 (o + 1) n q2 c f h s wt g v) (h2 : KPR σ u v) (h3 : 0 ≤ p2 ∧ p2 ≤ TN + 1) (h4 : F v 67 = 0 → PGD u0 TN SN σ p q p2 q2 u v) : OK (PPO u0 TN SN σ d p o n q c f h s wt g u) (fb_M_patternAt_388 N S () v (I q)) := by
  by_cases z : F v 67 = 0
  · obtain ⟨g1, g2, g3, g4, g5⟩ := h4 z
    unfold fb_M_patternAt_388
    rw [clo1_e]
    refine ok_lt.mpr (ok_some.mpr (Or.inl ⟨(wi_ne (by decide)).trans z, rfl, p2, q2, ?_, KPR_w0 h2 (by decide), g1, g2, g3, g4, ?_⟩))
    · have := ST_cl h1 (by omega)
      rwa [show o + 1 - 1 = o from by omega] at this
    · rw [show F (clo1 v) 66 = F v 66 from wi_ne (by decide)]; exact g5
  · exact ok_mono (pat388_F (FSM_of h1 (by omega) hn hh z) ⟨rfl, by omega, by omega⟩) (fun _ _ => Or.inr)
theorem pat_one (hT : TN ≤ 4000) (hp : 0 ≤ p ∧ p < TN) (ho : 0 ≤ o ∧ o ≤ 25) (hq : 0 ≤ q ∧ q < 5000) (hn : 0 ≤ n ∧ n ≤ 12000 + d) (hh : 0 ≤ h ∧ h + 60 * σ ≤ 23400) (e39w : F w 39 = q) (a60 : A w 60 σ = A u 60 σ) (hv : PTV w v k) (h1 : ∀ r i, r ∉ [35] → A v2 r i = A v r i) (h3 : ST u0 σ p (o + 1) n (q + 1) c f h s wt g v2) (h4 : KPR σ u v2) (h6 : A u0 6 p.toNat ≠ 6) (h5 : k = 3 ∨ (k = 4 ∧ 0 ≤ A v2 35 q.toNat ∧ A v2 35 q.toNat < SN)) : OK (PPO u0 TN SN σ d p o n q c f h s wt g u) (fb_M_patternAt_388 N S () (nx1 v2) (I q)) := by
  obtain ⟨v1, -, ⟨v3, v4, v5, v6, v7⟩, v8⟩ := id hv
  rw [e39w] at v3 v6
  have b60 : A v2 60 σ = A u 60 σ := by rw [h1 60 _ (by decide), v1.A (by decide)]; exact a60
  refine pat_fin ho hq hn hh (ST_nx h3 (by omega)) (KPR_w0 h4 (by decide)) (by omega) (fun z => ⟨by omega, ?_, ?_, ?_, fun _ => Or.inr b60⟩)
  · rw [show (p + 1).toNat = p.toNat + 1 from by omega]; exact PEND_i h6
  · rw [show (q + 1).toNat = q.toNat + 1 from by omega, show A (nx1 v2) 60 σ = A u 60 σ from b60]
    refine PTT_one ?_
    rcases h5 with h5 | h5
    · exact Or.inr (Or.inl ⟨by rw [show A (nx1 v2) 33 q.toNat = A v2 33 q.toNat from rfl, h1 33 _ (by decide), v3]; exact h5, rfl⟩)
    · exact Or.inr (Or.inr (Or.inr (Or.inr ⟨by rw [show A (nx1 v2) 33 q.toNat = A v2 33 q.toNat from rfl, h1 33 _ (by decide), v3]; exact h5.1, rfl, h5.2⟩)))
  · rw [show A (nx1 v2) 37 q.toNat = A v2 37 q.toNat from rfl, h1 37 _ (by decide)]; exact v6
theorem ST_wj (s5 : ST u0 σ p o n q c f h s wt g v) {i : Nat} {t : Int64} : ST u0 σ p o n q c f h s wt g (wj v 34 i t) := ⟨FR.wj s5.1 (by decide), s5.2.1, s5.2.2.1, s5.2.2.2.1, s5.2.2.2.2.1, s5.2.2.2.2.2⟩
theorem KPR_wj (k5 : KPR σ u v) {i : Nat} {t : Int64} : KPR σ u (wj v 34 i t) := ⟨FR.wj k5.1 (by decide), k5.2⟩
def NUM1 (u0 : MS) (p p1 : Int) : Prop := (p1 = p ∧ A u0 6 p.toNat = 4) ∨ (p1 = p + 1 ∧ A u0 6 p.toNat = 6 ∧ A u0 7 p.toNat = 19)
theorem pat_199 {mf : Int32} (tk : TKW u0 TN SN bw) (hp : 0 ≤ p ∧ p ≤ TN) (hp1 : 0 ≤ p1 ∧ p1 ≤ TN) (ho : 0 ≤ o ∧ o ≤ 25) (hq : 0 ≤ q ∧ q < 5000) (hn : 0 ≤ n ∧ n ≤ 12000 + d) (hh : 0 ≤ h ∧ h + 60 * σ ≤ 23400) (s4 : ST u0 σ p1 (o + 1) n q c f h s wt g v) (k4 : KPR σ u v) (b60 : A v 60 σ = A u 60 σ) (h4 : F v 67 = 0 → NUM1 u0 p p1 ∧ A u0 6 p1.toNat = 4) : OK (PPO u0 TN SN σ d p o n q c f h s wt g u) (fb_M_patternAt_199 N S () v mf) := by
  have hT := tk.1.1
  unfold fb_M_patternAt_199
  have e39v : F v 39 = q := s4.2.1.2.2.2.1
  refine k_pattern (k := 3) rfl (by decide) (by omega) (fun v5 hv5 => ?_)
  have s5 := ST_pt s4 hv5
  have k5 := KPR_pt k4 hv5 (by omega)
  obtain ⟨w1, w2, ⟨w3, w4, w5, w6, w7⟩, w8⟩ := id hv5
  rw [e39v] at w3 w6
  have e5 : F v5 69 = p1 := s5.2.1.1
  have t239 : ∀ t3 : Int32, OK (PPO u0 TN SN σ d p o n q c f h s wt g u) (fb_M_patternAt_239 N S () v5 (I (F v 39)) 34 (I (F v 39)) 0 t3) := fun t3 => by
    unfold fb_M_patternAt_239
    rw [show (0 : Int32) = I 0 from rfl, I_of t3, term_e, bnd_so, show isK 34 5 = true by decide, ck_t, e39v]
    refine k_in (k := 34) (n := 5000) rfl (by decide) (by omega) (ok_lt.mpr (ok_lt.mpr ?_))
    rw [I_tn (x := q) (by omega) (by omega), wj_e, nx1_e]
    generalize mk 0 t3.toInt = tt
    have c60 : A (wj v5 34 q.toNat tt) 60 σ = A u 60 σ := by rw [A_wj, w1.A (by decide)]; exact b60
    have f6 : F (wj v5 34 q.toNat tt) 67 = F v 67 := by rw [F_wj]; exact w1.F (by decide)
    refine pat_fin ho hq hn hh (ST_nx (ST_wj s5) (by omega)) (KPR_w0 (KPR_wj k5) (by decide)) (by omega) (fun z => ?_)
    have z2 : F v 67 = 0 := by rw [← f6, ← z]; exact (wi_ne (by decide)).symm
    obtain ⟨z3, z4⟩ := h4 z2
    have lt3 := tok_lt tk hp1 (show ¬ (A u0 6 (p1).toNat = 0 ∨ A u0 6 (p1).toNat = 7) by omega)
    have bnd3 : p ≤ p1 ∧ p1 ≤ p + 1 := by
      rcases z3 with ⟨z5, -⟩ | ⟨z5, -⟩
      · omega
      · omega
    refine ⟨by omega, ?_, ?_, w6, fun _ => Or.inr c60⟩
    · rcases z3 with ⟨z5, z6⟩ | ⟨z5, z6, z7⟩
      · rw [z5, show (p + 1).toNat = p.toNat + 1 from by omega]; exact PEND_i (by omega)
      · rw [z5] at z4
        refine Or.inr (Or.inl ⟨z6, z7, by omega, ?_⟩)
        unfold brk
        rw [show p.toNat + 1 = (p + 1).toNat from by omega, if_neg (by omega)]
    · rw [show (q + 1).toNat = q.toNat + 1 from by omega, show A (nx1 (wj v5 34 q.toNat tt)) 60 σ = A u 60 σ from c60]
      exact PTT_one (Or.inr (Or.inl ⟨w3, rfl⟩))
  refine ok_br.mpr ⟨fun _ => k_at (k := 7) (n := 4002) rfl (by decide) (by omega) (t239 _), fun _ => k_at (k := 7) (n := 4002) rfl (by decide) (by omega) (t239 _)⟩
theorem pat_178 {mf : Int32} (tk : TKW u0 TN SN bw) (hp : 0 ≤ p ∧ p ≤ TN) (hp1 : 0 ≤ p1 ∧ p1 ≤ TN) (ho : 0 ≤ o ∧ o ≤ 25) (hq : 0 ≤ q ∧ q < 5000) (hn : 0 ≤ n ∧ n ≤ 12000 + d) (hh : 0 ≤ h ∧ h + 60 * σ ≤ 23400) (s4 : ST u0 σ p2 (o + 1) n q c f h s wt g v) (k4 : KPR σ u v) (b60 : A v 60 σ = A u 60 σ) (h4 : NUM1 u0 p p1) (hy : y1 = I p1) : OK (PPO u0 TN SN σ d p o n q c f h s wt g u) (fb_M_patternAt_178 N S () v mf y1) := by
  have hT := tk.1.1
  unfold fb_M_patternAt_178
  rw [hy, wi_e]
  refine ok_lt.mpr ?_
  have s3 := ST_69 (x := p1) s4 ⟨by omega, by omega⟩
  have k3 : KPR σ u (wi v 69 p1) := KPR_w0 k4 (by decide)
  have e3 : F (wi v 69 p1) 69 = p1 := s3.2.1.1
  have a60v : A (wi v 69 p1) 60 σ = A u 60 σ := b60
  generalize wi v 69 p1 = x3 at *
  refine k_at (k := 6) (n := 4002) rfl (by decide) (by omega) ?_
  rw [tn_F, e3]
  have a6x : A x3 6 p1.toNat = A u0 6 p1.toNat := ST_A s3 (by decide)
  refine k_A (y := 4) rfl ⟨by decide, by decide⟩ (fun z => ?_) (fun z => ?_)
  · exact pat_199 tk hp hp1 ho hq hn hh s3 k3 a60v (fun z2 => ⟨h4, by rw [← a6x]; exact z⟩)
  · exact k_wrong (s := 2) rfl ⟨by decide, by decide⟩ (by decide) (by omega) (fun v4 h1 h2 => pat_199 tk hp hp1 ho hq hn hh (ST_67 s3 h1) (KPR_67 k3 h1) ((h1.A (by intro z; cases z)).trans a60v) (fun z2 => absurd z2 h2))
theorem pat_160 {mf : Int32} (tk : TKW u0 TN SN bw) (hu : ST u0 σ p o n q c f h s wt g u) (hp : 0 ≤ p ∧ p < TN) (ho : 0 ≤ o ∧ o ≤ 25) (hq : 0 ≤ q ∧ q < 5000) (hn : 0 ≤ n ∧ n ≤ 12000 + d) (hh : 0 ≤ h ∧ h + 60 * σ ≤ 23400) (s4 : ST u0 σ p (o + 1) n q c f h s wt g v) (k4 : KPR σ u v) (b60 : A v 60 σ = A u 60 σ) (hm : MFL u mf) (h4 : A u0 6 p.toNat = 4 ∨ IS u 19) : OK (PPO u0 TN SN σ d p o n q c f h s wt g u) (fb_M_patternAt_160 N S () v mf) := by
  have hT := tk.1.1
  have e69w : F v 69 = p := s4.2.1.1
  unfold fb_M_patternAt_160
  rcases hm with ⟨hm1, hm2⟩ | ⟨hm1, hm2⟩
  · have z := ST_IS hu hm2
    subst hm1
    rw [br10]
    exact pat_178 tk ⟨hp.1, by omega⟩ (p1 := p + 1) (by omega) ho hq hn hh s4 k4 b60 (Or.inr ⟨rfl, z⟩) (by rw [I_F' e69w, lit1q, I_add])
  · subst hm1
    rw [br00]
    exact pat_178 tk ⟨hp.1, by omega⟩ (p1 := p) (by omega) ho hq hn hh s4 k4 b60 (Or.inl ⟨rfl, h4.resolve_right hm2⟩) (I_F' e69w)
theorem pat_open (tk : TKW u0 TN SN bw) (hp : 0 ≤ p ∧ p < TN) (ho : 0 ≤ o ∧ o ≤ 24) (hq : 0 ≤ q ∧ 2 * q + (TN - p) ≤ 8000 + 2 * o) (hn : 0 ≤ n ∧ n ≤ 12000 + d) (hh : 0 ≤ h ∧ h + 60 * σ ≤ 23400) (s4 : ST u0 σ p (o + 1) n q c f h s wt g w) (k4 : KPR σ u w) (b60 : A w 60 σ = A u 60 σ) (f0 : F w 67 = 0) (z0 : IS w 0) (hS2 : PASP u0 TN SN σ d S.2 (o + 1)) : OK (PPO u0 TN SN σ d p o n q c f h s wt g u) (bnd (S.2 (nx1 w) y1) (fun u11 r11 => bnd (fm_M_needSign N u11 1) (fun u12 _ => fb_M_patternAt_388 N S () u12 (r11)))) := by
  have hT := tk.1.1
  have z2 := ST_IS s4 z0
  have s1 := ST_nx s4 (show 0 ≤ p ∧ p ≤ 4001 by omega)
  have kw1 : KPR σ u (nx1 w) := KPR_w0 k4 (by decide)
  refine ok_bnd.mpr (ok_mono (hS2 (nx1 w) y1 _ _ _ _ _ _ _ _ _ s1 ((wi_ne (by decide)).trans f0) (by omega) (by omega) hn hh) (fun v2 r2 hv2 => ?_))
  rcases hv2 with ⟨c1, c2, p3, q3, c3, c4, c5, c6, c7, c8, c9⟩ | ⟨hv2, x2, hx2⟩
  · have e3 : F v2 69 = p3 := c3.2.1.1
    have bs : BIN2 u0 p.toNat p3.toNat := by
      refine BIN2_p (b := p.toNat + 1) (BIN2_0 ?_) (by rw [show p.toNat + 1 = (p + 1).toNat from by omega]; exact c6)
      unfold brk
      rw [if_pos z2.1, if_pos (by omega)]
    have bl := (PEND_b c6).1
    have b60' : A (nx1 w) 60 σ = A u 60 σ := b60
    rw [b60'] at c7 c9
    rw [c2]
    refine k_needSign (s := 1) rfl ⟨by decide, by decide⟩ (by omega) (fun g0 zc => ?_) (fun v3 h3 h4 => ?_)
    · have zc2 := ST_IS c3 zc
      have lt3 := tok_lt tk (by omega) (show ¬ (A u0 6 (p3).toNat = 0 ∨ A u0 6 (p3).toNat = 7) by omega)
      refine pat_fin (by omega) (by omega) hn hh (ST_nx c3 (by omega)) (KPR_w0 (KPR_tr kw1 c4) (by decide)) (by omega) (fun _ => ⟨by omega, ?_, c7, c8, ?_⟩)
      · rw [show (p3 + 1).toNat = p3.toNat + 1 from by omega]
        exact BIN2_c bs (brk_c zc2.1 (by omega))
      · rw [show F (nx1 v2) 66 = F v2 66 from wi_ne (by decide)]
        exact c9
    · exact ok_mono (pat388_F (FSM_of (ST_67 c3 h3) (by omega) hn hh h4) ⟨rfl, by omega, by omega⟩) (fun _ _ => Or.inr)
  · refine k_needSign (s := 1) rfl ⟨by decide, by decide⟩ (FSM_p hv2 hT) (fun g0 => absurd g0 hv2.2.1) (fun v3 h3 h4 => ?_)
    exact ok_mono (pat388_F (FSM_67 hv2 h3 h4) hx2) (fun _ _ => Or.inr)
theorem IS_tr (hs : ST u0 σ p o n q c f h s wt g u) (sw : ST u0 σ p o1 n q c f h s wt g w) {t : Int} (ht : IS u t) : IS w t := by
  have := ST_IS hs ht
  have e69w : F w 69 = p := sw.2.1.1
  unfold IS
  rw [e69w, ST_A sw (by decide), ST_A sw (by decide)]
  exact this
theorem pat_main {mf : Int32} (tk : TKW u0 TN SN bw) (hN : 5000 ≤ N) (hσ : σ ≤ 26) (ho : 0 ≤ o ∧ o ≤ 25) (hS2 : o ≤ 24 → PASP u0 TN SN σ d S.2 (o + 1)) (hS1 : o ≤ 24 → RPSP u0 TN SN σ d S.1 (o + 1)) (hSF : RPFM u0 TN σ d S.1) (hs : ST u0 σ p o n q c f h s wt g u) (hf : F u 67 = 0) (hp : 0 ≤ p ∧ p < TN) (hq : 0 ≤ q ∧ 2 * q + (TN - p) ≤ 8000 + 2 * o) (hn : 0 ≤ n ∧ n ≤ 12000 + d) (hh : 0 ≤ h ∧ h + 60 * σ ≤ 23400) (hmf : MFL u mf) (hb : BEG u0 u p.toNat) : OK (PPO u0 TN SN σ d p o n q c f h s wt g u) (fb_M_patternAt_101 N S () u y1 mf 1) := by
  have hT := tk.1.1
  have e69 : F u 69 = p := hs.2.1.1
  have e70 : F u 70 = o := hs.2.1.2.1
  have q5 : 0 ≤ q ∧ q < 5000 := by omega
  unfold fb_M_patternAt_101
  rw [br10]
  refine k_opens2 (by omega) (fun w hw => ?_)
  have sw := OPN_ST hs (by omega) hw
  have kw : KPR σ u w := OPN_KP hw
  have o24 : F w 67 = 0 → o ≤ 24 := fun z => by
    rcases OPN_67 hf hw with fw | fw
    · omega
    · exact absurd z fw.1
  have e69w : F w 69 = p := sw.2.1.1
  have e39w : F w 39 = q := sw.2.1.2.2.2.1
  have tnw : (w.1 69).toNatClampNeg = p.toNat := by rw [tn_F, e69w]
  have a6w : A w 6 p.toNat = A u0 6 p.toNat := ST_A sw (by decide)
  have a60 : A w 60 σ = A u 60 σ := OPN_A hw
  clear hw
  have inw : ∀ (y : Option (MS × Int32)), OK (PPO u0 TN SN σ d p o n q c f h s wt g u) y → OK (PPO u0 TN SN σ d p o n q c f h s wt g u) (ck (inb (w.1 69) (ln 6)) y) := fun y hy => k_at (k := 6) (n := 4002) rfl (by decide) (by omega) hy
  refine inw _ ?_
  rw [tnw]
  refine k_A (y := 2) rfl ⟨by decide, by decide⟩ (fun z => ?_) (fun z => ?_)
  · rw [a6w] at z
    refine ok_bnd.mpr (ok_mono (namePattern_ok tk hN sw hσ (by omega) z (by omega)) (fun v r hv => ?_))
    obtain ⟨hr, h1, h2, h3, ⟨h4, h5, h6⟩, h7⟩ := hv
    rw [hr]
    refine pat_fin ho q5 hn hh h1 (KPR_tr kw h2) (by omega) (fun _ => ⟨by omega, ?_, ?_, h5, ?_⟩)
    · rw [show (p + 1).toNat = p.toNat + 1 from by omega]; exact PEND_i (by omega)
    · rw [show (q + 1).toNat = q.toNat + 1 from by omega]
      have sp := (sw.2.2.2.1 σ (Nat.le_refl σ)).1.1
      rw [a60] at h7 sp
      refine PTT_one ?_
      rcases h7 with ⟨h7, h8⟩ | ⟨h7, h8, -⟩ | ⟨h7, h8, h9⟩
      · exact Or.inl ⟨h7, by rw [h8]⟩
      · exact Or.inr (Or.inr (Or.inl ⟨h7, by rw [h8]; omega⟩))
      · exact Or.inr (Or.inr (Or.inr (Or.inl ⟨h7, by rw [h8], h9⟩)))
    · rw [a60] at h7
      intro y
      rcases h7 with ⟨-, h8⟩ | ⟨-, h8, h9⟩ | ⟨-, h8, -⟩
      · exact Or.inr h8
      · exact Or.inl (h9 y)
      · exact Or.inr h8
  · rw [a6w] at z
    rcases id hmf with ⟨hm1, hm2⟩ | ⟨hm1, hm2⟩
    · have := pat_160 (S := S) (N := N) tk hs hp ho q5 hn hh sw kw a60 hmf (Or.inr hm2)
      subst hm1
      rw [br10]
      exact this
    · have n160 : A u0 6 p.toNat = 4 → OK (PPO u0 TN SN σ d p o n q c f h s wt g u) (fb_M_patternAt_160 N S () w mf) := fun z4 => pat_160 (S := S) (N := N) tk hs hp ho q5 hn hh sw kw a60 hmf (Or.inl z4)
      clear hmf
      subst hm1
      rw [br00]
      refine inw _ (k_A (y := 4) rfl ⟨by decide, by decide⟩ (fun z4 => n160 (by rw [← a6w]; exact z4)) (fun z4 => ?_))
      refine inw _ (k_A (y := 1) rfl ⟨by decide, by decide⟩ (fun z1 => ?_) (fun z1 => ?_))
      · rw [a6w] at z1
        refine k_pattern (k := 3) rfl (by decide) (by omega) (fun v5 hv5 => ?_)
        have s5 := ST_pt sw hv5
        have k5 := KPR_pt kw hv5 (by omega)
        have e5 : F v5 69 = p := s5.2.1.1
        rw [e39w]
        refine k_at (k := 7) (n := 4002) rfl (by decide) (by omega) ?_
        rw [show (1 : Int32) = I 1 from rfl, I_A (w := v5) (k := 7), term_e, bnd_so]
        refine k_in (k := 34) (n := 5000) rfl (by decide) (by omega) (ok_lt.mpr (ok_lt.mpr ?_))
        rw [I_tn (x := q) (by omega) (by omega), wj_e, ← lit1q, nx1_e]
        generalize mk 1 _ = tt
        exact pat_one hT hp ho q5 hn hh e39w a60 hv5 (fun r i _ => rfl) (ST_wj s5) (KPR_wj k5) (by omega) (Or.inl rfl)
      · refine inw _ (k_A (y := 5) rfl ⟨by decide, by decide⟩ (fun z5 => ?_) (fun z5 => ?_))
        · rw [a6w] at z5
          have sv := (tk.2.1 p.toNat (by omega)).2.2.2.2.2 z5
          refine k_pattern (k := 4) rfl (by decide) (by omega) (fun v5 hv5 => ?_)
          have s5 := ST_pt sw hv5
          have k5 := KPR_pt kw hv5 (by omega)
          have e5 : F v5 69 = p := s5.2.1.1
          have hu39 : F u 39 = q := hs.2.1.2.2.2.1
          rw [e39w]
          refine k_at (k := 7) (n := 4002) rfl (by decide) (by omega) (k_in (k := 35) (n := 5000) rfl (by decide) (by omega) (ok_lt.mpr (ok_lt.mpr ?_)))
          rw [I_tn (x := q) (by omega) (by omega), tn_F, e5, I_A' (show A v5 7 p.toNat = A u0 7 p.toNat from ST_A s5 (by decide)), wa_e, nx1_e]
          refine pat_one hT hp ho q5 hn hh e39w a60 hv5 (fun r i hr => wa_rne (fun z => hr (by rw [z]; decide))) (ST_wa s5 (by decide)) (KPR_wp k5 (by decide) (by omega)) (by omega) (Or.inr ⟨rfl, ?_⟩)
          rw [wa_eq (ARG1 u0 7 _)]
          exact sv
        · rw [a6w] at z4 z1 z5
          refine k_takeSign (s := 0) rfl ⟨by decide, by decide⟩ (by omega) (fun f0 z0 => ?_) (fun z0 => ?_)
          · rw [br10]
            exact pat_open tk hp ⟨ho.1, o24 f0⟩ hq hn hh sw kw a60 f0 z0 (hS2 (o24 f0))
          · rw [br00]
            by_cases f0 : F w 67 = 0
            · have nz : ¬ IS w 0 := z0.resolve_left (fun y => y f0)
              have o24' := o24 f0
              have hi : IS w 2 ∨ IS w 4 := by
                rcases hb with h | h | h | h | h | h | h | h
                · exact absurd h z
                · exact absurd h z4
                · exact absurd h z1
                · exact absurd h z5
                · exact Or.inl (IS_tr hs sw h)
                · exact Or.inr (IS_tr hs sw h)
                · exact absurd (IS_tr hs sw h) nz
                · exact absurd h hm2
              refine ok_bnd.mpr (ok_mono (hS1 o24' w y1 _ _ _ _ _ _ _ _ _ sw f0 hi (by omega) (by omega) hn hh) (fun v2 r2 hv2 => ?_))
              rcases hv2 with ⟨c1, c2, p3, q3, c3, c4, c5, c6, c7, c8, c9⟩ | ⟨hv2, x2, hx2⟩
              · rw [c2]
                have bl := (PEND_b c6).1
                rw [a60] at c7 c9
                exact pat_fin ho q5 hn hh c3 (KPR_tr kw c4) (by omega) (fun _ => ⟨c5, c6, c7, c8, c9⟩)
              · exact ok_mono (pat388_F hv2 hx2) (fun _ _ => Or.inr)
            · refine ok_bnd.mpr (ok_mono (hSF w y1 _ _ _ _ _ _ _ _ _ _ sw f0 (by omega) (by omega) hn hh) (fun v2 r2 hv2 => ?_))
              obtain ⟨hv2, x2, hx2⟩ := hv2
              exact ok_mono (pat388_F hv2 hx2) (fun _ _ => Or.inr)
theorem patAt_ok (tk : TKW u0 TN SN bw) (hN : 5000 ≤ N) (hσ : σ ≤ 26) (ho : 0 ≤ o ∧ o ≤ 25) (hS2 : o ≤ 24 → PASP u0 TN SN σ d S.2 (o + 1)) (hS1 : o ≤ 24 → RPSP u0 TN SN σ d S.1 (o + 1)) (hSF : RPFM u0 TN σ d S.1) : PASP u0 TN SN σ d (fm_M_patternAt N S) o := by
  intro u b p n q c f h s wt g hs hf hp hq hn hh
  have hT := tk.1.1
  have e69 : F u 69 = p := hs.2.1.1
  have tn : (u.1 69).toNatClampNeg = p.toNat := by rw [tn_F, e69]
  have a6 : A u 6 p.toNat = A u0 6 p.toNat := ST_A hs (by decide)
  unfold fm_M_patternAt fb_M_patternAt_0
  refine k_F (y := 0) rfl ⟨by decide, by decide⟩ (fun _ => ?_) (fun z => absurd hf z)
  refine k_isSign2 (x := 19) rfl ⟨by decide, by decide⟩ (by omega) (fun mf hmf => ?_)
  have m96 : BEG u0 u p.toNat → OK (PPO u0 TN SN σ d p o n q c f h s wt g u) (fb_M_patternAt_96 N S () u b mf) := fun hb => by
    unfold fb_M_patternAt_96
    refine pat_main tk hN hσ ho hS2 hS1 hSF hs hf ⟨hp.1, tok_lt tk hp (fun z => ?_)⟩ hq hn hh hmf hb
    rcases hb with h | h | h | h | h | h | h | h
    · omega
    · omega
    · omega
    · omega
    all_goals (have := (ST_IS hs h).1; omega)
  have inu : ∀ (y : Option (MS × Int32)), OK (PPO u0 TN SN σ d p o n q c f h s wt g u) y → OK (PPO u0 TN SN σ d p o n q c f h s wt g u) (ck (inb (u.1 69) (ln 6)) y) := fun y hy => k_at (k := 6) (n := 4002) rfl (by decide) (by omega) hy
  have hp4 : 0 ≤ F u 69 ∧ F u 69 ≤ 4001 := by omega
  rw [tn]
  refine inu _ (k_A (y := 2) rfl ⟨by decide, by decide⟩ (fun z => m96 (Or.inl (by rw [← a6]; exact z))) (fun _ => ?_))
  refine inu _ (k_A (y := 4) rfl ⟨by decide, by decide⟩ (fun z => m96 (Or.inr (Or.inl (by rw [← a6]; exact z)))) (fun _ => ?_))
  refine inu _ (k_A (y := 1) rfl ⟨by decide, by decide⟩ (fun z => m96 (Or.inr (Or.inr (Or.inl (by rw [← a6]; exact z))))) (fun _ => ?_))
  refine inu _ (k_A (y := 5) rfl ⟨by decide, by decide⟩ (fun z => m96 (Or.inr (Or.inr (Or.inr (Or.inl (by rw [← a6]; exact z)))))) (fun _ => ?_))
  refine k_isSign (s := 2) rfl ⟨by decide, by decide⟩ hp4 (fun z => m96 (Or.inr (Or.inr (Or.inr (Or.inr (Or.inl z)))))) (fun _ => ?_)
  refine k_isSign (s := 4) rfl ⟨by decide, by decide⟩ hp4 (fun z => m96 (Or.inr (Or.inr (Or.inr (Or.inr (Or.inr (Or.inl z))))))) (fun _ => ?_)
  refine k_isSign (s := 0) rfl ⟨by decide, by decide⟩ hp4 (fun z => m96 (Or.inr (Or.inr (Or.inr (Or.inr (Or.inr (Or.inr (Or.inl z)))))))) (fun _ => ?_)
  rcases hmf with ⟨hm1, hm2⟩ | ⟨hm1, hm2⟩
  · have := m96 (Or.inr (Or.inr (Or.inr (Or.inr (Or.inr (Or.inr (Or.inr hm2)))))))
    subst hm1
    rw [br10]
    exact this
  · subst hm1
    rw [br00]
    unfold fb_M_patternAt_101
    rw [br00]
    exact k_wrong (s := 2) rfl ⟨by decide, by decide⟩ (by decide) hp4 (fun v4 h1 h2 => ok_some.mpr (Or.inr ⟨FSM_of (ST_67 hs h1) (by omega) hn hh h2, -1, rfl, by omega, by omega⟩))
theorem patternAt_all (tk : TKW u0 TN SN bw) (hN : 5000 ≤ N) (hσ : σ ≤ 26) : ∀ (m : Nat), (∀ o : Int, 0 ≤ o ∧ o ≤ 25 → 2 * (26 - o) ≤ m → PASP u0 TN SN σ d (rc_M_rowPattern N m).2 o) ∧ (∀ o : Int, 0 ≤ o ∧ o ≤ 25 → 2 * (26 - o) + 1 ≤ m → RPSP u0 TN SN σ d (rc_M_rowPattern N m).1 o) ∧ (1 ≤ m → RPFM u0 TN σ d (rc_M_rowPattern N m).1) := by
  intro m
  induction m with
  | zero => exact ⟨fun o h1 h2 => by omega, fun o h1 h2 => by omega, fun h => by omega⟩
  | succ m ih =>
    obtain ⟨i1, i2, i3⟩ := ih
    refine ⟨fun o h1 h2 => ?_, fun o h1 h2 => ?_, fun _ => ?_⟩
    · exact patAt_ok tk hN hσ h1 (fun h3 => i1 (o + 1) (by omega) (by omega)) (fun h3 => i2 (o + 1) (by omega) (by omega)) (i3 (by omega))
    · exact rowPat_N tk hN h1 (i1 o h1 (by omega))
    · exact rowPat_F tk.1.1
theorem patternAt_ok (tk : TKW u0 TN SN bw) (hN : 5000 ≤ N) (hσ : σ ≤ 26) (ho : 0 ≤ o ∧ o ≤ 25) : PASP u0 TN SN σ d (fr_M_patternAt N) o := (patternAt_all tk hN hσ 60).1 o ho (by omega)
theorem patternAt_F {b : Int32} (hf : F u 67 ≠ 0) : fr_M_patternAt N u b = some (u, -1) := by
  show fb_M_patternAt_0 N _ () u b = _
  unfold fb_M_patternAt_0
  rw [I_F (k := 67), lit0q, decE (F_r u 67).1 (F_r u 67).2 (by omega) (by omega), decide_eq_false hf, br_fq]
end
end
section
def CHL (w : MS) : Nat → Int → List Nat → Prop
  | _, x, [] => x = -1
  | b, x, r :: l => x = ((r : Nat) : Int) ∧ r < b ∧ CHL w r (A w 29 r) l
def RTD (w : MS) : Nat → Nat → Nat → Prop
  | 0, a, n => a ≤ n ∧ A w 28 n = -1
  | h + 1, a, n => a ≤ n ∧ ∃ l, CHL w n (A w 28 n) l ∧ ∀ r, r ∈ l → RTD w h a r
section
variable {u v w w2 : MS} {N a b n : Nat}
theorem CHL_len : ∀ (l : List Nat) (b : Nat) (x : Int), CHL w b x l → l.length ≤ b := by
  intro l
  induction l with
  | nil => intro b x _; exact Nat.zero_le _
  | cons r l ih =>
    intro b x h
    have := ih r _ h.2.2
    have := h.2.1
    show l.length + 1 ≤ b
    omega
theorem CHL_lt : ∀ (l : List Nat) (b : Nat) (x : Int), CHL w b x l → ∀ r, r ∈ l → r < b := by
  intro l
  induction l with
  | nil => intro b x _ r hr; cases hr
  | cons r l ih =>
    intro b x h r' hr'
    rcases List.mem_cons.mp hr' with e | e
    · rw [e]; exact h.2.1
    · exact Nat.lt_trans (ih r _ h.2.2 r' e) h.2.1
theorem CHL_fr : ∀ (l : List Nat) (b : Nat) (x : Int), (∀ r, r ∈ l → A w2 29 r = A w 29 r) → CHL w b x l → CHL w2 b x l := by
  intro l
  induction l with
  | nil => intro b x _ h; exact h
  | cons r l ih =>
    intro b x hf h
    refine ⟨h.1, h.2.1, ?_⟩
    rw [hf r (List.mem_cons_self ..)]
    exact ih r _ (fun r' hr' => hf r' (List.mem_cons_of_mem _ hr')) h.2.2
theorem RTD_a : ∀ (h n : Nat), RTD w h a n → a ≤ n := by
  intro h n z
  cases h with
  | zero => exact z.1
  | succ h => exact z.1
theorem RTD_fr : ∀ (h n : Nat), RTD w h a n → A w2 28 n = A w 28 n → (∀ r i, r ∈ [28, 29] → a ≤ i → i < n → A w2 r i = A w r i) → RTD w2 h a n := by
  intro h
  induction h with
  | zero => intro n z e _; exact ⟨z.1, by rw [e]; exact z.2⟩
  | succ h ih =>
    intro n z e f
    obtain ⟨z1, l, z2, z3⟩ := z
    refine ⟨z1, l, ?_, fun r hr => ?_⟩
    · rw [e]
      exact CHL_fr l n _ (fun r hr => f 29 r (by decide) (RTD_a h r (z3 r hr)) (CHL_lt l n _ z2 r hr)) z2
    · have lt := CHL_lt l n _ z2 r hr
      exact ih r (z3 r hr) (f 28 r (by decide) (RTD_a h r (z3 r hr)) lt) (fun r2 i h1 h2 h3 => f r2 i h1 h2 (by omega))
theorem RTD_mo : ∀ (h k n : Nat), RTD w h a n → h ≤ k → RTD w k a n := by
  intro h
  induction h with
  | zero =>
    intro k n z _
    cases k with
    | zero => exact z
    | succ k => exact ⟨z.1, [], z.2, fun r hr => by cases hr⟩
  | succ h ih =>
    intro k n z hk
    cases k with
    | zero => omega
    | succ k =>
      obtain ⟨z1, l, z2, z3⟩ := z
      exact ⟨z1, l, z2, fun r hr => ih k r (z3 r hr) (by omega)⟩
theorem RTD_dn {a2 : Nat} (ha : a2 ≤ a) : ∀ (h n : Nat), RTD w h a n → RTD w h a2 n := by
  intro h
  induction h with
  | zero => intro n z; exact ⟨by have := z.1; omega, z.2⟩
  | succ h ih =>
    intro n z
    obtain ⟨z1, l, z2, z3⟩ := z
    exact ⟨by omega, l, z2, fun r hr => ih r (z3 r hr)⟩
def LSQ (u : MS) (R : Nat → Prop) (v : MS) : Prop := FR [] [] [30] [] u v ∧ (∀ n, A v 30 n ≠ A u 30 n → A u 23 n = 12 ∨ A u 23 n = 13) ∧ ∀ P : Nat → Prop, (∀ n, R n → P n) → (∀ n x : Nat, P n → A u 28 n = x → P x) → (∀ n x : Nat, P n → A u 29 n = x → P x) → ∀ n, A v 30 n ≠ A u 30 n → P n
theorem LSQ_rf {R : Nat → Prop} : LSQ u R u := ⟨FR.rf, fun n z => absurd rfl z, fun _ _ _ _ n z => absurd rfl z⟩
theorem LSQ_tr {R R2 : Nat → Prop} (h1 : LSQ u R v) (h2 : LSQ v R2 w) : LSQ u (fun n => R n ∨ R2 n) w := by
  refine ⟨FR.tr h1.1 h2.1, fun n hn => ?_, fun P p1 p2 p3 n hn => ?_⟩
  · by_cases e : A v 30 n = A u 30 n
    · have := h2.2.1 n (by rw [e]; exact hn)
      rw [h1.1.A (by decide)] at this
      exact this
    · exact h1.2.1 n e
  by_cases e : A v 30 n = A u 30 n
  · refine h2.2.2 P (fun n hn => p1 n (Or.inr hn)) (fun n x hn hx => p2 n x hn ?_) (fun n x hn hx => p3 n x hn ?_) n (by rw [e]; exact hn)
    · rw [← h1.1.A (by decide)]; exact hx
    · rw [← h1.1.A (by decide)]; exact hx
  · exact h1.2.2 P (fun n hn => p1 n (Or.inl hn)) p2 p3 n e
theorem LSQ_mo {R R2 : Nat → Prop} (h1 : LSQ u R v) (h : ∀ n, R n → R2 n) : LSQ u R2 v := ⟨h1.1, h1.2.1, fun P p1 => h1.2.2 P (fun n hn => p1 n (h n hn))⟩
theorem last_loop {S : SG_M_last} {h : Nat} (hS : ∀ (u : MS) (r : Nat), r < 16000 → RTD u h a r → OK (fun v _ => LSQ u (fun i => i = r) v) (S u (I r))) : ∀ (l : List Nat) (m : Nat) (u : MS) (b : Nat) (x : Int), CHL u b x l → b ≤ 16000 → (∀ r, r ∈ l → RTD u h a r) → l.length < m → OK (fun v _ => LSQ u (fun i => i ∈ l) v) (gg_M_last N S m u (I x)) := by
  intro l
  induction l with
  | nil =>
    intro m u b x hc _ _ hm
    obtain ⟨m', rfl⟩ : ∃ m', m = m' + 1 := ⟨m - 1, by have : 0 < m := hm; omega⟩
    show OK _ (fb_M_last_42 N S (gg_M_last N S m') u (I x))
    unfold fb_M_last_42
    rw [show x = -1 from hc, show (-1 : Int32) = I (-1) from rfl]
    exact k_eq ⟨by decide, by decide⟩ ⟨by decide, by decide⟩ (fun _ => ok_some.mpr LSQ_rf) (fun z => absurd rfl z)
  | cons r l ih =>
    intro m u b x hc hb hr hm
    obtain ⟨m', rfl⟩ : ∃ m', m = m' + 1 := ⟨m - 1, by have : l.length + 1 < m := hm; omega⟩
    have hm' : l.length < m' := by have : l.length + 1 < m' + 1 := hm; omega
    obtain ⟨c1, c2, c3⟩ := hc
    show OK _ (fb_M_last_42 N S (gg_M_last N S m') u (I x))
    unfold fb_M_last_42
    rw [c1, show (-1 : Int32) = I (-1) from rfl]
    refine k_eq ⟨by omega, by omega⟩ ⟨by decide, by decide⟩ (fun z => by omega) (fun _ => ?_)
    refine ok_bnd.mpr (ok_mono (hS u r (by omega) (hr r (List.mem_cons_self ..))) (fun v _ hv => ?_))
    refine k_in (k := 29) (n := 16000) rfl (by decide) (by omega) ?_
    rw [I_tn (by omega) (by omega), Int.toNat_natCast, I_A' (hv.1.A (k := 29) (i := r) (by decide))]
    refine ok_mono (ih m' v r (A u 29 r) (CHL_fr l r _ (fun r' _ => hv.1.A (by decide)) c3) (by omega) (fun r' hr' => ?_) hm') (fun w _ hw => LSQ_mo (LSQ_tr hv hw) (fun n hn => ?_))
    · have rf : ∀ r2, r2 ∈ [28, 29] → r2 ∉ [30] := by decide
      exact RTD_fr h r' (hr r' (List.mem_cons_of_mem _ hr')) (hv.1.A (by decide)) (fun r2 i h1 _ _ => hv.1.A (rf r2 h1))
    · rcases hn with hn | hn
      · rw [hn]; exact List.mem_cons_self ..
      · exact List.mem_cons_of_mem _ hn
theorem last_ok (hN : 20000 ≤ N) : ∀ (d h : Nat) (u : MS) (r : Nat), h < d → r < 16000 → RTD u h a r → OK (fun v _ => LSQ u (fun i => i = r) v) (rc_M_last N d u (I r)) := by
  intro d
  induction d with
  | zero => intro h u r hd; exact absurd hd (Nat.not_lt_zero _)
  | succ d ih =>
    intro h u r hd hr hz
    show OK _ (fm_M_last N (rc_M_last N d) u (I r))
    unfold fm_M_last fb_M_last_0 fb_M_last_28
    rw [show (-1 : Int32) = I (-1) from rfl]
    refine k_eq ⟨by omega, by omega⟩ ⟨by decide, by decide⟩ (fun z => by omega) (fun _ => ?_)
    have t35 : ∀ v : MS, LSQ u (fun i => i = r) v → OK (fun v _ => LSQ u (fun i => i = r) v) (fb_M_last_35 N (rc_M_last N d) (gg_M_last N (rc_M_last N d) N) v (I r)) := fun v hv => by
      unfold fb_M_last_35
      refine k_in (k := 28) (n := 16000) rfl (by decide) (by omega) ?_
      rw [I_tn (by omega) (by omega), Int.toNat_natCast, I_A' (hv.1.A (k := 28) (i := r) (by decide))]
      obtain ⟨h', l, hl, hlr, hh'⟩ : ∃ (h' : Nat) (l : List Nat), CHL u r (A u 28 r) l ∧ (∀ r', r' ∈ l → RTD u h' a r') ∧ (h' < d ∨ l = []) := by
        cases h with
        | zero => exact ⟨0, [], hz.2, (fun r' hr' => nomatch hr'), Or.inr rfl⟩
        | succ h =>
          obtain ⟨z1, l, z2, z3⟩ := hz
          exact ⟨h, l, z2, z3, Or.inl (by omega)⟩
      have ll := CHL_len l r _ hl
      have rf : ∀ r2, r2 ∈ [28, 29] → r2 ∉ [30] := by decide
      have lnk : ∀ n : Nat, n ∈ l → ∀ P : Nat → Prop, P r → (∀ n x : Nat, P n → A u 28 n = x → P x) → (∀ n x : Nat, P n → A u 29 n = x → P x) → P n := fun n hn P p1 p2 p3 => by
        have go : ∀ (l : List Nat) (b : Nat) (x : Int), CHL u b x l → (∀ y : Nat, x = y → P y) → ∀ n, n ∈ l → P n := by
          intro l
          induction l with
          | nil => intro b x _ _ n hn; cases hn
          | cons y l ihl =>
            intro b x hc hx n hn
            have py := hx y hc.1
            rcases List.mem_cons.mp hn with e | e
            · rw [e]; exact py
            · exact ihl y _ hc.2.2 (fun t ht => p3 y t py ht) n e
        exact go l r _ hl (fun y hy => p2 r y p1 hy) n hn
      rcases hh' with hh' | hh'
      · refine ok_mono (last_loop (h := h') (a := a) (fun u2 r2 hr2 hz2 => ih h' u2 r2 hh' hr2 hz2) l N v r (A u 28 r) (CHL_fr l r _ (fun r' _ => hv.1.A (by decide)) hl) (by omega) (fun r' hr' => RTD_fr h' r' (hlr r' hr') (hv.1.A (by decide)) (fun r2 i h1 _ _ => hv.1.A (rf r2 h1))) (by omega)) (fun w _ hw => ?_)
        have t := LSQ_tr hv hw
        refine ⟨t.1, t.2.1, fun P p1 p2 p3 => t.2.2 P (fun n hn => ?_) p2 p3⟩
        rcases hn with hn | hn
        · exact p1 n hn
        · exact lnk n hn P (p1 r rfl) p2 p3
      · rw [hh'] at hl
        obtain ⟨N', rfl⟩ : ∃ N', N = N' + 1 := ⟨N - 1, by omega⟩
        show OK _ (fb_M_last_42 (N' + 1) _ (gg_M_last (N' + 1) _ N') v (I (A u 28 r)))
        unfold fb_M_last_42
        rw [show A u 28 r = -1 from hl, show (-1 : Int32) = I (-1) from rfl]
        exact k_eq ⟨by decide, by decide⟩ ⟨by decide, by decide⟩ (fun _ => ok_some.mpr hv) (fun z => absurd rfl z)
    have t28 : (A u 23 r = 12 ∨ A u 23 r = 13) → OK (fun v _ => LSQ u (fun i => i = r) v) (ck (inb (I (r : Int)) (ln 30)) (lt (upA u 30 (upd (u.2.2.1 30) (I (r : Int)).toNatClampNeg (vp_nar .boolean 1))) (fun w2 => fb_M_last_35 N (rc_M_last N d) (gg_M_last N (rc_M_last N d) N) w2 (I r)))) := fun hk => by
      refine k_in (k := 30) (n := 16000) rfl (by decide) (by omega) (ok_lt.mpr ?_)
      rw [I_tn (by omega) (by omega), Int.toNat_natCast, nar1, wa_e]
      refine t35 _ ⟨FR.wa FR.rf (by decide), fun n hn => ?_, fun P p1 _ _ n hn => ?_⟩
      · by_cases e : n = r
        · rw [e]; exact hk
        · exact absurd (wa_ne e) hn
      by_cases e : n = r
      · rw [e]; exact p1 r rfl
      · exact absurd (wa_ne e) hn
    have tr : (I (r : Int)).toNatClampNeg = r := by rw [I_tn (by omega) (by omega)]; omega
    refine k_in (k := 23) (n := 16000) rfl (by decide) (by omega) ?_
    refine k_A (y := 12) rfl ⟨by decide, by decide⟩ (fun z => t28 (Or.inl (by rw [tr] at z; exact z))) (fun _ => k_in (k := 23) (n := 16000) rfl (by decide) (by omega) (k_A (y := 13) rfl ⟨by decide, by decide⟩ (fun z => t28 (Or.inr (by rw [tr] at z; exact z))) (fun _ => t35 u LSQ_rf)))
theorem last_none : fr_M_last N u (-1) = some (u, ()) := by
  show fb_M_last_0 N (rc_M_last N 59) (gg_M_last N (rc_M_last N 59) N) u (-1) = _
  unfold fb_M_last_0
  rw [show decide ((-1 : Int32) = -1) = true from rfl, br_tq]
end
end
