set_option maxRecDepth 100000
def cEc (m : MS) : Nat → Nat
  | 0 => 0
  | k + 1 => cEc m k + (if F m (pq k 9) = 3 then 1 else 0)
def EPQ (Fv : Int64 → Int64 → Prop) (P : Int64 → Prop) (PR : Nat) (m : MS) (r : Nat) : Prop := ∃ hq n ow kd, rf (m.1 (pq r 17)) = some hq ∧ hq < PR ∧ F m (pq hq 9) = 3 ∧ n ≤ 512 ∧ HPc (m.2.2.2 (pq hq 2)) n ow kd Fv P ∧ GT n ow kd P (m.2.1 (pq r 16))
def LVQ (Fv : Int64 → Int64 → Prop) (P : Int64 → Prop) (m : MS) (r : Nat) : Prop := ∃ n ow kd B W Y, PTQ m r n ow kd Fv P B W Y
def SMQ (m : MS) (r : Nat) : Prop := (0 ≤ F m (pq r 15) ∧ F m (pq r 15) ≤ 24) ∧ (0 ≤ F m (pq r 8) ∧ (F m (pq r 9) ≠ 3 → F m (pq r 8) ≤ F m (pq r 7)))
def GLQ (PR : Nat) (m : MS) : Prop := (F m 942 = ((PR : Nat) : Int) ∧ PR ≤ 24) ∧ (∀ r, r < PR → rf (m.2.2.1 1948 r) = some r) ∧ (0 ≤ F m 950 ∧ F m 950 ≤ 200) ∧ (F m 955 = ((cEc m PR : Nat) : Int) ∧ 0 ≤ F m 956 ∧ F m 956 ≤ F m 955) ∧ (∀ i : Nat, (i : Int) < F m 955 → ∃ r, A m 54 i = ((r : Nat) : Int) ∧ r < PR ∧ F m (pq r 9) = 3) ∧ (0 ≤ F m 953 ∧ F m 953 ≤ 200) ∧ ∀ i : Nat, (i : Int) < F m 953 → 0 ≤ A m 53 i ∧ A m 53 i ≤ 100
def DWc (Fv : Int64 → Int64 → Prop) (P : Int64 → Prop) (PR : Nat) (m : MS) : Prop := GLQ PR m ∧ ∀ r, r < PR → SMQ m r ∧ (F m (pq r 9) = 3 → EPQ Fv P PR m r) ∧ (F m (pq r 9) ≠ 3 → LVQ Fv P m r)
def DWo (Fv : Int64 → Int64 → Prop) (P : Int64 → Prop) (PR q : Nat) (m : MS) : Prop := GLQ PR m ∧ ∀ r, r < PR → SMQ m r ∧ (F m (pq r 9) = 3 → EPQ Fv P PR m r) ∧ (F m (pq r 9) ≠ 3 → r ≠ q → LVQ Fv P m r)
def WFR (u w : MS) : Prop := (∀ r k, k < 100 → k ∉ [4, 5, 7, 9, 12, 15, 17] → w.1 (pq r k) = u.1 (pq r k)) ∧ (∀ k, k < 2000 → k ∉ [950, 955, 956] → w.1 k = u.1 k) ∧ (∀ r k, k < 100 → k ∉ [14] → w.2.2.1 (pq r k) = u.2.2.1 (pq r k)) ∧ (∀ k, k < 2000 → k ∉ [49, 50, 51, 54] → w.2.2.1 k = u.2.2.1 k) ∧ (∀ k, k < 2000 → k ∉ [45, 46] → w.2.2.2 k = u.2.2.2 k) ∧ (∀ r k, k < 100 → k ∉ [16] → w.2.1 (pq r k) = u.2.1 (pq r k)) ∧ (∀ k, k < 2000 → w.2.1 k = u.2.1 k)
section
variable {Fv : Int64 → Int64 → Prop} {P : Int64 → Prop} {u v w m m2 : MS} {PR N q r n B W Y : Nat} {ow kd : Nat → Nat} {t : Int64}
theorem WFR.rf : WFR u u := ⟨fun _ _ _ _ => rfl, fun _ _ _ => rfl, fun _ _ _ _ => rfl, fun _ _ _ => rfl, fun _ _ _ => rfl, fun _ _ _ _ => rfl, fun _ _ => rfl⟩
theorem WFR.tr (a : WFR u v) (b : WFR v w) : WFR u w := ⟨fun r k x y => (b.1 r k x y).trans (a.1 r k x y), fun k x y => (b.2.1 k x y).trans (a.2.1 k x y), fun r k x y => (b.2.2.1 r k x y).trans (a.2.2.1 r k x y), fun k x y => (b.2.2.2.1 k x y).trans (a.2.2.2.1 k x y), fun k x y => (b.2.2.2.2.1 k x y).trans (a.2.2.2.2.1 k x y), fun r k x y => (b.2.2.2.2.2.1 r k x y).trans (a.2.2.2.2.2.1 r k x y), fun k x => (b.2.2.2.2.2.2 k x).trans (a.2.2.2.2.2.2 k x)⟩
theorem WFR.F (a : WFR u w) {r k : Nat} (h1 : k < 100) (h2 : k ∉ [4, 5, 7, 9, 12, 15, 17]) : F w (pq r k) = F u (pq r k) := congrArg _ (a.1 r k h1 h2)
theorem WFR.G (a : WFR u w) {k : Nat} (h1 : k < 2000) (h2 : k ∉ [950, 955, 956]) : Jvm.Pilot.@@N@@.F w k = Jvm.Pilot.@@N@@.F u k := congrArg _ (a.2.1 k h1 h2)
theorem cEc_le (m : MS) : ∀ k, cEc m k ≤ k
  | 0 => Nat.le_refl _
  | k + 1 => by
    have := cEc_le m k
    show cEc m k + _ ≤ k + 1
    split <;> omega
theorem cEc_eq : ∀ k, (∀ r, r < k → F m2 (pq r 9) = F m (pq r 9)) → cEc m2 k = cEc m k
  | 0, _ => rfl
  | k + 1, h => by
    show cEc m2 k + _ = cEc m k + _
    rw [cEc_eq k (fun r hr => h r (by omega)), h k (by omega)]
theorem cEc_up (hq : F m (pq q 9) ≠ 3) (h1 : F m2 (pq q 9) = 3) (h2 : ∀ r, r ≠ q → F m2 (pq r 9) = F m (pq r 9)) : ∀ k, q < k → cEc m2 k = cEc m k + 1
  | 0, h => by omega
  | k + 1, h => by
    show cEc m2 k + _ = cEc m k + _ + 1
    by_cases e : q = k
    · subst e
      rw [cEc_eq (m := m) q (fun r hr => h2 r (by omega)), if_pos h1, if_neg hq]
    · rw [cEc_up hq h1 h2 k (by omega), h2 k (by omega)]
      omega
theorem cEc_lt : ∀ k, q < k → F m (pq q 9) ≠ 3 → cEc m k < k
  | 0, h, _ => by omega
  | k + 1, h, hq => by
    show cEc m k + _ < k + 1
    by_cases e : q = k
    · subst e
      have := cEc_le m q
      rw [if_neg hq]; omega
    · have := cEc_lt k (by omega) hq
      split <;> omega
theorem PTQ_same (p : PTQ m q n ow kd Fv P B W Y) (hI : ∀ k, k ∈ [4, 24, 26, 7, 43, 45] → m2.1 (pq q k) = m.1 (pq q k)) (hJ : ∀ k, k ∈ [2, 33, 35, 6] → m2.2.2.2 (pq q k) = m.2.2.2 (pq q k)) : PTQ m2 q n ow kd Fv P B W Y := by
  have hF : ∀ k, k ∈ [4, 24, 26, 7, 43, 45] → F m2 (pq q k) = F m (pq q k) := fun k hk => congrArg _ (hI k hk)
  obtain ⟨⟨p1, p2, p3⟩, ⟨p4, p5⟩, ⟨p6, p7⟩, ⟨p8, p9⟩, ⟨l, a1, a2⟩, ⟨l2, b1, b2⟩, c⟩ := p
  refine ⟨⟨by rw [hF 4 (by simp)]; exact p1, p2, by rw [hJ 2 (by simp)]; exact p3⟩, ⟨by rw [hF 24 (by simp)]; exact p4, by rw [hJ 33 (by simp)]; exact p5⟩, ⟨by rw [hF 26 (by simp)]; exact p6, by rw [hJ 35 (by simp)]; exact p7⟩, ⟨by rw [hF 7 (by simp)]; exact p8, by rw [hJ 6 (by simp)]; exact p9⟩, ⟨l, by rw [hF 43 (by simp)]; exact a1, a2⟩, ⟨l2, by rw [hF 45 (by simp)]; exact b1, b2⟩, c⟩
theorem DWo_of (d : DWc Fv P PR m) : DWo Fv P PR q m := ⟨d.1, fun r hr => ⟨(d.2 r hr).1, (d.2 r hr).2.1, fun z _ => (d.2 r hr).2.2 z⟩⟩
theorem DWc_of (d : DWo Fv P PR q m) (hl : F m (pq q 9) ≠ 3 → LVQ Fv P m q) : DWc Fv P PR m := ⟨d.1, fun r hr => ⟨(d.2 r hr).1, (d.2 r hr).2.1, fun z => by
  by_cases e : r = q
  · rw [e] at z ⊢; exact hl z
  · exact (d.2 r hr).2.2 z e⟩⟩
theorem DWo_q (d : DWo Fv P PR q m) (hq : q < PR) (hal : F m (pq q 9) ≠ 3) (hal2 : F m2 (pq q 9) ≠ 3) (hs : SMQ m2 q)
    (o1 : ∀ r k, r ≠ q → k < 100 → m2.1 (pq r k) = m.1 (pq r k)) (o2 : ∀ r, r ≠ q → m2.2.1 (pq r 16) = m.2.1 (pq r 16)) (o3 : ∀ r k, r ≠ q → k < 100 → m2.2.2.2 (pq r k) = m.2.2.2 (pq r k))
    (g1 : ∀ k, k ∈ [942, 950, 953, 955, 956] → m2.1 k = m.1 k) (g2 : ∀ k, k ∈ [1948, 53, 54] → m2.2.2.1 k = m.2.2.1 k) : DWo Fv P PR q m2 := by
  obtain ⟨⟨⟨g11, g12⟩, g13, g14, ⟨g15, g16⟩, g17, g18, g19⟩, d2⟩ := d
  have st : ∀ r, r ≠ q → F m2 (pq r 9) = F m (pq r 9) := fun r hr => congrArg _ (o1 r 9 hr (by omega))
  have gF : ∀ k, k ∈ [942, 950, 953, 955, 956] → F m2 k = F m k := fun k hk => congrArg _ (g1 k hk)
  have gA : ∀ k i, k ∈ [1948, 53, 54] → A m2 k i = A m k i := fun k i hk => by show (m2.2.2.1 k i).toInt = _; rw [g2 k hk]; rfl
  have hce : cEc m2 PR = cEc m PR := by
    have gen : ∀ k, cEc m2 k = cEc m k := by
      intro k
      induction k with
      | zero => rfl
      | succ k ih =>
        show cEc m2 k + _ = cEc m k + _
        rw [ih]
        by_cases e : k = q
        · subst e; rw [if_neg hal, if_neg hal2]
        · rw [st k e]
    exact gen PR
  refine ⟨⟨⟨by rw [gF 942 (by simp)]; exact g11, g12⟩, fun r hr => by rw [g2 1948 (by simp)]; exact g13 r hr, by rw [gF 950 (by simp)]; exact g14, ⟨by rw [gF 955 (by simp), hce]; exact g15, by rw [gF 955 (by simp), gF 956 (by simp)]; exact g16⟩, fun i hi => ?_, by rw [gF 953 (by simp)]; exact g18, fun i hi => ?_⟩, fun r hr => ?_⟩
  · rw [gF 955 (by simp)] at hi
    obtain ⟨r, r1, r2, r3⟩ := g17 i hi
    refine ⟨r, by rw [gA 54 i (by simp)]; exact r1, r2, ?_⟩
    by_cases e : r = q
    · subst e; exact absurd r3 hal
    · rw [st r e]; exact r3
  · rw [gF 953 (by simp)] at hi
    rw [gA 53 i (by simp)]; exact g19 i hi
  · by_cases e : r = q
    · subst e; exact ⟨hs, fun z => absurd z hal2, fun _ z => absurd rfl z⟩
    · obtain ⟨s1, s2, s3⟩ := d2 r hr
      have hI : ∀ k, k < 100 → F m2 (pq r k) = F m (pq r k) := fun k hk => congrArg _ (o1 r k e hk)
      refine ⟨?_, fun z => ?_, fun z _ => ?_⟩
      · unfold SMQ
        rw [hI 15 (by omega), hI 8 (by omega), hI 9 (by omega), hI 7 (by omega)]; exact s1
      · rw [hI 9 (by omega)] at z
        obtain ⟨hq2, n, ow, kd, e1, e2, e3, e4, e5, e6⟩ := s2 z
        have hne : hq2 ≠ q := fun y => hal (y ▸ e3)
        exact ⟨hq2, n, ow, kd, by rw [o1 r 17 e (by omega)]; exact e1, e2, by rw [st hq2 hne]; exact e3, e4, by rw [o3 hq2 2 hne (by omega)]; exact e5, by rw [o2 r e]; exact e6⟩
      · rw [hI 9 (by omega)] at z
        obtain ⟨n, ow, kd, B, W, Y, p⟩ := s3 z e
        exact ⟨n, ow, kd, B, W, Y, PTQ_same p (fun k hk => o1 r k e (by simp at hk; omega)) (fun k hk => o3 r k e (by simp at hk; omega))⟩
theorem DWc_q (d : DWc Fv P PR m) (hq : q < PR) (hal : F m (pq q 9) ≠ 3) (hal2 : F m2 (pq q 9) ≠ 3) (hs : SMQ m2 q) (hl : LVQ Fv P m2 q)
    (o1 : ∀ r k, r ≠ q → k < 100 → m2.1 (pq r k) = m.1 (pq r k)) (o2 : ∀ r, r ≠ q → m2.2.1 (pq r 16) = m.2.1 (pq r 16)) (o3 : ∀ r k, r ≠ q → k < 100 → m2.2.2.2 (pq r k) = m.2.2.2 (pq r k))
    (g1 : ∀ k, k ∈ [942, 950, 953, 955, 956] → m2.1 k = m.1 k) (g2 : ∀ k, k ∈ [1948, 53, 54] → m2.2.2.1 k = m.2.2.1 k) : DWc Fv P PR m2 := DWc_of (DWo_q (DWo_of d) hq hal hal2 hs o1 o2 o3 g1 g2) (fun _ => hl)
end
