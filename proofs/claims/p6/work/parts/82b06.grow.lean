set_option maxRecDepth 100000
def grw (x : Int32) : Bool := decide (32 ≤ x ∧ x ≤ 33554432)
theorem slT_one {c c2 : Nat → Nat} {m m2 : MS} {n q d : Nat} (hq : q < n) (h1 : slQ c2 m2 q = slQ c m q + d) (h : ∀ r, r ≠ q → slQ c2 m2 r = slQ c m r) : slT c2 m2 n = slT c m n + d := by
  induction n with
  | zero => omega
  | succ n ih =>
    show slT c2 m2 n + slQ c2 m2 n = slT c m n + slQ c m n + d
    by_cases e : q = n
    · subst e
      rw [h1, slT_eq (c := c) (m := m) (fun r hr => h r (by omega))]
      omega
    · rw [ih (by omega), h n (by omega)]
      omega
theorem okV_mono {n : Nat} {v : LV} (h : okV n v = true) : okV (n + 1) v = true := by
  unfold okV at h ⊢
  split at h
  · have := of_decide_eq_true h; exact decide_eq_true (by omega)
  · rfl
theorem okR_mono {n : Nat} {v : Option Nat} (h : okR n v = true) : okR (n + 1) v = true := by
  unfold okR at h ⊢
  split at h
  · have := of_decide_eq_true h; exact decide_eq_true (by omega)
  · rfl
theorem okC_mono {n : Nat} {x : LC} (h : okC n x = true) : okC (n + 1) x = true := by
  unfold okC at h ⊢
  split at h
  · exact List.all_eq_true.mpr (fun j hj => okV_mono (List.all_eq_true.mp h j hj))
  · exact List.all_eq_true.mpr (fun j hj => okR_mono (List.all_eq_true.mp h j hj))
  · rfl
theorem wf_cnew {u : CS} {sl : Nat} {x : LC} (h : wfB u = true) (hx : okC (u.1.1 + 1) x = true) : wfB (cnew u sl x) = true := by
  unfold wfB
  refine List.all_eq_true.mpr (fun j hj => ?_)
  have hj2 : j < u.1.1 + 1 := List.mem_range.mp hj
  show okC (u.1.1 + 1) (if j = u.1.1 then x else u.2 j) = true
  by_cases e : j = u.1.1
  · rw [if_pos e]; exact hx
  · rw [if_neg e]; exact okC_mono (wf_at h (by omega))
theorem cnew_ne {u : CS} {sl j : Nat} {x : LC} (h : j ≠ u.1.1) : (cnew u sl x).2 j = u.2 j := if_neg h
theorem cnew_eq {u : CS} {sl : Nat} {x : LC} : (cnew u sl x).2 u.1.1 = x := if_pos rfl
def GRK (k l f : Nat) : Prop := (k = 32 ∧ l = 42 ∧ f = 2) ∨ (k = 33 ∧ l = 43 ∧ f = 3) ∨ (k = 35 ∧ l = 45 ∧ f = 5) ∨ (k = 37 ∧ l = 47 ∧ f = 7)
theorem GRK_k {k l f : Nat} (h : GRK k l f) : k ≠ 0 ∧ k < 100 ∧ k ≠ 20 ∧ isR k ∧ k ≠ 30 ∧ k ≠ 2 ∧ k ≠ 3 ∧ k ≠ 6 ∧ k ≠ 14 ∧ f ≠ 0 := by unfold GRK at h; unfold isR; omega
theorem GRK_l {k l f : Nat} (h : GRK k l f) : 30 ≤ l ∧ l < 100 ∧ isL l ∧ (l = 42 → k = 32) ∧ (l = 43 → k = 33) ∧ (l = 45 → k = 35) ∧ (l = 47 → k = 37) := by unfold GRK at h; unfold isL; omega
theorem GRK_f {k l f : Nat} (h : GRK k l f) : (2 = f → k = 32) ∧ (3 = f → k = 33) ∧ (5 = f → k = 35) ∧ (7 = f → k = 37) ∧ (k = 32 → f = 2) ∧ (k = 33 → f = 3) ∧ (k = 35 → f = 5) ∧ (k = 37 → f = 7) := by unfold GRK at h; omega
theorem GRK_i {k l f i : Nat} (h : GRK k l f) (hi : KG i) : i ≠ f := by unfold GRK at h; unfold KG at hi; omega
theorem KI_lt {i : Nat} (h : KI i) : i < 20 := by unfold KI at h; omega
theorem KG_lt {i : Nat} (h : KG i) : i < 10 := by unfold KG at h; omega
theorem isL_lt {i : Nat} (h : isL i) : i < 100 := by unfold isL at h; omega
def cG (c : Nat → Nat) (q k n : Nat) : Nat → Nat := fun i => if i = pq q k then n else c i
section
variable {o : Option Nat} {c : Nat → Nat} {m : MS} {u : CS} {j q k l f : Nat}
theorem cG_ne {n r i : Nat} (hi : i < 100) (hk : k < 100) (h : ¬ (r = q ∧ i = k)) : cG c q k n (pq r i) = c (pq r i) := if_neg (by unfold pq; omega)
theorem cG_eq {n : Nat} : cG c q k n (pq q k) = n := if_pos rfl
theorem MD_cG {n r : Nat} (hk : k ≠ 0 ∧ k < 100) : MD (cG c q k n) r ↔ MD c r := by unfold MD; rw [cG_ne (by omega) hk.2 (by omega)]
theorem RP_grow (h : RP o c m u) (hq : MD c q) (hg : GRK k l f) {x : LC} {x2 : Int32} {fo : Nat → LV} {w : CS} (hx2 : x2.toNatClampNeg = 2 * lnQ m q l ∧ ¬ x2 < 0) (h32 : 32 ≤ lnQ m q l)
    (e1 : w.1 = (u.1.1 + 1, u.1.2 + 2 * lnQ m q l)) (e2 : w.2 u.1.1 = x) (e3 : u.2 (c (pq q 20)) = .inl (4, fo)) (e4 : w.2 (c (pq q 20)) = .inl (4, fun i => if i = f then rfv u.1.1 else fo i)) (e5 : ∀ i, i ≠ u.1.1 → i ≠ c (pq q 20) → w.2 i = u.2 i)
    (hw : wfB w = true) (hx : ROL (cG c q k u.1.1) (upI m (pq q l) x2) q k x) : RP o (cG c q k u.1.1) (upI m (pq q l) x2) w := by
  obtain ⟨⟨s1, s2, s3, s4, s5, s6, s7⟩, r2, r3, ⟨q1, q2⟩, ⟨d1, d2⟩, ⟨p1, p2⟩, t1, t2, t3⟩ := h
  have hk0 := GRK_k hg
  have hl0 := GRK_l hg
  have hf0 := GRK_f hg
  have hM : ∀ r, MD (cG c q k u.1.1) r ↔ MD c r := fun r => MD_cG ⟨hk0.1, hk0.2.1⟩
  have hb := d2 q 20 hq isR20
  have hn := sk_n s1
  have hi : ∀ i, i < 57 → w.2 i = u.2 i := fun i hi => e5 i (by omega) (by omega)
  have hc : ∀ r i, i < 100 → ¬ (r = q ∧ i = k) → cG c q k u.1.1 (pq r i) = c (pq r i) := fun r i a b => cG_ne a hk0.2.1 b
  have hm : ∀ i, i < 2000 → (upI m (pq q l) x2).1 i = m.1 i := pI_frame
  have hm2 : ∀ r i, ¬ (r = q ∧ i = l) → i < 100 → (upI m (pq q l) x2).1 (pq r i) = m.1 (pq r i) := fun r i a b => if_neg (by unfold pq; omega)
  refine ⟨⟨?_, fun i z a b => ?_, ?_, fun i a => ?_, fun i a => ?_, ?_, ?_⟩, hw, fun r hr => ?_, ⟨fun r hr => ?_, fun r hr => ?_⟩, ⟨fun r1 k1 r2 k2 a1 a2 b1 b2 ee => ?_, fun r z a b => ?_⟩, ⟨fun r z a b => ?_, fun r r2 a b => ?_⟩, ?_, ?_, fun r z a b => ?_⟩
  · unfold skB
    rw [Bool.and_eq_true]
    refine ⟨decide_eq_true (by rw [e1]; show 57 ≤ u.1.1 + 1; omega), List.all_eq_true.mpr (fun i a => ?_)⟩
    rw [hi i (List.mem_range.mp a)]
    exact sk_at s1 (List.mem_range.mp a)
  · rw [FI_at (hi i a), s2 i z a b, hm _ (by omega)]
  · rw [FJ_at (hi 55 (by omega)), s3]; rfl
  · rw [AI_at (hi i a), s4 i a]; rfl
  · rw [AJ_at (hi i a), s5 i a]; rfl
  · rw [FR_at (hi 43 (by omega)), s6, hm _ (by omega)]
  · rw [hm _ (by omega)]; exact s7
  · obtain ⟨a1, a2, a3⟩ := r3 r hr
    rw [FR_at (hi 55 (by omega)), FR_at (hi 55 (by omega)), hc r 0 (by omega) (by omega), hc r 20 (by omega) (by omega)]
    exact ⟨(hM r).mpr a1, a2, a3⟩
  · rw [AP_at (hi 48 (by omega)), hc r 0 (by omega) (by omega)]; exact q1 r hr
  · rw [hc r 0 (by omega) (by omega)]; exact q2 r hr
  · replace a1 := (hM r1).mp a1
    replace a2 := (hM r2).mp a2
    by_cases c1 : r1 = q ∧ k1 = k
    · by_cases c2 : r2 = q ∧ k2 = k
      · omega
      · exfalso
        rw [c1.1, c1.2, cG_eq, hc r2 k2 (isR_lt b2) c2] at ee
        have := (d2 r2 k2 a2 b2).2
        omega
    · by_cases c2 : r2 = q ∧ k2 = k
      · exfalso
        rw [c2.1, c2.2, cG_eq, hc r1 k1 (isR_lt b1) c1] at ee
        have := (d2 r1 k1 a1 b1).2
        omega
      · rw [hc r1 k1 (isR_lt b1) c1, hc r2 k2 (isR_lt b2) c2] at ee
        exact d1 r1 k1 r2 k2 a1 a2 b1 b2 ee
  · rw [e1]
    show 57 ≤ _ ∧ _ < u.1.1 + 1
    by_cases c1 : r = q ∧ z = k
    · obtain ⟨rfl, rfl⟩ := c1
      rw [cG_eq]; omega
    · rw [hc r z (isR_lt b) c1]
      have := d2 r z ((hM r).mp a) b
      omega
  · replace a := (hM r).mp a
    by_cases c1 : r = q ∧ z = k
    · obtain ⟨rfl, rfl⟩ := c1
      rw [cG_eq, e2]; exact hx
    · rw [hc r z (isR_lt b) c1]
      have hd := d2 r z a b
      have hP := p1 r z a b
      by_cases c2 : r = q ∧ z = 20
      · obtain ⟨rfl, rfl⟩ := c2
        rw [e4]
        obtain ⟨fo2, g0, g1, g2, g3, g4, g5, g6⟩ := hP.2.1 rfl
        rw [e3] at g0
        cases g0
        refine ⟨fun y => (by cases y), fun _ => ⟨_, rfl, ?_, ?_, ?_, ?_, ?_, fun i hi => ?_⟩, fun y => (by cases y), fun y => (by cases y), fun y => (by cases y), fun y => (by cases y), fun y => (by cases y), fun y => (by cases y), fun y => (by cases y), fun y => (by cases y), fun y => (by cases y)⟩
        · rw [if_neg (fun y => hk0.2.2.2.2.2.2.2.2.2 y.symm), hc r 30 (by decide) (fun y => hk0.2.2.2.2.1 y.2.symm)]; exact g1
        · by_cases c3 : k = 32
          · subst c3
            have : f = 2 := hf0.2.2.2.2.1 rfl
            subst this
            rw [if_pos rfl, cG_eq]
          · rw [if_neg (fun y => c3 (hf0.1 y)), hc r 32 (by decide) (fun y => c3 y.2.symm)]; exact g2
        · by_cases c3 : k = 33
          · subst c3
            have : f = 3 := hf0.2.2.2.2.2.1 rfl
            subst this
            rw [if_pos rfl, cG_eq]
          · rw [if_neg (fun y => c3 (hf0.2.1 y)), hc r 33 (by decide) (fun y => c3 y.2.symm)]; exact g3
        · by_cases c3 : k = 35
          · subst c3
            have : f = 5 := hf0.2.2.2.2.2.2.1 rfl
            subst this
            rw [if_pos rfl, cG_eq]
          · rw [if_neg (fun y => c3 (hf0.2.2.1 y)), hc r 35 (by decide) (fun y => c3 y.2.symm)]; exact g4
        · by_cases c3 : k = 37
          · subst c3
            have : f = 7 := hf0.2.2.2.2.2.2.2 rfl
            subst this
            rw [if_pos rfl, cG_eq]
          · rw [if_neg (fun y => c3 (hf0.2.2.2.1 y)), hc r 37 (by decide) (fun y => c3 y.2.symm)]; exact g5
        · have h9 := KG_lt hi
          rw [if_neg (GRK_i hg hi), g6 i hi, hm2 r (20 + i) (fun y => by have := hl0.1; omega) (by omega)]
      · rw [e5 _ (by omega) (fun y => c2 (d1 r z q 20 a hq b isR20 y))]
        have hS : SMR c m (upI m (pq q l) x2) r z → ROL c (upI m (pq q l) x2) r z (u.2 (c (pq r z))) := fun y => ROL_same hP y
        by_cases c3 : z = 0
        · subst c3
          obtain ⟨fp, g0, g1, g2, g3, g4, g5, g6, g7, g8, g9, g10⟩ := hP.1 rfl
          refine ⟨fun _ => ⟨fp, g0, g1, ?_, ?_, ?_, ?_, ?_, ?_, fun i hi => ?_, g9, g10⟩, fun y => (by cases y), fun y => (by cases y), fun y => (by cases y), fun y => (by cases y), fun y => (by cases y), fun y => (by cases y), fun y => (by cases y), fun y => (by cases y), fun y => (by cases y), fun y => (by cases y)⟩
          · rw [hc r 20 (by omega) (by omega)]; exact g2
          · rw [hc r 2 (by decide) (fun y => hk0.2.2.2.2.2.1 y.2.symm)]; exact g3
          · rw [hc r 3 (by decide) (fun y => hk0.2.2.2.2.2.2.1 y.2.symm)]; exact g4
          · rw [hc r 6 (by decide) (fun y => hk0.2.2.2.2.2.2.2.1 y.2.symm)]; exact g5
          · rw [hc r 14 (by decide) (fun y => hk0.2.2.2.2.2.2.2.2.1 y.2.symm)]; exact g6
          · rw [g7]
            unfold hmR
            rw [hm2 r 17 (by omega) (by omega)]
            have hcc : (fun r => cG c q k u.1.1 (pq r 0)) = fun r => c (pq r 0) := funext (fun r3 => hc r3 0 (by omega) (by omega))
            rw [hcc]
          · have h9 := KI_lt hi
            rw [g8 i hi, hm2 r i (fun y => by have := hl0.1; omega) (by omega)]
        · by_cases c4 : z = 20
          · subst c4
            obtain ⟨fo2, g0, g1, g2, g3, g4, g5, g6⟩ := hP.2.1 rfl
            have hrq : r ≠ q := fun y => c2 ⟨y, rfl⟩
            refine ⟨fun y => (by cases y), fun _ => ⟨fo2, g0, ?_, ?_, ?_, ?_, ?_, fun i hi => ?_⟩, fun y => (by cases y), fun y => (by cases y), fun y => (by cases y), fun y => (by cases y), fun y => (by cases y), fun y => (by cases y), fun y => (by cases y), fun y => (by cases y), fun y => (by cases y)⟩
            · rw [hc r 30 (by omega) (by omega)]; exact g1
            · rw [hc r 32 (by omega) (by omega)]; exact g2
            · rw [hc r 33 (by omega) (by omega)]; exact g3
            · rw [hc r 35 (by omega) (by omega)]; exact g4
            · rw [hc r 37 (by omega) (by omega)]; exact g5
            · have h9 := KG_lt hi
              rw [g6 i hi, hm2 r (20 + i) (fun y => hrq y.1) (by omega)]
          · obtain ⟨y0, y20, yr⟩ := hP
            refine ⟨fun y => absurd y c3, fun y => absurd y c4, yr.1, yr.2.1, yr.2.2.1, yr.2.2.2.1, yr.2.2.2.2.1, fun y => ?_, fun y => ?_, fun y => ?_, fun y => ?_⟩
            · unfold lnQ
              rw [hm2 r 42 (fun w => c1 ⟨w.1, y.trans (hl0.2.2.2.1 w.2.symm).symm⟩) (by decide)]
              exact yr.2.2.2.2.2.1 y
            · unfold lnQ
              rw [hm2 r 43 (fun w => c1 ⟨w.1, y.trans (hl0.2.2.2.2.1 w.2.symm).symm⟩) (by decide)]
              exact yr.2.2.2.2.2.2.1 y
            · unfold lnQ
              rw [hm2 r 45 (fun w => c1 ⟨w.1, y.trans (hl0.2.2.2.2.2.1 w.2.symm).symm⟩) (by decide)]
              exact yr.2.2.2.2.2.2.2.1 y
            · unfold lnQ
              rw [hm2 r 47 (fun w => c1 ⟨w.1, y.trans (hl0.2.2.2.2.2.2 w.2.symm).symm⟩) (by decide)]
              exact yr.2.2.2.2.2.2.2.2 y
  · rw [hm2 r 17 (by omega) (by omega)] at b
    exact (hM r2).mpr (p2 r r2 ((hM r).mp a) b)
  · rw [e1]
    show u.1.2 + 2 * lnQ m q l = _
    rw [t1, slT_one (c := c) (m := m) (c2 := cG c q k u.1.1) (m2 := upI m (pq q l) x2) hq.1 (d := 2 * lnQ m q l) ?_ (fun r hr => ?_)]
    · omega
    · unfold slQ
      rw [hc q 0 (by omega) (by omega), if_neg hq.2, if_neg hq.2]
      have hll : lnQ (upI m (pq q l) x2) q l = 2 * lnQ m q l := by
        rw [← hx2.1]
        show ((upI m (pq q l) x2).1 (pq q l)).toNatClampNeg = _
        rw [show (upI m (pq q l) x2).1 (pq q l) = x2 from if_pos rfl]
      have hlo : ∀ i, i < 100 → i ≠ l → lnQ (upI m (pq q l) x2) q i = lnQ m q i := fun i a b => by unfold lnQ; rw [hm2 q i (by omega) a]
      unfold GRK at hg
      rcases hg with ⟨_, rfl, _⟩ | ⟨_, rfl, _⟩ | ⟨_, rfl, _⟩ | ⟨_, rfl, _⟩
      · rw [hll, hlo 43 (by omega) (by omega), hlo 45 (by omega) (by omega), hlo 47 (by omega) (by omega)]; omega
      · rw [hll, hlo 42 (by omega) (by omega), hlo 45 (by omega) (by omega), hlo 47 (by omega) (by omega)]; omega
      · rw [hll, hlo 42 (by omega) (by omega), hlo 43 (by omega) (by omega), hlo 47 (by omega) (by omega)]; omega
      · rw [hll, hlo 42 (by omega) (by omega), hlo 43 (by omega) (by omega), hlo 45 (by omega) (by omega)]; omega
    · unfold slQ lnQ
      rw [hc r 0 (by omega) (by omega), hm2 r 42 (by omega) (by omega), hm2 r 43 (by omega) (by omega), hm2 r 45 (by omega) (by omega), hm2 r 47 (by omega) (by omega)]
  · rw [e1]
    show 64 * (u.1.1 + 1) ≤ u.1.2 + 2 * lnQ m q l
    omega
  · by_cases c1 : r = q ∧ z = l
    · obtain ⟨rfl, rfl⟩ := c1
      rw [show (upI m (pq r z) x2).1 (pq r z) = x2 from if_pos rfl]
      exact hx2.2
    · rw [hm2 r z c1 (isL_lt b)]
      exact t3 r z ((hM r).mp a) b
end
