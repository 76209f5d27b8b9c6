set_option maxRecDepth 100000
def rof (k : Nat) : Nat := if k = 0 then 0 else if k = 20 then 1 else if k = 30 then 2 else if k = 32 then 3 else if k = 33 then 4 else if k = 35 then 5 else if k = 37 then 6 else if k = 2 then 7 else if k = 3 then 8 else if k = 6 then 9 else 10
def cNw (c : Nat → Nat) (q n : Nat) : Nat → Nat := fun i => if pq q 0 ≤ i ∧ i < pq q 0 + 100 then n + rof (i - pq q 0) else c i
def nwi (l : Nat) : Int32 := if l = 42 ∨ l = 43 ∨ l = 45 then 64 else if l = 47 then 32 else if l = 17 then -1 else 0
def newP (m : MS) (q : Nat) : MS := (fun k => if pq q 0 ≤ k ∧ k < pq q 0 + 100 then nwi (k - pq q 0) else m.1 k, fun k => if pq q 0 ≤ k ∧ k < pq q 0 + 100 then 0 else m.2.1 k, fun k => if pq q 0 ≤ k ∧ k < pq q 0 + 100 then fun _ => 0 else if k = 1948 then upd (m.2.2.1 1948) q (Int32.ofNat q) else m.2.2.1 k, fun k => if pq q 0 ≤ k ∧ k < pq q 0 + 100 then fun _ => 0 else m.2.2.2 k)
section
variable {α β : Type} {z : Nat} {o : Option Nat} {V : (Nat → Nat) → α → β → Prop} {c : Nat → Nat} {u : CS} {m : MS} {q n : Nat} {N : Nat}
theorem cNw_q {k : Nat} (h : k < 100) : cNw c q n (pq q k) = n + rof k := by
  unfold cNw
  rw [if_pos (by unfold pq; omega)]
  congr 2
  unfold pq; omega
theorem cNw_r {r k : Nat} (h : k < 100) (hr : r ≠ q) : cNw c q n (pq r k) = c (pq r k) := if_neg (by unfold pq; omega)
theorem nP_1 {k : Nat} (h : k < 100) : (newP m q).1 (pq q k) = nwi k := by
  unfold newP
  show (if _ then _ else _) = _
  rw [if_pos (by unfold pq; omega)]
  congr 1
  unfold pq; omega
theorem nP_2 {k : Nat} (h : k < 100) : (newP m q).2.1 (pq q k) = 0 := if_pos (by unfold pq; omega)
theorem nP_3 {k : Nat} (h : k < 100) : (newP m q).2.2.1 (pq q k) = fun _ => 0 := if_pos (by unfold pq; omega)
theorem nP_4 {k : Nat} (h : k < 100) : (newP m q).2.2.2 (pq q k) = fun _ => 0 := if_pos (by unfold pq; omega)
theorem nP_o1 {i : Nat} (h : ¬ (pq q 0 ≤ i ∧ i < pq q 0 + 100)) : (newP m q).1 i = m.1 i := if_neg h
theorem nP_o2 {i : Nat} (h : ¬ (pq q 0 ≤ i ∧ i < pq q 0 + 100)) : (newP m q).2.1 i = m.2.1 i := if_neg h
theorem nP_o3 {i : Nat} (h : ¬ (pq q 0 ≤ i ∧ i < pq q 0 + 100)) (h2 : i ≠ 1948) : (newP m q).2.2.1 i = m.2.2.1 i := by
  unfold newP
  show (if _ then _ else if _ then _ else _) = _
  rw [if_neg h, if_neg h2]
theorem nP_1948 : (newP m q).2.2.1 1948 = upd (m.2.2.1 1948) q (Int32.ofNat q) := by
  unfold newP
  show (if _ then _ else if _ then _ else _) = _
  rw [if_neg (by unfold pq; omega), if_pos rfl]
theorem nP_o4 {i : Nat} (h : ¬ (pq q 0 ≤ i ∧ i < pq q 0 + 100)) : (newP m q).2.2.2 i = m.2.2.2 i := if_neg h
theorem rof_i {k l : Nat} (hk : isR k) (hl : isR l) (h : rof k = rof l) : k = l := by
  unfold isR at hk hl
  rcases hk with rfl | rfl | rfl | rfl | rfl | rfl | rfl | rfl | rfl | rfl | rfl <;> rcases hl with rfl | rfl | rfl | rfl | rfl | rfl | rfl | rfl | rfl | rfl | rfl <;> first | rfl | (exfalso; revert h; decide)
theorem rof_lt {k : Nat} : rof k < 11 := by
  unfold rof
  repeat' (first | omega | split)
theorem SMR_new {r k : Nat} (hr : r ≠ q) (hk : k < 100) : SMR c m (newP m q) r k := ⟨fun _ => ⟨fun l hl => nP_o1 (by unfold pq; omega), fun l hl => nP_o2 (by unfold pq; omega)⟩, fun _ l h1 h2 => nP_o1 (by unfold pq; omega), nP_o3 (by unfold pq; omega) (by unfold pq; omega), nP_o4 (by unfold pq; omega), fun l h1 h2 => nP_o1 (by unfold pq; omega)⟩
theorem ROL_c {c2 : Nat → Nat} {m : MS} {r k : Nat} {x : LC} (h : ROL c m r k x) (e : ∀ l, l < 100 → c2 (pq r l) = c (pq r l)) (eh : hmR c2 m r = hmR c m r) : ROL c2 m r k x := by
  obtain ⟨h0, h20, hr⟩ := h
  refine ⟨fun y => ?_, fun y => ?_, hr⟩
  · obtain ⟨fp, g0, g1, g2, g3, g4, g5, g6, g7, g8, g9, g10⟩ := h0 y
    exact ⟨fp, g0, g1, by rw [e 20 (by omega)]; exact g2, by rw [e 2 (by omega)]; exact g3, by rw [e 3 (by omega)]; exact g4, by rw [e 6 (by omega)]; exact g5, by rw [e 14 (by omega)]; exact g6, by rw [eh]; exact g7, g8, g9, g10⟩
  · obtain ⟨fo, g0, g1, g2, g3, g4, g5, g6⟩ := h20 y
    exact ⟨fo, g0, by rw [e 30 (by omega)]; exact g1, by rw [e 32 (by omega)]; exact g2, by rw [e 33 (by omega)]; exact g3, by rw [e 35 (by omega)]; exact g4, by rw [e 37 (by omega)]; exact g5, g6⟩
theorem AP_of {w : CS} {i n : Nat} {h : Nat → Option Nat} (e : w.2 i = .inr (.inr (.inr (n, h)))) : AP w i = h := by unfold AP; rw [e]
theorem lnQ_new {k : Nat} (h : k < 100) : lnQ (newP m q) q k = (nwi k).toNatClampNeg := by unfold lnQ; rw [nP_1 h]
set_option maxHeartbeats 2000000 in
theorem RP_new (h : RP o c m u) (hq : q < 24) (h0 : c (pq q 0) = 0) {x w : CS} (hx : NS u u.1.1 11 1630 (prcN u.1.1 (Int32.ofNat q)) (frmN u.1.1) x) (e1 : w.1 = x.1) (e2 : ∀ i, i ≠ 48 → w.2 i = x.2 i) (e3 : w.2 48 = .inr (.inr (.inr (24, va_up (AP u 48) q (some u.1.1))))) : RP o (cNw c q u.1.1) (newP m q) w := by
  obtain ⟨⟨s1, s2, s3, s4, s5, s6, s7⟩, r2, r3, ⟨q1, q2⟩, ⟨d1, d2⟩, ⟨p1, p2⟩, t1, t2, t3⟩ := h
  obtain ⟨x1, x2, x3, x4, x5, x6, x7⟩ := hx
  have hn := sk_n s1
  have hMq : ∀ r, MD c r → r ≠ q := fun r hr y => hr.2 (y ▸ h0)
  have hM : ∀ r, MD (cNw c q u.1.1) r ↔ MD c r ∨ r = q := by
    intro r
    unfold MD
    by_cases e : r = q
    · subst e
      rw [cNw_q (by omega)]
      constructor
      · intro _; exact Or.inr rfl
      · intro _; exact ⟨hq, by omega⟩
    · rw [cNw_r (by omega) e]
      constructor
      · intro y; exact Or.inl y
      · intro y; rcases y with y | y; exact y; exact absurd y e
  have hlo : ∀ i, i < 57 → i ≠ 48 → w.2 i = u.2 i := fun i hi h48 => by rw [e2 i h48]; exact x4 i (by omega)
  have hw48 : AP w 48 = va_up (AP u 48) q (some u.1.1) := AP_of e3
  refine ⟨⟨?_, fun i k a b => ?_, ?_, fun i a => ?_, fun i a => ?_, ?_, ?_⟩, ?_, fun r hr => ?_, ⟨fun r hr => ?_, fun r hr => ?_⟩, ⟨fun r1 k1 r2 k2 a1 a2 b1 b2 ee => ?_, fun r k a b => ?_⟩, ⟨fun r k a b => ?_, fun r r2 a b => ?_⟩, ?_, ?_, fun r k a b => ?_⟩
  · unfold skB
    rw [Bool.and_eq_true]
    refine ⟨decide_eq_true (by rw [e1, x1]; omega), List.all_eq_true.mpr (fun i a => ?_)⟩
    have ai := List.mem_range.mp a
    by_cases c1 : i = 48
    · subst c1; rw [e3]; rfl
    · rw [hlo i ai c1]; exact sk_at s1 ai
  · by_cases c1 : i = 48
    · subst c1
      have e48 : FI u 48 k = 0 := by
        have h1 := sk_at s1 (i := 48) (by decide)
        rw [show tbl.getD 48 (9, []) = (2, [24]) from rfl] at h1
        unfold FI
        cases hc : u.2 48 with
        | inl y => rw [hc] at h1; simp [okS] at h1
        | inr y => rfl
      rw [nP_o1 (by unfold pq; omega), ← s2 48 k (by omega) b, e48]
      unfold FI
      rw [e3]
    · rw [FI_at (hlo i a c1), s2 i k a b, nP_o1 (by unfold pq; omega)]
  · rw [FJ_at (hlo 55 (by omega) (by omega)), s3, nP_o2 (by unfold pq; omega)]
  · by_cases c1 : i = 48
    · subst c1
      have e48 : AI u 48 = fun _ => 0 := by
        have h1 := sk_at s1 (i := 48) (by decide)
        rw [show tbl.getD 48 (9, []) = (2, [24]) from rfl] at h1
        unfold AI
        cases hc : u.2 48 with
        | inl y => rfl
        | inr y =>
          rcases y with y | y | y
          · first | rfl | (rw [hc] at h1; simp [okS] at h1)
          · rfl
          · rfl
      rw [nP_o3 (by unfold pq; omega) (by omega), ← s4 48 (by omega), e48]
      unfold AI
      rw [e3]
    · rw [AI_at (hlo i a c1), s4 i a, nP_o3 (by unfold pq; omega) (by omega)]
  · by_cases c1 : i = 48
    · subst c1
      have e48 : AJ u 48 = fun _ => 0 := by
        have h1 := sk_at s1 (i := 48) (by decide)
        rw [show tbl.getD 48 (9, []) = (2, [24]) from rfl] at h1
        unfold AJ
        cases hc : u.2 48 with
        | inl y => rfl
        | inr y =>
          rcases y with y | y | y
          · rfl
          · first | rfl | (rw [hc] at h1; simp [okS] at h1)
          · rfl
      rw [nP_o4 (by unfold pq; omega), ← s5 48 (by omega), e48]
      unfold AJ
      rw [e3]
    · rw [AJ_at (hlo i a c1), s5 i a, nP_o4 (by unfold pq; omega)]
  · rw [FR_at (hlo 43 (by omega) (by omega)), s6, nP_o1 (by unfold pq; omega)]
  · rw [nP_o1 (by unfold pq; omega)]; exact s7
  · unfold wfB
    refine List.all_eq_true.mpr (fun i a => ?_)
    have ai := List.mem_range.mp a
    rw [e1] at ai ⊢
    by_cases c1 : i = 48
    · rw [c1, e3]
      unfold okC
      refine List.all_eq_true.mpr (fun k hk => ?_)
      have hk := List.mem_range.mp hk
      show okR x.1.1 (va_up (AP u 48) q (some u.1.1) k) = true
      unfold va_up
      by_cases c2 : k = q
      · rw [if_pos c2]; exact decide_eq_true (by rw [x1]; omega)
      · rw [if_neg c2, q1 k hk]
        by_cases c3 : c (pq k 0) = 0
        · rw [if_pos c3]; rfl
        · rw [if_neg c3]
          have := (d2 k 0 ⟨hk, c3⟩ isR0).2
          exact decide_eq_true (by rw [x1]; omega)
    · rw [e2 i c1]; exact wf_at x3 ai
  · obtain ⟨a1, a2, a3⟩ := r3 r hr
    have hrq := hMq r a1
    rw [FR_at (hlo 55 (by omega) (by omega)), FR_at (hlo 55 (by omega) (by omega)), cNw_r (by omega) hrq, cNw_r (by omega) hrq]
    exact ⟨(hM r).mpr (Or.inl a1), a2, a3⟩
  · rw [hw48]
    unfold va_up
    by_cases c1 : r = q
    · subst c1
      rw [if_pos rfl, cNw_q (by omega), if_neg (by omega)]; rfl
    · rw [if_neg c1, cNw_r (by omega) c1]; exact q1 r hr
  · rw [nP_1948]
    unfold upd
    by_cases c1 : r = q
    · subst c1
      rw [if_pos rfl, cNw_q (by omega), if_neg (by omega)]
    · rw [if_neg c1, cNw_r (by omega) c1]; exact q2 r hr
  · replace a1 := (hM r1).mp a1
    replace a2 := (hM r2).mp a2
    have hk1 := isR_lt b1
    have hk2 := isR_lt b2
    have n1 := rof_lt (k := k1)
    have n2 := rof_lt (k := k2)
    by_cases c1 : r1 = q
    · by_cases c2 : r2 = q
      · rw [c1, c2, cNw_q hk1, cNw_q hk2] at ee
        exact ⟨c1.trans c2.symm, rof_i b1 b2 (by omega)⟩
      · rw [c1, cNw_q hk1, cNw_r hk2 c2] at ee
        have := (d2 r2 k2 (a2.resolve_right c2) b2).2
        omega
    · by_cases c2 : r2 = q
      · rw [c2, cNw_q hk2, cNw_r hk1 c1] at ee
        have := (d2 r1 k1 (a1.resolve_right c1) b1).2
        omega
      · rw [cNw_r hk1 c1, cNw_r hk2 c2] at ee
        exact d1 r1 k1 r2 k2 (a1.resolve_right c1) (a2.resolve_right c2) b1 b2 ee
  · have hk1 := isR_lt b
    have n1 := rof_lt (k := k)
    rw [e1, x1]
    by_cases c1 : r = q
    · rw [c1, cNw_q hk1]; omega
    · rw [cNw_r hk1 c1]
      have := d2 r k (((hM r).mp a).resolve_right c1) b
      omega
  · have hk1 := isR_lt b
    have n1 := rof_lt (k := k)
    by_cases c1 : r = q
    · subst c1
      rw [cNw_q hk1, e2 _ (by omega)]
      have hrf : rf ((newP m r).1 (pq r 17)) = none := by rw [nP_1 (by omega)]; rfl
      have hh : hmR (cNw c r u.1.1) (newP m r) r = none := by unfold hmR; rw [hrf]; rfl
      unfold isR at b
      rcases b with rfl | rfl | rfl | rfl | rfl | rfl | rfl | rfl | rfl | rfl | rfl
      · refine ⟨fun _ => ?_, fun y => (by cases y), fun y => (by cases y), fun y => (by cases y), fun y => (by cases y), fun y => (by cases y), fun y => (by cases y), fun y => (by cases y), fun y => (by cases y), fun y => (by cases y), fun y => (by cases y)⟩
        refine ⟨prcN u.1.1 (Int32.ofNat r), x5, rfl, ?_, ?_, ?_, ?_, ?_, ?_, fun l hl => ?_, ?_, ?_⟩
        · rw [cNw_q (by omega)]; rfl
        · rw [cNw_q (by omega)]; rfl
        · rw [cNw_q (by omega)]; rfl
        · rw [cNw_q (by omega)]; rfl
        · rw [cNw_q (by omega)]; rfl
        · rw [hh]; rfl
        · rw [nP_1 (by have := KI_lt hl; omega)]
          unfold KI at hl
          rcases hl with rfl | rfl | rfl | rfl | rfl | rfl | rfl | rfl | rfl <;> rfl
        · rw [nP_2 (by omega)]; rfl
        · rw [nP_2 (by omega)]; rfl
      · refine ⟨fun y => (by cases y), fun _ => ?_, fun y => (by cases y), fun y => (by cases y), fun y => (by cases y), fun y => (by cases y), fun y => (by cases y), fun y => (by cases y), fun y => (by cases y), fun y => (by cases y), fun y => (by cases y)⟩
        refine ⟨frmN u.1.1, x6 (by omega), ?_, ?_, ?_, ?_, ?_, fun l hl => ?_⟩
        · rw [cNw_q (by omega)]; rfl
        · rw [cNw_q (by omega)]; rfl
        · rw [cNw_q (by omega)]; rfl
        · rw [cNw_q (by omega)]; rfl
        · rw [cNw_q (by omega)]; rfl
        · rw [nP_1 (by have := KG_lt hl; omega)]
          unfold KG at hl
          rcases hl with rfl | rfl | rfl | rfl | rfl <;> rfl
      · refine (ROL_J (by unfold isJ; omega)).mpr ⟨fun _ => 0, x7 7 (by omega) (by omega), fun i _ => by rw [nP_4 (by omega)]⟩
      · refine (ROL_J (by unfold isJ; omega)).mpr ⟨fun _ => 0, x7 8 (by omega) (by omega), fun i _ => by rw [nP_4 (by omega)]⟩
      · refine (ROL_J (by unfold isJ; omega)).mpr ⟨fun _ => 0, x7 9 (by omega) (by omega), fun i _ => by rw [nP_4 (by omega)]⟩
      · refine (ROL_I (by unfold isI; omega)).mpr ⟨fun _ => 0, x7 10 (by omega) (by omega), fun i _ => by rw [nP_3 (by omega)]⟩
      · refine (ROL_I (by unfold isI; omega)).mpr ⟨fun _ => 0, x7 2 (by omega) (by omega), fun i _ => by rw [nP_3 (by omega)]⟩
      · refine (ROL_I (by unfold isI; omega)).mpr ⟨fun _ => 0, ?_, fun i _ => by rw [nP_3 (by omega)]⟩
        rw [show lnI (newP m r) r 32 = 64 from lnQ_new (k := 42) (by omega)]
        exact x7 3 (by omega) (by omega)
      · refine (ROL_J (by unfold isJ; omega)).mpr ⟨fun _ => 0, ?_, fun i _ => by rw [nP_4 (by omega)]⟩
        rw [show lnJ (newP m r) r 33 = 64 from lnQ_new (k := 43) (by omega)]
        exact x7 4 (by omega) (by omega)
      · refine (ROL_J (by unfold isJ; omega)).mpr ⟨fun _ => 0, ?_, fun i _ => by rw [nP_4 (by omega)]⟩
        rw [show lnJ (newP m r) r 35 = 64 from lnQ_new (k := 45) (by omega)]
        exact x7 5 (by omega) (by omega)
      · refine (ROL_I (by unfold isI; omega)).mpr ⟨fun _ => 0, ?_, fun i _ => by rw [nP_3 (by omega)]⟩
        rw [show lnI (newP m r) r 37 = 32 from lnQ_new (k := 47) (by omega)]
        exact x7 6 (by omega) (by omega)
    · have hr := ((hM r).mp a).resolve_right c1
      have hd := d2 r k hr b
      rw [cNw_r hk1 c1, e2 _ (by omega), x4 _ hd.2]
      have hP := p1 r k hr b
      refine ROL_same (ROL_c hP (fun l hl => cNw_r hl c1) ?_) (SMR_new c1 hk1)
      unfold hmR
      cases e : rf (m.1 (pq r 17)) with
      | none => rfl
      | some r3 =>
        show some (cNw c q u.1.1 (pq r3 0)) = some (c (pq r3 0))
        rw [cNw_r (by omega) (hMq r3 (p2 r r3 hr e))]
  · by_cases c1 : r = q
    · subst c1
      rw [nP_1 (by omega)] at b
      cases b
    · rw [nP_o1 (by unfold pq; omega)] at b
      exact (hM r2).mpr (Or.inl (p2 r r2 (((hM r).mp a).resolve_right c1) b))
  · rw [e1, x2, t1]
    rw [slT_one (c := c) (m := m) (c2 := cNw c q u.1.1) (m2 := newP m q) hq (d := 1630) ?_ (fun r hr => ?_)]
    · omega
    · unfold slQ
      rw [if_pos h0, cNw_q (by omega), if_neg (by omega), lnQ_new (by omega), lnQ_new (by omega), lnQ_new (by omega), lnQ_new (by omega)]
      rfl
    · unfold slQ lnQ
      rw [cNw_r (by omega) hr, nP_o1 (by unfold pq; omega), nP_o1 (by unfold pq; omega), nP_o1 (by unfold pq; omega), nP_o1 (by unfold pq; omega)]
  · rw [e1, x1, x2]; omega
  · by_cases c1 : r = q
    · subst c1
      rw [nP_1 (isL_lt b)]
      unfold isL at b
      rcases b with rfl | rfl | rfl | rfl <;> decide
    · rw [nP_o1 (by have := isL_lt b; unfold pq; omega)]
      exact t3 r k (((hM r).mp a).resolve_right c1) b
end
