set_option maxRecDepth 100000
def rH : Option (CS × Unit) := fm_H_init 400 uH0 0
def xH : CS := match rH with
  | some x => x.1
  | none => e0
def tbl : List (Nat × List Nat) := [(3, [1, 4, 7, 25, 36, 38, 46, 50, 58, 59, 0, 0]), (3, [11, 5, 6, 0]), (0, [3, 4300]), (0, [4, 2101]), (3, [9, 8, 0, 9, 10, 11, 0, 12, 4, 15, 0, 0]), (0, [3, 4000]), (0, [4, 4002]), (0, [4, 4002]), (0, [4, 4002]), (3, [11, 13, 14, 0]), (0, [3, 100]), (0, [4, 21]), (3, [11, 16, 17, 0]), (0, [3, 4300]), (0, [4, 2101]), (3, [10, 19, 20, 21, 22, 23, 24, 0]), (0, [4, 8016]), (0, [4, 8016]), (0, [4, 8016]), (0, [4, 8016]), (0, [4, 8016]), (0, [4, 8016]), (3, [2, 26, 0, 0, 27, 28, 29, 30, 31, 32, 0, 33, 34, 35]), (0, [4, 24000]), (0, [4, 666]), (0, [4, 666]), (0, [4, 666]), (0, [4, 666]), (0, [4, 666]), (0, [4, 666]), (0, [4, 400]), (0, [4, 400]), (0, [4, 400]), (3, [6, 7, 18, 25, 37, 0, 0, 0, 0]), (0, [4, 4002]), (3, [3, 7, 18, 25, 4, 39, 42, 0, 43, 44, 0, 45, 0, 0, 0, 0]), (3, [11, 40, 41, 0]), (0, [3, 300]), (0, [4, 41]), (0, [4, 4000]), (0, [4, 32]), (0, [4, 32]), (0, [4, 4002]), (3, [8, 47, 48, 49, 4, 2, 0, 0]), (1, [2048]), (1, [2048]), (1, [2048]), (3, [12, 46, 51, 0, 0, 0, 0, 0, 52, 53, 54, 0, 55, 56, 0, 57, 0, 0]), (2, [24]), (0, [4, 200]), (0, [4, 200]), (0, [4, 200]), (0, [3, 20000]), (0, [4, 200]), (0, [4, 24]), (3, [5, 25, 50, 46, 2, 2, 0, 0, 0, 0, 0, 1, 0, 0, 0, 0]), (0, [3, 100])]
def okK (x : Nat) (v : LV) : Bool := match v with
  | .inl _ => x == 0
  | .inr (.inl _) => x == 1
  | .inr (.inr none) => x == 2
  | .inr (.inr (some r)) => x == 2 || x == 3 + r
def okS (sh : Nat × List Nat) (c : LC) : Bool := match c with
  | .inl q => sh.1 == 3 && (match sh.2 with
    | [] => false
    | ci :: ks => ci == q.1 && (List.range ks.length).all (fun k => okK (ks.getD k 9) (q.2 k)))
  | .inr (.inl q) => sh.1 == 0 && sh.2 == [q.1, q.2.1]
  | .inr (.inr (.inl q)) => sh.1 == 1 && sh.2 == [q.1]
  | .inr (.inr (.inr q)) => sh.1 == 2 && sh.2 == [q.1]
def skB (u : CS) : Bool := decide (57 ≤ u.1.1) && (List.range 57).all (fun i => okS (tbl.getD i (9, [])) (u.2 i))
def FI (u : CS) (i k : Nat) : Int32 := match u.2 i with
  | .inl q => match q.2 k with
    | .inl v => v
    | _ => 0
  | _ => 0
def FJ (u : CS) (i k : Nat) : Int64 := match u.2 i with
  | .inl q => match q.2 k with
    | .inr (.inl v) => v
    | _ => 0
  | _ => 0
def FRc (u : CS) (i k : Nat) : Option Nat := match u.2 i with
  | .inl q => match q.2 k with
    | .inr (.inr r) => r
    | _ => none
  | _ => none
def AI (u : CS) (i : Nat) : Nat → Int32 := match u.2 i with
  | .inr (.inl q) => q.2.2
  | _ => fun _ => 0
def AJ (u : CS) (i : Nat) : Nat → Int64 := match u.2 i with
  | .inr (.inr (.inl q)) => q.2
  | _ => fun _ => 0
def AP (u : CS) (i : Nat) : Nat → Option Nat := match u.2 i with
  | .inr (.inr (.inr q)) => q.2
  | _ => fun _ => none
def uF (u : CS) (i k : Nat) (v : LV) : CS := match u.2 i with
  | .inl q => cup u i (.inl (q.1, fun j => if j = k then v else q.2 j))
  | _ => u
def uA (u : CS) (i : Nat) (g : Nat → Int32) : CS := match u.2 i with
  | .inr (.inl q) => cup u i (.inr (.inl (q.1, q.2.1, g)))
  | _ => u
def uJ (u : CS) (i : Nat) (g : Nat → Int64) : CS := match u.2 i with
  | .inr (.inr (.inl q)) => cup u i (.inr (.inr (.inl (q.1, g))))
  | _ => u
theorem sk_n {u : CS} (h : skB u = true) : 57 ≤ u.1.1 := by
  unfold skB at h
  rw [Bool.and_eq_true] at h
  exact of_decide_eq_true h.1
theorem sk_at {u : CS} (h : skB u = true) {i : Nat} (hi : i < 57) : okS (tbl.getD i (9, [])) (u.2 i) = true := by
  unfold skB at h
  rw [Bool.and_eq_true] at h
  exact List.all_eq_true.mp h.2 i (List.mem_range.mpr hi)
theorem sk_o {u : CS} (h : skB u = true) {i ci : Nat} {ks : List Nat} (hi : i < 57) (ht : tbl.getD i (9, []) = (3, ci :: ks)) : ∃ f, i < u.1.1 ∧ u.2 i = .inl (ci, f) ∧ ∀ k, k < ks.length → okK (ks.getD k 9) (f k) = true := by
  have h1 := sk_at h hi
  rw [ht] at h1
  have hn := sk_n h
  cases hc : u.2 i with
  | inl q =>
    rw [hc] at h1
    simp only [okS, Bool.and_eq_true, beq_iff_eq] at h1
    obtain ⟨-, rfl, h2⟩ := h1
    exact ⟨q.2, by omega, rfl, fun k hk => List.all_eq_true.mp h2 k (List.mem_range.mpr hk)⟩
  | inr q => rw [hc] at h1; rcases q with q | q | q <;> simp [okS] at h1
theorem sk_a {u : CS} (h : skB u = true) {i t n : Nat} (hi : i < 57) (ht : tbl.getD i (9, []) = (0, [t, n])) : i < u.1.1 ∧ u.2 i = .inr (.inl (t, n, AI u i)) := by
  have h1 := sk_at h hi
  rw [ht] at h1
  have hn := sk_n h
  cases hc : u.2 i with
  | inl q => rw [hc] at h1; simp [okS] at h1
  | inr q =>
    rcases q with q | q | q
    · rw [hc] at h1
      obtain ⟨a, b, c⟩ := q
      simp [okS] at h1
      obtain ⟨rfl, rfl⟩ := h1
      refine ⟨by omega, ?_⟩
      unfold AI
      rw [hc]
    · rw [hc] at h1; simp [okS] at h1
    · rw [hc] at h1; simp [okS] at h1
theorem sk_l {u : CS} (h : skB u = true) {i n : Nat} (hi : i < 57) (ht : tbl.getD i (9, []) = (1, [n])) : i < u.1.1 ∧ u.2 i = .inr (.inr (.inl (n, AJ u i))) := by
  have h1 := sk_at h hi
  rw [ht] at h1
  have hn := sk_n h
  cases hc : u.2 i with
  | inl q => rw [hc] at h1; simp [okS] at h1
  | inr q =>
    rcases q with q | q | q
    · rw [hc] at h1; simp [okS] at h1
    · rw [hc] at h1
      obtain ⟨a, b⟩ := q
      simp [okS] at h1
      subst h1
      refine ⟨by omega, ?_⟩
      unfold AJ
      rw [hc]
    · rw [hc] at h1; simp [okS] at h1
theorem sk_gI {u : CS} (h : skB u = true) {i ci k : Nat} {ks : List Nat} (hi : i < 57) (ht : tbl.getD i (9, []) = (3, ci :: ks)) (hk : k < ks.length) (h0 : ks.getD k 9 = 0) : gI u i ci k = some (FI u i k) := by
  obtain ⟨f, h1, h2, h3⟩ := sk_o h hi ht
  have h4 := h3 k hk
  rw [h0] at h4
  unfold gI FI oF
  rw [if_pos h1, h2]
  simp only [if_true]
  cases hf : f k with
  | inl v => rfl
  | inr v => rw [hf] at h4; rcases v with v | v | v <;> (simp [okK] at h4 <;> omega)
theorem sk_gJ {u : CS} (h : skB u = true) {i ci k : Nat} {ks : List Nat} (hi : i < 57) (ht : tbl.getD i (9, []) = (3, ci :: ks)) (hk : k < ks.length) (h0 : ks.getD k 9 = 1) : gJ u i ci k = some (FJ u i k) := by
  obtain ⟨f, h1, h2, h3⟩ := sk_o h hi ht
  have h4 := h3 k hk
  rw [h0] at h4
  unfold gJ FJ oF
  rw [if_pos h1, h2]
  simp only [if_true]
  cases hf : f k with
  | inl v => rw [hf] at h4; simp [okK] at h4
  | inr v => rcases v with v | v | v <;> first | rfl | (rw [hf] at h4; simp [okK] at h4 <;> omega)
theorem sk_gR {u : CS} (h : skB u = true) {i ci k r : Nat} {ks : List Nat} (hi : i < 57) (ht : tbl.getD i (9, []) = (3, ci :: ks)) (hk : k < ks.length) (h0 : ks.getD k 9 = 3 + r) : gR u i ci k = some (some r) := by
  obtain ⟨f, h1, h2, h3⟩ := sk_o h hi ht
  have h4 := h3 k hk
  rw [h0] at h4
  unfold gR oF
  rw [if_pos h1, h2]
  simp only [if_true]
  cases hf : f k with
  | inl v => rw [hf] at h4; simp [okK] at h4
  | inr v =>
    rcases v with v | v | v
    · rw [hf] at h4
      simp [okK] at h4
      omega
    · rw [hf] at h4
      simp [okK] at h4
      omega
    · rw [hf] at h4
      simp only [okK, Bool.or_eq_true, beq_iff_eq] at h4
      have : v = r := by omega
      rw [this]
theorem sk_gD {u : CS} (h : skB u = true) {i ci k : Nat} {ks : List Nat} (hi : i < 57) (ht : tbl.getD i (9, []) = (3, ci :: ks)) (hk : k < ks.length) (h0 : ks.getD k 9 = 2) : gR u i ci k = some (FRc u i k) := by
  obtain ⟨f, h1, h2, h3⟩ := sk_o h hi ht
  have h4 := h3 k hk
  rw [h0] at h4
  unfold gR FRc oF
  rw [if_pos h1, h2]
  simp only [if_true]
  cases hf : f k with
  | inl v => rw [hf] at h4; simp [okK] at h4
  | inr v => rcases v with v | v | v <;> first | rfl | (rw [hf] at h4; simp [okK] at h4 <;> omega)
theorem sk_isO {u : CS} (h : skB u = true) {i ci : Nat} {ks : List Nat} (hi : i < 57) (ht : tbl.getD i (9, []) = (3, ci :: ks)) : isO u i ci = true := by
  obtain ⟨f, h1, h2, -⟩ := sk_o h hi ht
  unfold isO oF
  rw [if_pos h1, h2]
  simp
theorem sk_pF {u : CS} (h : skB u = true) {i ci k : Nat} {ks : List Nat} {v : LV} (hi : i < 57) (ht : tbl.getD i (9, []) = (3, ci :: ks)) : pF u i ci k v = some (uF u i k v) := by
  obtain ⟨f, h1, h2, -⟩ := sk_o h hi ht
  unfold pF uF oF
  rw [if_pos h1, h2]
  simp
theorem sk_cup {u : CS} (h : skB u = true) {i : Nat} {c : LC} (hc : okS (tbl.getD i (9, [])) c = true) : skB (cup u i c) = true := by
  have h1 := sk_n h
  unfold skB
  rw [Bool.and_eq_true]
  refine ⟨decide_eq_true h1, List.all_eq_true.mpr (fun j hj => ?_)⟩
  have hj := List.mem_range.mp hj
  show okS (tbl.getD j (9, [])) (if j = i then c else u.2 j) = true
  by_cases e : j = i
  · rw [if_pos e, e]; exact hc
  · rw [if_neg e]; exact sk_at h hj
theorem sk_uF {u : CS} (h : skB u = true) {i ci k x : Nat} {ks : List Nat} {v : LV} (hi : i < 57) (ht : tbl.getD i (9, []) = (3, ci :: ks)) (hk : ks[k]? = some x) (hv : okK x v = true) : skB (uF u i k v) = true := by
  obtain ⟨f, h1, h2, h3⟩ := sk_o h hi ht
  unfold uF
  rw [h2]
  refine sk_cup h ?_
  rw [ht]
  simp only [okS, Bool.and_eq_true, beq_iff_eq, List.all_eq_true, List.mem_range, true_and]
  intro j hj
  by_cases e : j = k
  · rw [if_pos e, e, List.getD_eq_getElem?_getD, hk]; exact hv
  · rw [if_neg e]; exact h3 j hj
theorem sk_uA {u : CS} (h : skB u = true) {i : Nat} {g : Nat → Int32} (hi : i < 57) : skB (uA u i g) = true := by
  unfold uA
  have h1 := sk_at h hi
  cases hc : u.2 i with
  | inl q => exact h
  | inr q =>
    rcases q with q | q | q
    · rw [hc] at h1
      exact sk_cup h h1
    · exact h
    · exact h
theorem sk_uJ {u : CS} (h : skB u = true) {i : Nat} {g : Nat → Int64} (hi : i < 57) : skB (uJ u i g) = true := by
  unfold uJ
  have h1 := sk_at h hi
  cases hc : u.2 i with
  | inl q => exact h
  | inr q =>
    rcases q with q | q | q
    · exact h
    · rw [hc] at h1
      exact sk_cup h h1
    · exact h
theorem sk_aI {u : CS} (h : skB u = true) {i t n : Nat} {j : Int32} (hi : i < 57) (ht : tbl.getD i (9, []) = (0, [t, n])) : aI u i t j = if inb j n = true then some (AI u i j.toNatClampNeg) else none := by
  obtain ⟨h1, h2⟩ := sk_a h hi ht
  unfold aI oA
  rw [if_pos h1, h2]
  simp only [if_true]
theorem sk_sI {u : CS} (h : skB u = true) {i t n : Nat} {j v : Int32} (hi : i < 57) (ht : tbl.getD i (9, []) = (0, [t, n])) : sI u i t j v = if inb j n = true then some (uA u i (upd (AI u i) j.toNatClampNeg v)) else none := by
  obtain ⟨h1, h2⟩ := sk_a h hi ht
  unfold sI oA uA
  rw [if_pos h1, h2]
  simp only [if_true]
theorem sk_nA {u : CS} (h : skB u = true) {i t n : Nat} (hi : i < 57) (ht : tbl.getD i (9, []) = (0, [t, n])) : nA u i t = some (Int32.ofNat n) := by
  obtain ⟨h1, h2⟩ := sk_a h hi ht
  unfold nA oA
  rw [if_pos h1, h2]
  simp
theorem sk_aJ {u : CS} (h : skB u = true) {i n : Nat} {j : Int32} (hi : i < 57) (ht : tbl.getD i (9, []) = (1, [n])) : aJ u i j = if inb j n = true then some (AJ u i j.toNatClampNeg) else none := by
  obtain ⟨h1, h2⟩ := sk_l h hi ht
  unfold aJ oL
  rw [if_pos h1, h2]
theorem sk_sJ {u : CS} (h : skB u = true) {i n : Nat} {j : Int32} {v : Int64} (hi : i < 57) (ht : tbl.getD i (9, []) = (1, [n])) : sJ u i j v = if inb j n = true then some (uJ u i (vp_updL (AJ u i) j.toNatClampNeg v)) else none := by
  obtain ⟨h1, h2⟩ := sk_l h hi ht
  unfold sJ oL uJ
  rw [if_pos h1, h2]
theorem uF_1 {u : CS} {i k : Nat} {v : LV} : (uF u i k v).1 = u.1 := by unfold uF; split <;> rfl
theorem uA_1 {u : CS} {i : Nat} {g : Nat → Int32} : (uA u i g).1 = u.1 := by unfold uA; split <;> rfl
theorem uJ_1 {u : CS} {i : Nat} {g : Nat → Int64} : (uJ u i g).1 = u.1 := by unfold uJ; split <;> rfl
theorem uF_ne {u : CS} {i j k : Nat} {v : LV} (h : j ≠ i) : (uF u i k v).2 j = u.2 j := by
  unfold uF
  split
  · show (if j = i then _ else u.2 j) = _
    rw [if_neg h]
  · rfl
theorem uA_ne {u : CS} {i j : Nat} {g : Nat → Int32} (h : j ≠ i) : (uA u i g).2 j = u.2 j := by
  unfold uA
  split
  · show (if j = i then _ else u.2 j) = _
    rw [if_neg h]
  · rfl
theorem uJ_ne {u : CS} {i j : Nat} {g : Nat → Int64} (h : j ≠ i) : (uJ u i g).2 j = u.2 j := by
  unfold uJ
  split
  · show (if j = i then _ else u.2 j) = _
    rw [if_neg h]
  · rfl
theorem FI_F {u : CS} {i k i2 k2 : Nat} {v : LV} (h : i2 ≠ i ∨ k2 ≠ k) : FI (uF u i k v) i2 k2 = FI u i2 k2 := by
  by_cases e : i2 = i
  · subst e
    have hk : k2 ≠ k := by rcases h with h | h; exact absurd rfl h; exact h
    unfold FI uF
    cases hc : u.2 i2 with
    | inl q => simp [cup, hk]
    | inr q => simp [hc]
  · unfold FI; rw [uF_ne e]
theorem FI_self {u : CS} (h : skB u = true) {i ci k : Nat} {ks : List Nat} {v : Int32} (hi : i < 57) (ht : tbl.getD i (9, []) = (3, ci :: ks)) : FI (uF u i k (.inl v)) i k = v := by
  obtain ⟨f, h1, h2, -⟩ := sk_o h hi ht
  unfold FI uF
  rw [h2]
  simp [cup]
theorem FI_A {u : CS} {i i2 k2 : Nat} {g : Nat → Int32} : FI (uA u i g) i2 k2 = FI u i2 k2 := by
  by_cases e : i2 = i
  · subst e
    unfold FI uA
    cases hc : u.2 i2 with
    | inl q => simp [hc]
    | inr q => rcases q with q | q | q <;> simp [cup, hc]
  · unfold FI; rw [uA_ne e]
theorem FI_J {u : CS} {i i2 k2 : Nat} {g : Nat → Int64} : FI (uJ u i g) i2 k2 = FI u i2 k2 := by
  by_cases e : i2 = i
  · subst e
    unfold FI uJ
    cases hc : u.2 i2 with
    | inl q => simp [hc]
    | inr q => rcases q with q | q | q <;> simp [cup, hc]
  · unfold FI; rw [uJ_ne e]
theorem AI_F {u : CS} {i k i2 : Nat} {v : LV} : AI (uF u i k v) i2 = AI u i2 := by
  by_cases e : i2 = i
  · subst e
    unfold AI uF
    cases hc : u.2 i2 with
    | inl q => simp [cup]
    | inr q => simp [hc]
  · unfold AI; rw [uF_ne e]
theorem AI_A {u : CS} {i i2 : Nat} {g : Nat → Int32} (h : i2 ≠ i) : AI (uA u i g) i2 = AI u i2 := by unfold AI; rw [uA_ne h]
theorem AI_self {u : CS} (h : skB u = true) {i t n : Nat} {g : Nat → Int32} (hi : i < 57) (ht : tbl.getD i (9, []) = (0, [t, n])) : AI (uA u i g) i = g := by
  obtain ⟨h1, h2⟩ := sk_a h hi ht
  unfold uA
  rw [h2]
  unfold AI
  simp [cup]
theorem AI_J {u : CS} {i i2 : Nat} {g : Nat → Int64} : AI (uJ u i g) i2 = AI u i2 := by
  by_cases e : i2 = i
  · subst e
    unfold AI uJ
    cases hc : u.2 i2 with
    | inl q => simp [hc]
    | inr q => rcases q with q | q | q <;> simp [cup, hc]
  · unfold AI; rw [uJ_ne e]
theorem rH_some : rH.isSome = true := by decide +kernel
theorem xH_eq : fm_H_init 400 uH0 0 = some (xH, ()) := by
  have h := rH_some
  show rH = some (xH, ())
  unfold xH
  cases hr : rH with
  | none => rw [hr] at h; cases h
  | some x => rfl
theorem xH_sk : skB xH = true := by decide +kernel
theorem xH_n : xH.1 = (57, 145838) := by decide +kernel
theorem io_0 {u : CS} (h : skB u = true) : isO u 0 1 = true := sk_isO h (by decide) rfl
theorem gr_0_0 {u : CS} (h : skB u = true) : gR u 0 1 0 = some (some 1) := sk_gR h (by decide) rfl (by decide) rfl
theorem gr_0_1 {u : CS} (h : skB u = true) : gR u 0 1 1 = some (some 4) := sk_gR h (by decide) rfl (by decide) rfl
theorem gr_0_2 {u : CS} (h : skB u = true) : gR u 0 1 2 = some (some 22) := sk_gR h (by decide) rfl (by decide) rfl
theorem gr_0_3 {u : CS} (h : skB u = true) : gR u 0 1 3 = some (some 33) := sk_gR h (by decide) rfl (by decide) rfl
theorem gr_0_4 {u : CS} (h : skB u = true) : gR u 0 1 4 = some (some 35) := sk_gR h (by decide) rfl (by decide) rfl
theorem gr_0_5 {u : CS} (h : skB u = true) : gR u 0 1 5 = some (some 43) := sk_gR h (by decide) rfl (by decide) rfl
theorem gr_0_6 {u : CS} (h : skB u = true) : gR u 0 1 6 = some (some 47) := sk_gR h (by decide) rfl (by decide) rfl
theorem gr_0_7 {u : CS} (h : skB u = true) : gR u 0 1 7 = some (some 55) := sk_gR h (by decide) rfl (by decide) rfl
theorem gr_0_8 {u : CS} (h : skB u = true) : gR u 0 1 8 = some (some 56) := sk_gR h (by decide) rfl (by decide) rfl
theorem gi_0_9 {u : CS} (h : skB u = true) : gI u 0 1 9 = some (FI u 0 9) := sk_gI h (by decide) rfl (by decide) rfl
theorem pf_0_9 {u : CS} (h : skB u = true) {v : Int32} : pF u 0 1 9 (.inl v) = some (uF u 0 9 (.inl v)) := sk_pF h (by decide) rfl
theorem sf_0_9 {u : CS} (h : skB u = true) {v : Int32} : skB (uF u 0 9 (.inl v)) = true := sk_uF (x := 0) h (by decide) rfl rfl rfl
theorem fi_0_9 {u : CS} (h : skB u = true) {v : Int32} : FI (uF u 0 9 (.inl v)) 0 9 = v := FI_self h (by decide) rfl
theorem gi_0_10 {u : CS} (h : skB u = true) : gI u 0 1 10 = some (FI u 0 10) := sk_gI h (by decide) rfl (by decide) rfl
theorem pf_0_10 {u : CS} (h : skB u = true) {v : Int32} : pF u 0 1 10 (.inl v) = some (uF u 0 10 (.inl v)) := sk_pF h (by decide) rfl
theorem sf_0_10 {u : CS} (h : skB u = true) {v : Int32} : skB (uF u 0 10 (.inl v)) = true := sk_uF (x := 0) h (by decide) rfl rfl rfl
theorem fi_0_10 {u : CS} (h : skB u = true) {v : Int32} : FI (uF u 0 10 (.inl v)) 0 10 = v := FI_self h (by decide) rfl
theorem io_1 {u : CS} (h : skB u = true) : isO u 1 11 = true := sk_isO h (by decide) rfl
theorem gr_1_0 {u : CS} (h : skB u = true) : gR u 1 11 0 = some (some 2) := sk_gR h (by decide) rfl (by decide) rfl
theorem gr_1_1 {u : CS} (h : skB u = true) : gR u 1 11 1 = some (some 3) := sk_gR h (by decide) rfl (by decide) rfl
theorem gi_1_2 {u : CS} (h : skB u = true) : gI u 1 11 2 = some (FI u 1 2) := sk_gI h (by decide) rfl (by decide) rfl
theorem pf_1_2 {u : CS} (h : skB u = true) {v : Int32} : pF u 1 11 2 (.inl v) = some (uF u 1 2 (.inl v)) := sk_pF h (by decide) rfl
theorem sf_1_2 {u : CS} (h : skB u = true) {v : Int32} : skB (uF u 1 2 (.inl v)) = true := sk_uF (x := 0) h (by decide) rfl rfl rfl
theorem fi_1_2 {u : CS} (h : skB u = true) {v : Int32} : FI (uF u 1 2 (.inl v)) 1 2 = v := FI_self h (by decide) rfl
theorem ai_2 {u : CS} (h : skB u = true) {j : Int32} : aI u 2 3 j = if inb j 4300 = true then some (AI u 2 j.toNatClampNeg) else none := sk_aI h (by decide) rfl
theorem si_2 {u : CS} (h : skB u = true) {j v : Int32} : sI u 2 3 j v = if inb j 4300 = true then some (uA u 2 (upd (AI u 2) j.toNatClampNeg v)) else none := sk_sI h (by decide) rfl
theorem na_2 {u : CS} (h : skB u = true) : nA u 2 3 = some 4300 := sk_nA h (by decide) rfl
theorem sa_2 {u : CS} (h : skB u = true) {g : Nat → Int32} : skB (uA u 2 g) = true := sk_uA h (by decide)
theorem fa_2 {u : CS} (h : skB u = true) {g : Nat → Int32} : AI (uA u 2 g) 2 = g := AI_self h (by decide) rfl
theorem ai_3 {u : CS} (h : skB u = true) {j : Int32} : aI u 3 4 j = if inb j 2101 = true then some (AI u 3 j.toNatClampNeg) else none := sk_aI h (by decide) rfl
theorem si_3 {u : CS} (h : skB u = true) {j v : Int32} : sI u 3 4 j v = if inb j 2101 = true then some (uA u 3 (upd (AI u 3) j.toNatClampNeg v)) else none := sk_sI h (by decide) rfl
theorem na_3 {u : CS} (h : skB u = true) : nA u 3 4 = some 2101 := sk_nA h (by decide) rfl
theorem sa_3 {u : CS} (h : skB u = true) {g : Nat → Int32} : skB (uA u 3 g) = true := sk_uA h (by decide)
theorem fa_3 {u : CS} (h : skB u = true) {g : Nat → Int32} : AI (uA u 3 g) 3 = g := AI_self h (by decide) rfl
theorem io_4 {u : CS} (h : skB u = true) : isO u 4 9 = true := sk_isO h (by decide) rfl
theorem gr_4_0 {u : CS} (h : skB u = true) : gR u 4 9 0 = some (some 5) := sk_gR h (by decide) rfl (by decide) rfl
theorem gi_4_1 {u : CS} (h : skB u = true) : gI u 4 9 1 = some (FI u 4 1) := sk_gI h (by decide) rfl (by decide) rfl
theorem pf_4_1 {u : CS} (h : skB u = true) {v : Int32} : pF u 4 9 1 (.inl v) = some (uF u 4 1 (.inl v)) := sk_pF h (by decide) rfl
theorem sf_4_1 {u : CS} (h : skB u = true) {v : Int32} : skB (uF u 4 1 (.inl v)) = true := sk_uF (x := 0) h (by decide) rfl rfl rfl
theorem fi_4_1 {u : CS} (h : skB u = true) {v : Int32} : FI (uF u 4 1 (.inl v)) 4 1 = v := FI_self h (by decide) rfl
theorem gr_4_2 {u : CS} (h : skB u = true) : gR u 4 9 2 = some (some 6) := sk_gR h (by decide) rfl (by decide) rfl
theorem gr_4_3 {u : CS} (h : skB u = true) : gR u 4 9 3 = some (some 7) := sk_gR h (by decide) rfl (by decide) rfl
theorem gr_4_4 {u : CS} (h : skB u = true) : gR u 4 9 4 = some (some 8) := sk_gR h (by decide) rfl (by decide) rfl
theorem gi_4_5 {u : CS} (h : skB u = true) : gI u 4 9 5 = some (FI u 4 5) := sk_gI h (by decide) rfl (by decide) rfl
theorem pf_4_5 {u : CS} (h : skB u = true) {v : Int32} : pF u 4 9 5 (.inl v) = some (uF u 4 5 (.inl v)) := sk_pF h (by decide) rfl
theorem sf_4_5 {u : CS} (h : skB u = true) {v : Int32} : skB (uF u 4 5 (.inl v)) = true := sk_uF (x := 0) h (by decide) rfl rfl rfl
theorem fi_4_5 {u : CS} (h : skB u = true) {v : Int32} : FI (uF u 4 5 (.inl v)) 4 5 = v := FI_self h (by decide) rfl
theorem gr_4_6 {u : CS} (h : skB u = true) : gR u 4 9 6 = some (some 9) := sk_gR h (by decide) rfl (by decide) rfl
theorem gr_4_7 {u : CS} (h : skB u = true) : gR u 4 9 7 = some (some 1) := sk_gR h (by decide) rfl (by decide) rfl
theorem gr_4_8 {u : CS} (h : skB u = true) : gR u 4 9 8 = some (some 12) := sk_gR h (by decide) rfl (by decide) rfl
theorem gi_4_9 {u : CS} (h : skB u = true) : gI u 4 9 9 = some (FI u 4 9) := sk_gI h (by decide) rfl (by decide) rfl
theorem pf_4_9 {u : CS} (h : skB u = true) {v : Int32} : pF u 4 9 9 (.inl v) = some (uF u 4 9 (.inl v)) := sk_pF h (by decide) rfl
theorem sf_4_9 {u : CS} (h : skB u = true) {v : Int32} : skB (uF u 4 9 (.inl v)) = true := sk_uF (x := 0) h (by decide) rfl rfl rfl
theorem fi_4_9 {u : CS} (h : skB u = true) {v : Int32} : FI (uF u 4 9 (.inl v)) 4 9 = v := FI_self h (by decide) rfl
theorem gi_4_10 {u : CS} (h : skB u = true) : gI u 4 9 10 = some (FI u 4 10) := sk_gI h (by decide) rfl (by decide) rfl
theorem pf_4_10 {u : CS} (h : skB u = true) {v : Int32} : pF u 4 9 10 (.inl v) = some (uF u 4 10 (.inl v)) := sk_pF h (by decide) rfl
theorem sf_4_10 {u : CS} (h : skB u = true) {v : Int32} : skB (uF u 4 10 (.inl v)) = true := sk_uF (x := 0) h (by decide) rfl rfl rfl
theorem fi_4_10 {u : CS} (h : skB u = true) {v : Int32} : FI (uF u 4 10 (.inl v)) 4 10 = v := FI_self h (by decide) rfl
theorem ai_5 {u : CS} (h : skB u = true) {j : Int32} : aI u 5 3 j = if inb j 4000 = true then some (AI u 5 j.toNatClampNeg) else none := sk_aI h (by decide) rfl
theorem si_5 {u : CS} (h : skB u = true) {j v : Int32} : sI u 5 3 j v = if inb j 4000 = true then some (uA u 5 (upd (AI u 5) j.toNatClampNeg v)) else none := sk_sI h (by decide) rfl
theorem na_5 {u : CS} (h : skB u = true) : nA u 5 3 = some 4000 := sk_nA h (by decide) rfl
theorem sa_5 {u : CS} (h : skB u = true) {g : Nat → Int32} : skB (uA u 5 g) = true := sk_uA h (by decide)
theorem fa_5 {u : CS} (h : skB u = true) {g : Nat → Int32} : AI (uA u 5 g) 5 = g := AI_self h (by decide) rfl
theorem ai_6 {u : CS} (h : skB u = true) {j : Int32} : aI u 6 4 j = if inb j 4002 = true then some (AI u 6 j.toNatClampNeg) else none := sk_aI h (by decide) rfl
theorem si_6 {u : CS} (h : skB u = true) {j v : Int32} : sI u 6 4 j v = if inb j 4002 = true then some (uA u 6 (upd (AI u 6) j.toNatClampNeg v)) else none := sk_sI h (by decide) rfl
theorem na_6 {u : CS} (h : skB u = true) : nA u 6 4 = some 4002 := sk_nA h (by decide) rfl
theorem sa_6 {u : CS} (h : skB u = true) {g : Nat → Int32} : skB (uA u 6 g) = true := sk_uA h (by decide)
theorem fa_6 {u : CS} (h : skB u = true) {g : Nat → Int32} : AI (uA u 6 g) 6 = g := AI_self h (by decide) rfl
theorem ai_7 {u : CS} (h : skB u = true) {j : Int32} : aI u 7 4 j = if inb j 4002 = true then some (AI u 7 j.toNatClampNeg) else none := sk_aI h (by decide) rfl
theorem si_7 {u : CS} (h : skB u = true) {j v : Int32} : sI u 7 4 j v = if inb j 4002 = true then some (uA u 7 (upd (AI u 7) j.toNatClampNeg v)) else none := sk_sI h (by decide) rfl
theorem na_7 {u : CS} (h : skB u = true) : nA u 7 4 = some 4002 := sk_nA h (by decide) rfl
theorem sa_7 {u : CS} (h : skB u = true) {g : Nat → Int32} : skB (uA u 7 g) = true := sk_uA h (by decide)
theorem fa_7 {u : CS} (h : skB u = true) {g : Nat → Int32} : AI (uA u 7 g) 7 = g := AI_self h (by decide) rfl
theorem ai_8 {u : CS} (h : skB u = true) {j : Int32} : aI u 8 4 j = if inb j 4002 = true then some (AI u 8 j.toNatClampNeg) else none := sk_aI h (by decide) rfl
theorem si_8 {u : CS} (h : skB u = true) {j v : Int32} : sI u 8 4 j v = if inb j 4002 = true then some (uA u 8 (upd (AI u 8) j.toNatClampNeg v)) else none := sk_sI h (by decide) rfl
theorem na_8 {u : CS} (h : skB u = true) : nA u 8 4 = some 4002 := sk_nA h (by decide) rfl
theorem sa_8 {u : CS} (h : skB u = true) {g : Nat → Int32} : skB (uA u 8 g) = true := sk_uA h (by decide)
theorem fa_8 {u : CS} (h : skB u = true) {g : Nat → Int32} : AI (uA u 8 g) 8 = g := AI_self h (by decide) rfl
theorem io_9 {u : CS} (h : skB u = true) : isO u 9 11 = true := sk_isO h (by decide) rfl
theorem gr_9_0 {u : CS} (h : skB u = true) : gR u 9 11 0 = some (some 10) := sk_gR h (by decide) rfl (by decide) rfl
theorem gr_9_1 {u : CS} (h : skB u = true) : gR u 9 11 1 = some (some 11) := sk_gR h (by decide) rfl (by decide) rfl
theorem gi_9_2 {u : CS} (h : skB u = true) : gI u 9 11 2 = some (FI u 9 2) := sk_gI h (by decide) rfl (by decide) rfl
theorem pf_9_2 {u : CS} (h : skB u = true) {v : Int32} : pF u 9 11 2 (.inl v) = some (uF u 9 2 (.inl v)) := sk_pF h (by decide) rfl
theorem sf_9_2 {u : CS} (h : skB u = true) {v : Int32} : skB (uF u 9 2 (.inl v)) = true := sk_uF (x := 0) h (by decide) rfl rfl rfl
theorem fi_9_2 {u : CS} (h : skB u = true) {v : Int32} : FI (uF u 9 2 (.inl v)) 9 2 = v := FI_self h (by decide) rfl
theorem ai_10 {u : CS} (h : skB u = true) {j : Int32} : aI u 10 3 j = if inb j 100 = true then some (AI u 10 j.toNatClampNeg) else none := sk_aI h (by decide) rfl
theorem si_10 {u : CS} (h : skB u = true) {j v : Int32} : sI u 10 3 j v = if inb j 100 = true then some (uA u 10 (upd (AI u 10) j.toNatClampNeg v)) else none := sk_sI h (by decide) rfl
theorem na_10 {u : CS} (h : skB u = true) : nA u 10 3 = some 100 := sk_nA h (by decide) rfl
theorem sa_10 {u : CS} (h : skB u = true) {g : Nat → Int32} : skB (uA u 10 g) = true := sk_uA h (by decide)
theorem fa_10 {u : CS} (h : skB u = true) {g : Nat → Int32} : AI (uA u 10 g) 10 = g := AI_self h (by decide) rfl
theorem ai_11 {u : CS} (h : skB u = true) {j : Int32} : aI u 11 4 j = if inb j 21 = true then some (AI u 11 j.toNatClampNeg) else none := sk_aI h (by decide) rfl
theorem si_11 {u : CS} (h : skB u = true) {j v : Int32} : sI u 11 4 j v = if inb j 21 = true then some (uA u 11 (upd (AI u 11) j.toNatClampNeg v)) else none := sk_sI h (by decide) rfl
theorem na_11 {u : CS} (h : skB u = true) : nA u 11 4 = some 21 := sk_nA h (by decide) rfl
theorem sa_11 {u : CS} (h : skB u = true) {g : Nat → Int32} : skB (uA u 11 g) = true := sk_uA h (by decide)
theorem fa_11 {u : CS} (h : skB u = true) {g : Nat → Int32} : AI (uA u 11 g) 11 = g := AI_self h (by decide) rfl
theorem io_12 {u : CS} (h : skB u = true) : isO u 12 11 = true := sk_isO h (by decide) rfl
theorem gr_12_0 {u : CS} (h : skB u = true) : gR u 12 11 0 = some (some 13) := sk_gR h (by decide) rfl (by decide) rfl
theorem gr_12_1 {u : CS} (h : skB u = true) : gR u 12 11 1 = some (some 14) := sk_gR h (by decide) rfl (by decide) rfl
theorem gi_12_2 {u : CS} (h : skB u = true) : gI u 12 11 2 = some (FI u 12 2) := sk_gI h (by decide) rfl (by decide) rfl
theorem pf_12_2 {u : CS} (h : skB u = true) {v : Int32} : pF u 12 11 2 (.inl v) = some (uF u 12 2 (.inl v)) := sk_pF h (by decide) rfl
theorem sf_12_2 {u : CS} (h : skB u = true) {v : Int32} : skB (uF u 12 2 (.inl v)) = true := sk_uF (x := 0) h (by decide) rfl rfl rfl
theorem fi_12_2 {u : CS} (h : skB u = true) {v : Int32} : FI (uF u 12 2 (.inl v)) 12 2 = v := FI_self h (by decide) rfl
theorem ai_13 {u : CS} (h : skB u = true) {j : Int32} : aI u 13 3 j = if inb j 4300 = true then some (AI u 13 j.toNatClampNeg) else none := sk_aI h (by decide) rfl
theorem si_13 {u : CS} (h : skB u = true) {j v : Int32} : sI u 13 3 j v = if inb j 4300 = true then some (uA u 13 (upd (AI u 13) j.toNatClampNeg v)) else none := sk_sI h (by decide) rfl
theorem na_13 {u : CS} (h : skB u = true) : nA u 13 3 = some 4300 := sk_nA h (by decide) rfl
theorem sa_13 {u : CS} (h : skB u = true) {g : Nat → Int32} : skB (uA u 13 g) = true := sk_uA h (by decide)
theorem fa_13 {u : CS} (h : skB u = true) {g : Nat → Int32} : AI (uA u 13 g) 13 = g := AI_self h (by decide) rfl
theorem ai_14 {u : CS} (h : skB u = true) {j : Int32} : aI u 14 4 j = if inb j 2101 = true then some (AI u 14 j.toNatClampNeg) else none := sk_aI h (by decide) rfl
theorem si_14 {u : CS} (h : skB u = true) {j v : Int32} : sI u 14 4 j v = if inb j 2101 = true then some (uA u 14 (upd (AI u 14) j.toNatClampNeg v)) else none := sk_sI h (by decide) rfl
theorem na_14 {u : CS} (h : skB u = true) : nA u 14 4 = some 2101 := sk_nA h (by decide) rfl
theorem sa_14 {u : CS} (h : skB u = true) {g : Nat → Int32} : skB (uA u 14 g) = true := sk_uA h (by decide)
theorem fa_14 {u : CS} (h : skB u = true) {g : Nat → Int32} : AI (uA u 14 g) 14 = g := AI_self h (by decide) rfl
theorem io_15 {u : CS} (h : skB u = true) : isO u 15 10 = true := sk_isO h (by decide) rfl
theorem gr_15_0 {u : CS} (h : skB u = true) : gR u 15 10 0 = some (some 16) := sk_gR h (by decide) rfl (by decide) rfl
theorem gr_15_1 {u : CS} (h : skB u = true) : gR u 15 10 1 = some (some 17) := sk_gR h (by decide) rfl (by decide) rfl
theorem gr_15_2 {u : CS} (h : skB u = true) : gR u 15 10 2 = some (some 18) := sk_gR h (by decide) rfl (by decide) rfl
theorem gr_15_3 {u : CS} (h : skB u = true) : gR u 15 10 3 = some (some 19) := sk_gR h (by decide) rfl (by decide) rfl
theorem gr_15_4 {u : CS} (h : skB u = true) : gR u 15 10 4 = some (some 20) := sk_gR h (by decide) rfl (by decide) rfl
theorem gr_15_5 {u : CS} (h : skB u = true) : gR u 15 10 5 = some (some 21) := sk_gR h (by decide) rfl (by decide) rfl
theorem gi_15_6 {u : CS} (h : skB u = true) : gI u 15 10 6 = some (FI u 15 6) := sk_gI h (by decide) rfl (by decide) rfl
theorem pf_15_6 {u : CS} (h : skB u = true) {v : Int32} : pF u 15 10 6 (.inl v) = some (uF u 15 6 (.inl v)) := sk_pF h (by decide) rfl
theorem sf_15_6 {u : CS} (h : skB u = true) {v : Int32} : skB (uF u 15 6 (.inl v)) = true := sk_uF (x := 0) h (by decide) rfl rfl rfl
theorem fi_15_6 {u : CS} (h : skB u = true) {v : Int32} : FI (uF u 15 6 (.inl v)) 15 6 = v := FI_self h (by decide) rfl
theorem ai_16 {u : CS} (h : skB u = true) {j : Int32} : aI u 16 4 j = if inb j 8016 = true then some (AI u 16 j.toNatClampNeg) else none := sk_aI h (by decide) rfl
theorem si_16 {u : CS} (h : skB u = true) {j v : Int32} : sI u 16 4 j v = if inb j 8016 = true then some (uA u 16 (upd (AI u 16) j.toNatClampNeg v)) else none := sk_sI h (by decide) rfl
theorem na_16 {u : CS} (h : skB u = true) : nA u 16 4 = some 8016 := sk_nA h (by decide) rfl
theorem sa_16 {u : CS} (h : skB u = true) {g : Nat → Int32} : skB (uA u 16 g) = true := sk_uA h (by decide)
theorem fa_16 {u : CS} (h : skB u = true) {g : Nat → Int32} : AI (uA u 16 g) 16 = g := AI_self h (by decide) rfl
theorem ai_17 {u : CS} (h : skB u = true) {j : Int32} : aI u 17 4 j = if inb j 8016 = true then some (AI u 17 j.toNatClampNeg) else none := sk_aI h (by decide) rfl
theorem si_17 {u : CS} (h : skB u = true) {j v : Int32} : sI u 17 4 j v = if inb j 8016 = true then some (uA u 17 (upd (AI u 17) j.toNatClampNeg v)) else none := sk_sI h (by decide) rfl
theorem na_17 {u : CS} (h : skB u = true) : nA u 17 4 = some 8016 := sk_nA h (by decide) rfl
theorem sa_17 {u : CS} (h : skB u = true) {g : Nat → Int32} : skB (uA u 17 g) = true := sk_uA h (by decide)
theorem fa_17 {u : CS} (h : skB u = true) {g : Nat → Int32} : AI (uA u 17 g) 17 = g := AI_self h (by decide) rfl
theorem ai_18 {u : CS} (h : skB u = true) {j : Int32} : aI u 18 4 j = if inb j 8016 = true then some (AI u 18 j.toNatClampNeg) else none := sk_aI h (by decide) rfl
theorem si_18 {u : CS} (h : skB u = true) {j v : Int32} : sI u 18 4 j v = if inb j 8016 = true then some (uA u 18 (upd (AI u 18) j.toNatClampNeg v)) else none := sk_sI h (by decide) rfl
theorem na_18 {u : CS} (h : skB u = true) : nA u 18 4 = some 8016 := sk_nA h (by decide) rfl
theorem sa_18 {u : CS} (h : skB u = true) {g : Nat → Int32} : skB (uA u 18 g) = true := sk_uA h (by decide)
theorem fa_18 {u : CS} (h : skB u = true) {g : Nat → Int32} : AI (uA u 18 g) 18 = g := AI_self h (by decide) rfl
theorem ai_19 {u : CS} (h : skB u = true) {j : Int32} : aI u 19 4 j = if inb j 8016 = true then some (AI u 19 j.toNatClampNeg) else none := sk_aI h (by decide) rfl
theorem si_19 {u : CS} (h : skB u = true) {j v : Int32} : sI u 19 4 j v = if inb j 8016 = true then some (uA u 19 (upd (AI u 19) j.toNatClampNeg v)) else none := sk_sI h (by decide) rfl
theorem na_19 {u : CS} (h : skB u = true) : nA u 19 4 = some 8016 := sk_nA h (by decide) rfl
theorem sa_19 {u : CS} (h : skB u = true) {g : Nat → Int32} : skB (uA u 19 g) = true := sk_uA h (by decide)
theorem fa_19 {u : CS} (h : skB u = true) {g : Nat → Int32} : AI (uA u 19 g) 19 = g := AI_self h (by decide) rfl
theorem ai_20 {u : CS} (h : skB u = true) {j : Int32} : aI u 20 4 j = if inb j 8016 = true then some (AI u 20 j.toNatClampNeg) else none := sk_aI h (by decide) rfl
theorem si_20 {u : CS} (h : skB u = true) {j v : Int32} : sI u 20 4 j v = if inb j 8016 = true then some (uA u 20 (upd (AI u 20) j.toNatClampNeg v)) else none := sk_sI h (by decide) rfl
theorem na_20 {u : CS} (h : skB u = true) : nA u 20 4 = some 8016 := sk_nA h (by decide) rfl
theorem sa_20 {u : CS} (h : skB u = true) {g : Nat → Int32} : skB (uA u 20 g) = true := sk_uA h (by decide)
theorem fa_20 {u : CS} (h : skB u = true) {g : Nat → Int32} : AI (uA u 20 g) 20 = g := AI_self h (by decide) rfl
theorem ai_21 {u : CS} (h : skB u = true) {j : Int32} : aI u 21 4 j = if inb j 8016 = true then some (AI u 21 j.toNatClampNeg) else none := sk_aI h (by decide) rfl
theorem si_21 {u : CS} (h : skB u = true) {j v : Int32} : sI u 21 4 j v = if inb j 8016 = true then some (uA u 21 (upd (AI u 21) j.toNatClampNeg v)) else none := sk_sI h (by decide) rfl
theorem na_21 {u : CS} (h : skB u = true) : nA u 21 4 = some 8016 := sk_nA h (by decide) rfl
theorem sa_21 {u : CS} (h : skB u = true) {g : Nat → Int32} : skB (uA u 21 g) = true := sk_uA h (by decide)
theorem fa_21 {u : CS} (h : skB u = true) {g : Nat → Int32} : AI (uA u 21 g) 21 = g := AI_self h (by decide) rfl
theorem io_22 {u : CS} (h : skB u = true) : isO u 22 2 = true := sk_isO h (by decide) rfl
theorem gr_22_0 {u : CS} (h : skB u = true) : gR u 22 2 0 = some (some 23) := sk_gR h (by decide) rfl (by decide) rfl
theorem gi_22_1 {u : CS} (h : skB u = true) : gI u 22 2 1 = some (FI u 22 1) := sk_gI h (by decide) rfl (by decide) rfl
theorem pf_22_1 {u : CS} (h : skB u = true) {v : Int32} : pF u 22 2 1 (.inl v) = some (uF u 22 1 (.inl v)) := sk_pF h (by decide) rfl
theorem sf_22_1 {u : CS} (h : skB u = true) {v : Int32} : skB (uF u 22 1 (.inl v)) = true := sk_uF (x := 0) h (by decide) rfl rfl rfl
theorem fi_22_1 {u : CS} (h : skB u = true) {v : Int32} : FI (uF u 22 1 (.inl v)) 22 1 = v := FI_self h (by decide) rfl
theorem gi_22_2 {u : CS} (h : skB u = true) : gI u 22 2 2 = some (FI u 22 2) := sk_gI h (by decide) rfl (by decide) rfl
theorem pf_22_2 {u : CS} (h : skB u = true) {v : Int32} : pF u 22 2 2 (.inl v) = some (uF u 22 2 (.inl v)) := sk_pF h (by decide) rfl
theorem sf_22_2 {u : CS} (h : skB u = true) {v : Int32} : skB (uF u 22 2 (.inl v)) = true := sk_uF (x := 0) h (by decide) rfl rfl rfl
theorem fi_22_2 {u : CS} (h : skB u = true) {v : Int32} : FI (uF u 22 2 (.inl v)) 22 2 = v := FI_self h (by decide) rfl
theorem gr_22_3 {u : CS} (h : skB u = true) : gR u 22 2 3 = some (some 24) := sk_gR h (by decide) rfl (by decide) rfl
theorem gr_22_4 {u : CS} (h : skB u = true) : gR u 22 2 4 = some (some 25) := sk_gR h (by decide) rfl (by decide) rfl
theorem gr_22_5 {u : CS} (h : skB u = true) : gR u 22 2 5 = some (some 26) := sk_gR h (by decide) rfl (by decide) rfl
theorem gr_22_6 {u : CS} (h : skB u = true) : gR u 22 2 6 = some (some 27) := sk_gR h (by decide) rfl (by decide) rfl
theorem gr_22_7 {u : CS} (h : skB u = true) : gR u 22 2 7 = some (some 28) := sk_gR h (by decide) rfl (by decide) rfl
theorem gr_22_8 {u : CS} (h : skB u = true) : gR u 22 2 8 = some (some 29) := sk_gR h (by decide) rfl (by decide) rfl
theorem gi_22_9 {u : CS} (h : skB u = true) : gI u 22 2 9 = some (FI u 22 9) := sk_gI h (by decide) rfl (by decide) rfl
theorem pf_22_9 {u : CS} (h : skB u = true) {v : Int32} : pF u 22 2 9 (.inl v) = some (uF u 22 9 (.inl v)) := sk_pF h (by decide) rfl
theorem sf_22_9 {u : CS} (h : skB u = true) {v : Int32} : skB (uF u 22 9 (.inl v)) = true := sk_uF (x := 0) h (by decide) rfl rfl rfl
theorem fi_22_9 {u : CS} (h : skB u = true) {v : Int32} : FI (uF u 22 9 (.inl v)) 22 9 = v := FI_self h (by decide) rfl
theorem gr_22_10 {u : CS} (h : skB u = true) : gR u 22 2 10 = some (some 30) := sk_gR h (by decide) rfl (by decide) rfl
theorem gr_22_11 {u : CS} (h : skB u = true) : gR u 22 2 11 = some (some 31) := sk_gR h (by decide) rfl (by decide) rfl
theorem gr_22_12 {u : CS} (h : skB u = true) : gR u 22 2 12 = some (some 32) := sk_gR h (by decide) rfl (by decide) rfl
theorem ai_23 {u : CS} (h : skB u = true) {j : Int32} : aI u 23 4 j = if inb j 24000 = true then some (AI u 23 j.toNatClampNeg) else none := sk_aI h (by decide) rfl
theorem si_23 {u : CS} (h : skB u = true) {j v : Int32} : sI u 23 4 j v = if inb j 24000 = true then some (uA u 23 (upd (AI u 23) j.toNatClampNeg v)) else none := sk_sI h (by decide) rfl
theorem na_23 {u : CS} (h : skB u = true) : nA u 23 4 = some 24000 := sk_nA h (by decide) rfl
theorem sa_23 {u : CS} (h : skB u = true) {g : Nat → Int32} : skB (uA u 23 g) = true := sk_uA h (by decide)
theorem fa_23 {u : CS} (h : skB u = true) {g : Nat → Int32} : AI (uA u 23 g) 23 = g := AI_self h (by decide) rfl
theorem ai_24 {u : CS} (h : skB u = true) {j : Int32} : aI u 24 4 j = if inb j 666 = true then some (AI u 24 j.toNatClampNeg) else none := sk_aI h (by decide) rfl
theorem si_24 {u : CS} (h : skB u = true) {j v : Int32} : sI u 24 4 j v = if inb j 666 = true then some (uA u 24 (upd (AI u 24) j.toNatClampNeg v)) else none := sk_sI h (by decide) rfl
theorem na_24 {u : CS} (h : skB u = true) : nA u 24 4 = some 666 := sk_nA h (by decide) rfl
theorem sa_24 {u : CS} (h : skB u = true) {g : Nat → Int32} : skB (uA u 24 g) = true := sk_uA h (by decide)
theorem fa_24 {u : CS} (h : skB u = true) {g : Nat → Int32} : AI (uA u 24 g) 24 = g := AI_self h (by decide) rfl
theorem ai_25 {u : CS} (h : skB u = true) {j : Int32} : aI u 25 4 j = if inb j 666 = true then some (AI u 25 j.toNatClampNeg) else none := sk_aI h (by decide) rfl
theorem si_25 {u : CS} (h : skB u = true) {j v : Int32} : sI u 25 4 j v = if inb j 666 = true then some (uA u 25 (upd (AI u 25) j.toNatClampNeg v)) else none := sk_sI h (by decide) rfl
theorem na_25 {u : CS} (h : skB u = true) : nA u 25 4 = some 666 := sk_nA h (by decide) rfl
theorem sa_25 {u : CS} (h : skB u = true) {g : Nat → Int32} : skB (uA u 25 g) = true := sk_uA h (by decide)
theorem fa_25 {u : CS} (h : skB u = true) {g : Nat → Int32} : AI (uA u 25 g) 25 = g := AI_self h (by decide) rfl
theorem ai_26 {u : CS} (h : skB u = true) {j : Int32} : aI u 26 4 j = if inb j 666 = true then some (AI u 26 j.toNatClampNeg) else none := sk_aI h (by decide) rfl
theorem si_26 {u : CS} (h : skB u = true) {j v : Int32} : sI u 26 4 j v = if inb j 666 = true then some (uA u 26 (upd (AI u 26) j.toNatClampNeg v)) else none := sk_sI h (by decide) rfl
theorem na_26 {u : CS} (h : skB u = true) : nA u 26 4 = some 666 := sk_nA h (by decide) rfl
theorem sa_26 {u : CS} (h : skB u = true) {g : Nat → Int32} : skB (uA u 26 g) = true := sk_uA h (by decide)
theorem fa_26 {u : CS} (h : skB u = true) {g : Nat → Int32} : AI (uA u 26 g) 26 = g := AI_self h (by decide) rfl
theorem ai_27 {u : CS} (h : skB u = true) {j : Int32} : aI u 27 4 j = if inb j 666 = true then some (AI u 27 j.toNatClampNeg) else none := sk_aI h (by decide) rfl
theorem si_27 {u : CS} (h : skB u = true) {j v : Int32} : sI u 27 4 j v = if inb j 666 = true then some (uA u 27 (upd (AI u 27) j.toNatClampNeg v)) else none := sk_sI h (by decide) rfl
theorem na_27 {u : CS} (h : skB u = true) : nA u 27 4 = some 666 := sk_nA h (by decide) rfl
theorem sa_27 {u : CS} (h : skB u = true) {g : Nat → Int32} : skB (uA u 27 g) = true := sk_uA h (by decide)
theorem fa_27 {u : CS} (h : skB u = true) {g : Nat → Int32} : AI (uA u 27 g) 27 = g := AI_self h (by decide) rfl
theorem ai_28 {u : CS} (h : skB u = true) {j : Int32} : aI u 28 4 j = if inb j 666 = true then some (AI u 28 j.toNatClampNeg) else none := sk_aI h (by decide) rfl
theorem si_28 {u : CS} (h : skB u = true) {j v : Int32} : sI u 28 4 j v = if inb j 666 = true then some (uA u 28 (upd (AI u 28) j.toNatClampNeg v)) else none := sk_sI h (by decide) rfl
theorem na_28 {u : CS} (h : skB u = true) : nA u 28 4 = some 666 := sk_nA h (by decide) rfl
theorem sa_28 {u : CS} (h : skB u = true) {g : Nat → Int32} : skB (uA u 28 g) = true := sk_uA h (by decide)
theorem fa_28 {u : CS} (h : skB u = true) {g : Nat → Int32} : AI (uA u 28 g) 28 = g := AI_self h (by decide) rfl
theorem ai_29 {u : CS} (h : skB u = true) {j : Int32} : aI u 29 4 j = if inb j 666 = true then some (AI u 29 j.toNatClampNeg) else none := sk_aI h (by decide) rfl
theorem si_29 {u : CS} (h : skB u = true) {j v : Int32} : sI u 29 4 j v = if inb j 666 = true then some (uA u 29 (upd (AI u 29) j.toNatClampNeg v)) else none := sk_sI h (by decide) rfl
theorem na_29 {u : CS} (h : skB u = true) : nA u 29 4 = some 666 := sk_nA h (by decide) rfl
theorem sa_29 {u : CS} (h : skB u = true) {g : Nat → Int32} : skB (uA u 29 g) = true := sk_uA h (by decide)
theorem fa_29 {u : CS} (h : skB u = true) {g : Nat → Int32} : AI (uA u 29 g) 29 = g := AI_self h (by decide) rfl
theorem ai_30 {u : CS} (h : skB u = true) {j : Int32} : aI u 30 4 j = if inb j 400 = true then some (AI u 30 j.toNatClampNeg) else none := sk_aI h (by decide) rfl
theorem si_30 {u : CS} (h : skB u = true) {j v : Int32} : sI u 30 4 j v = if inb j 400 = true then some (uA u 30 (upd (AI u 30) j.toNatClampNeg v)) else none := sk_sI h (by decide) rfl
theorem na_30 {u : CS} (h : skB u = true) : nA u 30 4 = some 400 := sk_nA h (by decide) rfl
theorem sa_30 {u : CS} (h : skB u = true) {g : Nat → Int32} : skB (uA u 30 g) = true := sk_uA h (by decide)
theorem fa_30 {u : CS} (h : skB u = true) {g : Nat → Int32} : AI (uA u 30 g) 30 = g := AI_self h (by decide) rfl
theorem ai_31 {u : CS} (h : skB u = true) {j : Int32} : aI u 31 4 j = if inb j 400 = true then some (AI u 31 j.toNatClampNeg) else none := sk_aI h (by decide) rfl
theorem si_31 {u : CS} (h : skB u = true) {j v : Int32} : sI u 31 4 j v = if inb j 400 = true then some (uA u 31 (upd (AI u 31) j.toNatClampNeg v)) else none := sk_sI h (by decide) rfl
theorem na_31 {u : CS} (h : skB u = true) : nA u 31 4 = some 400 := sk_nA h (by decide) rfl
theorem sa_31 {u : CS} (h : skB u = true) {g : Nat → Int32} : skB (uA u 31 g) = true := sk_uA h (by decide)
theorem fa_31 {u : CS} (h : skB u = true) {g : Nat → Int32} : AI (uA u 31 g) 31 = g := AI_self h (by decide) rfl
theorem ai_32 {u : CS} (h : skB u = true) {j : Int32} : aI u 32 4 j = if inb j 400 = true then some (AI u 32 j.toNatClampNeg) else none := sk_aI h (by decide) rfl
theorem si_32 {u : CS} (h : skB u = true) {j v : Int32} : sI u 32 4 j v = if inb j 400 = true then some (uA u 32 (upd (AI u 32) j.toNatClampNeg v)) else none := sk_sI h (by decide) rfl
theorem na_32 {u : CS} (h : skB u = true) : nA u 32 4 = some 400 := sk_nA h (by decide) rfl
theorem sa_32 {u : CS} (h : skB u = true) {g : Nat → Int32} : skB (uA u 32 g) = true := sk_uA h (by decide)
theorem fa_32 {u : CS} (h : skB u = true) {g : Nat → Int32} : AI (uA u 32 g) 32 = g := AI_self h (by decide) rfl
theorem io_33 {u : CS} (h : skB u = true) : isO u 33 6 = true := sk_isO h (by decide) rfl
theorem gr_33_0 {u : CS} (h : skB u = true) : gR u 33 6 0 = some (some 4) := sk_gR h (by decide) rfl (by decide) rfl
theorem gr_33_1 {u : CS} (h : skB u = true) : gR u 33 6 1 = some (some 15) := sk_gR h (by decide) rfl (by decide) rfl
theorem gr_33_2 {u : CS} (h : skB u = true) : gR u 33 6 2 = some (some 22) := sk_gR h (by decide) rfl (by decide) rfl
theorem gr_33_3 {u : CS} (h : skB u = true) : gR u 33 6 3 = some (some 34) := sk_gR h (by decide) rfl (by decide) rfl
theorem gi_33_4 {u : CS} (h : skB u = true) : gI u 33 6 4 = some (FI u 33 4) := sk_gI h (by decide) rfl (by decide) rfl
theorem pf_33_4 {u : CS} (h : skB u = true) {v : Int32} : pF u 33 6 4 (.inl v) = some (uF u 33 4 (.inl v)) := sk_pF h (by decide) rfl
theorem sf_33_4 {u : CS} (h : skB u = true) {v : Int32} : skB (uF u 33 4 (.inl v)) = true := sk_uF (x := 0) h (by decide) rfl rfl rfl
theorem fi_33_4 {u : CS} (h : skB u = true) {v : Int32} : FI (uF u 33 4 (.inl v)) 33 4 = v := FI_self h (by decide) rfl
theorem gi_33_5 {u : CS} (h : skB u = true) : gI u 33 6 5 = some (FI u 33 5) := sk_gI h (by decide) rfl (by decide) rfl
theorem pf_33_5 {u : CS} (h : skB u = true) {v : Int32} : pF u 33 6 5 (.inl v) = some (uF u 33 5 (.inl v)) := sk_pF h (by decide) rfl
theorem sf_33_5 {u : CS} (h : skB u = true) {v : Int32} : skB (uF u 33 5 (.inl v)) = true := sk_uF (x := 0) h (by decide) rfl rfl rfl
theorem fi_33_5 {u : CS} (h : skB u = true) {v : Int32} : FI (uF u 33 5 (.inl v)) 33 5 = v := FI_self h (by decide) rfl
theorem gi_33_6 {u : CS} (h : skB u = true) : gI u 33 6 6 = some (FI u 33 6) := sk_gI h (by decide) rfl (by decide) rfl
theorem pf_33_6 {u : CS} (h : skB u = true) {v : Int32} : pF u 33 6 6 (.inl v) = some (uF u 33 6 (.inl v)) := sk_pF h (by decide) rfl
theorem sf_33_6 {u : CS} (h : skB u = true) {v : Int32} : skB (uF u 33 6 (.inl v)) = true := sk_uF (x := 0) h (by decide) rfl rfl rfl
theorem fi_33_6 {u : CS} (h : skB u = true) {v : Int32} : FI (uF u 33 6 (.inl v)) 33 6 = v := FI_self h (by decide) rfl
theorem gi_33_7 {u : CS} (h : skB u = true) : gI u 33 6 7 = some (FI u 33 7) := sk_gI h (by decide) rfl (by decide) rfl
theorem pf_33_7 {u : CS} (h : skB u = true) {v : Int32} : pF u 33 6 7 (.inl v) = some (uF u 33 7 (.inl v)) := sk_pF h (by decide) rfl
theorem sf_33_7 {u : CS} (h : skB u = true) {v : Int32} : skB (uF u 33 7 (.inl v)) = true := sk_uF (x := 0) h (by decide) rfl rfl rfl
theorem fi_33_7 {u : CS} (h : skB u = true) {v : Int32} : FI (uF u 33 7 (.inl v)) 33 7 = v := FI_self h (by decide) rfl
theorem ai_34 {u : CS} (h : skB u = true) {j : Int32} : aI u 34 4 j = if inb j 4002 = true then some (AI u 34 j.toNatClampNeg) else none := sk_aI h (by decide) rfl
theorem si_34 {u : CS} (h : skB u = true) {j v : Int32} : sI u 34 4 j v = if inb j 4002 = true then some (uA u 34 (upd (AI u 34) j.toNatClampNeg v)) else none := sk_sI h (by decide) rfl
theorem na_34 {u : CS} (h : skB u = true) : nA u 34 4 = some 4002 := sk_nA h (by decide) rfl
theorem sa_34 {u : CS} (h : skB u = true) {g : Nat → Int32} : skB (uA u 34 g) = true := sk_uA h (by decide)
theorem fa_34 {u : CS} (h : skB u = true) {g : Nat → Int32} : AI (uA u 34 g) 34 = g := AI_self h (by decide) rfl
theorem io_35 {u : CS} (h : skB u = true) : isO u 35 3 = true := sk_isO h (by decide) rfl
theorem gr_35_0 {u : CS} (h : skB u = true) : gR u 35 3 0 = some (some 4) := sk_gR h (by decide) rfl (by decide) rfl
theorem gr_35_1 {u : CS} (h : skB u = true) : gR u 35 3 1 = some (some 15) := sk_gR h (by decide) rfl (by decide) rfl
theorem gr_35_2 {u : CS} (h : skB u = true) : gR u 35 3 2 = some (some 22) := sk_gR h (by decide) rfl (by decide) rfl
theorem gr_35_3 {u : CS} (h : skB u = true) : gR u 35 3 3 = some (some 1) := sk_gR h (by decide) rfl (by decide) rfl
theorem gr_35_4 {u : CS} (h : skB u = true) : gR u 35 3 4 = some (some 36) := sk_gR h (by decide) rfl (by decide) rfl
theorem gr_35_5 {u : CS} (h : skB u = true) : gR u 35 3 5 = some (some 39) := sk_gR h (by decide) rfl (by decide) rfl
theorem gi_35_6 {u : CS} (h : skB u = true) : gI u 35 3 6 = some (FI u 35 6) := sk_gI h (by decide) rfl (by decide) rfl
theorem pf_35_6 {u : CS} (h : skB u = true) {v : Int32} : pF u 35 3 6 (.inl v) = some (uF u 35 6 (.inl v)) := sk_pF h (by decide) rfl
theorem sf_35_6 {u : CS} (h : skB u = true) {v : Int32} : skB (uF u 35 6 (.inl v)) = true := sk_uF (x := 0) h (by decide) rfl rfl rfl
theorem fi_35_6 {u : CS} (h : skB u = true) {v : Int32} : FI (uF u 35 6 (.inl v)) 35 6 = v := FI_self h (by decide) rfl
theorem gr_35_7 {u : CS} (h : skB u = true) : gR u 35 3 7 = some (some 40) := sk_gR h (by decide) rfl (by decide) rfl
theorem gr_35_8 {u : CS} (h : skB u = true) : gR u 35 3 8 = some (some 41) := sk_gR h (by decide) rfl (by decide) rfl
theorem gi_35_9 {u : CS} (h : skB u = true) : gI u 35 3 9 = some (FI u 35 9) := sk_gI h (by decide) rfl (by decide) rfl
theorem pf_35_9 {u : CS} (h : skB u = true) {v : Int32} : pF u 35 3 9 (.inl v) = some (uF u 35 9 (.inl v)) := sk_pF h (by decide) rfl
theorem sf_35_9 {u : CS} (h : skB u = true) {v : Int32} : skB (uF u 35 9 (.inl v)) = true := sk_uF (x := 0) h (by decide) rfl rfl rfl
theorem fi_35_9 {u : CS} (h : skB u = true) {v : Int32} : FI (uF u 35 9 (.inl v)) 35 9 = v := FI_self h (by decide) rfl
theorem gr_35_10 {u : CS} (h : skB u = true) : gR u 35 3 10 = some (some 42) := sk_gR h (by decide) rfl (by decide) rfl
theorem gi_35_11 {u : CS} (h : skB u = true) : gI u 35 3 11 = some (FI u 35 11) := sk_gI h (by decide) rfl (by decide) rfl
theorem pf_35_11 {u : CS} (h : skB u = true) {v : Int32} : pF u 35 3 11 (.inl v) = some (uF u 35 11 (.inl v)) := sk_pF h (by decide) rfl
theorem sf_35_11 {u : CS} (h : skB u = true) {v : Int32} : skB (uF u 35 11 (.inl v)) = true := sk_uF (x := 0) h (by decide) rfl rfl rfl
theorem fi_35_11 {u : CS} (h : skB u = true) {v : Int32} : FI (uF u 35 11 (.inl v)) 35 11 = v := FI_self h (by decide) rfl
theorem gi_35_12 {u : CS} (h : skB u = true) : gI u 35 3 12 = some (FI u 35 12) := sk_gI h (by decide) rfl (by decide) rfl
theorem pf_35_12 {u : CS} (h : skB u = true) {v : Int32} : pF u 35 3 12 (.inl v) = some (uF u 35 12 (.inl v)) := sk_pF h (by decide) rfl
theorem sf_35_12 {u : CS} (h : skB u = true) {v : Int32} : skB (uF u 35 12 (.inl v)) = true := sk_uF (x := 0) h (by decide) rfl rfl rfl
theorem fi_35_12 {u : CS} (h : skB u = true) {v : Int32} : FI (uF u 35 12 (.inl v)) 35 12 = v := FI_self h (by decide) rfl
theorem gi_35_13 {u : CS} (h : skB u = true) : gI u 35 3 13 = some (FI u 35 13) := sk_gI h (by decide) rfl (by decide) rfl
theorem pf_35_13 {u : CS} (h : skB u = true) {v : Int32} : pF u 35 3 13 (.inl v) = some (uF u 35 13 (.inl v)) := sk_pF h (by decide) rfl
theorem sf_35_13 {u : CS} (h : skB u = true) {v : Int32} : skB (uF u 35 13 (.inl v)) = true := sk_uF (x := 0) h (by decide) rfl rfl rfl
theorem fi_35_13 {u : CS} (h : skB u = true) {v : Int32} : FI (uF u 35 13 (.inl v)) 35 13 = v := FI_self h (by decide) rfl
theorem gi_35_14 {u : CS} (h : skB u = true) : gI u 35 3 14 = some (FI u 35 14) := sk_gI h (by decide) rfl (by decide) rfl
theorem pf_35_14 {u : CS} (h : skB u = true) {v : Int32} : pF u 35 3 14 (.inl v) = some (uF u 35 14 (.inl v)) := sk_pF h (by decide) rfl
theorem sf_35_14 {u : CS} (h : skB u = true) {v : Int32} : skB (uF u 35 14 (.inl v)) = true := sk_uF (x := 0) h (by decide) rfl rfl rfl
theorem fi_35_14 {u : CS} (h : skB u = true) {v : Int32} : FI (uF u 35 14 (.inl v)) 35 14 = v := FI_self h (by decide) rfl
theorem io_36 {u : CS} (h : skB u = true) : isO u 36 11 = true := sk_isO h (by decide) rfl
theorem gr_36_0 {u : CS} (h : skB u = true) : gR u 36 11 0 = some (some 37) := sk_gR h (by decide) rfl (by decide) rfl
theorem gr_36_1 {u : CS} (h : skB u = true) : gR u 36 11 1 = some (some 38) := sk_gR h (by decide) rfl (by decide) rfl
theorem gi_36_2 {u : CS} (h : skB u = true) : gI u 36 11 2 = some (FI u 36 2) := sk_gI h (by decide) rfl (by decide) rfl
theorem pf_36_2 {u : CS} (h : skB u = true) {v : Int32} : pF u 36 11 2 (.inl v) = some (uF u 36 2 (.inl v)) := sk_pF h (by decide) rfl
theorem sf_36_2 {u : CS} (h : skB u = true) {v : Int32} : skB (uF u 36 2 (.inl v)) = true := sk_uF (x := 0) h (by decide) rfl rfl rfl
theorem fi_36_2 {u : CS} (h : skB u = true) {v : Int32} : FI (uF u 36 2 (.inl v)) 36 2 = v := FI_self h (by decide) rfl
theorem ai_37 {u : CS} (h : skB u = true) {j : Int32} : aI u 37 3 j = if inb j 300 = true then some (AI u 37 j.toNatClampNeg) else none := sk_aI h (by decide) rfl
theorem si_37 {u : CS} (h : skB u = true) {j v : Int32} : sI u 37 3 j v = if inb j 300 = true then some (uA u 37 (upd (AI u 37) j.toNatClampNeg v)) else none := sk_sI h (by decide) rfl
theorem na_37 {u : CS} (h : skB u = true) : nA u 37 3 = some 300 := sk_nA h (by decide) rfl
theorem sa_37 {u : CS} (h : skB u = true) {g : Nat → Int32} : skB (uA u 37 g) = true := sk_uA h (by decide)
theorem fa_37 {u : CS} (h : skB u = true) {g : Nat → Int32} : AI (uA u 37 g) 37 = g := AI_self h (by decide) rfl
theorem ai_38 {u : CS} (h : skB u = true) {j : Int32} : aI u 38 4 j = if inb j 41 = true then some (AI u 38 j.toNatClampNeg) else none := sk_aI h (by decide) rfl
theorem si_38 {u : CS} (h : skB u = true) {j v : Int32} : sI u 38 4 j v = if inb j 41 = true then some (uA u 38 (upd (AI u 38) j.toNatClampNeg v)) else none := sk_sI h (by decide) rfl
theorem na_38 {u : CS} (h : skB u = true) : nA u 38 4 = some 41 := sk_nA h (by decide) rfl
theorem sa_38 {u : CS} (h : skB u = true) {g : Nat → Int32} : skB (uA u 38 g) = true := sk_uA h (by decide)
theorem fa_38 {u : CS} (h : skB u = true) {g : Nat → Int32} : AI (uA u 38 g) 38 = g := AI_self h (by decide) rfl
theorem ai_39 {u : CS} (h : skB u = true) {j : Int32} : aI u 39 4 j = if inb j 4000 = true then some (AI u 39 j.toNatClampNeg) else none := sk_aI h (by decide) rfl
theorem si_39 {u : CS} (h : skB u = true) {j v : Int32} : sI u 39 4 j v = if inb j 4000 = true then some (uA u 39 (upd (AI u 39) j.toNatClampNeg v)) else none := sk_sI h (by decide) rfl
theorem na_39 {u : CS} (h : skB u = true) : nA u 39 4 = some 4000 := sk_nA h (by decide) rfl
theorem sa_39 {u : CS} (h : skB u = true) {g : Nat → Int32} : skB (uA u 39 g) = true := sk_uA h (by decide)
theorem fa_39 {u : CS} (h : skB u = true) {g : Nat → Int32} : AI (uA u 39 g) 39 = g := AI_self h (by decide) rfl
theorem ai_40 {u : CS} (h : skB u = true) {j : Int32} : aI u 40 4 j = if inb j 32 = true then some (AI u 40 j.toNatClampNeg) else none := sk_aI h (by decide) rfl
theorem si_40 {u : CS} (h : skB u = true) {j v : Int32} : sI u 40 4 j v = if inb j 32 = true then some (uA u 40 (upd (AI u 40) j.toNatClampNeg v)) else none := sk_sI h (by decide) rfl
theorem na_40 {u : CS} (h : skB u = true) : nA u 40 4 = some 32 := sk_nA h (by decide) rfl
theorem sa_40 {u : CS} (h : skB u = true) {g : Nat → Int32} : skB (uA u 40 g) = true := sk_uA h (by decide)
theorem fa_40 {u : CS} (h : skB u = true) {g : Nat → Int32} : AI (uA u 40 g) 40 = g := AI_self h (by decide) rfl
theorem ai_41 {u : CS} (h : skB u = true) {j : Int32} : aI u 41 4 j = if inb j 32 = true then some (AI u 41 j.toNatClampNeg) else none := sk_aI h (by decide) rfl
theorem si_41 {u : CS} (h : skB u = true) {j v : Int32} : sI u 41 4 j v = if inb j 32 = true then some (uA u 41 (upd (AI u 41) j.toNatClampNeg v)) else none := sk_sI h (by decide) rfl
theorem na_41 {u : CS} (h : skB u = true) : nA u 41 4 = some 32 := sk_nA h (by decide) rfl
theorem sa_41 {u : CS} (h : skB u = true) {g : Nat → Int32} : skB (uA u 41 g) = true := sk_uA h (by decide)
theorem fa_41 {u : CS} (h : skB u = true) {g : Nat → Int32} : AI (uA u 41 g) 41 = g := AI_self h (by decide) rfl
theorem ai_42 {u : CS} (h : skB u = true) {j : Int32} : aI u 42 4 j = if inb j 4002 = true then some (AI u 42 j.toNatClampNeg) else none := sk_aI h (by decide) rfl
theorem si_42 {u : CS} (h : skB u = true) {j v : Int32} : sI u 42 4 j v = if inb j 4002 = true then some (uA u 42 (upd (AI u 42) j.toNatClampNeg v)) else none := sk_sI h (by decide) rfl
theorem na_42 {u : CS} (h : skB u = true) : nA u 42 4 = some 4002 := sk_nA h (by decide) rfl
theorem sa_42 {u : CS} (h : skB u = true) {g : Nat → Int32} : skB (uA u 42 g) = true := sk_uA h (by decide)
theorem fa_42 {u : CS} (h : skB u = true) {g : Nat → Int32} : AI (uA u 42 g) 42 = g := AI_self h (by decide) rfl
theorem io_43 {u : CS} (h : skB u = true) : isO u 43 8 = true := sk_isO h (by decide) rfl
theorem gr_43_0 {u : CS} (h : skB u = true) : gR u 43 8 0 = some (some 44) := sk_gR h (by decide) rfl (by decide) rfl
theorem gr_43_1 {u : CS} (h : skB u = true) : gR u 43 8 1 = some (some 45) := sk_gR h (by decide) rfl (by decide) rfl
theorem gr_43_2 {u : CS} (h : skB u = true) : gR u 43 8 2 = some (some 46) := sk_gR h (by decide) rfl (by decide) rfl
theorem gr_43_3 {u : CS} (h : skB u = true) : gR u 43 8 3 = some (some 1) := sk_gR h (by decide) rfl (by decide) rfl
theorem gd_43_4 {u : CS} (h : skB u = true) : gR u 43 8 4 = some (FRc u 43 4) := sk_gD h (by decide) rfl (by decide) rfl
theorem gi_43_5 {u : CS} (h : skB u = true) : gI u 43 8 5 = some (FI u 43 5) := sk_gI h (by decide) rfl (by decide) rfl
theorem pf_43_5 {u : CS} (h : skB u = true) {v : Int32} : pF u 43 8 5 (.inl v) = some (uF u 43 5 (.inl v)) := sk_pF h (by decide) rfl
theorem sf_43_5 {u : CS} (h : skB u = true) {v : Int32} : skB (uF u 43 5 (.inl v)) = true := sk_uF (x := 0) h (by decide) rfl rfl rfl
theorem fi_43_5 {u : CS} (h : skB u = true) {v : Int32} : FI (uF u 43 5 (.inl v)) 43 5 = v := FI_self h (by decide) rfl
theorem gi_43_6 {u : CS} (h : skB u = true) : gI u 43 8 6 = some (FI u 43 6) := sk_gI h (by decide) rfl (by decide) rfl
theorem pf_43_6 {u : CS} (h : skB u = true) {v : Int32} : pF u 43 8 6 (.inl v) = some (uF u 43 6 (.inl v)) := sk_pF h (by decide) rfl
theorem sf_43_6 {u : CS} (h : skB u = true) {v : Int32} : skB (uF u 43 6 (.inl v)) = true := sk_uF (x := 0) h (by decide) rfl rfl rfl
theorem fi_43_6 {u : CS} (h : skB u = true) {v : Int32} : FI (uF u 43 6 (.inl v)) 43 6 = v := FI_self h (by decide) rfl
theorem aj_44 {u : CS} (h : skB u = true) {j : Int32} : aJ u 44 j = if inb j 2048 = true then some (AJ u 44 j.toNatClampNeg) else none := sk_aJ h (by decide) rfl
theorem sj_44 {u : CS} (h : skB u = true) {j : Int32} {v : Int64} : sJ u 44 j v = if inb j 2048 = true then some (uJ u 44 (vp_updL (AJ u 44) j.toNatClampNeg v)) else none := sk_sJ h (by decide) rfl
theorem aj_45 {u : CS} (h : skB u = true) {j : Int32} : aJ u 45 j = if inb j 2048 = true then some (AJ u 45 j.toNatClampNeg) else none := sk_aJ h (by decide) rfl
theorem sj_45 {u : CS} (h : skB u = true) {j : Int32} {v : Int64} : sJ u 45 j v = if inb j 2048 = true then some (uJ u 45 (vp_updL (AJ u 45) j.toNatClampNeg v)) else none := sk_sJ h (by decide) rfl
theorem aj_46 {u : CS} (h : skB u = true) {j : Int32} : aJ u 46 j = if inb j 2048 = true then some (AJ u 46 j.toNatClampNeg) else none := sk_aJ h (by decide) rfl
theorem sj_46 {u : CS} (h : skB u = true) {j : Int32} {v : Int64} : sJ u 46 j v = if inb j 2048 = true then some (uJ u 46 (vp_updL (AJ u 46) j.toNatClampNeg v)) else none := sk_sJ h (by decide) rfl
theorem io_47 {u : CS} (h : skB u = true) : isO u 47 12 = true := sk_isO h (by decide) rfl
theorem gr_47_0 {u : CS} (h : skB u = true) : gR u 47 12 0 = some (some 43) := sk_gR h (by decide) rfl (by decide) rfl
theorem gr_47_1 {u : CS} (h : skB u = true) : gR u 47 12 1 = some (some 48) := sk_gR h (by decide) rfl (by decide) rfl
theorem gi_47_2 {u : CS} (h : skB u = true) : gI u 47 12 2 = some (FI u 47 2) := sk_gI h (by decide) rfl (by decide) rfl
theorem pf_47_2 {u : CS} (h : skB u = true) {v : Int32} : pF u 47 12 2 (.inl v) = some (uF u 47 2 (.inl v)) := sk_pF h (by decide) rfl
theorem sf_47_2 {u : CS} (h : skB u = true) {v : Int32} : skB (uF u 47 2 (.inl v)) = true := sk_uF (x := 0) h (by decide) rfl rfl rfl
theorem fi_47_2 {u : CS} (h : skB u = true) {v : Int32} : FI (uF u 47 2 (.inl v)) 47 2 = v := FI_self h (by decide) rfl
theorem gi_47_3 {u : CS} (h : skB u = true) : gI u 47 12 3 = some (FI u 47 3) := sk_gI h (by decide) rfl (by decide) rfl
theorem pf_47_3 {u : CS} (h : skB u = true) {v : Int32} : pF u 47 12 3 (.inl v) = some (uF u 47 3 (.inl v)) := sk_pF h (by decide) rfl
theorem sf_47_3 {u : CS} (h : skB u = true) {v : Int32} : skB (uF u 47 3 (.inl v)) = true := sk_uF (x := 0) h (by decide) rfl rfl rfl
theorem fi_47_3 {u : CS} (h : skB u = true) {v : Int32} : FI (uF u 47 3 (.inl v)) 47 3 = v := FI_self h (by decide) rfl
theorem gi_47_4 {u : CS} (h : skB u = true) : gI u 47 12 4 = some (FI u 47 4) := sk_gI h (by decide) rfl (by decide) rfl
theorem pf_47_4 {u : CS} (h : skB u = true) {v : Int32} : pF u 47 12 4 (.inl v) = some (uF u 47 4 (.inl v)) := sk_pF h (by decide) rfl
theorem sf_47_4 {u : CS} (h : skB u = true) {v : Int32} : skB (uF u 47 4 (.inl v)) = true := sk_uF (x := 0) h (by decide) rfl rfl rfl
theorem fi_47_4 {u : CS} (h : skB u = true) {v : Int32} : FI (uF u 47 4 (.inl v)) 47 4 = v := FI_self h (by decide) rfl
theorem gi_47_5 {u : CS} (h : skB u = true) : gI u 47 12 5 = some (FI u 47 5) := sk_gI h (by decide) rfl (by decide) rfl
theorem pf_47_5 {u : CS} (h : skB u = true) {v : Int32} : pF u 47 12 5 (.inl v) = some (uF u 47 5 (.inl v)) := sk_pF h (by decide) rfl
theorem sf_47_5 {u : CS} (h : skB u = true) {v : Int32} : skB (uF u 47 5 (.inl v)) = true := sk_uF (x := 0) h (by decide) rfl rfl rfl
theorem fi_47_5 {u : CS} (h : skB u = true) {v : Int32} : FI (uF u 47 5 (.inl v)) 47 5 = v := FI_self h (by decide) rfl
theorem gi_47_6 {u : CS} (h : skB u = true) : gI u 47 12 6 = some (FI u 47 6) := sk_gI h (by decide) rfl (by decide) rfl
theorem pf_47_6 {u : CS} (h : skB u = true) {v : Int32} : pF u 47 12 6 (.inl v) = some (uF u 47 6 (.inl v)) := sk_pF h (by decide) rfl
theorem sf_47_6 {u : CS} (h : skB u = true) {v : Int32} : skB (uF u 47 6 (.inl v)) = true := sk_uF (x := 0) h (by decide) rfl rfl rfl
theorem fi_47_6 {u : CS} (h : skB u = true) {v : Int32} : FI (uF u 47 6 (.inl v)) 47 6 = v := FI_self h (by decide) rfl
theorem gr_47_7 {u : CS} (h : skB u = true) : gR u 47 12 7 = some (some 49) := sk_gR h (by decide) rfl (by decide) rfl
theorem gr_47_8 {u : CS} (h : skB u = true) : gR u 47 12 8 = some (some 50) := sk_gR h (by decide) rfl (by decide) rfl
theorem gr_47_9 {u : CS} (h : skB u = true) : gR u 47 12 9 = some (some 51) := sk_gR h (by decide) rfl (by decide) rfl
theorem gi_47_10 {u : CS} (h : skB u = true) : gI u 47 12 10 = some (FI u 47 10) := sk_gI h (by decide) rfl (by decide) rfl
theorem pf_47_10 {u : CS} (h : skB u = true) {v : Int32} : pF u 47 12 10 (.inl v) = some (uF u 47 10 (.inl v)) := sk_pF h (by decide) rfl
theorem sf_47_10 {u : CS} (h : skB u = true) {v : Int32} : skB (uF u 47 10 (.inl v)) = true := sk_uF (x := 0) h (by decide) rfl rfl rfl
theorem fi_47_10 {u : CS} (h : skB u = true) {v : Int32} : FI (uF u 47 10 (.inl v)) 47 10 = v := FI_self h (by decide) rfl
theorem gr_47_11 {u : CS} (h : skB u = true) : gR u 47 12 11 = some (some 52) := sk_gR h (by decide) rfl (by decide) rfl
theorem gr_47_12 {u : CS} (h : skB u = true) : gR u 47 12 12 = some (some 53) := sk_gR h (by decide) rfl (by decide) rfl
theorem gi_47_13 {u : CS} (h : skB u = true) : gI u 47 12 13 = some (FI u 47 13) := sk_gI h (by decide) rfl (by decide) rfl
theorem pf_47_13 {u : CS} (h : skB u = true) {v : Int32} : pF u 47 12 13 (.inl v) = some (uF u 47 13 (.inl v)) := sk_pF h (by decide) rfl
theorem sf_47_13 {u : CS} (h : skB u = true) {v : Int32} : skB (uF u 47 13 (.inl v)) = true := sk_uF (x := 0) h (by decide) rfl rfl rfl
theorem fi_47_13 {u : CS} (h : skB u = true) {v : Int32} : FI (uF u 47 13 (.inl v)) 47 13 = v := FI_self h (by decide) rfl
theorem gr_47_14 {u : CS} (h : skB u = true) : gR u 47 12 14 = some (some 54) := sk_gR h (by decide) rfl (by decide) rfl
theorem gi_47_15 {u : CS} (h : skB u = true) : gI u 47 12 15 = some (FI u 47 15) := sk_gI h (by decide) rfl (by decide) rfl
theorem pf_47_15 {u : CS} (h : skB u = true) {v : Int32} : pF u 47 12 15 (.inl v) = some (uF u 47 15 (.inl v)) := sk_pF h (by decide) rfl
theorem sf_47_15 {u : CS} (h : skB u = true) {v : Int32} : skB (uF u 47 15 (.inl v)) = true := sk_uF (x := 0) h (by decide) rfl rfl rfl
theorem fi_47_15 {u : CS} (h : skB u = true) {v : Int32} : FI (uF u 47 15 (.inl v)) 47 15 = v := FI_self h (by decide) rfl
theorem gi_47_16 {u : CS} (h : skB u = true) : gI u 47 12 16 = some (FI u 47 16) := sk_gI h (by decide) rfl (by decide) rfl
theorem pf_47_16 {u : CS} (h : skB u = true) {v : Int32} : pF u 47 12 16 (.inl v) = some (uF u 47 16 (.inl v)) := sk_pF h (by decide) rfl
theorem sf_47_16 {u : CS} (h : skB u = true) {v : Int32} : skB (uF u 47 16 (.inl v)) = true := sk_uF (x := 0) h (by decide) rfl rfl rfl
theorem fi_47_16 {u : CS} (h : skB u = true) {v : Int32} : FI (uF u 47 16 (.inl v)) 47 16 = v := FI_self h (by decide) rfl
theorem ai_49 {u : CS} (h : skB u = true) {j : Int32} : aI u 49 4 j = if inb j 200 = true then some (AI u 49 j.toNatClampNeg) else none := sk_aI h (by decide) rfl
theorem si_49 {u : CS} (h : skB u = true) {j v : Int32} : sI u 49 4 j v = if inb j 200 = true then some (uA u 49 (upd (AI u 49) j.toNatClampNeg v)) else none := sk_sI h (by decide) rfl
theorem na_49 {u : CS} (h : skB u = true) : nA u 49 4 = some 200 := sk_nA h (by decide) rfl
theorem sa_49 {u : CS} (h : skB u = true) {g : Nat → Int32} : skB (uA u 49 g) = true := sk_uA h (by decide)
theorem fa_49 {u : CS} (h : skB u = true) {g : Nat → Int32} : AI (uA u 49 g) 49 = g := AI_self h (by decide) rfl
theorem ai_50 {u : CS} (h : skB u = true) {j : Int32} : aI u 50 4 j = if inb j 200 = true then some (AI u 50 j.toNatClampNeg) else none := sk_aI h (by decide) rfl
theorem si_50 {u : CS} (h : skB u = true) {j v : Int32} : sI u 50 4 j v = if inb j 200 = true then some (uA u 50 (upd (AI u 50) j.toNatClampNeg v)) else none := sk_sI h (by decide) rfl
theorem na_50 {u : CS} (h : skB u = true) : nA u 50 4 = some 200 := sk_nA h (by decide) rfl
theorem sa_50 {u : CS} (h : skB u = true) {g : Nat → Int32} : skB (uA u 50 g) = true := sk_uA h (by decide)
theorem fa_50 {u : CS} (h : skB u = true) {g : Nat → Int32} : AI (uA u 50 g) 50 = g := AI_self h (by decide) rfl
theorem ai_51 {u : CS} (h : skB u = true) {j : Int32} : aI u 51 4 j = if inb j 200 = true then some (AI u 51 j.toNatClampNeg) else none := sk_aI h (by decide) rfl
theorem si_51 {u : CS} (h : skB u = true) {j v : Int32} : sI u 51 4 j v = if inb j 200 = true then some (uA u 51 (upd (AI u 51) j.toNatClampNeg v)) else none := sk_sI h (by decide) rfl
theorem na_51 {u : CS} (h : skB u = true) : nA u 51 4 = some 200 := sk_nA h (by decide) rfl
theorem sa_51 {u : CS} (h : skB u = true) {g : Nat → Int32} : skB (uA u 51 g) = true := sk_uA h (by decide)
theorem fa_51 {u : CS} (h : skB u = true) {g : Nat → Int32} : AI (uA u 51 g) 51 = g := AI_self h (by decide) rfl
theorem ai_52 {u : CS} (h : skB u = true) {j : Int32} : aI u 52 3 j = if inb j 20000 = true then some (AI u 52 j.toNatClampNeg) else none := sk_aI h (by decide) rfl
theorem si_52 {u : CS} (h : skB u = true) {j v : Int32} : sI u 52 3 j v = if inb j 20000 = true then some (uA u 52 (upd (AI u 52) j.toNatClampNeg v)) else none := sk_sI h (by decide) rfl
theorem na_52 {u : CS} (h : skB u = true) : nA u 52 3 = some 20000 := sk_nA h (by decide) rfl
theorem sa_52 {u : CS} (h : skB u = true) {g : Nat → Int32} : skB (uA u 52 g) = true := sk_uA h (by decide)
theorem fa_52 {u : CS} (h : skB u = true) {g : Nat → Int32} : AI (uA u 52 g) 52 = g := AI_self h (by decide) rfl
theorem ai_53 {u : CS} (h : skB u = true) {j : Int32} : aI u 53 4 j = if inb j 200 = true then some (AI u 53 j.toNatClampNeg) else none := sk_aI h (by decide) rfl
theorem si_53 {u : CS} (h : skB u = true) {j v : Int32} : sI u 53 4 j v = if inb j 200 = true then some (uA u 53 (upd (AI u 53) j.toNatClampNeg v)) else none := sk_sI h (by decide) rfl
theorem na_53 {u : CS} (h : skB u = true) : nA u 53 4 = some 200 := sk_nA h (by decide) rfl
theorem sa_53 {u : CS} (h : skB u = true) {g : Nat → Int32} : skB (uA u 53 g) = true := sk_uA h (by decide)
theorem fa_53 {u : CS} (h : skB u = true) {g : Nat → Int32} : AI (uA u 53 g) 53 = g := AI_self h (by decide) rfl
theorem ai_54 {u : CS} (h : skB u = true) {j : Int32} : aI u 54 4 j = if inb j 24 = true then some (AI u 54 j.toNatClampNeg) else none := sk_aI h (by decide) rfl
theorem si_54 {u : CS} (h : skB u = true) {j v : Int32} : sI u 54 4 j v = if inb j 24 = true then some (uA u 54 (upd (AI u 54) j.toNatClampNeg v)) else none := sk_sI h (by decide) rfl
theorem na_54 {u : CS} (h : skB u = true) : nA u 54 4 = some 24 := sk_nA h (by decide) rfl
theorem sa_54 {u : CS} (h : skB u = true) {g : Nat → Int32} : skB (uA u 54 g) = true := sk_uA h (by decide)
theorem fa_54 {u : CS} (h : skB u = true) {g : Nat → Int32} : AI (uA u 54 g) 54 = g := AI_self h (by decide) rfl
theorem io_55 {u : CS} (h : skB u = true) : isO u 55 5 = true := sk_isO h (by decide) rfl
theorem gr_55_0 {u : CS} (h : skB u = true) : gR u 55 5 0 = some (some 22) := sk_gR h (by decide) rfl (by decide) rfl
theorem gr_55_1 {u : CS} (h : skB u = true) : gR u 55 5 1 = some (some 47) := sk_gR h (by decide) rfl (by decide) rfl
theorem gr_55_2 {u : CS} (h : skB u = true) : gR u 55 5 2 = some (some 43) := sk_gR h (by decide) rfl (by decide) rfl
theorem gd_55_3 {u : CS} (h : skB u = true) : gR u 55 5 3 = some (FRc u 55 3) := sk_gD h (by decide) rfl (by decide) rfl
theorem gd_55_4 {u : CS} (h : skB u = true) : gR u 55 5 4 = some (FRc u 55 4) := sk_gD h (by decide) rfl (by decide) rfl
theorem gi_55_5 {u : CS} (h : skB u = true) : gI u 55 5 5 = some (FI u 55 5) := sk_gI h (by decide) rfl (by decide) rfl
theorem pf_55_5 {u : CS} (h : skB u = true) {v : Int32} : pF u 55 5 5 (.inl v) = some (uF u 55 5 (.inl v)) := sk_pF h (by decide) rfl
theorem sf_55_5 {u : CS} (h : skB u = true) {v : Int32} : skB (uF u 55 5 (.inl v)) = true := sk_uF (x := 0) h (by decide) rfl rfl rfl
theorem fi_55_5 {u : CS} (h : skB u = true) {v : Int32} : FI (uF u 55 5 (.inl v)) 55 5 = v := FI_self h (by decide) rfl
theorem gi_55_6 {u : CS} (h : skB u = true) : gI u 55 5 6 = some (FI u 55 6) := sk_gI h (by decide) rfl (by decide) rfl
theorem pf_55_6 {u : CS} (h : skB u = true) {v : Int32} : pF u 55 5 6 (.inl v) = some (uF u 55 6 (.inl v)) := sk_pF h (by decide) rfl
theorem sf_55_6 {u : CS} (h : skB u = true) {v : Int32} : skB (uF u 55 6 (.inl v)) = true := sk_uF (x := 0) h (by decide) rfl rfl rfl
theorem fi_55_6 {u : CS} (h : skB u = true) {v : Int32} : FI (uF u 55 6 (.inl v)) 55 6 = v := FI_self h (by decide) rfl
theorem gi_55_7 {u : CS} (h : skB u = true) : gI u 55 5 7 = some (FI u 55 7) := sk_gI h (by decide) rfl (by decide) rfl
theorem pf_55_7 {u : CS} (h : skB u = true) {v : Int32} : pF u 55 5 7 (.inl v) = some (uF u 55 7 (.inl v)) := sk_pF h (by decide) rfl
theorem sf_55_7 {u : CS} (h : skB u = true) {v : Int32} : skB (uF u 55 7 (.inl v)) = true := sk_uF (x := 0) h (by decide) rfl rfl rfl
theorem fi_55_7 {u : CS} (h : skB u = true) {v : Int32} : FI (uF u 55 7 (.inl v)) 55 7 = v := FI_self h (by decide) rfl
theorem gi_55_8 {u : CS} (h : skB u = true) : gI u 55 5 8 = some (FI u 55 8) := sk_gI h (by decide) rfl (by decide) rfl
theorem pf_55_8 {u : CS} (h : skB u = true) {v : Int32} : pF u 55 5 8 (.inl v) = some (uF u 55 8 (.inl v)) := sk_pF h (by decide) rfl
theorem sf_55_8 {u : CS} (h : skB u = true) {v : Int32} : skB (uF u 55 8 (.inl v)) = true := sk_uF (x := 0) h (by decide) rfl rfl rfl
theorem fi_55_8 {u : CS} (h : skB u = true) {v : Int32} : FI (uF u 55 8 (.inl v)) 55 8 = v := FI_self h (by decide) rfl
theorem gi_55_9 {u : CS} (h : skB u = true) : gI u 55 5 9 = some (FI u 55 9) := sk_gI h (by decide) rfl (by decide) rfl
theorem pf_55_9 {u : CS} (h : skB u = true) {v : Int32} : pF u 55 5 9 (.inl v) = some (uF u 55 9 (.inl v)) := sk_pF h (by decide) rfl
theorem sf_55_9 {u : CS} (h : skB u = true) {v : Int32} : skB (uF u 55 9 (.inl v)) = true := sk_uF (x := 0) h (by decide) rfl rfl rfl
theorem fi_55_9 {u : CS} (h : skB u = true) {v : Int32} : FI (uF u 55 9 (.inl v)) 55 9 = v := FI_self h (by decide) rfl
theorem gj_55_10 {u : CS} (h : skB u = true) : gJ u 55 5 10 = some (FJ u 55 10) := sk_gJ h (by decide) rfl (by decide) rfl
theorem gi_55_11 {u : CS} (h : skB u = true) : gI u 55 5 11 = some (FI u 55 11) := sk_gI h (by decide) rfl (by decide) rfl
theorem pf_55_11 {u : CS} (h : skB u = true) {v : Int32} : pF u 55 5 11 (.inl v) = some (uF u 55 11 (.inl v)) := sk_pF h (by decide) rfl
theorem sf_55_11 {u : CS} (h : skB u = true) {v : Int32} : skB (uF u 55 11 (.inl v)) = true := sk_uF (x := 0) h (by decide) rfl rfl rfl
theorem fi_55_11 {u : CS} (h : skB u = true) {v : Int32} : FI (uF u 55 11 (.inl v)) 55 11 = v := FI_self h (by decide) rfl
theorem gi_55_12 {u : CS} (h : skB u = true) : gI u 55 5 12 = some (FI u 55 12) := sk_gI h (by decide) rfl (by decide) rfl
theorem pf_55_12 {u : CS} (h : skB u = true) {v : Int32} : pF u 55 5 12 (.inl v) = some (uF u 55 12 (.inl v)) := sk_pF h (by decide) rfl
theorem sf_55_12 {u : CS} (h : skB u = true) {v : Int32} : skB (uF u 55 12 (.inl v)) = true := sk_uF (x := 0) h (by decide) rfl rfl rfl
theorem fi_55_12 {u : CS} (h : skB u = true) {v : Int32} : FI (uF u 55 12 (.inl v)) 55 12 = v := FI_self h (by decide) rfl
theorem gi_55_13 {u : CS} (h : skB u = true) : gI u 55 5 13 = some (FI u 55 13) := sk_gI h (by decide) rfl (by decide) rfl
theorem pf_55_13 {u : CS} (h : skB u = true) {v : Int32} : pF u 55 5 13 (.inl v) = some (uF u 55 13 (.inl v)) := sk_pF h (by decide) rfl
theorem sf_55_13 {u : CS} (h : skB u = true) {v : Int32} : skB (uF u 55 13 (.inl v)) = true := sk_uF (x := 0) h (by decide) rfl rfl rfl
theorem fi_55_13 {u : CS} (h : skB u = true) {v : Int32} : FI (uF u 55 13 (.inl v)) 55 13 = v := FI_self h (by decide) rfl
theorem gi_55_14 {u : CS} (h : skB u = true) : gI u 55 5 14 = some (FI u 55 14) := sk_gI h (by decide) rfl (by decide) rfl
theorem pf_55_14 {u : CS} (h : skB u = true) {v : Int32} : pF u 55 5 14 (.inl v) = some (uF u 55 14 (.inl v)) := sk_pF h (by decide) rfl
theorem sf_55_14 {u : CS} (h : skB u = true) {v : Int32} : skB (uF u 55 14 (.inl v)) = true := sk_uF (x := 0) h (by decide) rfl rfl rfl
theorem fi_55_14 {u : CS} (h : skB u = true) {v : Int32} : FI (uF u 55 14 (.inl v)) 55 14 = v := FI_self h (by decide) rfl
theorem ai_56 {u : CS} (h : skB u = true) {j : Int32} : aI u 56 3 j = if inb j 100 = true then some (AI u 56 j.toNatClampNeg) else none := sk_aI h (by decide) rfl
theorem si_56 {u : CS} (h : skB u = true) {j v : Int32} : sI u 56 3 j v = if inb j 100 = true then some (uA u 56 (upd (AI u 56) j.toNatClampNeg v)) else none := sk_sI h (by decide) rfl
theorem na_56 {u : CS} (h : skB u = true) : nA u 56 3 = some 100 := sk_nA h (by decide) rfl
theorem sa_56 {u : CS} (h : skB u = true) {g : Nat → Int32} : skB (uA u 56 g) = true := sk_uA h (by decide)
theorem fa_56 {u : CS} (h : skB u = true) {g : Nat → Int32} : AI (uA u 56 g) 56 = g := AI_self h (by decide) rfl
