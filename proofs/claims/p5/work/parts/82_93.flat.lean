set_option maxRecDepth 100000
def rH : Option (CS × Unit) := fm_H_init 400 uH0 0
def xH : CS := match rH with
  | some x => x.1
  | none => e0
def tbl : List (Nat × List Nat) := [(3, [1, 4, 7, 25, 36, 38, 46, 50, 58, 59, 0, 0]), (3, [11, 5, 6, 0]), (0, [3, 4300]), (0, [4, 2101]), (3, [9, 8, 0, 9, 10, 11, 0, 12, 4, 15, 0, 0]), (0, [3, 4000]), (0, [4, 4002]), (0, [4, 4002]), (0, [4, 4002]), (3, [11, 13, 14, 0]), (0, [3, 100]), (0, [4, 21]), (3, [11, 16, 17, 0]), (0, [3, 4300]), (0, [4, 2101]), (3, [10, 19, 20, 21, 22, 23, 24, 0]), (0, [4, 8016]), (0, [4, 8016]), (0, [4, 8016]), (0, [4, 8016]), (0, [4, 8016]), (0, [4, 8016]), (3, [2, 26, 0, 0, 27, 28, 29, 30, 31, 32, 0, 33, 34, 35]), (0, [4, 24000]), (0, [4, 666]), (0, [4, 666]), (0, [4, 666]), (0, [4, 666]), (0, [4, 666]), (0, [4, 666]), (0, [4, 400]), (0, [4, 400]), (0, [4, 400]), (3, [6, 7, 18, 25, 37, 0, 0, 0, 0]), (0, [4, 4002]), (3, [3, 7, 18, 25, 4, 39, 42, 0, 43, 44, 0, 45, 0, 0, 0, 0]), (3, [11, 40, 41, 0]), (0, [3, 300]), (0, [4, 41]), (0, [4, 4000]), (0, [4, 32]), (0, [4, 32]), (0, [4, 4002]), (3, [8, 47, 48, 49, 4, 2, 0, 0]), (1, [2048]), (1, [2048]), (1, [2048]), (3, [12, 46, 51, 0, 0, 0, 0, 0, 52, 53, 54, 0, 55, 56, 0, 57, 0, 0]), (2, [24]), (0, [4, 200]), (0, [4, 200]), (0, [4, 200]), (0, [3, 20000]), (0, [4, 200]), (0, [4, 24]), (3, [5, 25, 50, 46, 2, 2, 0, 0, 0, 0, 0, 1, 0, 0, 0, 0]), (0, [3, 100])]
def okK (x : Nat) (v : LV) : Bool := match v with
  | .inl _ => x == 0
  | .inr (.inl _) => x == 1
  | .inr (.inr none) => x == 2
  | .inr (.inr (some r)) => x == 2 || x == 3 + r
def okS (sh : Nat × List Nat) (c : LC) : Bool := match c with
  | .inl q => sh.1 == 3 && (match sh.2 with
    | [] => false
    | ci :: ks => ci == q.1 && (List.range ks.length).all (fun k => okK (ks.getD k 9) (q.2 k)))
  | .inr (.inl q) => sh.1 == 0 && sh.2 == [q.1, q.2.1]
  | .inr (.inr (.inl q)) => sh.1 == 1 && sh.2 == [q.1]
  | .inr (.inr (.inr q)) => sh.1 == 2 && sh.2 == [q.1]
def skB (u : CS) : Bool := decide (57 ≤ u.1.1) && (List.range 57).all (fun i => okS (tbl.getD i (9, [])) (u.2 i))
def FI (u : CS) (i k : Nat) : Int32 := match u.2 i with
  | .inl q => match q.2 k with
    | .inl v => v
    | _ => 0
  | _ => 0
def FJ (u : CS) (i k : Nat) : Int64 := match u.2 i with
  | .inl q => match q.2 k with
    | .inr (.inl v) => v
    | _ => 0
  | _ => 0
def FRc (u : CS) (i k : Nat) : Option Nat := match u.2 i with
  | .inl q => match q.2 k with
    | .inr (.inr r) => r
    | _ => none
  | _ => none
def AI (u : CS) (i : Nat) : Nat → Int32 := match u.2 i with
  | .inr (.inl q) => q.2.2
  | _ => fun _ => 0
def AJ (u : CS) (i : Nat) : Nat → Int64 := match u.2 i with
  | .inr (.inr (.inl q)) => q.2
  | _ => fun _ => 0
def AP (u : CS) (i : Nat) : Nat → Option Nat := match u.2 i with
  | .inr (.inr (.inr q)) => q.2
  | _ => fun _ => none
def uF (u : CS) (i k : Nat) (v : LV) : CS := match u.2 i with
  | .inl q => cup u i (.inl (q.1, fun j => if j = k then v else q.2 j))
  | _ => u
def uA (u : CS) (i : Nat) (g : Nat → Int32) : CS := match u.2 i with
  | .inr (.inl q) => cup u i (.inr (.inl (q.1, q.2.1, g)))
  | _ => u
def uJ (u : CS) (i : Nat) (g : Nat → Int64) : CS := match u.2 i with
  | .inr (.inr (.inl q)) => cup u i (.inr (.inr (.inl (q.1, g))))
  | _ => u
theorem sk_n {u : CS} (h : skB u = true) : 57 ≤ u.1.1 := by
  unfold skB at h
  rw [Bool.and_eq_true] at h
  exact of_decide_eq_true h.1
theorem sk_at {u : CS} (h : skB u = true) {i : Nat} (hi : i < 57) : okS (tbl.getD i (9, [])) (u.2 i) = true := by
  unfold skB at h
  rw [Bool.and_eq_true] at h
  exact List.all_eq_true.mp h.2 i (List.mem_range.mpr hi)
theorem sk_o {u : CS} (h : skB u = true) {i ci : Nat} {ks : List Nat} (hi : i < 57) (ht : tbl.getD i (9, []) = (3, ci :: ks)) : ∃ f, i < u.1.1 ∧ u.2 i = .inl (ci, f) ∧ ∀ k, k < ks.length → okK (ks.getD k 9) (f k) = true := by
  have h1 := sk_at h hi
  rw [ht] at h1
  have hn := sk_n h
  cases hc : u.2 i with
  | inl q =>
    rw [hc] at h1
    simp only [okS, Bool.and_eq_true, beq_iff_eq] at h1
    obtain ⟨-, rfl, h2⟩ := h1
    exact ⟨q.2, by omega, rfl, fun k hk => List.all_eq_true.mp h2 k (List.mem_range.mpr hk)⟩
  | inr q => rw [hc] at h1; rcases q with q | q | q <;> simp [okS] at h1
theorem sk_a {u : CS} (h : skB u = true) {i t n : Nat} (hi : i < 57) (ht : tbl.getD i (9, []) = (0, [t, n])) : i < u.1.1 ∧ u.2 i = .inr (.inl (t, n, AI u i)) := by
  have h1 := sk_at h hi
  rw [ht] at h1
  have hn := sk_n h
  cases hc : u.2 i with
  | inl q => rw [hc] at h1; simp [okS] at h1
  | inr q =>
    rcases q with q | q | q
    · rw [hc] at h1
      obtain ⟨a, b, c⟩ := q
      simp [okS] at h1
      obtain ⟨rfl, rfl⟩ := h1
      refine ⟨by omega, ?_⟩
      unfold AI
      rw [hc]
    · rw [hc] at h1; simp [okS] at h1
    · rw [hc] at h1; simp [okS] at h1
theorem sk_l {u : CS} (h : skB u = true) {i n : Nat} (hi : i < 57) (ht : tbl.getD i (9, []) = (1, [n])) : i < u.1.1 ∧ u.2 i = .inr (.inr (.inl (n, AJ u i))) := by
  have h1 := sk_at h hi
  rw [ht] at h1
  have hn := sk_n h
  cases hc : u.2 i with
  | inl q => rw [hc] at h1; simp [okS] at h1
  | inr q =>
    rcases q with q | q | q
    · rw [hc] at h1; simp [okS] at h1
    · rw [hc] at h1
      obtain ⟨a, b⟩ := q
      simp [okS] at h1
      subst h1
      refine ⟨by omega, ?_⟩
      unfold AJ
      rw [hc]
    · rw [hc] at h1; simp [okS] at h1
theorem sk_gI {u : CS} (h : skB u = true) {i ci k : Nat} {ks : List Nat} (hi : i < 57) (ht : tbl.getD i (9, []) = (3, ci :: ks)) (hk : k < ks.length) (h0 : ks.getD k 9 = 0) : gI u i ci k = some (FI u i k) := by
  obtain ⟨f, h1, h2, h3⟩ := sk_o h hi ht
  have h4 := h3 k hk
  rw [h0] at h4
  unfold gI FI oF
  rw [if_pos h1, h2]
  simp only [if_true]
  cases hf : f k with
  | inl v => rfl
  | inr v => rw [hf] at h4; rcases v with v | v | v <;> (simp [okK] at h4 <;> omega)
theorem sk_gJ {u : CS} (h : skB u = true) {i ci k : Nat} {ks : List Nat} (hi : i < 57) (ht : tbl.getD i (9, []) = (3, ci :: ks)) (hk : k < ks.length) (h0 : ks.getD k 9 = 1) : gJ u i ci k = some (FJ u i k) := by
  obtain ⟨f, h1, h2, h3⟩ := sk_o h hi ht
  have h4 := h3 k hk
  rw [h0] at h4
  unfold gJ FJ oF
  rw [if_pos h1, h2]
  simp only [if_true]
  cases hf : f k with
  | inl v => rw [hf] at h4; simp [okK] at h4
  | inr v => rcases v with v | v | v <;> first | rfl | (rw [hf] at h4; simp [okK] at h4 <;> omega)
theorem sk_gR {u : CS} (h : skB u = true) {i ci k r : Nat} {ks : List Nat} (hi : i < 57) (ht : tbl.getD i (9, []) = (3, ci :: ks)) (hk : k < ks.length) (h0 : ks.getD k 9 = 3 + r) : gR u i ci k = some (some r) := by
  obtain ⟨f, h1, h2, h3⟩ := sk_o h hi ht
  have h4 := h3 k hk
  rw [h0] at h4
  unfold gR oF
  rw [if_pos h1, h2]
  simp only [if_true]
  cases hf : f k with
  | inl v => rw [hf] at h4; simp [okK] at h4
  | inr v =>
    rcases v with v | v | v
    · rw [hf] at h4
      simp [okK] at h4
      omega
    · rw [hf] at h4
      simp [okK] at h4
      omega
    · rw [hf] at h4
      simp only [okK, Bool.or_eq_true, beq_iff_eq] at h4
      have : v = r := by omega
      rw [this]
theorem sk_gD {u : CS} (h : skB u = true) {i ci k : Nat} {ks : List Nat} (hi : i < 57) (ht : tbl.getD i (9, []) = (3, ci :: ks)) (hk : k < ks.length) (h0 : ks.getD k 9 = 2) : gR u i ci k = some (FRc u i k) := by
  obtain ⟨f, h1, h2, h3⟩ := sk_o h hi ht
  have h4 := h3 k hk
  rw [h0] at h4
  unfold gR FRc oF
  rw [if_pos h1, h2]
  simp only [if_true]
  cases hf : f k with
  | inl v => rw [hf] at h4; simp [okK] at h4
  | inr v => rcases v with v | v | v <;> first | rfl | (rw [hf] at h4; simp [okK] at h4 <;> omega)
theorem sk_isO {u : CS} (h : skB u = true) {i ci : Nat} {ks : List Nat} (hi : i < 57) (ht : tbl.getD i (9, []) = (3, ci :: ks)) : isO u i ci = true := by
  obtain ⟨f, h1, h2, -⟩ := sk_o h hi ht
  unfold isO oF
  rw [if_pos h1, h2]
  simp
theorem sk_pF {u : CS} (h : skB u = true) {i ci k : Nat} {ks : List Nat} {v : LV} (hi : i < 57) (ht : tbl.getD i (9, []) = (3, ci :: ks)) : pF u i ci k v = some (uF u i k v) := by
  obtain ⟨f, h1, h2, -⟩ := sk_o h hi ht
  unfold pF uF oF
  rw [if_pos h1, h2]
  simp
theorem sk_cup {u : CS} (h : skB u = true) {i : Nat} {c : LC} (hc : okS (tbl.getD i (9, [])) c = true) : skB (cup u i c) = true := by
  have h1 := sk_n h
  unfold skB
  rw [Bool.and_eq_true]
  refine ⟨decide_eq_true h1, List.all_eq_true.mpr (fun j hj => ?_)⟩
  have hj := List.mem_range.mp hj
  show okS (tbl.getD j (9, [])) (if j = i then c else u.2 j) = true
  by_cases e : j = i
  · rw [if_pos e, e]; exact hc
  · rw [if_neg e]; exact sk_at h hj
theorem sk_uF {u : CS} (h : skB u = true) {i ci k x : Nat} {ks : List Nat} {v : LV} (hi : i < 57) (ht : tbl.getD i (9, []) = (3, ci :: ks)) (hk : ks[k]? = some x) (hv : okK x v = true) : skB (uF u i k v) = true := by
  obtain ⟨f, h1, h2, h3⟩ := sk_o h hi ht
  unfold uF
  rw [h2]
  refine sk_cup h ?_
  rw [ht]
  simp only [okS, Bool.and_eq_true, beq_iff_eq, List.all_eq_true, List.mem_range, true_and]
  intro j hj
  by_cases e : j = k
  · rw [if_pos e, e, List.getD_eq_getElem?_getD, hk]; exact hv
  · rw [if_neg e]; exact h3 j hj
theorem sk_uA {u : CS} (h : skB u = true) {i : Nat} {g : Nat → Int32} (hi : i < 57) : skB (uA u i g) = true := by
  unfold uA
  have h1 := sk_at h hi
  cases hc : u.2 i with
  | inl q => exact h
  | inr q =>
    rcases q with q | q | q
    · rw [hc] at h1
      exact sk_cup h h1
    · exact h
    · exact h
theorem sk_uJ {u : CS} (h : skB u = true) {i : Nat} {g : Nat → Int64} (hi : i < 57) : skB (uJ u i g) = true := by
  unfold uJ
  have h1 := sk_at h hi
  cases hc : u.2 i with
  | inl q => exact h
  | inr q =>
    rcases q with q | q | q
    · exact h
    · rw [hc] at h1
      exact sk_cup h h1
    · exact h
theorem sk_aI {u : CS} (h : skB u = true) {i t n : Nat} {j : Int32} (hi : i < 57) (ht : tbl.getD i (9, []) = (0, [t, n])) : aI u i t j = if inb j n = true then some (AI u i j.toNatClampNeg) else none := by
  obtain ⟨h1, h2⟩ := sk_a h hi ht
  unfold aI oA
  rw [if_pos h1, h2]
  simp only [if_true]
theorem sk_sI {u : CS} (h : skB u = true) {i t n : Nat} {j v : Int32} (hi : i < 57) (ht : tbl.getD i (9, []) = (0, [t, n])) : sI u i t j v = if inb j n = true then some (uA u i (upd (AI u i) j.toNatClampNeg v)) else none := by
  obtain ⟨h1, h2⟩ := sk_a h hi ht
  unfold sI oA uA
  rw [if_pos h1, h2]
  simp only [if_true]
theorem sk_nA {u : CS} (h : skB u = true) {i t n : Nat} (hi : i < 57) (ht : tbl.getD i (9, []) = (0, [t, n])) : nA u i t = some (Int32.ofNat n) := by
  obtain ⟨h1, h2⟩ := sk_a h hi ht
  unfold nA oA
  rw [if_pos h1, h2]
  simp
theorem sk_aJ {u : CS} (h : skB u = true) {i n : Nat} {j : Int32} (hi : i < 57) (ht : tbl.getD i (9, []) = (1, [n])) : aJ u i j = if inb j n = true then some (AJ u i j.toNatClampNeg) else none := by
  obtain ⟨h1, h2⟩ := sk_l h hi ht
  unfold aJ oL
  rw [if_pos h1, h2]
theorem sk_sJ {u : CS} (h : skB u = true) {i n : Nat} {j : Int32} {v : Int64} (hi : i < 57) (ht : tbl.getD i (9, []) = (1, [n])) : sJ u i j v = if inb j n = true then some (uJ u i (vp_updL (AJ u i) j.toNatClampNeg v)) else none := by
  obtain ⟨h1, h2⟩ := sk_l h hi ht
  unfold sJ oL uJ
  rw [if_pos h1, h2]
theorem uF_1 {u : CS} {i k : Nat} {v : LV} : (uF u i k v).1 = u.1 := by unfold uF; split <;> rfl
theorem uA_1 {u : CS} {i : Nat} {g : Nat → Int32} : (uA u i g).1 = u.1 := by unfold uA; split <;> rfl
theorem uJ_1 {u : CS} {i : Nat} {g : Nat → Int64} : (uJ u i g).1 = u.1 := by unfold uJ; split <;> rfl
theorem uF_ne {u : CS} {i j k : Nat} {v : LV} (h : j ≠ i) : (uF u i k v).2 j = u.2 j := by
  unfold uF
  split
  · show (if j = i then _ else u.2 j) = _
    rw [if_neg h]
  · rfl
theorem uA_ne {u : CS} {i j : Nat} {g : Nat → Int32} (h : j ≠ i) : (uA u i g).2 j = u.2 j := by
  unfold uA
  split
  · show (if j = i then _ else u.2 j) = _
    rw [if_neg h]
  · rfl
theorem uJ_ne {u : CS} {i j : Nat} {g : Nat → Int64} (h : j ≠ i) : (uJ u i g).2 j = u.2 j := by
  unfold uJ
  split
  · show (if j = i then _ else u.2 j) = _
    rw [if_neg h]
  · rfl
theorem FI_F {u : CS} {i k i2 k2 : Nat} {v : LV} (h : i2 ≠ i ∨ k2 ≠ k) : FI (uF u i k v) i2 k2 = FI u i2 k2 := by
  by_cases e : i2 = i
  · subst e
    have hk : k2 ≠ k := by rcases h with h | h; exact absurd rfl h; exact h
    unfold FI uF
    cases hc : u.2 i2 with
    | inl q => simp [cup, hk]
    | inr q => simp [hc]
  · unfold FI; rw [uF_ne e]
theorem FI_self {u : CS} (h : skB u = true) {i ci k : Nat} {ks : List Nat} {v : Int32} (hi : i < 57) (ht : tbl.getD i (9, []) = (3, ci :: ks)) : FI (uF u i k (.inl v)) i k = v := by
  obtain ⟨f, h1, h2, -⟩ := sk_o h hi ht
  unfold FI uF
  rw [h2]
  simp [cup]
theorem FI_A {u : CS} {i i2 k2 : Nat} {g : Nat → Int32} : FI (uA u i g) i2 k2 = FI u i2 k2 := by
  by_cases e : i2 = i
  · subst e
    unfold FI uA
    cases hc : u.2 i2 with
    | inl q => simp [hc]
    | inr q => rcases q with q | q | q <;> simp [cup, hc]
  · unfold FI; rw [uA_ne e]
theorem FI_J {u : CS} {i i2 k2 : Nat} {g : Nat → Int64} : FI (uJ u i g) i2 k2 = FI u i2 k2 := by
  by_cases e : i2 = i
  · subst e
    unfold FI uJ
    cases hc : u.2 i2 with
    | inl q => simp [hc]
    | inr q => rcases q with q | q | q <;> simp [cup, hc]
  · unfold FI; rw [uJ_ne e]
theorem AI_F {u : CS} {i k i2 : Nat} {v : LV} : AI (uF u i k v) i2 = AI u i2 := by
  by_cases e : i2 = i
  · subst e
    unfold AI uF
    cases hc : u.2 i2 with
    | inl q => simp [cup]
    | inr q => simp [hc]
  · unfold AI; rw [uF_ne e]
theorem AI_A {u : CS} {i i2 : Nat} {g : Nat → Int32} (h : i2 ≠ i) : AI (uA u i g) i2 = AI u i2 := by unfold AI; rw [uA_ne h]
theorem AI_self {u : CS} (h : skB u = true) {i t n : Nat} {g : Nat → Int32} (hi : i < 57) (ht : tbl.getD i (9, []) = (0, [t, n])) : AI (uA u i g) i = g := by
  obtain ⟨h1, h2⟩ := sk_a h hi ht
  unfold uA
  rw [h2]
  unfold AI
  simp [cup]
theorem AI_J {u : CS} {i i2 : Nat} {g : Nat → Int64} : AI (uJ u i g) i2 = AI u i2 := by
  by_cases e : i2 = i
  · subst e
    unfold AI uJ
    cases hc : u.2 i2 with
    | inl q => simp [hc]
    | inr q => rcases q with q | q | q <;> simp [cup, hc]
  · unfold AI; rw [uJ_ne e]
theorem io_0 {u : CS} (h : skB u = true) : isO u 0 1 = true := sk_isO h (by decide) rfl
theorem gr_0_1 {u : CS} (h : skB u = true) : gR u 0 1 1 = some (some 4) := sk_gR h (by decide) rfl (by decide) rfl
theorem io_1 {u : CS} (h : skB u = true) : isO u 1 11 = true := sk_isO h (by decide) rfl
theorem gr_1_0 {u : CS} (h : skB u = true) : gR u 1 11 0 = some (some 2) := sk_gR h (by decide) rfl (by decide) rfl
theorem gr_1_1 {u : CS} (h : skB u = true) : gR u 1 11 1 = some (some 3) := sk_gR h (by decide) rfl (by decide) rfl
theorem gi_1_2 {u : CS} (h : skB u = true) : gI u 1 11 2 = some (FI u 1 2) := sk_gI h (by decide) rfl (by decide) rfl
theorem pf_1_2 {u : CS} (h : skB u = true) {v : Int32} : pF u 1 11 2 (.inl v) = some (uF u 1 2 (.inl v)) := sk_pF h (by decide) rfl
theorem sf_1_2 {u : CS} (h : skB u = true) {v : Int32} : skB (uF u 1 2 (.inl v)) = true := sk_uF (x := 0) h (by decide) rfl rfl rfl
theorem fi_1_2 {u : CS} (h : skB u = true) {v : Int32} : FI (uF u 1 2 (.inl v)) 1 2 = v := FI_self h (by decide) rfl
theorem ai_2 {u : CS} (h : skB u = true) {j : Int32} : aI u 2 3 j = if inb j 4300 = true then some (AI u 2 j.toNatClampNeg) else none := sk_aI h (by decide) rfl
theorem na_2 {u : CS} (h : skB u = true) : nA u 2 3 = some 4300 := sk_nA h (by decide) rfl
theorem sa_2 {u : CS} (h : skB u = true) {g : Nat → Int32} : skB (uA u 2 g) = true := sk_uA h (by decide)
theorem fa_2 {u : CS} (h : skB u = true) {g : Nat → Int32} : AI (uA u 2 g) 2 = g := AI_self h (by decide) rfl
theorem ai_3 {u : CS} (h : skB u = true) {j : Int32} : aI u 3 4 j = if inb j 2101 = true then some (AI u 3 j.toNatClampNeg) else none := sk_aI h (by decide) rfl
theorem si_3 {u : CS} (h : skB u = true) {j v : Int32} : sI u 3 4 j v = if inb j 2101 = true then some (uA u 3 (upd (AI u 3) j.toNatClampNeg v)) else none := sk_sI h (by decide) rfl
theorem na_3 {u : CS} (h : skB u = true) : nA u 3 4 = some 2101 := sk_nA h (by decide) rfl
theorem sa_3 {u : CS} (h : skB u = true) {g : Nat → Int32} : skB (uA u 3 g) = true := sk_uA h (by decide)
theorem fa_3 {u : CS} (h : skB u = true) {g : Nat → Int32} : AI (uA u 3 g) 3 = g := AI_self h (by decide) rfl
theorem io_4 {u : CS} (h : skB u = true) : isO u 4 9 = true := sk_isO h (by decide) rfl
theorem gr_4_0 {u : CS} (h : skB u = true) : gR u 4 9 0 = some (some 5) := sk_gR h (by decide) rfl (by decide) rfl
theorem gi_4_1 {u : CS} (h : skB u = true) : gI u 4 9 1 = some (FI u 4 1) := sk_gI h (by decide) rfl (by decide) rfl
theorem pf_4_1 {u : CS} (h : skB u = true) {v : Int32} : pF u 4 9 1 (.inl v) = some (uF u 4 1 (.inl v)) := sk_pF h (by decide) rfl
theorem sf_4_1 {u : CS} (h : skB u = true) {v : Int32} : skB (uF u 4 1 (.inl v)) = true := sk_uF (x := 0) h (by decide) rfl rfl rfl
theorem fi_4_1 {u : CS} (h : skB u = true) {v : Int32} : FI (uF u 4 1 (.inl v)) 4 1 = v := FI_self h (by decide) rfl
theorem gr_4_2 {u : CS} (h : skB u = true) : gR u 4 9 2 = some (some 6) := sk_gR h (by decide) rfl (by decide) rfl
theorem gr_4_3 {u : CS} (h : skB u = true) : gR u 4 9 3 = some (some 7) := sk_gR h (by decide) rfl (by decide) rfl
theorem gr_4_4 {u : CS} (h : skB u = true) : gR u 4 9 4 = some (some 8) := sk_gR h (by decide) rfl (by decide) rfl
theorem gi_4_5 {u : CS} (h : skB u = true) : gI u 4 9 5 = some (FI u 4 5) := sk_gI h (by decide) rfl (by decide) rfl
theorem pf_4_5 {u : CS} (h : skB u = true) {v : Int32} : pF u 4 9 5 (.inl v) = some (uF u 4 5 (.inl v)) := sk_pF h (by decide) rfl
theorem sf_4_5 {u : CS} (h : skB u = true) {v : Int32} : skB (uF u 4 5 (.inl v)) = true := sk_uF (x := 0) h (by decide) rfl rfl rfl
theorem fi_4_5 {u : CS} (h : skB u = true) {v : Int32} : FI (uF u 4 5 (.inl v)) 4 5 = v := FI_self h (by decide) rfl
theorem gr_4_6 {u : CS} (h : skB u = true) : gR u 4 9 6 = some (some 9) := sk_gR h (by decide) rfl (by decide) rfl
theorem gr_4_7 {u : CS} (h : skB u = true) : gR u 4 9 7 = some (some 1) := sk_gR h (by decide) rfl (by decide) rfl
theorem gr_4_8 {u : CS} (h : skB u = true) : gR u 4 9 8 = some (some 12) := sk_gR h (by decide) rfl (by decide) rfl
theorem gi_4_9 {u : CS} (h : skB u = true) : gI u 4 9 9 = some (FI u 4 9) := sk_gI h (by decide) rfl (by decide) rfl
theorem pf_4_9 {u : CS} (h : skB u = true) {v : Int32} : pF u 4 9 9 (.inl v) = some (uF u 4 9 (.inl v)) := sk_pF h (by decide) rfl
theorem sf_4_9 {u : CS} (h : skB u = true) {v : Int32} : skB (uF u 4 9 (.inl v)) = true := sk_uF (x := 0) h (by decide) rfl rfl rfl
theorem fi_4_9 {u : CS} (h : skB u = true) {v : Int32} : FI (uF u 4 9 (.inl v)) 4 9 = v := FI_self h (by decide) rfl
theorem gi_4_10 {u : CS} (h : skB u = true) : gI u 4 9 10 = some (FI u 4 10) := sk_gI h (by decide) rfl (by decide) rfl
theorem pf_4_10 {u : CS} (h : skB u = true) {v : Int32} : pF u 4 9 10 (.inl v) = some (uF u 4 10 (.inl v)) := sk_pF h (by decide) rfl
theorem sf_4_10 {u : CS} (h : skB u = true) {v : Int32} : skB (uF u 4 10 (.inl v)) = true := sk_uF (x := 0) h (by decide) rfl rfl rfl
theorem fi_4_10 {u : CS} (h : skB u = true) {v : Int32} : FI (uF u 4 10 (.inl v)) 4 10 = v := FI_self h (by decide) rfl
theorem ai_5 {u : CS} (h : skB u = true) {j : Int32} : aI u 5 3 j = if inb j 4000 = true then some (AI u 5 j.toNatClampNeg) else none := sk_aI h (by decide) rfl
theorem si_5 {u : CS} (h : skB u = true) {j v : Int32} : sI u 5 3 j v = if inb j 4000 = true then some (uA u 5 (upd (AI u 5) j.toNatClampNeg v)) else none := sk_sI h (by decide) rfl
theorem sa_5 {u : CS} (h : skB u = true) {g : Nat → Int32} : skB (uA u 5 g) = true := sk_uA h (by decide)
theorem fa_5 {u : CS} (h : skB u = true) {g : Nat → Int32} : AI (uA u 5 g) 5 = g := AI_self h (by decide) rfl
theorem ai_6 {u : CS} (h : skB u = true) {j : Int32} : aI u 6 4 j = if inb j 4002 = true then some (AI u 6 j.toNatClampNeg) else none := sk_aI h (by decide) rfl
theorem si_6 {u : CS} (h : skB u = true) {j v : Int32} : sI u 6 4 j v = if inb j 4002 = true then some (uA u 6 (upd (AI u 6) j.toNatClampNeg v)) else none := sk_sI h (by decide) rfl
theorem sa_6 {u : CS} (h : skB u = true) {g : Nat → Int32} : skB (uA u 6 g) = true := sk_uA h (by decide)
theorem fa_6 {u : CS} (h : skB u = true) {g : Nat → Int32} : AI (uA u 6 g) 6 = g := AI_self h (by decide) rfl
theorem si_7 {u : CS} (h : skB u = true) {j v : Int32} : sI u 7 4 j v = if inb j 4002 = true then some (uA u 7 (upd (AI u 7) j.toNatClampNeg v)) else none := sk_sI h (by decide) rfl
theorem sa_7 {u : CS} (h : skB u = true) {g : Nat → Int32} : skB (uA u 7 g) = true := sk_uA h (by decide)
theorem fa_7 {u : CS} (h : skB u = true) {g : Nat → Int32} : AI (uA u 7 g) 7 = g := AI_self h (by decide) rfl
theorem si_8 {u : CS} (h : skB u = true) {j v : Int32} : sI u 8 4 j v = if inb j 4002 = true then some (uA u 8 (upd (AI u 8) j.toNatClampNeg v)) else none := sk_sI h (by decide) rfl
theorem sa_8 {u : CS} (h : skB u = true) {g : Nat → Int32} : skB (uA u 8 g) = true := sk_uA h (by decide)
theorem fa_8 {u : CS} (h : skB u = true) {g : Nat → Int32} : AI (uA u 8 g) 8 = g := AI_self h (by decide) rfl
theorem io_9 {u : CS} (h : skB u = true) : isO u 9 11 = true := sk_isO h (by decide) rfl
theorem gr_9_0 {u : CS} (h : skB u = true) : gR u 9 11 0 = some (some 10) := sk_gR h (by decide) rfl (by decide) rfl
theorem gr_9_1 {u : CS} (h : skB u = true) : gR u 9 11 1 = some (some 11) := sk_gR h (by decide) rfl (by decide) rfl
theorem gi_9_2 {u : CS} (h : skB u = true) : gI u 9 11 2 = some (FI u 9 2) := sk_gI h (by decide) rfl (by decide) rfl
theorem ai_10 {u : CS} (h : skB u = true) {j : Int32} : aI u 10 3 j = if inb j 100 = true then some (AI u 10 j.toNatClampNeg) else none := sk_aI h (by decide) rfl
theorem ai_11 {u : CS} (h : skB u = true) {j : Int32} : aI u 11 4 j = if inb j 21 = true then some (AI u 11 j.toNatClampNeg) else none := sk_aI h (by decide) rfl
theorem io_12 {u : CS} (h : skB u = true) : isO u 12 11 = true := sk_isO h (by decide) rfl
theorem gr_12_0 {u : CS} (h : skB u = true) : gR u 12 11 0 = some (some 13) := sk_gR h (by decide) rfl (by decide) rfl
theorem gr_12_1 {u : CS} (h : skB u = true) : gR u 12 11 1 = some (some 14) := sk_gR h (by decide) rfl (by decide) rfl
theorem gi_12_2 {u : CS} (h : skB u = true) : gI u 12 11 2 = some (FI u 12 2) := sk_gI h (by decide) rfl (by decide) rfl
theorem pf_12_2 {u : CS} (h : skB u = true) {v : Int32} : pF u 12 11 2 (.inl v) = some (uF u 12 2 (.inl v)) := sk_pF h (by decide) rfl
theorem sf_12_2 {u : CS} (h : skB u = true) {v : Int32} : skB (uF u 12 2 (.inl v)) = true := sk_uF (x := 0) h (by decide) rfl rfl rfl
theorem fi_12_2 {u : CS} (h : skB u = true) {v : Int32} : FI (uF u 12 2 (.inl v)) 12 2 = v := FI_self h (by decide) rfl
theorem ai_13 {u : CS} (h : skB u = true) {j : Int32} : aI u 13 3 j = if inb j 4300 = true then some (AI u 13 j.toNatClampNeg) else none := sk_aI h (by decide) rfl
theorem na_13 {u : CS} (h : skB u = true) : nA u 13 3 = some 4300 := sk_nA h (by decide) rfl
theorem sa_13 {u : CS} (h : skB u = true) {g : Nat → Int32} : skB (uA u 13 g) = true := sk_uA h (by decide)
theorem fa_13 {u : CS} (h : skB u = true) {g : Nat → Int32} : AI (uA u 13 g) 13 = g := AI_self h (by decide) rfl
theorem ai_14 {u : CS} (h : skB u = true) {j : Int32} : aI u 14 4 j = if inb j 2101 = true then some (AI u 14 j.toNatClampNeg) else none := sk_aI h (by decide) rfl
theorem si_14 {u : CS} (h : skB u = true) {j v : Int32} : sI u 14 4 j v = if inb j 2101 = true then some (uA u 14 (upd (AI u 14) j.toNatClampNeg v)) else none := sk_sI h (by decide) rfl
theorem na_14 {u : CS} (h : skB u = true) : nA u 14 4 = some 2101 := sk_nA h (by decide) rfl
theorem sa_14 {u : CS} (h : skB u = true) {g : Nat → Int32} : skB (uA u 14 g) = true := sk_uA h (by decide)
theorem fa_14 {u : CS} (h : skB u = true) {g : Nat → Int32} : AI (uA u 14 g) 14 = g := AI_self h (by decide) rfl
theorem gd_55_3 {u : CS} (h : skB u = true) : gR u 55 5 3 = some (FRc u 55 3) := sk_gD h (by decide) rfl (by decide) rfl
theorem gd_55_4 {u : CS} (h : skB u = true) : gR u 55 5 4 = some (FRc u 55 4) := sk_gD h (by decide) rfl (by decide) rfl
theorem gj_55_10 {u : CS} (h : skB u = true) : gJ u 55 5 10 = some (FJ u 55 10) := sk_gJ h (by decide) rfl (by decide) rfl
