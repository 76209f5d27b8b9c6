/-! lists made of lists: their parts, what is kept of them, room -/
set_option maxRecDepth 100000
/-- how many are kept of the first i -/
def cnk (fl : Nat → Bool) : Nat → Nat
  | 0 => 0
  | i + 1 => cnk fl i + (if fl i = true then 0 else 1)
/-- the r-th that is kept -/
def selk (fl : Nat → Bool) (e : Nat → Int64) : Nat → Nat → Int64
  | 0, _ => 0
  | k + 1, r => if fl k = false ∧ r = cnk fl k then e k else selk fl e k r
section
variable {fl : Nat → Bool} {e : Nat → Int64}
theorem cnk_s {i : Nat} (h : fl i = false) : cnk fl (i + 1) = cnk fl i + 1 := by
  show cnk fl i + (if fl i = true then 0 else 1) = _
  rw [h]
  rfl
theorem cnk_f {i : Nat} (h : fl i = true) : cnk fl (i + 1) = cnk fl i := by
  show cnk fl i + (if fl i = true then 0 else 1) = _
  rw [if_pos h, Nat.add_zero]
theorem cnk_le1 {i : Nat} : cnk fl i ≤ cnk fl (i + 1) := Nat.le_add_right _ _
theorem cnk_mono : ∀ d i : Nat, cnk fl i ≤ cnk fl (i + d)
  | 0, _ => Nat.le_refl _
  | d + 1, i => Nat.le_trans (cnk_mono d i) cnk_le1
theorem cnk_m {i k : Nat} (h : i ≤ k) : cnk fl i ≤ cnk fl k := by
  have := cnk_mono (fl := fl) (k - i) i
  rw [show i + (k - i) = k by omega] at this
  exact this
theorem cnk_b : ∀ k : Nat, cnk fl k ≤ k
  | 0 => Nat.le_refl _
  | k + 1 => by
    have := cnk_b k
    show cnk fl k + (if fl k = true then 0 else 1) ≤ k + 1
    split <;> omega
theorem cnk_all {k : Nat} : (∀ i, i < k → fl i = false) → cnk fl k = k := by
  induction k with
  | zero => intro _; rfl
  | succ k ih =>
    intro h
    rw [cnk_s (h k (by omega)), ih (fun i hi => h i (by omega))]
theorem selk_at : ∀ k i : Nat, i < k → fl i = false → selk fl e k (cnk fl i) = e i
  | 0, i, h, _ => absurd h (Nat.not_lt_zero _)
  | k + 1, i, h, hf => by
    show (if fl k = false ∧ cnk fl i = cnk fl k then e k else selk fl e k (cnk fl i)) = e i
    by_cases c : i = k
    · subst c
      rw [if_pos ⟨hf, rfl⟩]
    · have h1 := cnk_s hf
      have h2 := cnk_m (fl := fl) (show i + 1 ≤ k by omega)
      rw [if_neg (by omega)]
      exact selk_at k i (by omega) hf
theorem selk_ex : ∀ k r : Nat, r < cnk fl k → ∃ i, i < k ∧ fl i = false ∧ r = cnk fl i
  | 0, r, h => absurd h (Nat.not_lt_zero _)
  | k + 1, r, h => by
    by_cases c : r < cnk fl k
    · obtain ⟨i, a1, a2, a3⟩ := selk_ex k r c
      exact ⟨i, by omega, a2, a3⟩
    · cases hf : fl k with
      | true => rw [cnk_f hf] at h; omega
      | false => rw [cnk_s hf] at h; exact ⟨k, by omega, hf, by omega⟩
end
section
variable {b : Int → Nat → Nat → Prop} {Fv Fv' : Int64 → Int64 → Prop} {P P' : Int64 → Prop} {ow kd ow' kd' : Nat → Nat} {U U' n0 n0' k : Nat} {h h' : Nat → Int64} {t x : Int64}
/-- the tails of two lists go together -/
theorem tl_TP (is : ISb b h n0 h' n0') (g : HPc h U ow kd Fv P) (g' : HP h' U' ow' kd' Fv' P') (q : TPb b U ow kd P U' ow' kd' P' t x) (hs : ∀ j, j < k → so (tlc h t j) = 7) : ∀ j, j ≤ k → TPb b U ow kd P U' ow' kd' P' (tlc h t j) (tlc h' x j) := by
  intro j
  induction j with
  | zero => intro _; exact q
  | succ j ih =>
    intro hj
    exact (TP_pair is g g' (ih (by omega)) (hs j (by omega))).2.2
end
section
variable {b : Int → Nat → Nat → Prop} {Fv Fv' : Int64 → Int64 → Prop} {P P' : Int64 → Prop} {ow kd ow' kd' : Nat → Nat} {N p n k B W Y ee : Nat} {m w : MS}
/-- lists that wait are as long behind the clearing -/
theorem room_tags (q : PTQ m p n ow kd Fv P B W Y) (cx : CTX Fv P m) (hk : k ≤ 2000) (h9 : F m (pq p 9) ≠ 3) (hee : F m 955 = ((ee : Nat) : Int) ∧ ee < 24) (hN : 2200000 ≤ N) : PK (fun m3 r => r = 1 → ∀ i, i < W → ∀ j, (∀ i2, i2 < j → so (tlc (m.2.2.2 (pq p 2)) (m.2.2.2 (pq p 35) i) i2) = 7) → so (tlc (m3.2.2.2 (pq p 2)) (m3.2.2.2 (pq p 35) i) j) = so (tlc (m.2.2.2 (pq p 2)) (m.2.2.2 (pq p 35) i) j)) (hm_Ma_room N m p (I ((k : Nat) : Int))) := by
  refine pk_mo (room_e (N := N) (p := p) (k := k) (m := m) (ee := ee) (fun m2 (_ : Int32) => ∀ i, i < W → ∀ j, (∀ i2, i2 < j → so (tlc (m.2.2.2 (pq p 2)) (m.2.2.2 (pq p 35) i) i2) = 7) → so (tlc (m2.2.2.2 (pq p 2)) (m2.2.2.2 (pq p 35) i) j) = so (tlc (m.2.2.2 (pq p 2)) (m.2.2.2 (pq p 35) i) j)) (pk_mo (pk_ok (want_ok (N := N) (x := ((k : Nat) : Int)) q cx ⟨by omega, by omega⟩ (by omega))) (fun m2 r h => ?_)) h9 hee) (fun m3 r h e => ?_)
  · obtain ⟨a1, U, ow2, kd2, a2, a3, a4, a5, a6⟩ := h
    exact ⟨a1, a4, fun i hi j hj => (a6 i hi).2.1.2 j hj⟩
  · obtain ⟨m2, a1, a2, c⟩ := h
    rcases c with ⟨_, rfl⟩ | ⟨c, _⟩
    · exact a2
    · rw [e] at c
      exact absurd c (by decide)
end
/-- rows in which lists are looked at: only these change -/
def SCw (w w2 : MS) : Prop := FR [169] [] [168] [167, 141] w w2
section
variable {b : Int → Nat → Nat → Prop} {Fv Fv' : Int64 → Int64 → Prop} {P P' : Int64 → Prop} {ow kd ow' kd' : Nat → Nat} {N p j U B W Y a n : Nat} {m w w2 : MS} {nb : Nat → Nat} {Hs Os : Nat → List Nat} {y : Option (Nat × Nat × Nat)}
theorem SCw_pl (f : SCw w w2) (pl : PLs b p m w U B W Y) : PLs b p m w2 U B W Y := PLs_cg pl (fun _ _ => rfl) (fun _ _ => rfl) (fun _ _ => rfl) (fun _ _ => rfl) (fun _ _ => rfl) (fun K hK => by rw [f.2.2.1 K (by simp at hK ⊢; omega)]) (fun _ _ => by rw [f.2.2.2 88 (by simp)]) (fun _ _ => by rw [f.2.2.2 93 (by simp)]) (fun _ _ => by rw [f.2.2.2 91 (by simp)]) (fun _ _ => by rw [f.2.2.2 107 (by simp)])
theorem SCw_pr (f : SCw w w2) : ∀ K, PRr K → w2.2.2.1 K = w.2.2.1 K := fun K h => f.2.2.1 K (by unfold PRr at h; simp; omega)
theorem SCw_hp (f : SCw w w2) : hp w2 p = hp w p := by
  funext k
  show w2.2.2.2 88 (500 * p + k) = _
  rw [f.2.2.2 88 (by simp)]
  rfl
theorem SCw_gg (f : SCw w w2) : GGw p w w2 := ⟨fun d _ => ⟨fun K i h => by rw [f.2.2.1 K (by have := OWi_k h; simp; omega)], fun K h => by rw [f.2.2.1 K (by simp; omega)], fun i _ _ => by rw [f.2.2.1 131 (by simp)], by rw [f.2.2.2 111 (by simp)], fun _ _ _ => by rw [f.2.2.2 88 (by simp)], fun _ _ _ => by rw [f.2.2.2 91 (by simp)], fun _ _ _ => by rw [f.2.2.2 93 (by simp)], fun _ _ _ => by rw [f.2.2.2 107 (by simp)]⟩, ⟨SCw_pr f, f.2.2.2 34 (by simp), f.2.2.1 12 (by simp), f.2.2.1 13 (by simp), f.1 14 (by simp)⟩, f.1 150 (by simp), fun K h => f.2.2.1 K (by simp; omega), f.2.2.2 148 (by simp), fun K h => f.2.2.1 K (by simp; omega), fun k h => f.1 k (by simp; omega)⟩
theorem RUb_sc (f : SCw w w2) (ru : RUb m w p j nb Hs Os y) : RUb m w2 p j nb Hs Os y := RUb_st ru ⟨fun _ _ _ => rfl, fun _ _ _ => rfl, fun _ _ _ => rfl, rfl⟩ ⟨fun K i h _ _ => by rw [f.2.2.1 K (by have := OWi_k h; simp; omega)], by rw [f.2.2.2 111 (by simp)], SCw_pr f, f.2.2.2 34 (by simp)⟩ ⟨⟨⟨rfl, rfl, rfl⟩, SCw_pr f, f.2.2.2 34 (by simp), f.2.2.1 12 (by simp), f.2.2.1 13 (by simp), f.1 14 (by simp)⟩, fun _ _ _ => ⟨rfl, rfl⟩, fun k h => f.1 k (by simp; omega)⟩
theorem SCw_cx (f : SCw w w2) (xc : CX w p (hp w p) U ow' kd' Fv' P' W B Y) : CX w2 p (hp w2 p) U ow' kd' Fv' P' W B Y := by
  obtain ⟨x1, x2, x3, x4, ⟨x5, x6⟩, ⟨x7, x8⟩, ⟨x9, x10⟩, x11, x12, x13, x14⟩ := xc
  exact ⟨rfl, by rw [SCw_hp f]; exact x2, x3, x4, ⟨by rw [FR.A f (by simp)]; exact x5, x6⟩, ⟨by rw [FR.A f (by simp)]; exact x7, x8⟩, ⟨by rw [FR.A f (by simp)]; exact x9, x10⟩, fun i hi => by rw [f.2.2.2 91 (by simp)]; exact x11 i hi, fun i hi => by rw [f.2.2.2 93 (by simp)]; exact x12 i hi, fun i hi => by rw [f.2.2.2 107 (by simp)]; exact x13 i hi, fun h => by rw [f.2.1 139 (by simp)]; exact x14 (by rw [← FR.F f (by simp)]; exact h)⟩
end
