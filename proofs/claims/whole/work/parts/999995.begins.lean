/-! where a unit begins, how a sign binds: the reference says it as the grammar does -/
set_option maxRecDepth 100000
theorem k46c {P : Nat → Prop} {k : Nat} (hk : k < 46) (h0 : P 0) (h1 : P 1) (h2 : P 2) (h3 : P 3) (h4 : P 4) (h5 : P 5) (h6 : P 6) (h7 : P 7) (h8 : P 8) (h9 : P 9) (h10 : P 10) (h11 : P 11) (h12 : P 12) (h13 : P 13) (h14 : P 14) (h15 : P 15) (h16 : P 16) (h17 : P 17) (h18 : P 18) (h19 : P 19) (h20 : P 20) (h21 : P 21) (h22 : P 22) (h23 : P 23) (h24 : P 24) (h25 : P 25) (h26 : P 26) (h27 : P 27) (h28 : P 28) (h29 : P 29) (h30 : P 30) (h31 : P 31) (h32 : P 32) (h33 : P 33) (h34 : P 34) (h35 : P 35) (h36 : P 36) (h37 : P 37) (h38 : P 38) (h39 : P 39) (h40 : P 40) (h41 : P 41) (h42 : P 42) (h43 : P 43) (h44 : P 44) (h45 : P 45) : P k := by
  match k, hk with
  | 0, _ => exact h0
  | 1, _ => exact h1
  | 2, _ => exact h2
  | 3, _ => exact h3
  | 4, _ => exact h4
  | 5, _ => exact h5
  | 6, _ => exact h6
  | 7, _ => exact h7
  | 8, _ => exact h8
  | 9, _ => exact h9
  | 10, _ => exact h10
  | 11, _ => exact h11
  | 12, _ => exact h12
  | 13, _ => exact h13
  | 14, _ => exact h14
  | 15, _ => exact h15
  | 16, _ => exact h16
  | 17, _ => exact h17
  | 18, _ => exact h18
  | 19, _ => exact h19
  | 20, _ => exact h20
  | 21, _ => exact h21
  | 22, _ => exact h22
  | 23, _ => exact h23
  | 24, _ => exact h24
  | 25, _ => exact h25
  | 26, _ => exact h26
  | 27, _ => exact h27
  | 28, _ => exact h28
  | 29, _ => exact h29
  | 30, _ => exact h30
  | 31, _ => exact h31
  | 32, _ => exact h32
  | 33, _ => exact h33
  | 34, _ => exact h34
  | 35, _ => exact h35
  | 36, _ => exact h36
  | 37, _ => exact h37
  | 38, _ => exact h38
  | 39, _ => exact h39
  | 40, _ => exact h40
  | 41, _ => exact h41
  | 42, _ => exact h42
  | 43, _ => exact h43
  | 44, _ => exact h44
  | 45, _ => exact h45
  | k + 46, h => exact absurd h (by omega)
section BGL
variable {N p T : Nat} {w : MS} {K : Nat → Nat}
theorem bU_ok (h : w.1 69 = Int32.ofNat p) (hp : p ≤ T) (tv : TV w K T) : fm_M_beginsUnit N w = some (w, b2i (bU (K p))) := by
  have t4 := tv.t4
  have hp2 : p < 4002 := by omega
  have S : ∀ m, m < 25 → fm_M_isSign N w (sgV m) = some (w, b2i (decide (K p = 20 + m))) := fun m hm => by rw [isM_ok h hp2, tv.sg hp hm]
  have V : ∀ m, m < 15 → fm_M_isWord N w (Int32.ofNat m) = some (w, b2i (decide (K p = 5 + m))) := fun m hm => by rw [isV_ok h hp2, tv.wd hp hm]
  have s0 : fm_M_isSign N w 0 = _ := S 0 (by decide)
  have s2 : fm_M_isSign N w 2 = _ := S 2 (by decide)
  have s4 : fm_M_isSign N w 4 = _ := S 4 (by decide)
  have s19 : fm_M_isSign N w 19 = _ := S 14 (by decide)
  have v2 : fm_M_isWord N w 2 = _ := V 2 (by decide)
  have v3 : fm_M_isWord N w 3 = _ := V 3 (by decide)
  have v7 : fm_M_isWord N w 7 = _ := V 7 (by decide)
  have v8 : fm_M_isWord N w 8 = _ := V 8 (by decide)
  have v9 : fm_M_isWord N w 9 = _ := V 9 (by decide)
  have v12 : fm_M_isWord N w 12 = _ := V 12 (by decide)
  have k46 := tv.k46 hp
  unfold fm_M_beginsUnit fb_M_beginsUnit_0
  rw [h, q_ck (q_inb (by show p < 4002; exact hp2) (by decide)), q_nat (by omega), tv.so1 hp, q_ck (q_inb (by show p < 4002; exact hp2) (by decide)), tv.so2 hp, q_ck (q_inb (by show p < 4002; exact hp2) (by decide)), tv.so4 hp, q_ck (q_inb (by show p < 4002; exact hp2) (by decide)), tv.so5 hp, s0, q_bn, s2, q_bn, s4, q_bn, s19, q_bn, v2, q_bn, v3, q_bn, v7, q_bn, v8, q_bn, v9, q_bn, v12, q_bn]
  generalize K p = k at k46
  revert k46
  intro k46
  apply k46c (P := fun k => _ = some (w, b2i (bU k))) k46 <;> rfl
theorem rk_ok (h : w.1 69 = Int32.ofNat p) (hp : p ≤ T) (tv : TV w K T) : fm_M_level N w = some (w, Int32.ofNat (rk (K p))) := by
  have t4 := tv.t4
  have hp2 : p < 4002 := by omega
  have V : ∀ m, m < 15 → fm_M_isWord N w (Int32.ofNat m) = some (w, b2i (decide (K p = 5 + m))) := fun m hm => by rw [isV_ok h hp2, tv.wd hp hm]
  have v11 : fm_M_isWord N w 11 = _ := V 11 (by decide)
  have v1 : fm_M_isWord N w 1 = _ := V 1 (by decide)
  have v5 : fm_M_isWord N w 5 = _ := V 5 (by decide)
  have v13 : fm_M_isWord N w 13 = _ := V 13 (by decide)
  have k46 := tv.k46 hp
  have hv : 20 ≤ K p → K p ≤ 44 → w.2.2.1 7 p = vlk (K p) := fun a b => tv.va p (tv.lt hp (by omega) b) (by omega)
  have e3 : decide (w.2.2.1 6 p = 3) = decide (5 ≤ K p ∧ K p ≤ 19) := decide_eq_decide.mpr (tv.so3 hp)
  have e6 : decide (w.2.2.1 6 p = 6) = decide (20 ≤ K p ∧ K p ≤ 44) := decide_eq_decide.mpr (tv.so6 hp)
  unfold fm_M_level fb_M_level_0
  rw [h, q_ck (q_inb (by show p < 4002; exact hp2) (by decide)), q_nat (by omega), e3, v11, q_bn, v1, q_bn, v5, q_bn, v13, q_bn, q_ck (q_inb (by show p < 4002; exact hp2) (by decide)), e6, q_ck (q_inb (by show p < 4002; exact hp2) (by decide)), q_ls]
  by_cases h20 : 20 ≤ K p ∧ K p ≤ 44
  · rw [hv h20.1 h20.2]
    generalize K p = k at k46
    apply k46c (P := fun k => _ = some (w, Int32.ofNat (rk k))) k46 <;> rfl
  · rw [decide_eq_false h20, q_b0]
    generalize K p = k at k46 h20
    revert h20
    apply k46c (P := fun k => ¬ (20 ≤ k ∧ k ≤ 44) → _ = some (w, Int32.ofNat (rk k))) k46 <;> first
      | (intro _; rfl)
      | (intro z; exact absurd (by decide) z)
end BGL
