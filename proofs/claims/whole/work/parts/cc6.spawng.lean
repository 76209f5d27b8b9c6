/-! spawn: what it leaves as it was; the new one's numbers -/
set_option maxRecDepth 100000
section
variable {N q d K i s L uu e ad : Nat} {u w w0 w2 w4 m m0 m4 m5 : MS} {fn en : Int32} {f : Int} {H : List Nat}
theorem np_113 : A (npS u q) 113 i = if i = q then -1 else A u 113 i := by
  unfold npS; simp only [A_wa (x := 0) (by decide) (by decide), A_wa (x := 1) (by decide) (by decide), A_wa (x := 5) (by decide) (by decide), A_wa (x := -1) (by decide) (by decide), A_wj, A_wi]; simp
/-- rows of others -/
theorem np_at (hA : (89 ≤ K ∧ K ≤ 95) ∨ (106 ≤ K ∧ K ≤ 115) ∨ K = 117 ∨ K = 132 → i ≠ q) (hB : 96 ≤ K ∧ K ≤ 101 → i ≠ 60 * q) : (npS u q).2.2.1 K i = u.2.2.1 K i := by
  unfold npS
  rw [wa_at (by omega), wa_at (by omega), wa_at (by omega), wa_at (by omega), wa_at (by omega), wa_at (by omega), wa_at (by omega), wa_at (by omega), wa_at (by omega), wa_at (by omega), wa_at (by omega), wa_at (by omega)]
  show (wa (wa (wa (wa (wa (wa (wa (wa (wa (wi u 118 ((q : Int) + 1)) 89 q 0) 90 q 0) 92 q 0) 94 q 0) 95 q 1) 106 q 0) 108 q 0) 109 q 5) 110 q 0).2.2.1 K i = _
  rw [wa_at (by omega), wa_at (by omega), wa_at (by omega), wa_at (by omega), wa_at (by omega), wa_at (by omega), wa_at (by omega), wa_at (by omega), wa_at (by omega)]
  rfl
theorem np_loc (hd : d ≠ q) : LOCw d u (npS u q) := by
  have f := np_fr (u := u) (z := q)
  refine ⟨fun K i h => ?_, fun K h => np_at (by omega) (by omega), fun i _ _ => by rw [f.2.2.1 131 (by decide)], by rw [np_111, if_neg hd], fun i _ _ => by rw [f.2.2.2 88 (by decide)], fun i _ _ => by rw [f.2.2.2 91 (by decide)], fun i _ _ => by rw [f.2.2.2 93 (by decide)], fun i _ _ => by rw [f.2.2.2 107 (by decide)]⟩
  rcases h with ⟨h, rfl⟩ | ⟨h, h2⟩ | ⟨h, h2⟩ | ⟨rfl, h2⟩
  · exact np_at (fun _ => hd) (fun c => by omega)
  · exact np_at (fun c => by omega) (fun _ => by omega)
  · exact np_at (fun c => by omega) (fun c => by omega)
  · rw [f.2.2.1 116 (by decide)]
theorem cp_loc (hd : d ≠ q) (f : FR [] [] [89, 142] [88, 141] w w2) (h89 : ∀ r, A w2 89 r = if r = q then ((s : Nat) : Int) else A w 89 r) (h88 : ∀ i, ¬ (500 * q ≤ i ∧ i < 500 * q + 500) → w2.2.2.2 88 i = w.2.2.2 88 i) : LOCw d w w2 := by
  refine ⟨fun K i h => ?_, fun K h => ?_, fun i _ _ => by rw [f.2.2.1 131 (by simp)], by rw [f.2.2.2 111 (by simp)], fun i h1 h2 => h88 i (by omega), fun i _ _ => by rw [f.2.2.2 91 (by simp)], fun i _ _ => by rw [f.2.2.2 93 (by simp)], fun i _ _ => by rw [f.2.2.2 107 (by simp)]⟩
  · have hk := OWi_k h
    rw [f.2.2.1 K (by simp; omega)]
  · by_cases c : K = 89
    · subst c
      apply Int32.toInt_inj.mp
      have := h89 d
      rw [if_neg hd] at this
      exact this
    · rw [f.2.2.1 K (by simp; omega)]
theorem j93_loc (hd : d ≠ q) (hL : L ≤ 2500) (f : FR [] [] [] [93] w w2) {g : Nat → Int64} (h : ∀ k, w2.2.2.2 93 k = if 2500 * q ≤ k ∧ k < 2500 * q + L then g k else w.2.2.2 93 k) : LOCw d w w2 := by
  refine ⟨fun K i h => by rw [f.2.2.1 K (by simp)], fun K h => by rw [f.2.2.1 K (by simp)], fun i _ _ => by rw [f.2.2.1 131 (by simp)], by rw [f.2.2.2 111 (by simp)], fun i _ _ => by rw [f.2.2.2 88 (by simp)], fun i _ _ => by rw [f.2.2.2 91 (by simp)], fun i h1 h2 => ?_, fun i _ _ => by rw [f.2.2.2 107 (by simp)]⟩
  rw [h i, if_neg (by omega)]
theorem opS_1 {k j B P0 : Nat} (h : k ≠ pq q 21) : (opS m q j B P0 fn en).1 k = m.1 k := wi_1 h
theorem opS_21 : F (opS m q 0 0 0 fn en) (pq q 21) = 1 := by
  show F (wi m (pq q 21) ((0 + 1 : Nat) : Int)) (pq q 21) = 1
  rw [wi_sm (by omega) (by omega)]
  rfl
theorem opS_A {j B P0 : Nat} (h : K ≠ pq q 30) : (opS m q j B P0 fn en).2.2.1 K = m.2.2.1 K := by
  have s : ∀ (v : MS) (k : Nat) (z : Int32), (s30 v q k z).2.2.1 K = v.2.2.1 K := fun v k z => if_neg h
  unfold opS
  rw [s, s, s, s, s]
  rfl
/-- there: what stays -/
theorem ng_m (f0 : FC q [942] [] [1948] R100 R100 R100 R100 m m0) (d0 : F m0 942 = ((q + 1 : Nat) : Int)) (f4 : FR [pq q 4] [] [] [pq q 2, 45] (opS m0 q 0 0 0 fn en) m4) (f5 : FC q [] [] [] [24, 42, 43] [] [32] [33] m4 m5) : NGm q m m5 := by
  have g := GGm_opS (m := m0) (p := q) (j := 0) (B := 0) (P0 := 0) (fn := fn) (en := en)
  refine ⟨fun d hd k hk => ⟨?_, ?_, ?_, ?_⟩, fun k h1 h2 => ?_, fun k h1 => ?_, fun K h1 h2 => ?_, ?_⟩
  · rw [f5.2.2.2.2.1 d k hk (fun c => absurd c hd), f4.1 _ (by simp; exact fun c => hd (pq_e hk (by omega) c).1), (g.1 d hd k hk).1, f0.2.2.2.2.1 d k hk (fun c => absurd c hd)]
  · rw [f5.2.2.2.2.2.1 d k hk (fun c => absurd c hd), f4.2.1 _ (by simp), (g.1 d hd k hk).2.1, f0.2.2.2.2.2.1 d k hk (fun c => absurd c hd)]
  · rw [f5.2.2.2.2.2.2.1 d k hk (fun c => absurd c hd), f4.2.2.1 _ (by simp), (g.1 d hd k hk).2.2.1, f0.2.2.2.2.2.2.1 d k hk (fun c => absurd c hd)]
  · rw [f5.2.2.2.2.2.2.2 d k hk (fun c => absurd c hd), f4.2.2.2 _ (by simp; exact ⟨fun c => hd (pq_e hk (by omega) c).1, fun c => pq_n (by omega) c.symm⟩), (g.1 d hd k hk).2.2.2, f0.2.2.2.2.2.2.2 d k hk (fun c => absurd c hd)]
  · rw [f5.1 k h1 (by simp), f4.1 k (by simp; exact pq_n h1), opS_1 (pq_n h1), f0.1 k h1 (by simpa using h2)]
  · rw [f5.2.1 k h1 (by simp), f4.2.1 k (by simp)]
    exact f0.2.1 k h1 (by simp)
  · rw [f5.2.2.1 K h1 (by simp), f4.2.2.1 K (by simp), opS_A (pq_n h1), f0.2.2.1 K h1 (by simpa using h2)]
  · rw [← d0]
    show (m5.1 942).toInt = (m0.1 942).toInt
    rw [f5.1 942 (by omega) (by simp), f4.1 942 (by simp; exact pq_n (by omega)), opS_1 (pq_n (by omega))]
/-- there: the numbers of the new one -/
theorem nw_m (hb : ∀ k, k ∈ [4, 5, 7, 8, 9, 13, 15, 21, 24, 26, 28] → F m0 (pq q k) = 0) (bv : m0.1 (pq q 11) = 0 ∧ m0.1 (pq q 12) = -1 ∧ m0.1 (pq q 29) = 0 ∧ m0.1 (pq q 13) = 0 ∧ m0.1 (pq q 15) = 0 ∧ m0.1 (pq q 5) = 0) (f4 : FR [pq q 4] [] [] [pq q 2, 45] (opS m0 q 0 0 0 fn (I ((e : Nat) : Int))) m4) (f5 : FC q [] [] [] [24, 42, 43] [] [32] [33] m4 m5) (hfn : fn.toInt = f) (he : e < 1000000) (q24 : F m5 (pq q 24) = ((L : Nat) : Int)) (nm : ∀ i x : Nat, H[i]? = some x → A m5 (pq q 32) i = ((x : Nat) : Int)) : NWm q e L f H m5 := by
  have e1 : ∀ k, k < 100 → k ≠ 4 → k ≠ 21 → k ≠ 24 → k ≠ 42 → k ≠ 43 → m5.1 (pq q k) = m0.1 (pq q k) := fun k h0 h1 h2 h3 h4 h5 => by
    rw [f5.2.2.2.2.1 q k h0 (fun _ => by simp; omega), f4.1 _ (by simp; exact fun c => h1 (pq_e h0 (by omega) c).2), opS_1 (pq_inj h2)]
  have eF : ∀ k, k < 100 → k ≠ 4 → k ≠ 21 → k ≠ 24 → k ≠ 42 → k ≠ 43 → F m5 (pq q k) = F m0 (pq q k) := fun k h0 h1 h2 h3 h4 h5 => congrArg Int32.toInt (e1 k h0 h1 h2 h3 h4 h5)
  have e30 : ∀ i, A m5 (pq q 30) i = if i = 4 then ((e : Nat) : Int) else if i = 1 then 0 else if i = 0 then f else if i = 3 then 0 else if i = 2 then 0 else A m0 (pq q 30) i := fun i => by
    have h1 : A m5 (pq q 30) i = A (opS m0 q 0 0 0 fn (I ((e : Nat) : Int))) (pq q 30) i := by
      show (m5.2.2.1 (pq q 30) i).toInt = _
      rw [f5.2.2.2.2.2.2.1 q 30 (by omega) (fun _ => by simp), f4.2.2.1 _ (by simp)]
      rfl
    rw [h1, opS_30 (by omega) (by omega), hfn, I_ti (by omega) (by omega)]
    rfl
  refine ⟨⟨(e1 5 (by omega) (by omega) (by omega) (by omega) (by omega) (by omega)).trans bv.2.2.2.2.2, q24, (eF 26 (by omega) (by omega) (by omega) (by omega) (by omega) (by omega)).trans (hb 26 (by simp)), (eF 7 (by omega) (by omega) (by omega) (by omega) (by omega) (by omega)).trans (hb 7 (by simp)), ?_, (eF 28 (by omega) (by omega) (by omega) (by omega) (by omega) (by omega)).trans (hb 28 (by simp)), (eF 9 (by omega) (by omega) (by omega) (by omega) (by omega) (by omega)).trans (hb 9 (by simp))⟩, ⟨(e1 11 (by omega) (by omega) (by omega) (by omega) (by omega) (by omega)).trans bv.1, (e1 12 (by omega) (by omega) (by omega) (by omega) (by omega) (by omega)).trans bv.2.1, (e1 13 (by omega) (by omega) (by omega) (by omega) (by omega) (by omega)).trans bv.2.2.2.1, (e1 15 (by omega) (by omega) (by omega) (by omega) (by omega) (by omega)).trans bv.2.2.2.2.1, (e1 29 (by omega) (by omega) (by omega) (by omega) (by omega) (by omega)).trans bv.2.2.1⟩, ⟨?_, ?_, ?_, ?_, ?_⟩, nm⟩
  · rw [← opS_21 (m := m0) (q := q) (fn := fn) (en := I ((e : Nat) : Int))]
    show (m5.1 (pq q 21)).toInt = _
    rw [f5.2.2.2.2.1 q 21 (by omega) (fun _ => by simp), f4.1 _ (by simp; exact fun c => by have := (pq_e (by omega) (by omega) c).2; omega)]
    rfl
  · rw [e30 0]; simp
  · rw [e30 1]; simp
  · rw [e30 2]; simp
  · rw [e30 3]; simp
  · rw [e30 4]; simp
/-- here: the numbers of the new one -/
theorem nw_w (hL : L ≤ 2500) (hf : A w 96 (60 * q) = f) (hr : ∀ K, K ≠ 94 → K ≠ 101 → K ≠ 96 → K ≠ 170 → K ≠ 89 → K ≠ 142 → w.2.2.1 K = (npS u q).2.2.1 K) (h94 : A w 94 q = ((L : Nat) : Int)) (h101 : A w 101 (60 * q) = ((L : Nat) : Int)) : NWw q L f w := by
  have ai : ∀ {x : Int32} {y : Int}, x.toInt = (I y).toInt → x = I y := fun h => Int32.toInt_inj.mp h
  have eA : ∀ K i, K ≠ 94 → K ≠ 101 → K ≠ 96 → K ≠ 170 → K ≠ 89 → K ≠ 142 → A w K i = A (npS u q) K i := fun K i h1 h2 h3 h4 h5 h6 => by show (w.2.2.1 K i).toInt = _; rw [hr K h1 h2 h3 h4 h5 h6]; rfl
  have z0 : ∀ K, K ∈ [89, 90, 92, 94, 106, 108, 110, 112, 114, 115, 117, 132] → K ≠ 94 → K ≠ 101 → K ≠ 96 → K ≠ 170 → K ≠ 89 → K ≠ 142 → A w K q = 0 := fun K hk h1 h2 h3 h4 h5 h6 => by rw [eA K q h1 h2 h3 h4 h5 h6, np_row hk, if_pos rfl]
  have r0 : ∀ K, K ∈ [89, 90, 92, 94, 106, 108, 110, 112, 114, 115, 117, 132] → K ≠ 94 → K ≠ 101 → K ≠ 96 → K ≠ 170 → K ≠ 89 → K ≠ 142 → w.2.2.1 K q = 0 := fun K hk h1 h2 h3 h4 h5 h6 => Int32.toInt_inj.mp (z0 K hk h1 h2 h3 h4 h5 h6)
  refine ⟨⟨r0 90 (by decide) (by omega) (by omega) (by omega) (by omega) (by omega) (by omega), h94, z0 92 (by decide) (by omega) (by omega) (by omega) (by omega) (by omega) (by omega), z0 108 (by decide) (by omega) (by omega) (by omega) (by omega) (by omega) (by omega), ?_, z0 106 (by decide) (by omega) (by omega) (by omega) (by omega) (by omega) (by omega), ?_⟩, ⟨r0 112 (by decide) (by omega) (by omega) (by omega) (by omega) (by omega) (by omega), ?_, r0 114 (by decide) (by omega) (by omega) (by omega) (by omega) (by omega) (by omega), r0 117 (by decide) (by omega) (by omega) (by omega) (by omega) (by omega) (by omega), r0 115 (by decide) (by omega) (by omega) (by omega) (by omega) (by omega) (by omega)⟩, hf, ?_, ?_, ?_, h101⟩
  · rw [eA 95 q (by omega) (by omega) (by omega) (by omega) (by omega) (by omega), np_95, if_pos rfl]
  · rw [eA 109 q (by omega) (by omega) (by omega) (by omega) (by omega) (by omega), np_109, if_pos rfl]
  · apply Int32.toInt_inj.mp
    show A w 113 q = -1
    rw [eA 113 q (by omega) (by omega) (by omega) (by omega) (by omega) (by omega), np_113, if_pos rfl]
  · rw [eA 97 _ (by omega) (by omega) (by omega) (by omega) (by omega) (by omega), np_fr1 (by decide), if_pos rfl]
  · rw [eA 99 _ (by omega) (by omega) (by omega) (by omega) (by omega) (by omega), np_fr0 (by decide), if_pos rfl]
  · rw [eA 100 _ (by omega) (by omega) (by omega) (by omega) (by omega) (by omega), np_fr0 (by decide), if_pos rfl]
/-- here: what stays -/
theorem ng_w (hq : q < 24) (hd : ∀ d, d ≠ q → LOCw d u w) (f : FR [] [] [89, 94, 96, 101, 142, 170] [88, 93, 141] (npS u q) w) : NGw q u w := by
  have g := np_fr (u := u) (z := q)
  refine ⟨hd, fun k h => ?_, fun K h => ?_, ?_, ?_⟩
  · rw [f.1 k (by simp), g.1 k (by simpa using h)]
  · rw [f.2.2.1 K (by simp; omega), g.2.2.1 K (by simp; omega)]
  · rw [f.2.2.2 34 (by simp), g.2.2.2 34 (by simp)]
  · rw [FR.F f (by simp), np_118 hq]
end
