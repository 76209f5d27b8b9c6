/-! what a process has is kept where nothing of it is touched -/
set_option maxRecDepth 100000
section
variable {b : Int → Nat → Nat → Prop} {h h' h2 h2' : Nat → Int64} {N n n' q r U B W Y : Nat} {m w m2 w2 : MS} {t x : Int64} {o : Int}
theorem ISw_ag (s : ISw b h n h' n') (hh : ∀ i, i < n → h2 i = h i) (hh' : ∀ i, i < n' → h2' i = h' i) : ISw b h2 n h2' n' := by
  refine ⟨fun t x z q => ?_, s.2.1, s.2.2⟩
  obtain ⟨⟨e1, e2, e3⟩, e4, e5⟩ := s.1 t x z q
  have zx := (RTb_isH q).mpr z
  have g1 : blk h2 t = blk h t := blk_ag z hh e2
  have g2 : blk h2' x = blk h' x := blk_ag zx hh' (by omega)
  have p0 := blk_pos (h := h) z
  refine ⟨⟨by rw [g1, g2]; exact e1, by omega, by omega⟩, fun j h1 h3 => ?_, fun e => ?_⟩
  · rw [g1] at h3
    rw [hh _ (by omega), hh' _ (by omega)]
    exact e4 j h1 h3
  · rw [hh _ (by omega), hh' _ (by omega)]
    exact e5 e
theorem ISb_ag (s : ISb b h n h' n') (hh : ∀ i, i < n → h2 i = h i) (hh' : ∀ i, i < n' → h2' i = h' i) : ISb b h2 n h2' n' := ⟨(ISw_ag s.w hh hh').1, s.2.1, s.2.2⟩
theorem PLs_cg (p : PLs b q m w U B W Y) (h1 : ∀ k, k ∈ [4, 5, 24, 26, 7] → m2.1 (pq q k) = m.1 (pq q k)) (h2 : ∀ i, i < U → m2.2.2.2 (pq q 2) i = m.2.2.2 (pq q 2) i) (h3 : ∀ i, i < B → m2.2.2.2 (pq q 33) i = m.2.2.2 (pq q 33) i) (h4 : ∀ i, i < W → m2.2.2.2 (pq q 35) i = m.2.2.2 (pq q 35) i) (h5 : ∀ i, i < Y → m2.2.2.2 (pq q 6) i = m.2.2.2 (pq q 6) i)
    (k1 : ∀ k, k ∈ [89, 90, 92, 94, 108] → w2.2.2.1 k q = w.2.2.1 k q) (k2 : ∀ i, i < U → w2.2.2.2 88 (500 * q + i) = w.2.2.2 88 (500 * q + i)) (k3 : ∀ i, i < B → w2.2.2.2 93 (2500 * q + i) = w.2.2.2 93 (2500 * q + i)) (k4 : ∀ i, i < W → w2.2.2.2 91 (46000 * q + i) = w.2.2.2 91 (46000 * q + i)) (k5 : ∀ i, i < Y → w2.2.2.2 107 (30 * q + i) = w.2.2.2 107 (30 * q + i)) : PLs b q m2 w2 U B W Y := by
  obtain ⟨⟨⟨p1, p2, p3⟩, p4, p5⟩, ⟨p6, p7, p8⟩, ⟨p9, p10, p11⟩, p12, p13, p14⟩ := p
  have fm : ∀ k, k ∈ [4, 5, 24, 26, 7] → F m2 (pq q k) = F m (pq q k) := fun k hk => congrArg Int32.toInt (h1 k hk)
  have aw : ∀ k, k ∈ [89, 90, 92, 94, 108] → A w2 k q = A w k q := fun k hk => congrArg Int32.toInt (k1 k hk)
  refine ⟨⟨⟨by rw [fm 4 (by simp)]; exact p1, by rw [aw 89 (by simp)]; exact p2, p3⟩, ISb_ag p4 h2 k2, by rw [h1 5 (by simp), k1 90 (by simp)]; exact p5⟩, ⟨by rw [fm 24 (by simp)]; exact p6, by rw [aw 94 (by simp)]; exact p7, fun i hi => by rw [h3 i hi, k3 i hi]; exact p8 i hi⟩, ⟨by rw [fm 26 (by simp)]; exact p9, by rw [aw 92 (by simp)]; exact p10, fun i hi => by rw [h4 i hi, k4 i hi]; exact p11 i hi⟩, by rw [fm 7 (by simp)]; exact p12, by rw [aw 108 (by simp)]; exact p13, fun i hi => by rw [h5 i hi, k5 i hi]; exact p14 i hi⟩
/-- another's -/
theorem PLs_o (p : PLs b r m w U B W Y) (hr : r ≠ q) (hb : W ≤ 46000 ∧ B ≤ 2500 ∧ Y ≤ 30) (f : XRm q m m2) (g : XRr q w w2) : PLs b r m2 w2 U B W Y := by
  obtain ⟨g1, g2, g3, g4, g5, g6⟩ := g
  have u5 := p.1.1.2.2
  have ni : ∀ k l, k < 100 → l < 100 → pq r k ≠ pq q l := fun k l hk hl z => hr (pq_e hk hl z).1
  have jm : ∀ k, k < 100 → m2.2.2.2 (pq r k) = m.2.2.2 (pq r k) := fun k hk => f.2.2.2 _ (by
    simp only [List.mem_cons, List.not_mem_nil, or_false]
    intro z
    rcases z with z | z | z | z | z
    · exact ni k 2 hk (by omega) z
    · exact ni k 3 hk (by omega) z
    · exact ni k 33 hk (by omega) z
    · exact ni k 35 hk (by omega) z
    · exact ni k 6 hk (by omega) z)
  refine PLs_cg p (fun k hk => f.1 _ (by
    have hk2 : k < 100 := by simp at hk; omega
    simp only [List.mem_cons, List.not_mem_nil, or_false]
    intro z
    rcases z with z | z
    · exact ni k 4 hk2 (by omega) z
    · exact ni k 5 hk2 (by omega) z)) (fun i _ => by rw [jm 2 (by omega)]) (fun i _ => by rw [jm 33 (by omega)]) (fun i _ => by rw [jm 35 (by omega)]) (fun i _ => by rw [jm 6 (by omega)]) (fun k hk => ?_) (fun i hi => g3 _ (by omega)) (fun i hi => g5 _ (by omega)) (fun i hi => g4 _ (by omega)) (fun i hi => g6 _ (by omega))
  by_cases e89 : k = 89
  · subst e89
    have := (g2 r hr).1
    show w2.2.2.1 89 r = w.2.2.1 89 r
    rw [I_A' this]
    exact I_A.symm
  · by_cases e90 : k = 90
    · subst e90
      exact (g2 r hr).2
    · rw [g1.2.2.1 k (by
        simp at hk
        simp
        omega)]
/-- a term at hand -/
theorem handN_e : fm_M_handNone N w = some (wl (wi w 140 (-1)) 139 (mk 6 0), ()) := rfl
theorem PLs_h (p : PLs b q m w U B W Y) : PLs b q m (wl (wi w 140 o) 139 t) U B W Y := PLs_cg p (fun _ _ => rfl) (fun _ _ => rfl) (fun _ _ => rfl) (fun _ _ => rfl) (fun _ _ => rfl) (fun _ _ => rfl) (fun _ _ => rfl) (fun _ _ => rfl) (fun _ _ => rfl) (fun _ _ => rfl)
theorem PLs_hz (p : PLs b q m w U B W Y) (ho : RG o) (hs : o = ((q : Nat) : Int) → isH t → ∃ K i, CRt B W Y q K i ∧ RTb b (m.2.2.2 K i) t) : RTZ b m (wl (wi w 140 o) 139 t) q B W Y W B Y := by
  have e1 : F (wl (wi w 140 o) 139 t) 140 = o := by show F (wi w 140 o) 140 = o; rw [F_wi ho.1 ho.2, if_pos rfl]
  have e2 : (wl (wi w 140 o) 139 t).2.1 139 = t := rfl
  obtain ⟨-, ⟨-, -, p1⟩, ⟨-, -, p2⟩, -, -, p3⟩ := p
  refine ⟨fun K i c _ => Or.inl ?_, fun K i c _ => ?_, fun e z => ?_⟩
  · rcases c with ⟨rfl, c⟩ | ⟨rfl, c⟩ | ⟨rfl, c⟩
    · exact ⟨93, 2500 * q + i, Or.inr (Or.inl ⟨rfl, by omega, by omega⟩), p1 i c⟩
    · exact ⟨91, 46000 * q + i, Or.inl ⟨rfl, by omega, by omega⟩, p2 i c⟩
    · exact ⟨107, 30 * q + i, Or.inr (Or.inr ⟨rfl, by omega, by omega⟩), p3 i c⟩
  · rcases c with ⟨rfl, c1, c2⟩ | ⟨rfl, c1, c2⟩ | ⟨rfl, c1, c2⟩
    · have := p2 (i - 46000 * q) (by omega)
      rw [show 46000 * q + (i - 46000 * q) = i by omega] at this
      exact ⟨pq q 35, i - 46000 * q, Or.inr (Or.inl ⟨rfl, by omega⟩), this⟩
    · have := p1 (i - 2500 * q) (by omega)
      rw [show 2500 * q + (i - 2500 * q) = i by omega] at this
      exact ⟨pq q 33, i - 2500 * q, Or.inl ⟨rfl, by omega⟩, this⟩
    · have := p3 (i - 30 * q) (by omega)
      rw [show 30 * q + (i - 30 * q) = i by omega] at this
      exact ⟨pq q 6, i - 30 * q, Or.inr (Or.inr ⟨rfl, by omega⟩), this⟩
  · rw [e1] at e
    rw [e2] at z ⊢
    exact hs e z
end
