set_option maxRecDepth 100000
def PTSc (v : MS) (i j b : Nat) : Prop := i ≤ j ∧ ∀ z : MS, (∀ k, i ≤ k → k < j → A z 23 k = A v 23 k) → ∀ f e b2, PTc z f j b2 e → PTc z (f + (j - i)) i (b + b2) e
def FRp (u w : MS) : Prop := FR [441, 706] [] [23, 39, 41, 42] [] u w
def PQc (u w : MS) (lv : Nat) (B : Int) (t : Nat) : Prop := FRp u w ∧ KMc u w lv ∧ (∀ j : Nat, ((j : Nat) : Int) < F u 441 → A w 23 j = A u 23 j) ∧ F w 441 ≤ F u 441 + B ∧ ∃ k : Nat, F w 706 = F u 706 + ((k : Nat) : Int) ∧ k ≤ t ∧ (F w 441 < 24000 → PTSc w (F u 441).toNat (F w 441).toNat k)
section
variable {u v w : MS} {N lv t t2 L i j k b b2 e f : Nat} {l l2 : List Int} {x y c B B2 : Int} {H : List Nat}
theorem PTc_m : ∀ {f i b e : Nat}, PTc u f i b e → PTc u (f + 1) i b e
  | 0, _, _, _, h => h.elim
  | f + 1, i, b, e, h => by
    unfold PTc at h ⊢
    rcases h with h | ⟨h1, h⟩ | ⟨h1, n, h2, h3, h⟩ | ⟨h1, h⟩ | ⟨h1, c, h2, h⟩ | ⟨h1, h⟩ | ⟨h1, h2, h⟩ | ⟨h1, h⟩
    · exact Or.inl h
    · exact Or.inr (Or.inl ⟨h1, PTc_m h⟩)
    · exact Or.inr (Or.inr (Or.inl ⟨h1, n, h2, h3, PTc_m h⟩))
    · exact Or.inr (Or.inr (Or.inr (Or.inl ⟨h1, PTc_m h⟩)))
    · exact Or.inr (Or.inr (Or.inr (Or.inr (Or.inl ⟨h1, c, h2, PTc_m h⟩))))
    · exact Or.inr (Or.inr (Or.inr (Or.inr (Or.inr (Or.inl ⟨h1, PTc_m h⟩)))))
    · exact Or.inr (Or.inr (Or.inr (Or.inr (Or.inr (Or.inr (Or.inl ⟨h1, h2, PTc_m h⟩))))))
    · exact Or.inr (Or.inr (Or.inr (Or.inr (Or.inr (Or.inr (Or.inr ⟨h1, PTc_m h⟩))))))
theorem PTc_ms (h : PTc u f i b e) : ∀ n, PTc u (f + n) i b e
  | 0 => h
  | n + 1 => PTc_m (PTc_ms h n)
theorem PTS_tr (a : PTSc v i j b) (c : PTSc v j k b2) : PTSc v i k (b + b2) := ⟨Nat.le_trans a.1 c.1, fun z hz f e b3 h => by
  have h1 := c.2 z (fun k k1 k2 => hz k (by have := a.1; omega) k2) f e b3 h
  have h2 := a.2 z (fun k2 k3 k4 => hz k2 k3 (by have := c.1; omega)) _ e _ h1
  have e1 := a.1
  have e2 := c.1
  rw [show f + (k - i) = f + (k - j) + (j - i) by omega, Nat.add_assoc b b2 b3]
  exact h2⟩
theorem PTS_k (h : PTSc v i j b) (e : ∀ k, i ≤ k → k < j → A w 23 k = A v 23 k) : PTSc w i j b := ⟨h.1, fun z hz => h.2 z (fun k k1 k2 => (hz k k1 k2).trans (e k k1 k2))⟩
theorem PTS_n : PTSc v i i 0 := ⟨Nat.le_refl _, fun z _ f e b2 h => by rw [Nat.sub_self, Nat.zero_add]; exact h⟩
theorem PTS_1 (h : A v 23 i = 1) : PTSc v i (i + 3) 0 := ⟨by omega, fun z hz f e b2 g => by
  rw [show f + (i + 3 - i) = f + 2 + 1 by omega, Nat.zero_add]
  exact Or.inr (Or.inl ⟨(hz i (by omega) (by omega)).trans h, PTc_ms g 2⟩)⟩
theorem PTS_2 {n : Nat} (h : A v 23 i = 2) (h2 : A v 23 (i + 1) = ((n : Nat) : Int)) (hn : n ≤ 40) : PTSc v i (i + 2 + n) 0 := ⟨by omega, fun z hz f e b2 g => by
  rw [show f + (i + 2 + n - i) = f + (n + 1) + 1 by omega, Nat.zero_add]
  exact Or.inr (Or.inr (Or.inl ⟨(hz i (by omega) (by omega)).trans h, n, (hz (i + 1) (by omega) (by omega)).trans h2, hn, PTc_ms g (n + 1)⟩))⟩
theorem PTS_3 (h : A v 23 i = 3) : PTSc v i (i + 2) 0 := ⟨by omega, fun z hz f e b2 g => by
  rw [show f + (i + 2 - i) = f + 1 + 1 by omega, Nat.zero_add]
  exact Or.inr (Or.inr (Or.inr (Or.inl ⟨(hz i (by omega) (by omega)).trans h, PTc_ms g 1⟩)))⟩
theorem PTS_4 (h : A v 23 i = 4) : PTSc v i (i + 2) 1 := ⟨by omega, fun z hz f e b2 g => by
  rw [show f + (i + 2 - i) = f + 1 + 1 by omega]
  exact Or.inr (Or.inr (Or.inr (Or.inr (Or.inl ⟨(hz i (by omega) (by omega)).trans h, b2, by omega, PTc_ms g 1⟩))))⟩
theorem PTS_5 (h : A v 23 i = 5) : PTSc v i (i + 1) 0 := ⟨by omega, fun z hz f e b2 g => by
  rw [show f + (i + 1 - i) = f + 1 by omega, Nat.zero_add]
  exact Or.inr (Or.inr (Or.inr (Or.inr (Or.inr (Or.inl ⟨(hz i (by omega) (by omega)).trans h, g⟩)))))⟩
theorem PTS_6 {n : Nat} (h : A v 23 i = 6) (h2 : A v 23 (i + 1) = ((n : Nat) : Int)) (hn : n ≤ 8) : PTSc v i (i + 2) 0 := ⟨by omega, fun z hz f e b2 g => by
  rw [show f + (i + 2 - i) = f + 1 + 1 by omega, Nat.zero_add]
  exact Or.inr (Or.inr (Or.inr (Or.inr (Or.inr (Or.inr (Or.inl ⟨(hz i (by omega) (by omega)).trans h, ⟨n, (hz (i + 1) (by omega) (by omega)).trans h2, hn⟩, PTc_ms g 1⟩))))))⟩
theorem PTS_7 (h : A v 23 i = 7) : PTSc v i (i + 1) 0 := ⟨by omega, fun z hz f e b2 g => by
  rw [show f + (i + 1 - i) = f + 1 by omega, Nat.zero_add]
  exact Or.inr (Or.inr (Or.inr (Or.inr (Or.inr (Or.inr (Or.inr ⟨(hz i (by omega) (by omega)).trans h, g⟩))))))⟩
theorem PQ_tr (hu : 1 ≤ F u 441) (a : PQc u v lv B t) (c : PQc v w lv B2 t2) : PQc u w lv (B + B2) (t + t2) := by
  obtain ⟨a1, a2, a3, a4, ka, a5, a6, a7⟩ := a
  obtain ⟨c1, c2, c3, c4, kc, c5, c6, c7⟩ := c
  have s1 := a2.2.2.1
  have s2 := c2.2.2.1
  refine ⟨FR.tr a1 c1, a2.tr c2, fun j hj => by rw [c3 j (by omega), a3 j hj], by omega, ka + kc, by omega, by omega, fun z => ?_⟩
  exact PTS_tr (PTS_k (a7 (by omega)) (fun k k1 k2 => c3 k (by omega))) (c7 z)
theorem PQ_w (h : PQc u w lv B t) (h1 : B ≤ B2) (h2 : t ≤ t2) : PQc u w lv B2 t2 := by
  obtain ⟨a1, a2, a3, a4, ka, a5, a6, a7⟩ := h
  exact ⟨a1, a2, a3, by omega, ka, a5, by omega, a7⟩
theorem PQ_em (h : CVI u lv) (e : EMc u w l) (hp : F w 441 < 24000 → (∀ k, k < l.length → A w 23 ((F u 441).toNat + k) = l.getD k 0) → PTSc w (F u 441).toNat ((F u 441).toNat + l.length) 0) : PQc u w lv ((l.length : Nat) : Int) 0 := by
  refine ⟨FR.mo e.1 (by simp) (by simp) (by simp) (by simp), EMc.km h e, e.2.2.1, e.2.1.2.2, 0, ?_, Nat.le_refl _, fun z => ?_⟩
  · rw [show F w 706 = F u 706 from congrArg _ (e.1.1 706 (by simp))]; simp
  · obtain ⟨g1, g2⟩ := e.2.2.2 z
    have := hp z g2
    have h1 := h.1.1
    rw [show (F w 441).toNat = (F u 441).toNat + l.length by omega]
    exact this
end
