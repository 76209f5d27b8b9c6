set_option maxRecDepth 100000
def FC (q : Nat) (gi gl ga ki kl ka kj : List Nat) (u w : MS) : Prop :=
  (∀ k, k < 2000 → k ∉ gi → w.1 k = u.1 k) ∧ (∀ k, k < 2000 → k ∉ gl → w.2.1 k = u.2.1 k) ∧ (∀ k, k < 2000 → k ∉ ga → w.2.2.1 k = u.2.2.1 k) ∧ (∀ k, k < 2000 → k ∉ [44, 45, 46] → w.2.2.2 k = u.2.2.2 k) ∧
  (∀ r k, k < 100 → (r = q → k ∉ ki) → w.1 (pq r k) = u.1 (pq r k)) ∧ (∀ r k, k < 100 → (r = q → k ∉ kl) → w.2.1 (pq r k) = u.2.1 (pq r k)) ∧ (∀ r k, k < 100 → (r = q → k ∉ ka) → w.2.2.1 (pq r k) = u.2.2.1 (pq r k)) ∧ (∀ r k, k < 100 → (r = q → k ∉ kj) → w.2.2.2 (pq r k) = u.2.2.2 (pq r k))
theorem pq_e {q k r l : Nat} (hk : k < 100) (hl : l < 100) (h : pq q k = pq r l) : q = r ∧ k = l := by unfold pq at h; omega
section
variable {q : Nat} {gi gl ga ki kl ka kj gi2 gl2 ga2 ki2 kl2 ka2 kj2 : List Nat} {u v w : MS} {k : Nat}
theorem FC.rf : FC q gi gl ga ki kl ka kj u u := ⟨fun _ _ _ => rfl, fun _ _ _ => rfl, fun _ _ _ => rfl, fun _ _ _ => rfl, fun _ _ _ _ => rfl, fun _ _ _ _ => rfl, fun _ _ _ _ => rfl, fun _ _ _ _ => rfl⟩
theorem FC.tr (a : FC q gi gl ga ki kl ka kj u v) (b : FC q gi gl ga ki kl ka kj v w) : FC q gi gl ga ki kl ka kj u w := by
  obtain ⟨a1, a2, a3, a4, a5, a6, a7, a8⟩ := a
  obtain ⟨b1, b2, b3, b4, b5, b6, b7, b8⟩ := b
  exact ⟨fun k x y => (b1 k x y).trans (a1 k x y), fun k x y => (b2 k x y).trans (a2 k x y), fun k x y => (b3 k x y).trans (a3 k x y), fun k x y => (b4 k x y).trans (a4 k x y), fun r k x y => (b5 r k x y).trans (a5 r k x y), fun r k x y => (b6 r k x y).trans (a6 r k x y), fun r k x y => (b7 r k x y).trans (a7 r k x y), fun r k x y => (b8 r k x y).trans (a8 r k x y)⟩
theorem FC.mo (a : FC q gi gl ga ki kl ka kj u w) (h1 : ∀ k, k ∈ gi → k ∈ gi2) (h2 : ∀ k, k ∈ gl → k ∈ gl2) (h3 : ∀ k, k ∈ ga → k ∈ ga2) (h4 : ∀ k, k ∈ ki → k ∈ ki2) (h5 : ∀ k, k ∈ kl → k ∈ kl2) (h6 : ∀ k, k ∈ ka → k ∈ ka2) (h7 : ∀ k, k ∈ kj → k ∈ kj2) : FC q gi2 gl2 ga2 ki2 kl2 ka2 kj2 u w := by
  obtain ⟨a1, a2, a3, a4, a5, a6, a7, a8⟩ := a
  exact ⟨fun k x y => a1 k x (fun z => y (h1 k z)), fun k x y => a2 k x (fun z => y (h2 k z)), fun k x y => a3 k x (fun z => y (h3 k z)), a4, fun r k x y => a5 r k x (fun e z => y e (h4 k z)), fun r k x y => a6 r k x (fun e z => y e (h5 k z)), fun r k x y => a7 r k x (fun e z => y e (h6 k z)), fun r k x y => a8 r k x (fun e z => y e (h7 k z))⟩
theorem FC.Fq (a : FC q gi gl ga ki kl ka kj u w) (h1 : k < 100) (h2 : k ∉ ki) : F w (pq q k) = F u (pq q k) := congrArg _ (a.2.2.2.2.1 q k h1 (fun _ => h2))
theorem FC.Fo (a : FC q gi gl ga ki kl ka kj u w) {r : Nat} (hr : r ≠ q) (h1 : k < 100) : F w (pq r k) = F u (pq r k) := congrArg _ (a.2.2.2.2.1 r k h1 (fun e => absurd e hr))
theorem FC.Fg (a : FC q gi gl ga ki kl ka kj u w) (h1 : k < 2000) (h2 : k ∉ gi) : F w k = F u k := congrArg _ (a.1 k h1 h2)
theorem FC.aq (a : FC q gi gl ga ki kl ka kj u w) {i : Nat} (h1 : k < 100) (h2 : k ∉ ka) : A w (pq q k) i = A u (pq q k) i := by show (w.2.2.1 (pq q k) i).toInt = _; rw [a.2.2.2.2.2.2.1 q k h1 (fun _ => h2)]; rfl
theorem FC.ag (a : FC q gi gl ga ki kl ka kj u w) {i : Nat} (h1 : k < 2000) (h2 : k ∉ ga) : A w k i = A u k i := by show (w.2.2.1 k i).toInt = _; rw [a.2.2.1 k h1 h2]; rfl
theorem FC.jq (a : FC q gi gl ga ki kl ka kj u w) (h1 : k < 100) (h2 : k ∉ kj) : w.2.2.2 (pq q k) = u.2.2.2 (pq q k) := a.2.2.2.2.2.2.2 q k h1 (fun _ => h2)
theorem FC.jo (a : FC q gi gl ga ki kl ka kj u w) {r : Nat} (hr : r ≠ q) (h1 : k < 100) : w.2.2.2 (pq r k) = u.2.2.2 (pq r k) := a.2.2.2.2.2.2.2 r k h1 (fun e => absurd e hr)
theorem FC.wi_q (a : FC q gi gl ga ki kl ka kj u w) {x : Int} (h1 : k < 100) (h2 : k ∈ ki) : FC q gi gl ga ki kl ka kj u (wi w (pq q k) x) := by
  obtain ⟨a1, a2, a3, a4, a5, a6, a7, a8⟩ := a
  refine ⟨fun j x y => (if_neg (by unfold pq; omega)).trans (a1 j x y), a2, a3, a4, fun r j x y => (if_neg (fun z => ?_)).trans (a5 r j x y), a6, a7, a8⟩
  obtain ⟨e1, e2⟩ := pq_e x h1 z
  exact y e1 (e2 ▸ h2)
theorem FC.wi_g (a : FC q gi gl ga ki kl ka kj u w) {x : Int} (h1 : k < 2000) (h2 : k ∈ gi) : FC q gi gl ga ki kl ka kj u (wi w k x) := by
  obtain ⟨a1, a2, a3, a4, a5, a6, a7, a8⟩ := a
  exact ⟨fun j x y => (if_neg (fun (z : j = k) => y (z ▸ h2))).trans (a1 j x y), a2, a3, a4, fun r j x y => (if_neg (by unfold pq; omega)).trans (a5 r j x y), a6, a7, a8⟩
theorem FC.wl_q (a : FC q gi gl ga ki kl ka kj u w) {x : Int64} (h1 : k < 100) (h2 : k ∈ kl) : FC q gi gl ga ki kl ka kj u (wl w (pq q k) x) := by
  obtain ⟨a1, a2, a3, a4, a5, a6, a7, a8⟩ := a
  refine ⟨a1, fun j x y => (if_neg (by unfold pq; omega)).trans (a2 j x y), a3, a4, a5, fun r j x y => (if_neg (fun z => ?_)).trans (a6 r j x y), a7, a8⟩
  obtain ⟨e1, e2⟩ := pq_e x h1 z
  exact y e1 (e2 ▸ h2)
theorem FC.wl_g (a : FC q gi gl ga ki kl ka kj u w) {x : Int64} (h1 : k < 2000) (h2 : k ∈ gl) : FC q gi gl ga ki kl ka kj u (wl w k x) := by
  obtain ⟨a1, a2, a3, a4, a5, a6, a7, a8⟩ := a
  exact ⟨a1, fun j x y => (if_neg (fun (z : j = k) => y (z ▸ h2))).trans (a2 j x y), a3, a4, a5, fun r j x y => (if_neg (by unfold pq; omega)).trans (a6 r j x y), a7, a8⟩
theorem FC.A_q (a : FC q gi gl ga ki kl ka kj u w) {g : Nat → Int32} (h1 : k < 100) (h2 : k ∈ ka) : FC q gi gl ga ki kl ka kj u (upA w (pq q k) g) := by
  obtain ⟨a1, a2, a3, a4, a5, a6, a7, a8⟩ := a
  refine ⟨a1, a2, fun j x y => (if_neg (by unfold pq; omega)).trans (a3 j x y), a4, a5, a6, fun r j x y => (if_neg (fun z => ?_)).trans (a7 r j x y), a8⟩
  obtain ⟨e1, e2⟩ := pq_e x h1 z
  exact y e1 (e2 ▸ h2)
theorem FC.A_g (a : FC q gi gl ga ki kl ka kj u w) {g : Nat → Int32} (h1 : k < 2000) (h2 : k ∈ ga) : FC q gi gl ga ki kl ka kj u (upA w k g) := by
  obtain ⟨a1, a2, a3, a4, a5, a6, a7, a8⟩ := a
  exact ⟨a1, a2, fun j x y => (if_neg (fun (z : j = k) => y (z ▸ h2))).trans (a3 j x y), a4, a5, a6, fun r j x y => (if_neg (by unfold pq; omega)).trans (a7 r j x y), a8⟩
theorem FC.J_q (a : FC q gi gl ga ki kl ka kj u w) {g : Nat → Int64} (h1 : k < 100) (h2 : k ∈ kj) : FC q gi gl ga ki kl ka kj u (upJ w (pq q k) g) := by
  obtain ⟨a1, a2, a3, a4, a5, a6, a7, a8⟩ := a
  refine ⟨a1, a2, a3, fun j x y => (if_neg (by unfold pq; omega)).trans (a4 j x y), a5, a6, a7, fun r j x y => (if_neg (fun z => ?_)).trans (a8 r j x y)⟩
  obtain ⟨e1, e2⟩ := pq_e x h1 z
  exact y e1 (e2 ▸ h2)
theorem FC.J_g (a : FC q gi gl ga ki kl ka kj u w) {g : Nat → Int64} (h2 : k ∈ [44, 45, 46]) : FC q gi gl ga ki kl ka kj u (upJ w k g) := by
  obtain ⟨a1, a2, a3, a4, a5, a6, a7, a8⟩ := a
  have hk : k < 2000 := by simp at h2; omega
  exact ⟨a1, a2, a3, fun j x y => (if_neg (fun (z : j = k) => y (z ▸ h2))).trans (a4 j x y), a5, a6, a7, fun r j x y => (if_neg (by unfold pq; omega)).trans (a8 r j x y)⟩
theorem FC.wa_q (a : FC q gi gl ga ki kl ka kj u w) {i : Nat} {x : Int} (h1 : k < 100) (h2 : k ∈ ka) : FC q gi gl ga ki kl ka kj u (wa w (pq q k) i x) := FC.A_q a h1 h2
theorem FC.wa_g (a : FC q gi gl ga ki kl ka kj u w) {i : Nat} {x : Int} (h1 : k < 2000) (h2 : k ∈ ga) : FC q gi gl ga ki kl ka kj u (wa w k i x) := FC.A_g a h1 h2
theorem FC.wj_q (a : FC q gi gl ga ki kl ka kj u w) {i : Nat} {x : Int64} (h1 : k < 100) (h2 : k ∈ kj) : FC q gi gl ga ki kl ka kj u (wj w (pq q k) i x) := FC.J_q a h1 h2
theorem FC.wj_g (a : FC q gi gl ga ki kl ka kj u w) {i : Nat} {x : Int64} (h2 : k ∈ [44, 45, 46]) : FC q gi gl ga ki kl ka kj u (wj w k i x) := FC.J_g a h2
theorem FC.of (f : FR gi gl ga kj u w) (h : ∀ k, k ∈ kj → k ∈ [44, 45, 46]) (h1 : ∀ k, k ∈ gi → k < 2000) (h2 : ∀ k, k ∈ gl → k < 2000) (h3 : ∀ k, k ∈ ga → k < 2000) : FC q gi gl ga [] [] [] [] u w := by
  refine ⟨fun k _ y => f.1 k y, fun k _ y => f.2.1 k y, fun k _ y => f.2.2.1 k y, fun k _ y => f.2.2.2 k (fun z => y (h k z)), fun r k _ _ => f.1 _ (fun z => ?_), fun r k _ _ => f.2.1 _ (fun z => ?_), fun r k _ _ => f.2.2.1 _ (fun z => ?_), fun r k _ _ => f.2.2.2 _ (fun z => ?_)⟩
  · have := h1 _ z; unfold pq at this; omega
  · have := h2 _ z; unfold pq at this; omega
  · have := h3 _ z; unfold pq at this; omega
  · have := h _ z; simp at this; unfold pq at this; omega
theorem FC.ofq (f : FR (ki.map (pq q)) [] [] (kj.map (pq q)) u w) (h1 : ∀ k, k ∈ ki → k < 100) (h2 : ∀ k, k ∈ kj → k < 100) : FC q [] [] [] ki [] [] kj u w := by
  have m : ∀ {l : List Nat} {x : Nat}, x ∈ l.map (pq q) → ∃ k, k ∈ l ∧ pq q k = x := fun h => List.mem_map.mp h
  refine ⟨fun k hk _ => f.1 k (fun z => ?_), fun k _ _ => f.2.1 k (by simp), fun k _ _ => f.2.2.1 k (by simp), fun k hk _ => f.2.2.2 k (fun z => ?_), fun r k hk y => f.1 _ (fun z => ?_), fun r k _ _ => f.2.1 _ (by simp), fun r k _ _ => f.2.2.1 _ (by simp), fun r k hk y => f.2.2.2 _ (fun z => ?_)⟩
  · obtain ⟨j, -, e⟩ := m z; unfold pq at e; omega
  · obtain ⟨j, -, e⟩ := m z; unfold pq at e; omega
  · obtain ⟨j, j1, e⟩ := m z
    obtain ⟨e1, e2⟩ := pq_e (h1 j j1) hk e
    exact y e1.symm (e2 ▸ j1)
  · obtain ⟨j, j1, e⟩ := m z
    obtain ⟨e1, e2⟩ := pq_e (h2 j j1) hk e
    exact y e1.symm (e2 ▸ j1)
theorem FC.W (a : FC q gi gl ga ki kl ka kj u w) (h1 : ∀ k, k ∈ gi → k ∈ [950, 955, 956]) (h2 : ∀ k, k ∈ gl → False) (h3 : ∀ k, k ∈ ga → k ∈ [49, 50, 51, 54]) (h4 : ∀ k, k ∈ ki → k ∈ [4, 5, 7, 9, 12, 15, 17]) (h5 : ∀ k, k ∈ kl → k ∈ [16]) (h6 : ∀ k, k ∈ ka → k ∈ [14]) (h7 : w.2.2.2 44 = u.2.2.2 44) : WFR u w := by
  obtain ⟨a1, a2, a3, a4, a5, a6, a7, a8⟩ := a
  refine ⟨fun r k x y => a5 r k x (fun _ z => y (h4 k z)), fun k x y => a1 k x (fun z => y (h1 k z)), fun r k x y => a7 r k x (fun _ z => y (h6 k z)), fun k x y => a3 k x (fun z => y (h3 k z)), fun k x y => ?_, fun r k x y => a6 r k x (fun _ z => y (h5 k z)), fun k x => a2 k x (fun z => h2 k z)⟩
  by_cases e : k = 44
  · rw [e]; exact h7
  · exact a4 k x (by simp at y ⊢; omega)
variable {Fv : Int64 → Int64 → Prop} {P : Int64 → Prop} {PR : Nat}
theorem DWc_fc (d : DWc Fv P PR u) (f : FC q gi gl ga ki kl ka kj u w) (hq : q < PR) (hal : F u (pq q 9) ≠ 3) (hal2 : F w (pq q 9) ≠ 3) (hs : SMQ w q) (hl : LVQ Fv P w q) (h1 : ∀ k, k ∈ [942, 950, 953, 955, 956] → k ∉ gi) (h2 : ∀ k, k ∈ [1948, 53, 54] → k ∉ ga) : DWc Fv P PR w := by
  obtain ⟨a1, a2, a3, a4, a5, a6, a7, a8⟩ := f
  exact DWc_q d hq hal hal2 hs hl (fun r k hr hk => a5 r k hk (fun e => absurd e hr)) (fun r hr => a6 r 16 (by omega) (fun e => absurd e hr)) (fun r k hr hk => a8 r k hk (fun e => absurd e hr)) (fun k hk => a1 k (by simp at hk; omega) (h1 k hk)) (fun k hk => a3 k (by simp at hk; omega) (h2 k hk))
theorem DWo_fc (d : DWo Fv P PR q u) (f : FC q gi gl ga ki kl ka kj u w) (hq : q < PR) (hal : F u (pq q 9) ≠ 3) (hal2 : F w (pq q 9) ≠ 3) (hs : SMQ w q) (h1 : ∀ k, k ∈ [942, 950, 953, 955, 956] → k ∉ gi) (h2 : ∀ k, k ∈ [1948, 53, 54] → k ∉ ga) : DWo Fv P PR q w := by
  obtain ⟨a1, a2, a3, a4, a5, a6, a7, a8⟩ := f
  exact DWo_q d hq hal hal2 hs (fun r k hr hk => a5 r k hk (fun e => absurd e hr)) (fun r hr => a6 r 16 (by omega) (fun e => absurd e hr)) (fun r k hr hk => a8 r k hk (fun e => absurd e hr)) (fun k hk => a1 k (by simp at hk; omega) (h1 k hk)) (fun k hk => a3 k (by simp at hk; omega) (h2 k hk))
end
