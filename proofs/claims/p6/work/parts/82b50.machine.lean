set_option maxRecDepth 100000
section
variable (T : Nat → Option (Nat × Nat × List Nat × Nat × Nat)) (u : MS) (q : Nat)
def ENTc (c wb nb cb : Nat) : List Nat → Prop
  | [] => True
  | t :: L => (∃ h m, T t = some (h + 1, m, L, 0, 0) ∧ A u (pq q 37) (4 * (cb + L.length)) = ((c : Nat) : Int) ∧ A u (pq q 37) (4 * (cb + L.length) + 1) = ((nb + m : Nat) : Int) ∧ A u (pq q 37) (4 * (cb + L.length) + 2) = ((wb + h : Nat) : Int) ∧ A u (pq q 37) (4 * (cb + L.length) + 3) = ((t : Nat) : Int)) ∧ ENTc c wb nb cb L
def FBc : Nat → Nat → Nat → Nat → Nat → Prop
  | 0, wb, nb, cb, rk => wb = 0 ∧ nb = 0 ∧ cb = 0 ∧ rk = 0
  | j + 1, wb, nb, cb, rk => ∃ wb0 nb0 cb0 rk0 h m L a, FBc j wb0 nb0 cb0 rk0 ∧ A u (pq q 30) (5 * j + 2) = ((nb0 : Nat) : Int) ∧ A u (pq q 30) (5 * j + 3) = ((wb0 : Nat) : Int) ∧ A u (pq q 30) (5 * j + 4) = ((a : Nat) : Int) ∧ T a = some (h + 1, m, L, 0, 0) ∧ wb = wb0 + h ∧ nb = nb0 + m ∧ cb = cb0 + L.length ∧ rk = rk0 + 32 * cKc T a 24000 ∧ FLc T L h ∧ ENTc T u q (j + 1) wb0 nb0 cb0 L
def STc (j wb nb cb rk : Nat) (L : List Nat) : Prop := FBc T u q j wb nb cb rk ∧ (F u (pq q 21) = ((j + 1 : Nat) : Int) ∧ j < 60) ∧ (A u (pq q 30) (5 * j + 2) = ((nb : Nat) : Int) ∧ A u (pq q 30) (5 * j + 3) = ((wb : Nat) : Int)) ∧ F u (pq q 28) = ((cb + L.length : Nat) : Int) ∧ ENTc T u q (j + 1) wb nb cb L
def UNc (x : Nat) : Prop := x ≠ 0 → A u 23 (x - 1) = 0 → u.2.1 (pq q 10) = -1
def PSQ : Prop := ∃ j wb nb cb rk i h m L x, STc T u q j wb nb cb rk L ∧ A u (pq q 30) (5 * j + 4) = ((i : Nat) : Int) ∧ T i = some (h, m, L, 0, x) ∧ (x = 0 ∨ x = i) ∧ F u (pq q 26) = ((wb + h : Nat) : Int) ∧ F u (pq q 24) = ((nb + m : Nat) : Int) ∧ UNc u q x
end
def SCQ (u w : MS) : Prop := (∀ k, k ∈ [22, 442, 449] → w.1 k = u.1 k) ∧ ∀ k, k ∈ [3, 23, 25, 29, 30, 31, 32] → w.2.2.1 k = u.2.2.1 k
def OTH (T : Nat → Option (Nat × Nat × List Nat × Nat × Nat)) (PR q : Nat) (u : MS) : Prop := ∀ r, r < PR → r ≠ q → F u (pq r 9) ≠ 3 → PSQ T u r
def ALN (u : MS) : Prop := ∀ r, r < 24 → rf (u.2.2.1 1948 r) = none ∨ (rf (u.2.2.1 1948 r) = some r ∧ LNB u r)
theorem ALN_k {u w : MS} (a : ALN u) (h : w.2.2.1 1948 = u.2.2.1 1948) (k : ∀ r, r < 24 → LNB u r → LNB w r) : ALN w := fun r hr => by
  rw [h]
  rcases a r hr with z | ⟨z1, z2⟩
  · exact Or.inl z
  · exact Or.inr ⟨z1, k r hr z2⟩
def GEN (T : Nat → Option (Nat × Nat × List Nat × Nat × Nat)) (Fv : Int64 → Int64 → Prop) (P : Int64 → Prop) (PR q : Nat) (u : MS) : Prop := DWc Fv P PR u ∧ CTX Fv P u ∧ WFT T u ∧ CDT T u Fv ∧ OTH T PR q u ∧ ALN u ∧ q < PR ∧ (0 ≤ F u 1106 ∧ F u 1106 ≤ F u 1107 ∧ F u 1107 ≤ 500)
def GDS (T : Nat → Option (Nat × Nat × List Nat × Nat × Nat)) (u : MS) (g wb : Nat) : Prop := (g = 0 → F u 1112 = 0) ∧ (g ≠ 0 → F u 1112 = A u 23 (g + 2) ∧ F u 1113 = A u 23 (g + 1) ∧ ∃ hg m L x, T g = some (hg, m, L, 0, x) ∧ F u 1114 = ((wb + hg : Nat) : Int))
def MIc (T : Nat → Option (Nat × Nat × List Nat × Nat × Nat)) (Fv : Int64 → Int64 → Prop) (P : Int64 → Prop) (PR q : Nat) (u : MS) (i h m : Nat) (L : List Nat) (g x j wb nb cb rk : Nat) : Prop :=
  GEN T Fv P PR q u ∧ F u (pq q 9) = 0 ∧ STc T u q j wb nb cb rk L ∧ (T i = some (h, m, L, g, x) ∧ F u 1105 = ((i : Nat) : Int)) ∧ (F u (pq q 26) = ((wb + h : Nat) : Int) ∧ F u (pq q 24) = ((nb + m : Nat) : Int)) ∧ GDS T u g wb ∧ (x ≠ 0 → x ≠ i → F u (pq q 8) < F u (pq q 7)) ∧ UNc u q x
def PHc (T : Nat → Option (Nat × Nat × List Nat × Nat × Nat)) (u : MS) (q i x rk : Nat) : Nat := rk + potc T i x (F u (pq q 8)).toNat + (F u 1107 - F u 1106).toNat * 768001
def GTQ (Fv : Int64 → Int64 → Prop) (P : Int64 → Prop) (u : MS) (q : Nat) (t : Int64) : Prop := ∃ n ow kd B W Y, PTQ u q n ow kd Fv P B W Y ∧ GT n ow kd P t
def NRM (T : Nat → Option (Nat × Nat × List Nat × Nat × Nat)) (Fv : Int64 → Int64 → Prop) (P : Int64 → Prop) (PR q f : Nat) (w : MS) : Prop := (∃ i h m L g x j wb nb cb rk, MIc T Fv P PR q w i h m L g x j wb nb cb rk ∧ PHc T w q i x rk < f) ∧ F w 1109 = 0 ∧ F w 1108 = 0
def ERR (T : Nat → Option (Nat × Nat × List Nat × Nat × Nat)) (Fv : Int64 → Int64 → Prop) (P : Int64 → Prop) (PR q f : Nat) (w : MS) : Prop := ∃ v, ∃ how ar : Int, ∃ t, (∃ i h m L g x j wb nb cb rk, MIc T Fv P PR q v i h m L g x j wb nb cb rk ∧ PHc T v q i x rk ≤ f) ∧ F v 1109 = 0 ∧ F v 1108 = 0 ∧ GTQ Fv P v q t ∧ (how = 1 ∨ how = 2 ∨ how = 3) ∧ (ar = -1 ∨ (0 ≤ ar ∧ ar < 22)) ∧ w = wl (wi (wi v 1109 how) 1111 ar) 1110 t
def ENDc (T : Nat → Option (Nat × Nat × List Nat × Nat × Nat)) (Fv : Int64 → Int64 → Prop) (P : Int64 → Prop) (PR q : Nat) (w : MS) : Prop := GEN T Fv P PR q w ∧ F w (pq q 9) = 3 ∧ F w 1109 = 0 ∧ (0 ≤ F w (pq q 21) ∧ F w (pq q 21) ≤ 60)
def SVc (T : Nat → Option (Nat × Nat × List Nat × Nat × Nat)) (Fv : Int64 → Int64 → Prop) (P : Int64 → Prop) (PR q : Nat) (w : MS) : Prop := GEN T Fv P PR q w ∧ (F w (pq q 9) ≠ 3 ∧ (F w (pq q 9) = 0 → F w 1108 ≠ 0)) ∧ F w 1109 = 0 ∧ ∃ i h m L x j wb nb cb rk, STc T w q j wb nb cb rk L ∧ (T i = some (h, m, L, 0, x) ∧ F w 1105 = ((i : Nat) : Int)) ∧ (x = 0 ∨ x = i) ∧ (F w (pq q 26) = ((wb + h : Nat) : Int) ∧ F w (pq q 24) = ((nb + m : Nat) : Int)) ∧ UNc w q x
def OPQ (T : Nat → Option (Nat × Nat × List Nat × Nat × Nat)) (Fv : Int64 → Int64 → Prop) (P : Int64 → Prop) (PR q f : Nat) (w : MS) : Prop := NRM T Fv P PR q f w ∨ ERR T Fv P PR q f w ∨ ENDc T Fv P PR q w ∨ SVc T Fv P PR q w
section
variable {T : Nat → Option (Nat × Nat × List Nat × Nat × Nat)} {Fv : Int64 → Int64 → Prop} {P : Int64 → Prop} {u v w : MS} {PR N q r n B W Y i h m g x j wb nb cb rk c f : Nat} {L : List Nat} {ow kd : Nat → Nat} {t : Int64} {gi gl ga ki kl ka kj : List Nat}
theorem ENT_s (h1 : w.2.2.1 (pq q 37) = u.2.2.1 (pq q 37)) : ∀ {L : List Nat}, ENTc T u q c wb nb cb L → ENTc T w q c wb nb cb L
  | [], _ => trivial
  | t :: L, hh => by
    have e : ∀ k, A w (pq q 37) k = A u (pq q 37) k := fun k => by show (w.2.2.1 (pq q 37) k).toInt = _; rw [h1]; rfl
    obtain ⟨⟨a, b, c1, c2, c3, c4, c5⟩, d⟩ := hh
    exact ⟨⟨a, b, c1, by rw [e]; exact c2, by rw [e]; exact c3, by rw [e]; exact c4, by rw [e]; exact c5⟩, ENT_s h1 d⟩
theorem FBc_s (h0 : w.2.2.1 (pq q 30) = u.2.2.1 (pq q 30)) (h1 : w.2.2.1 (pq q 37) = u.2.2.1 (pq q 37)) : ∀ {j wb nb cb rk : Nat}, FBc T u q j wb nb cb rk → FBc T w q j wb nb cb rk
  | 0, _, _, _, _, hh => hh
  | j + 1, wb, nb, cb, rk, hh => by
    have e : ∀ k, A w (pq q 30) k = A u (pq q 30) k := fun k => by show (w.2.2.1 (pq q 30) k).toInt = _; rw [h0]; rfl
    obtain ⟨wb0, nb0, cb0, rk0, h, m, L, a, b1, b2, b3, b4, b5, b6, b7, b8, b9, b9b, b10⟩ := hh
    exact ⟨wb0, nb0, cb0, rk0, h, m, L, a, FBc_s h0 h1 b1, by rw [e]; exact b2, by rw [e]; exact b3, by rw [e]; exact b4, b5, b6, b7, b8, b9, b9b, ENT_s h1 b10⟩
theorem STc_s (s : STc T u q j wb nb cb rk L) (h0 : w.2.2.1 (pq q 30) = u.2.2.1 (pq q 30)) (h1 : w.2.2.1 (pq q 37) = u.2.2.1 (pq q 37)) (h2 : w.1 (pq q 21) = u.1 (pq q 21)) (h3 : w.1 (pq q 28) = u.1 (pq q 28)) : STc T w q j wb nb cb rk L := by
  have e : ∀ k, A w (pq q 30) k = A u (pq q 30) k := fun k => by show (w.2.2.1 (pq q 30) k).toInt = _; rw [h0]; rfl
  obtain ⟨a, ⟨b1, b2⟩, ⟨c1, c2⟩, d, f⟩ := s
  exact ⟨FBc_s h0 h1 a, ⟨by rw [show F w (pq q 21) = F u (pq q 21) from congrArg _ h2]; exact b1, b2⟩, ⟨by rw [e]; exact c1, by rw [e]; exact c2⟩, by rw [show F w (pq q 28) = F u (pq q 28) from congrArg _ h3]; exact d, ENT_s h1 f⟩
theorem UN_k (a : UNc u q x) (h1 : w.2.1 (pq q 10) = u.2.1 (pq q 10)) (h2 : w.2.2.1 23 = u.2.2.1 23) : UNc w q x := fun z y => by
  rw [h1]
  exact a z (by rw [← y]; show (u.2.2.1 23 _).toInt = (w.2.2.1 23 _).toInt; rw [h2])
theorem PSQ_s (p : PSQ T u q) (h0 : w.2.2.1 (pq q 30) = u.2.2.1 (pq q 30)) (h1 : w.2.2.1 (pq q 37) = u.2.2.1 (pq q 37)) (h2 : ∀ k, k ∈ [21, 24, 26, 28] → w.1 (pq q k) = u.1 (pq q k)) (h3 : w.2.1 (pq q 10) = u.2.1 (pq q 10)) (h4 : w.2.2.1 23 = u.2.2.1 23) : PSQ T w q := by
  obtain ⟨j, wb, nb, cb, rk, i, h, m, L, x, a, b, c, d, e, f, un⟩ := p
  refine ⟨j, wb, nb, cb, rk, i, h, m, L, x, STc_s a h0 h1 (h2 21 (by simp)) (h2 28 (by simp)), ?_, c, d, ?_, ?_, UN_k un h3 h4⟩
  · show (w.2.2.1 (pq q 30) _).toInt = _
    rw [h0]; exact b
  · rw [show F w (pq q 26) = F u (pq q 26) from congrArg _ (h2 26 (by simp))]; exact e
  · rw [show F w (pq q 24) = F u (pq q 24) from congrArg _ (h2 24 (by simp))]; exact f
theorem PSQ_w (p : PSQ T u q) (f : WFR u w) : PSQ T w q := PSQ_s p (f.2.2.1 q 30 (by omega) (by simp)) (f.2.2.1 q 37 (by omega) (by simp)) (fun k hk => f.1 q k (by simp at hk; omega) (by simp at hk ⊢; omega)) (f.2.2.2.2.2.1 q 10 (by omega) (by simp)) (f.2.2.2.1 23 (by omega) (by simp))
theorem PSQ_o (p : PSQ T u r) (f : FC q gi gl ga ki kl ka kj u w) (hr : r ≠ q) (h23 : 23 ∉ ga) : PSQ T w r := PSQ_s p (f.2.2.2.2.2.2.1 r 30 (by omega) (fun e => absurd e hr)) (f.2.2.2.2.2.2.1 r 37 (by omega) (fun e => absurd e hr)) (fun k hk => f.2.2.2.2.1 r k (by simp at hk; omega) (fun e => absurd e hr)) (f.2.2.2.2.2.1 r 10 (by omega) (fun e => absurd e hr)) (f.2.2.1 23 (by omega) h23)
theorem SCQ_w (f : WFR u w) : SCQ u w := ⟨fun k hk => f.2.1 k (by simp at hk; omega) (by simp at hk ⊢; omega), fun k hk => f.2.2.2.1 k (by simp at hk; omega) (by simp at hk ⊢; omega)⟩
theorem SCQ_f (f : FC q gi gl ga ki kl ka kj u w) (h1 : ∀ k, k ∈ [22, 442, 449] → k ∉ gi) (h2 : ∀ k, k ∈ [3, 23, 25, 29, 30, 31, 32] → k ∉ ga) : SCQ u w := ⟨fun k hk => f.1 k (by simp at hk; omega) (h1 k hk), fun k hk => f.2.2.1 k (by simp at hk; omega) (h2 k hk)⟩
theorem SCQ.F (s : SCQ u w) {k : Nat} (h : k ∈ [22, 442, 449]) : F w k = F u k := congrArg _ (s.1 k h)
theorem SCQ.A (s : SCQ u w) {k : Nat} (h : k ∈ [3, 23, 25, 29, 30, 31, 32]) : A w k = A u k := funext fun i => by show (w.2.2.1 k i).toInt = _; rw [s.2 k h]; rfl
theorem PTc_s (s : SCQ u w) : ∀ {f i b e : Nat}, PTc u f i b e → PTc w f i b e
  | 0, _, _, _, h => h
  | f + 1, i, b, e, h => by
    unfold PTc at h ⊢
    rw [s.A (k := 23) (by simp)]
    rcases h with h | h | ⟨h, n, h1, h2, h3⟩ | h | ⟨h, c, h1, h2⟩ | h | ⟨h, h1, h2⟩ | h
    · exact Or.inl h
    · exact Or.inr (Or.inl ⟨h.1, PTc_s s h.2⟩)
    · exact Or.inr (Or.inr (Or.inl ⟨h, n, h1, h2, PTc_s s h3⟩))
    · exact Or.inr (Or.inr (Or.inr (Or.inl ⟨h.1, PTc_s s h.2⟩)))
    · exact Or.inr (Or.inr (Or.inr (Or.inr (Or.inl ⟨h, c, h1, PTc_s s h2⟩))))
    · exact Or.inr (Or.inr (Or.inr (Or.inr (Or.inr (Or.inl ⟨h.1, PTc_s s h.2⟩)))))
    · exact Or.inr (Or.inr (Or.inr (Or.inr (Or.inr (Or.inr (Or.inl ⟨h, h1, PTc_s s h2⟩))))))
    · exact Or.inr (Or.inr (Or.inr (Or.inr (Or.inr (Or.inr (Or.inr ⟨h.1, PTc_s s h.2⟩))))))
theorem WFT_s (s : SCQ u w) (h : WFT T u) : WFT T w := by
  intro i h1 m L g x e
  obtain ⟨a, b, c, d, f, k⟩ := h i h1 m L g x e
  have e23 := s.A (k := 23) (by simp)
  refine ⟨a, b, c, ?_, by rw [e23]; exact f, ?_⟩
  · unfold GRc at d ⊢; rw [e23]; exact d
  · rcases k with k | k | k
    · refine Or.inl ?_
      unfold IN1 TGc at k ⊢
      rw [e23, s.A (k := 32) (by simp), s.F (k := 22) (by simp), s.F (k := 442) (by simp), s.F (k := 449) (by simp)]; exact k
    · refine Or.inr (Or.inl ?_)
      unfold IN2 TGc at k ⊢
      rw [e23, s.A (k := 25) (by simp), s.F (k := 442) (by simp)]
      rcases k with k | ⟨k1, k2, k3, k4, f, b, e, k5, k6⟩ | ⟨k1, k2, k3, f, b, e, k5, k6⟩ | k
      · exact Or.inl k
      · exact Or.inr (Or.inl ⟨k1, k2, k3, k4, f, b, e, PTc_s s k5, k6⟩)
      · exact Or.inr (Or.inr (Or.inl ⟨k1, k2, k3, f, b, e, PTc_s s k5, k6⟩))
      · exact Or.inr (Or.inr (Or.inr k))
    · refine Or.inr (Or.inr ?_)
      unfold IN3 TGc at k ⊢
      rw [e23]; exact k
theorem CDT_s (s : SCQ u w) (h : CDT T u Fv) : CDT T w Fv := by
  unfold CDT at h ⊢
  rw [s.A (k := 23) (by simp), s.A (k := 25) (by simp), s.A (k := 29) (by simp), s.A (k := 30) (by simp), s.A (k := 31) (by simp), s.A (k := 32) (by simp), s.F (k := 442) (by simp), s.F (k := 449) (by simp)]; exact h
theorem CTX_s (s : SCQ u w) (h : CTX Fv P u) : CTX Fv P w := CTX_fr h (s.1 22 (by simp)) (s.2 3 (by simp))
theorem GDS_s (s : GDS T u g wb) (h : ∀ k, k ∈ [1112, 1113, 1114] → w.1 k = u.1 k) (h2 : w.2.2.1 23 = u.2.2.1 23) : GDS T w g wb := by
  have e : ∀ k, A w 23 k = A u 23 k := fun k => by show (w.2.2.1 23 k).toInt = _; rw [h2]; rfl
  have hF : ∀ k, k ∈ [1112, 1113, 1114] → F w k = F u k := fun k hk => congrArg _ (h k hk)
  unfold GDS at s ⊢
  rw [hF 1112 (by simp), hF 1113 (by simp), hF 1114 (by simp), e, e]; exact s
theorem FBc_b (ht : WFT T u) : ∀ {j wb nb cb rk : Nat}, FBc T u q j wb nb cb rk → wb ≤ 1090 * j ∧ nb ≤ 40 * j ∧ cb ≤ 25 * j ∧ rk ≤ 768000 * j
  | 0, wb, nb, cb, rk, h => by obtain ⟨a, b, c, d⟩ := h; omega
  | j + 1, wb, nb, cb, rk, h => by
    obtain ⟨wb0, nb0, cb0, rk0, h, m, L, a, b1, -, -, -, b5, b6, b7, b8, b9, -⟩ := h
    have c := FBc_b ht b1
    obtain ⟨-, t1, -⟩ := ht _ _ _ _ _ _ b5
    have d := cKc_le (T := T) a 24000
    omega
theorem MI_b (M : MIc T Fv P PR q u i h m L g x j wb nb cb rk) : (1 ≤ i ∧ i < 24000) ∧ wb + h ≤ 65400 ∧ nb + m ≤ 2400 ∧ cb + L.length ≤ 1500 ∧ rk ≤ 45312000 := by
  obtain ⟨g, -, s, ⟨t, -⟩, -⟩ := M
  have a := FBc_b g.2.2.1 s.1
  obtain ⟨t1, t2, -⟩ := g.2.2.1 _ _ _ _ _ _ t
  have := s.2.1.2
  refine ⟨t1, ?_, ?_, ?_, ?_⟩ <;> omega
theorem GEN_f (G : GEN T Fv P PR q u) (f : FC q gi gl ga ki kl ka kj u w) (d : DWc Fv P PR w) (hgi : ∀ k, k ∈ [22, 442, 449, 1106, 1107] → k ∉ gi) (hga : ∀ k, k ∈ [3, 23, 25, 29, 30, 31, 32, 1948] → k ∉ ga) (ln : LNB w q) : GEN T Fv P PR q w := by
  obtain ⟨g1, g2, g3, g4, g5, g6, g7, g8⟩ := G
  have s : SCQ u w := SCQ_f f (fun k hk => hgi k (by simp at hk ⊢; omega)) (fun k hk => hga k (by simp at hk ⊢; omega))
  refine ⟨d, CTX_s s g2, WFT_s s g3, CDT_s s g4, fun r hr hrq hal => ?_, ALN_k g6 (f.2.2.1 1948 (by omega) (hga 1948 (by simp))) (fun r hr h1 => ?_), g7, ?_⟩
  · exact PSQ_o (g5 r hr hrq (by rw [← f.Fo hrq (by omega)]; exact hal)) f hrq (hga 23 (by simp))
  · by_cases e : r = q
    · rw [e]; exact ln
    · exact LNB_o h1 f e
  · rw [f.Fg (by omega) (hgi 1106 (by simp)), f.Fg (by omega) (hgi 1107 (by simp))]; exact g8
theorem GEN_w (G : GEN T Fv P PR q u) (k : WQ Fv P PR u w) : GEN T Fv P PR q w := by
  obtain ⟨g1, g2, g3, g4, g5, g6, g7, g8⟩ := G
  have s := SCQ_w k.2.1
  refine ⟨k.1, CTX_s s g2, WFT_s s g3, CDT_s s g4, fun r hr hrq hal => ?_, ALN_k g6 (k.2.1.2.2.2.1 1948 (by omega) (by simp)) (fun r hr h1 => LNB_w h1 k.2.1), g7, ?_⟩
  · refine PSQ_w (g5 r hr hrq (fun e => hal (k.2.2.en e))) k.2.1
  · rw [k.2.1.G (by omega) (by simp), k.2.1.G (by omega) (by simp)]; exact g8
theorem GEN_ln (G : GEN T Fv P PR q u) (hr : r < PR) : LNB u r := by
  obtain ⟨⟨⟨⟨-, g1⟩, g2, -⟩, -⟩, -, -, -, -, g6, -, -⟩ := G
  rcases g6 r (by omega) with z | ⟨-, z⟩
  · rw [g2 r hr] at z; cases z
  · exact z
theorem MI_w (M : MIc T Fv P PR q u i h m L g x j wb nb cb rk) (k : WQ Fv P PR u w) (hal : F w (pq q 9) ≠ 3) : MIc T Fv P PR q w i h m L g x j wb nb cb rk ∧ PHc T w q i x rk = PHc T u q i x rk := by
  obtain ⟨G, s9, s, ⟨t1, t2⟩, ⟨b1, b2⟩, gd, xx, un⟩ := M
  have f := k.2.1
  have e8 : F w (pq q 8) = F u (pq q 8) := f.F (by omega) (by simp)
  refine ⟨⟨GEN_w G k, ?_, STc_s s (f.2.2.1 q 30 (by omega) (by simp)) (f.2.2.1 q 37 (by omega) (by simp)) (f.1 q 21 (by omega) (by simp)) (f.1 q 28 (by omega) (by simp)), ⟨t1, by rw [f.G (by omega) (by simp)]; exact t2⟩, ⟨by rw [f.F (by omega) (by simp)]; exact b1, by rw [f.F (by omega) (by simp)]; exact b2⟩, GDS_s gd (fun k hk => f.2.1 k (by simp at hk; omega) (by simp at hk ⊢; omega)) (f.2.2.2.1 23 (by omega) (by simp)), fun h1 h2 => ?_, UN_k un (f.2.2.2.2.2.1 q 10 (by omega) (by simp)) (f.2.2.2.1 23 (by omega) (by simp))⟩, ?_⟩
  · rcases (k.2.2 q).1 with e | e
    · rw [e]; exact s9
    · exact absurd e hal
  · have := xx h1 h2
    have := (k.2.2 q).2
    rw [e8]; omega
  · unfold PHc
    rw [e8, f.G (by omega) (by simp), f.G (by omega) (by simp)]
end
