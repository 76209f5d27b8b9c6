def PQ (AN PR : Nat) (t : Int64) : Prop := so t = 0 ∨ so t = 2 ∨ so t = 6 ∨ (so t = 1 ∧ 0 ≤ va t ∧ va t < AN) ∨ (so t = 4 ∧ 0 ≤ va t ∧ va t < PR)
theorem PQ_b {AN PR : Nat} (h : 22 ≤ AN) (h2 : PR ≤ 24) : PB (PQ AN PR) PR := by
  refine ⟨fun a h1 h2 => ?_, fun p hp => ?_, fun r h1 h2 => ?_, fun r h1 h2 => ?_, ?_⟩
  · exact Or.inr (Or.inr (Or.inr (Or.inl ⟨so_mk (by omega) (by omega), by rw [va_mk (by omega) (by omega)]; omega, by rw [va_mk (by omega) (by omega)]; omega⟩)))
  · exact Or.inr (Or.inr (Or.inr (Or.inr ⟨so_mk (by omega) (by omega), by rw [va_mk (by omega) (by omega)]; omega, by rw [va_mk (by omega) (by omega)]; omega⟩)))
  · exact Or.inr (Or.inl (so_mk (by omega) (by omega)))
  · exact Or.inl (so_mk (by omega) (by omega))
  · exact Or.inr (Or.inr (Or.inl (so_mk (by omega) (by omega))))
theorem PQ_s {AN PR : Nat} : PS (PQ AN PR) := fun t h => by
  rcases h with h | h | h | h | h <;> omega
theorem PQ_atom {AN PR : Nat} {a : Int} (h : 0 ≤ a) (h1 : a < AN) (h2 : AN ≤ 3000) : PQ AN PR (mk 1 a) := Or.inr (Or.inr (Or.inr (Or.inl ⟨so_mk (by omega) (by omega), by rw [va_mk (by omega) (by omega)]; omega, by rw [va_mk (by omega) (by omega)]; omega⟩)))
theorem PQ_mo {AN PR PR2 : Nat} (h : PR ≤ PR2) (t : Int64) (g : PQ AN PR t) : PQ AN PR2 t := by
  rcases g with g | g | g | g | ⟨g1, g2, g3⟩
  · exact Or.inl g
  · exact Or.inr (Or.inl g)
  · exact Or.inr (Or.inr (Or.inl g))
  · exact Or.inr (Or.inr (Or.inr (Or.inl g)))
  · exact Or.inr (Or.inr (Or.inr (Or.inr ⟨g1, g2, by omega⟩)))
def FRZ (w : MS) (T : TY) (ND z : Nat) : Prop := ∃ fr ro rn rh cb pc ct q, FRS w T ND z fr ro rn rh cb pc ct (tK T q) (tC T q) ∧ A w 98 (60 * z + (fr - 1)) = ((q : Nat) : Int) ∧ q < ND ∧ rh (fr - 1) = tL T q ∧ A w 106 z = ((cb (fr - 1) + tK T q : Nat) : Int) ∧ A w 92 z = ((ro (fr - 1) + tH T q : Nat) : Int) ∧ A w 94 z = ((rn (fr - 1) + rh (fr - 1) + tM T q : Nat) : Int) ∧ tG T q = 0 ∧ (A w 109 z = 0 ∨ (A w 109 z = 1 ∧ A w 23 q = 27 ∧ (A w 31 q = -1 → w.2.2.2 111 z = -1) ∧ 0 ≤ A w 110 z))
def FRH (w : MS) (UN FN z : Nat) : Prop := A w 109 z = 5 ∧ A w 95 z = 1 ∧ A w 92 z = 0 ∧ A w 106 z = 0 ∧ A w 99 (60 * z) = 0 ∧ A w 100 (60 * z) = 0 ∧ ∃ h : Nat, h ≤ 40 ∧ A w 94 z = h ∧ A w 101 (60 * z) = h ∧ ((A w 96 (60 * z) = -1 ∧ ∃ x : Nat, x < UN ∧ A w 170 z = x ∧ A w 54 x = h ∧ ∃ c : Nat, A w 53 x = c ∧ A w 41 c = 0) ∨ (h = 0 ∧ ∃ f : Nat, f < FN ∧ A w 96 (60 * z) = f ∧ A w 48 f = 0))
def PSX (w : MS) (T : TY) (ND UN FN z : Nat) : Prop := A w 109 z = 3 ∨ FRZ w T ND z ∨ FRH w UN FN z
def WLD (w : MS) (T : TY) (ND UN FN PR p : Nat) : Prop := LK w PR ∧ WTQ w PR ∧ (0 ≤ F w 128 ∧ F w 128 ≤ 200) ∧ (∀ i, 0 ≤ A w 127 i ∧ A w 127 i ≤ 100) ∧ (∀ i, -1 ≤ A w 97 i ∧ A w 97 i < 1400) ∧ (∀ i, 0 ≤ A w 132 i ∧ A w 132 i ≤ 100) ∧ ∀ z, z < PR → z ≠ p → PSX w T ND UN FN z
def PAU (Fv : Int64 → Int64 → Prop) (P : Int64 → Prop) (PR : Nat) (T : TY) (ND p : Nat) (w : MS) : Prop := ∃ fr ro rn rh cb pc ct q n ow kd bxM, ATQ Fv P PR T ND p w fr ro rn rh cb pc ct q n ow kd bxM ∧ A w 109 p = 0 ∧ tG T q = 0 ∧ F w 151 = 1
def GFR (u w : MS) : Prop := FR [118, 119, 121, 125, 128, 136, 138, 140, 144, 150, 151, 152, 153, 154, 155, 156, 157, 158, 159, 165, 166, 169] [139] [89, 90, 92, 94, 95, 96, 97, 98, 99, 100, 101, 102, 103, 104, 105, 106, 108, 109, 110, 112, 113, 114, 115, 116, 117, 122, 123, 124, 126, 127, 132, 135, 142, 143, 145, 146, 147, 160, 162, 168, 170] [88, 91, 93, 107, 111, 134, 137, 141, 148, 161, 163, 167] u w
def RSW (Fv : Int64 → Int64 → Prop) (AN : Nat) (T : TY) (C : CY) (ND CN UN FN p mu : Nat) (u w : MS) : Prop := ∃ PR, p < PR ∧ (ENDD Fv (PQ AN PR) PR p w ∨ WAI Fv (PQ AN PR) PR T ND p w ∨ PAU Fv (PQ AN PR) PR T ND p w ∨ ∃ m, m < mu ∧ STE Fv (PQ AN PR) PR T C ND CN p m w) ∧ WLD w T ND UN FN PR p ∧ GFR u w
section
variable {Fv : Int64 → Int64 → Prop} {P : Int64 → Prop} {u v w w2 : MS} {PR N p n n2 opM bnM bxM bx2 ND fr k tp mu CN PN SN UN FN rq q m h mm AN : Nat} {ow kd ow2 kd2 ro rn rh cb pc ct pM pE : Nat → Nat} {T : TY} {C : CY}
theorem FRS_otf {z : Nat} (h : FRS u T ND z fr ro rn rh cb pc ct k tp) (hz : z ≠ p) (hk : k ≤ 26) (o : OTF p u w) (h23 : ∀ i, A w 23 i = A u 23 i) : FRS w T ND z fr ro rn rh cb pc ct k tp := by
  obtain ⟨⟨h1, h2, h3⟩, h4, h5, h6, h7⟩ := h
  have row : ∀ i, i < 60 → A w 98 (60 * z + i) = A u 98 (60 * z + i) ∧ A w 99 (60 * z + i) = A u 99 (60 * z + i) ∧ A w 100 (60 * z + i) = A u 100 (60 * z + i) ∧ A w 101 (60 * z + i) = A u 101 (60 * z + i) := fun i hi => o.2.1 _ (by omega)
  have cts : ∀ i c0 kk tt a b c, c0 + kk ≤ 1600 → CTI u T ND z ct i c0 kk tt a b c → CTI w T ND z ct i c0 kk tt a b c := fun i c0 kk tt a b c hc hh j hj => by
    obtain ⟨q1, q2, q3, q4⟩ := o.2.2.1 (1600 * z + (c0 + j)) (by omega)
    rw [q1, q2, q3, q4, h23]; exact hh j hj
  have cb26 : ∀ i, i < fr → cb i ≤ 26 * i := fun i hi => (h5 i hi).2.2.2.2.2.2
  refine ⟨⟨h1, h2, by rw [(o.1 z hz).2.2.1]; exact h3⟩, h4, fun i hi => ?_, fun i hi => ?_, cts _ _ _ _ _ _ _ (by have := cb26 (fr - 1) (by omega); omega) h7⟩
  · obtain ⟨q1, q2, q3, q4⟩ := row i (by omega)
    rw [q2, q3, q4]; exact h5 i hi
  · obtain ⟨r1, r2, r3, r4, r6, r7, r8, r9, r10⟩ := h6 i hi
    exact ⟨by rw [(row i (by omega)).1]; exact r1, r2, r3, r4, r6, r7, r8, r9, cts _ _ _ _ _ _ _ (by have := cb26 (i + 1) hi; omega) r10⟩
theorem PSX_otf {z : Nat} (h : PSX u T ND UN FN z) (hz : z ≠ p) (hT : ∀ q, q < ND → tK T q ≤ 26) (o : OTF p u w) (hk : ∀ k, k ∈ KP → ∀ i, A w k i = A u k i) (h109 : A w 109 z = A u 109 z ∨ A w 109 z = 3) : PSX w T ND UN FN z := by
  rcases h109 with h109 | h109
  · rcases h with h | ⟨fr, ro, rn, rh, cb, pc, ct, q, h1, h2, h3, h4, h5, h6, h7, h8, h9⟩ | ⟨h1, h2, h3, h4, h5, h6, x, h7, h8, h9, h10⟩
    · exact Or.inl (by rw [h109]; exact h)
    · have hf := h1.1
      obtain ⟨o1, o2, o3, o4⟩ := o.1 z hz
      refine Or.inr (Or.inl ⟨fr, ro, rn, rh, cb, pc, ct, q, FRS_otf h1 hz (hT q h3) o (hk 23 (by decide)), by rw [(o.2.1 (60 * z + (fr - 1)) (by omega)).1]; exact h2, h3, h4, by rw [o4]; exact h5, by rw [o1]; exact h6, by rw [o2]; exact h7, h8, ?_⟩)
      rw [h109, hk 23 (by decide), hk 31 (by decide), (o.2.2.2.2.2 z hz).2.1, (o.2.2.2.2.2 z hz).2.2]
      exact h9
    · obtain ⟨o1, o2, o3, o4⟩ := o.1 z hz
      obtain ⟨q1, q2, q3, q4⟩ := o.2.1 (60 * z) (by omega)
      have q5 := o.2.2.2.2.1 (60 * z) (by omega)
      refine Or.inr (Or.inr ⟨by rw [h109]; exact h1, by rw [o3]; exact h2, by rw [o1]; exact h3, by rw [o4]; exact h4, by rw [q2]; exact h5, by rw [q3]; exact h6, x, h7, by rw [o2]; exact h8, by rw [q4]; exact h9, ?_⟩)
      rw [q5, (o.2.2.2.2.2 z hz).1]
      rcases h10 with ⟨y1, y, y2, y3, y4, c, y5, y6⟩ | ⟨y1, y, y2, y3, y4⟩
      · exact Or.inl ⟨y1, y, y2, y3, by rw [hk 54 (by decide)]; exact y4, c, by rw [hk 53 (by decide)]; exact y5, by rw [hk 41 (by decide)]; exact y6⟩
      · exact Or.inr ⟨y1, y, y2, y3, by rw [hk 48 (by decide)]; exact y4⟩
  · exact Or.inl h109
theorem PRG_26 (hg : PRG w T C pM pE ND CN PN SN UN FN) : ∀ q, q < ND → tK T q ≤ 26 := fun q hq => (hg.2.2.1 q hq).1.2.2.1
theorem WLD_otf (h : WLD u T ND UN FN PR p) (hT : ∀ q, q < ND → tK T q ≤ 26) (o : OTF p u w) (hk : ∀ k, k ∈ KP → ∀ i, A w k i = A u k i) (h109 : ∀ z, z ≠ p → A w 109 z = A u 109 z ∨ A w 109 z = 3) (lk : LK w PR) (wt : WTQ w PR) (h128 : 0 ≤ F w 128 ∧ F w 128 ≤ 200) (h127 : ∀ i, 0 ≤ A w 127 i ∧ A w 127 i ≤ 100) (h132 : ∀ i, 0 ≤ A w 132 i ∧ A w 132 i ≤ 100) : WLD w T ND UN FN PR p := by
  obtain ⟨h1, h2, h3, h4, h5, h6, h7⟩ := h
  refine ⟨lk, wt, h128, h127, fun i => ?_, h132, fun z hz hzp => PSX_otf (h7 z hz hzp) hzp hT o hk (h109 z hzp)⟩
  rcases o.2.2.2.1 i with e | e
  · rw [e]; exact h5 i
  · exact e
theorem WLD_fr {is ls as js : List Nat} (h : WLD u T ND UN FN PR p) (hT : ∀ q, q < ND → tK T q ≤ 26) (o : OTF p u w) (f : FR is ls as js u w) (hi : ∀ k, k ∈ [125, 128] → k ∉ is) (ha : ∀ k, k ∈ 116 :: 117 :: 123 :: 124 :: 127 :: 132 :: KP → k ∉ as) (h109 : ∀ z, z ≠ p → A w 109 z = A u 109 z ∨ A w 109 z = 3) : WLD w T ND UN FN PR p :=
  WLD_otf h hT o (fun k hk i => FR.A f (ha k (List.mem_cons_of_mem _ (List.mem_cons_of_mem _ (List.mem_cons_of_mem _ (List.mem_cons_of_mem _ (List.mem_cons_of_mem _ (List.mem_cons_of_mem _ hk)))))))) h109 (LK_fr h.1 f (ha _ (by decide)) (ha _ (by decide))) (WT_fr h.2.1 f (hi _ (by decide)) (ha _ (by decide)) (ha _ (by decide))) (by rw [FR.F f (hi _ (by decide))]; exact h.2.2.1) (fun i => by rw [FR.A f (ha _ (by decide))]; exact h.2.2.2.1 i) (fun i => by rw [FR.A f (ha _ (by decide))]; exact h.2.2.2.2.2.1 i)
theorem RES_rsw (r : RES Fv (PQ AN PR) PR T C ND CN p mu u w) (hw : WLD u T ND UN FN PR p) (hT : ∀ q, q < ND → tK T q ≤ 26) (hp : p < PR) : RSW Fv AN T C ND CN UN FN p mu u w := by
  obtain ⟨r1, r2, r3, r4⟩ := r
  refine ⟨PR, hp, ?_, WLD_fr hw hT r3 r2.st (by decide) (by decide) (fun z hz => Or.inl (r4 z hz)), FR.mo r2.st (by decide) (by decide) (by decide) (by decide)⟩
  rcases r1 with r1 | r1 | ⟨m, r1, r5⟩
  · exact Or.inl r1
  · exact Or.inr (Or.inl r1)
  · exact Or.inr (Or.inr (Or.inr ⟨m, r1, r5⟩))
theorem RSW.pre (a : GFR u v) (r : RSW Fv AN T C ND CN UN FN p mu v w) : RSW Fv AN T C ND CN UN FN p mu u w := by
  obtain ⟨PR, h1, h2, h3, h4⟩ := r
  exact ⟨PR, h1, h2, h3, FR.tr a h4⟩
end
