/-! a list is made anew: what holds behind it -/
set_option maxRecDepth 100000
/-- its pairs are made, there -/
def LMm (m m7 : MS) (p U C W : Nat) (tt : Nat → Int64) (te : Int64) : Prop :=
  FR [pq p 4, pq p 26, pq p 45, 1105] [] [] [pq p 2, pq p 35] m m7 ∧ F m7 (pq p 4) = ((U + 2 * C : Nat) : Int) ∧ F m7 (pq p 26) = ((W + 1 : Nat) : Int) ∧ (∀ i, i < U → m7.2.2.2 (pq p 2) i = m.2.2.2 (pq p 2) i) ∧ (∀ r, r < C → m7.2.2.2 (pq p 2) (U + 2 * r) = tt r ∧ m7.2.2.2 (pq p 2) (U + 2 * r + 1) = (if r + 1 = C then te else mk 7 ((U + 2 * (r + 1) : Nat) : Int))) ∧ ∀ i, i ≤ W → m7.2.2.2 (pq p 35) i = if i = W then (if C = 0 then te else mk 7 ((U : Nat) : Int)) else m.2.2.2 (pq p 35) i
/-- and here -/
def LMw (w w7 : MS) (p U C W : Nat) (xx : Nat → Int64) (xe : Int64) : Prop :=
  ∃ w1 : MS, FR [] [] [89] [88, 167] w w1 ∧ A w1 89 p = ((U + 2 * C : Nat) : Int) ∧ (∀ r, r ≠ p → A w1 89 r = A w 89 r) ∧ (∀ q, ¬ (500 * p ≤ q ∧ q < 500 * p + 500) → w1.2.2.2 88 q = w.2.2.2 88 q) ∧ lsC (hp w1 p) (hp w p) U C C xx xe ∧ w7 = wa (wj (wa w1 92 p ((W : Nat) : Int)) 91 (46000 * p + W) (if C = 0 then xe else mk 7 ((U + 2 * (C - 1) : Nat) : Int))) 92 p ((W + 1 : Nat) : Int)
section
variable {b : Int → Nat → Nat → Prop} {p U B W Y C j : Nat} {m w m7 w7 : MS} {tt xx : Nat → Int64} {te xe : Int64}
theorem SCw_J {r : Nat → Int64} : SCw w (upJ w 167 r) := ⟨fun _ _ => rfl, fun _ _ => rfl, fun _ _ => rfl, fun K h => if_neg (by simp at h; exact h.1)⟩
theorem anw_fin (hpp : p < 24) (pl : PLs b p m w U B (W + 2) Y) (hU : U + 2 * C ≤ 500) (hW : W + 2 ≤ 46000) (cm : LMm m m7 p U C W tt te) (cw : LMw w w7 p U C W xx xe) (r1 : ∀ i, i < C → RTb b (tt i) (xx i)) (r2 : RTb b te xe) : (∃ b3, PLs b3 p m7 w7 (U + 2 * C) B (W + 1) Y) ∧ FGm p m m7 ∧ ∃ wX, SCw w wX ∧ FGw p j wX w7 ∧ w7.2.2.1 98 = w.2.2.1 98 := by
  obtain ⟨t1, t2, t3, t5, t6, t7⟩ := cm
  obtain ⟨w1, f1, s89, so1, so2, ls, hw7⟩ := cw
  have sX : SCw w (upJ w 167 (w1.2.2.2 167)) := SCw_J
  have plX := SCw_pl sX pl
  have hpX := SCw_hp (p := p) sX
  generalize hwX : upJ w 167 (w1.2.2.2 167) = wX at sX plX hpX
  have j1 : ∀ K, K ≠ 88 → w1.2.2.2 K = wX.2.2.2 K := fun K h => by
    rw [← hwX]
    by_cases c : K = 167
    · subst c
      show w1.2.2.2 167 = (if (167 : Nat) = 167 then w1.2.2.2 167 else w.2.2.2 167)
      rw [if_pos rfl]
    · rw [f1.2.2.2 K (by simp; omega)]
      exact (if_neg c).symm
  have f7 : FR [] [] [89, 92] [88, 91] wX w7 := by
    refine ⟨fun k _ => ?_, fun k _ => ?_, fun K h => ?_, fun K h => ?_⟩
    · rw [hw7, ← hwX]
      exact f1.1 k (by simp)
    · rw [hw7, ← hwX]
      exact f1.2.1 k (by simp)
    · simp at h
      rw [hw7, wa_21 h.2]
      show (wa w1 92 p ((W : Nat) : Int)).2.2.1 K = _
      rw [wa_21 h.2, f1.2.2.1 K (by simp; exact h.1), ← hwX]
      rfl
    · simp at h
      rw [hw7]
      show (wj (wa w1 92 p ((W : Nat) : Int)) 91 (46000 * p + W) (if C = 0 then xe else mk 7 ((U + 2 * (C - 1) : Nat) : Int))).2.2.2 K = _
      rw [wj_22 h.2]
      exact j1 K h.1
  have hp7 : hp w7 p = hp w1 p := by
    funext i
    rw [hw7]
    show (wj (wa w1 92 p ((W : Nat) : Int)) 91 (46000 * p + W) (if C = 0 then xe else mk 7 ((U + 2 * (C - 1) : Nat) : Int))).2.2.2 88 (500 * p + i) = _
    rw [wj_22 (by omega)]
    rfl
  have w791 : ∀ i, w7.2.2.2 91 i = if i = 46000 * p + W then (if C = 0 then xe else mk 7 ((U + 2 * (C - 1) : Nat) : Int)) else wX.2.2.2 91 i := fun i => by
    rw [hw7]
    show (wj (wa w1 92 p ((W : Nat) : Int)) 91 (46000 * p + W) (if C = 0 then xe else mk 7 ((U + 2 * (C - 1) : Nat) : Int))).2.2.2 91 i = _
    rw [wj_row]
    by_cases c : i = 46000 * p + W
    · rw [if_pos c, if_pos c]
    · rw [if_neg c, if_neg c]
      exact congrFun (j1 91 (by omega)) i
  have e89 : A w7 89 p = ((U + 2 * C : Nat) : Int) := by
    rw [hw7, wa_rne (by omega)]
    show A (wa w1 92 p ((W : Nat) : Int)) 89 p = _
    rw [wa_rne (by omega)]
    exact s89
  have e92 : A w7 92 p = ((W + 1 : Nat) : Int) := by rw [hw7, wa_sm (by omega) (by omega)]
  have X89 : ∀ r, A wX 89 r = A w 89 r := fun r => FR.A sX (by simp)
  have X92 : ∀ r, A wX 92 r = A w 92 r := fun r => FR.A sX (by simp)
  have fw7 : FGw p j wX w7 := by
    refine FGw_mk f7 (fun r hr => ?_) (fun r hr => ?_) (fun i hi => ?_) (fun i hi => ?_)
    · rw [hw7, wa_rne (by omega)]
      show A (wa w1 92 p ((W : Nat) : Int)) 89 r = _
      rw [wa_rne (by omega), X89]
      exact so1 r hr
    · rw [hw7, wa_ro (by omega) (by omega), if_neg hr]
      show A (wa w1 92 p ((W : Nat) : Int)) 92 r = _
      rw [wa_ro (by omega) (by omega), if_neg hr, X92]
      exact FR.A f1 (by simp)
    · rw [hw7]
      show (wj (wa w1 92 p ((W : Nat) : Int)) 91 (46000 * p + W) (if C = 0 then xe else mk 7 ((U + 2 * (C - 1) : Nat) : Int))).2.2.2 88 i = _
      rw [wj_22 (by omega), sX.2.2.2 88 (by simp)]
      exact so2 i hi
    · rw [w791, if_neg (by omega)]
  have ls' : lsC (hp w7 p) (hp wX p) U C C xx xe := by rw [hp7, hpX]; exact ls
  have top' : ∀ (x : Int64), x = (if C = 0 then xe else mk 7 ((U + 2 * (C - 1) : Nat) : Int)) → ∀ i, i ≤ W → w7.2.2.2 91 (46000 * p + i) = if i = W then x else wX.2.2.2 91 (46000 * p + i) := fun x hx i hi => by
    rw [w791, ← hx]
    by_cases c : i = W
    · rw [if_pos c, if_pos (by omega)]
    · rw [if_neg c, if_neg (by omega)]
  refine ⟨?_, FR.mo t1 (by simp) (by simp) (by simp) (by simp), wX, sX, fw7, by rw [f7.2.2.1 98 (by simp), sX.2.2.1 98 (by simp)]⟩
  by_cases cl : C = 0
  · have t7' : ∀ i, i ≤ W → m7.2.2.2 (pq p 35) i = if i = W then te else m.2.2.2 (pq p 35) i := fun i hi => by rw [t7 i hi, if_pos cl]
    have is7 : ISb b (m7.2.2.2 (pq p 2)) (U + 2 * C) (hp w7 p) (U + 2 * C) := by
      rw [cl]
      exact ISb_ag plX.1.2.1 t5 ls'.1
    exact ⟨b, PLs_mk plX (fun _ _ _ h => h) t1 t2 t3 (by omega) t7' f7 e89 hU e92 (top' xe (by rw [if_pos cl])) is7 r2⟩
  · have t7' : ∀ i, i ≤ W → m7.2.2.2 (pq p 35) i = if i = W then mk 7 ((U : Nat) : Int) else m.2.2.2 (pq p 35) i := fun i hi => by rw [t7 i hi, if_neg cl]
    obtain ⟨is7, rt7⟩ := pairs_iso (l := C) (h2 := m7.2.2.2 (pq p 2)) (h2' := hp w7 p) (tt := tt) (xx := xx) (te := te) (xe := xe) plX.1.2.1 hU (by omega) t5 t6 ls' r1 r2
    exact ⟨_, PLs_mk plX (fun _ _ _ h => Or.inl h) t1 t2 t3 (by omega) t7' f7 e89 hU e92 (top' _ (by rw [if_neg cl])) is7 rt7⟩
end
