/-! a text is shown: there, here -/
set_option maxRecDepth 100000
/-- what has been shown is alike -/
def SHW (m w : MS) : Prop := m.1 9 = w.1 130 ∧ (0 ≤ F m 9 ∧ F m 9 ≤ 100) ∧ ∀ i : Nat, ((i : Nat) : Int) < F m 9 → m.2.2.1 56 i = w.2.2.1 129 i
/-- a text has been shown: there, here -/
def SHm (T : List Int32) (m2 : MS) (r : Int32) : Prop := m2.1 9 = I ((min T.length 100 : Nat) : Int) ∧ r = m2.1 9 ∧ ∀ i, i < min T.length 100 → m2.2.2.1 56 i = byS8 (T.getD i 0)
def SHr (T : List Int32) (w2 : MS) (s : Int32) : Prop := w2.1 130 = I ((min T.length 100 : Nat) : Int) ∧ s = w2.1 130 ∧ ∀ i, i < min T.length 100 → w2.2.2.1 129 i = byS8 (T.getD i 0)
section
variable {h : Nat → Int64} {Fv Fv' : Int64 → Int64 → Prop} {P P' : Int64 → Prop} {N p q k z : Nat} {m w w0 m2 w2 : MS} {t x : Int64} {T : List Int32} {r s : Int32}
theorem SH_eq (a : SHm T m2 r) (b : SHr T w2 s) : r = s ∧ SHW m2 w2 := by
  obtain ⟨a1, a2, a3⟩ := a
  obtain ⟨b1, b2, b3⟩ := b
  have f9 : F m2 9 = ((min T.length 100 : Nat) : Int) := by
    unfold F
    rw [a1]
    exact I_ti (by omega) (by omega)
  refine ⟨by rw [a2, b2, a1, b1], by rw [a1, b1], by omega, fun i hi => ?_⟩
  rw [a3 i (by omega), b3 i (by omega)]
theorem bl56 : bl 56 = 100 := rfl
theorem show_m (hA : WDc m 1) (hh : m.2.2.2 (pq p 2) = h) (y : SZp h (LFs (F m 22)) k t z) (hz : z ≤ 1020) : PK (fun m2 r => SHm (TXs h (ATc m) t) m2 r) (bnd (hm_Te_text N m (pq p 2) t 56 0) (fun u5 r5 => lt (upI u5 9 r5) (fun w7 => some (w7, (w7.1 9))))) := by
  refine pk_bnd (pk_mo (text_s (N := N) (j := 56) (fr := 0) (b := pq p 2) hA (fun c => pq_n (by omega) c.symm) hh y hz (Or.inr rfl) (by rw [bl56]; omega)) (fun m5 r hr => ?_))
  obtain ⟨f5, rfl, h1, h2⟩ := hr
  refine pk_lt (pk_some ⟨upI_at, rfl, fun i hi => ?_⟩)
  have := h1 i hi
  rw [Nat.zero_add] at this
  exact this
/-- what has been written is copied, here -/
theorem shc_lp (h144 : F w0 144 = ((min T.length 100 : Nat) : Int)) (h143 : ∀ k, k < min T.length 100 → w0.2.2.1 143 k = byS8 (T.getD k 0)) : ∀ (M i : Nat) (w : MS), i ≤ min T.length 100 → FR [] [] [129] [] w0 w → (∀ k, k < i → w.2.2.1 129 k = byS8 (T.getD k 0)) → PK (fun w2 s => SHr T w2 s) ((gg_M_show N M).2 w (I ((i : Nat) : Int)))
  | 0, _, _, _, _, _ => pk_none
  | M + 1, i, w, hi, f, h129 => by
    show PK _ (fb_M_show_263 N (gg_M_show N M) w (I ((i : Nat) : Int)))
    unfold fb_M_show_263
    have e144 : F w 144 = ((min T.length 100 : Nat) : Int) := by rw [FR.F f (by simp)]; exact h144
    rw [I_F' e144, decI (by omega) (by omega) (by omega) (by omega)]
    by_cases c : min T.length 100 ≤ i
    · have ei : i = min T.length 100 := by omega
      rw [show decide (((min T.length 100 : Nat) : Int) ≤ ((i : Nat) : Int)) = true from decide_eq_true (by omega), br_t]
      exact pk_lt (pk_some ⟨upI_at, rfl, fun k hk => h129 k (by omega)⟩)
    · rw [show decide (((min T.length 100 : Nat) : Int) ≤ ((i : Nat) : Int)) = false from decide_eq_false (by omega), br_f]
      refine pk_ck (fun _ => pk_ck (fun _ => ?_))
      rw [tnI (n := i) rfl (by omega), show w.2.2.1 143 i = byS8 (T.getD i 0) from by rw [f.2.2.1 143 (by simp)]; exact h143 i (by omega), nar_by, lt_e, show I ((i : Nat) : Int) + 1 = I ((i + 1 : Nat) : Int) from addN]
      refine shc_lp h144 h143 M (i + 1) _ (by omega) ⟨f.1, f.2.1, fun k hk => (upA_no (fun c => hk (by simp [c]))).trans (f.2.2.1 k hk), f.2.2.2⟩ (fun k hk => ?_)
      rw [upA_at]
      by_cases c2 : k = i
      · subst c2; rw [upd_at]
      · rw [upd_no c2]; exact h129 k (by omega)
theorem show_r (hp1 : p < 25) (hA : ATM w) (y : SZp (hp w p) (LFr (F w 14)) k x z) (hz : z ≤ 1000) : PK (fun w2 s => SHr (TXs (hp w p) (ATr w) x) w2 s) (fb_M_show_257 N (gg_M_show N N) w (I ((p : Nat) : Int)) x) := by
  obtain ⟨T, eT⟩ : ∃ T, TXs (hp w p) (ATr w) x = T := ⟨_, rfl⟩
  rw [eT]
  unfold fb_M_show_257 fm_M_write fb_M_write_0 fb_M_write_30
  rw [lit0, wi_e, lt_e]
  have o0 : OUr w (wi w 144 0) [] := ⟨FR.wi FR.rf (by simp), wi_sm (by omega) (by omega), fun i hi => by simp at hi⟩
  have e14 : F (wi w 144 0) 14 = F w 14 := wi_ne (by omega)
  have y2 : SZp (hp w p) (LFr (F (wi w 144 0) 14)) k x z := by rw [e14]; exact y
  have hA2 : ATM (wi w 144 0) := by
    unfold ATM at hA ⊢
    rw [e14]
    exact hA
  refine pk_bnd (pk_bnd (pk_mo (writeOn_r (N := N) (p := p) (m0 := w) (h := hp w p) hp1 rfl hA2 (by simp) o0 y2 hz) (fun w5 _ h => ?_)))
  have eA : ATr (wi w 144 0) = ATr w := rfl
  rw [eA, eT] at h
  obtain ⟨L, ⟨f, o2, o3⟩, h1, ⟨X, hX⟩, c⟩ := h
  simp only [List.nil_append] at hX c
  have lm : min L.length 100 = min T.length 100 := by
    rcases c with c | c
    · rw [c]
    · rw [hX]; simp; omega
  have row : ∀ k, k < min T.length 100 → w5.2.2.1 143 k = byS8 (T.getD k 0) := fun k hk => by
    rw [o3 k (by omega)]
    rw [hX]
    simp only [List.getD_eq_getElem?_getD]
    rw [List.getElem?_append_left (by omega)]
  have fin : ∀ v : Int, v = ((min T.length 100 : Nat) : Int) → PK (fun w2 s => SHr T w2 s) ((gg_M_show N N).2 (wi w5 144 v) (I ((0 : Nat) : Int))) := fun v hv => by
    subst hv
    exact shc_lp (N := N) (w0 := wi w5 144 ((min T.length 100 : Nat) : Int)) (wi_sm (by omega) (by omega)) row N 0 _ (by omega) FR.rf (fun k hk => absurd hk (Nat.not_lt_zero _))
  rw [I_F' o2, show (100 : Int32) = I 100 from rfl, decI (by omega) (by omega) (by omega) (by omega)]
  by_cases e : ((L.length : Nat) : Int) ≤ 100
  · rw [decide_eq_true e, br_t, wi_e, lt_e]
    exact pk_some (fin _ (by omega))
  · rw [decide_eq_false e, br_f, wi_e, lt_e]
    exact pk_some (fin _ (by omega))
/-- the text of a REASON is copied, here -/
theorem shz_lp (hq : q < 24) (h132 : A w0 132 q = ((min T.length 100 : Nat) : Int)) (h131 : ∀ k, k < min T.length 100 → w0.2.2.1 131 (100 * q + k) = byS8 (T.getD k 0)) : ∀ (M i : Nat) (w : MS), i ≤ min T.length 100 → FR [] [] [129] [] w0 w → (∀ k, k < i → w.2.2.1 129 k = byS8 (T.getD k 0)) → PK (fun w2 s => SHr T w2 s) ((gg_M_show N M).1 w (I ((q : Nat) : Int)) (I ((i : Nat) : Int)))
  | 0, _, _, _, _, _ => pk_none
  | M + 1, i, w, hi, f, h129 => by
    show PK _ (fb_M_show_43 N (gg_M_show N M) w (I ((q : Nat) : Int)) (I ((i : Nat) : Int)))
    unfold fb_M_show_43
    have e132 : A w 132 q = ((min T.length 100 : Nat) : Int) := by rw [FR.A f (by simp)]; exact h132
    refine pk_ck (fun _ => ?_)
    rw [tnI (n := q) rfl (by omega), I_A' e132, decI (by omega) (by omega) (by omega) (by omega)]
    by_cases c : min T.length 100 ≤ i
    · have ei : i = min T.length 100 := by omega
      rw [show decide (((min T.length 100 : Nat) : Int) ≤ ((i : Nat) : Int)) = true from decide_eq_true (by omega), br_t]
      exact pk_ck (fun _ => pk_lt (pk_some ⟨upI_at, rfl, fun k hk => h129 k (by omega)⟩))
    · rw [show decide (((min T.length 100 : Nat) : Int) ≤ ((i : Nat) : Int)) = false from decide_eq_false (by omega), br_f]
      refine pk_ck (fun _ => pk_ck (fun _ => ?_))
      have ix : (100 * I ((q : Nat) : Int) + I ((i : Nat) : Int)).toNatClampNeg = 100 * q + i := by
        rw [show (100 : Int32) = I 100 from rfl, I_mul, I_add]
        exact tnI (n := 100 * q + i) (by omega) (by omega)
      rw [ix, tnI (n := i) rfl (by omega), show w.2.2.1 131 (100 * q + i) = byS8 (T.getD i 0) from by rw [f.2.2.1 131 (by simp)]; exact h131 i (by omega), nar_by, lt_e, show I ((i : Nat) : Int) + 1 = I ((i + 1 : Nat) : Int) from addN]
      refine shz_lp hq h132 h131 M (i + 1) _ (by omega) ⟨f.1, f.2.1, fun k hk => (upA_no (fun c => hk (by simp [c]))).trans (f.2.2.1 k hk), f.2.2.2⟩ (fun k hk => ?_)
      rw [upA_at]
      by_cases c2 : k = i
      · subst c2; rw [upd_at]
      · rw [upd_no c2]; exact h129 k (by omega)
end
