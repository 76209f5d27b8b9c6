/-! the tables of a text, both: what FUNCTIONS and funs do -/
set_option maxRecDepth 100000
/-- behind calls(): rows, no matter what ints -/
def CLRz (w : MS) (cvr fof : Int → Int → Int) (Y : MS) (n : Nat) : Prop := (∀ k, k ≠ 27 → Y.2.2.1 k = w.2.2.1 k) ∧ Y.2.2.2 = w.2.2.2 ∧ Y.1 52 = w.1 52 ∧ ∀ i, i < n → (w.2.2.1 23 i = 12 → Y.2.2.1 27 i = I (cvr (A w 25 i) (A w 26 i))) ∧ (w.2.2.1 23 i = 15 → Y.2.2.1 27 i = I (fof (A w 25 i) (A w 26 i))) ∧ (w.2.2.1 23 i ≠ 12 → w.2.2.1 23 i ≠ 15 → Y.2.2.1 27 i = w.2.2.1 27 i)
section
variable {m0 w0 m w v Y X : MS} {N T p q n g j k a G : Nat} {Q : Nat → Nat} {nm : Nat → Nat} {fof cvr : Int → Int → Int} {r : Int32} {z : Unit}
theorem grp_ro (h : grp k ∈ [32, 39, 46, 56, 58]) : (23 ≤ k ∧ k ≤ 31) ∨ (33 ≤ k ∧ k ≤ 38) ∨ (40 ≤ k ∧ k ≤ 45) ∨ (53 ≤ k ∧ k ≤ 55) ∨ k = 57 := by
  unfold grp at h
  by_cases h1 : 23 ≤ k ∧ k ≤ 31
  · exact Or.inl h1
  · rw [if_neg h1] at h
    by_cases h2 : 33 ≤ k ∧ k ≤ 38
    · exact Or.inr (Or.inl h2)
    · rw [if_neg h2] at h
      by_cases h3 : 40 ≤ k ∧ k ≤ 45
      · exact Or.inr (Or.inr (Or.inl h3))
      · rw [if_neg h3] at h
        by_cases h4 : 53 ≤ k ∧ k ≤ 55
        · exact Or.inr (Or.inr (Or.inr (Or.inl h4)))
        · rw [if_neg h4] at h
          by_cases h5 : k = 57
          · exact Or.inr (Or.inr (Or.inr (Or.inr h5)))
          · rw [if_neg h5] at h
            exfalso
            split at h
            · exact absurd h (by decide)
            · split at h
              · exact absurd h (by decide)
              · split at h
                · exact absurd h (by decide)
                · exact absurd h (by decide)
theorem ROs_y (h : k = 8 ∨ k = 18 ∨ k = 19 ∨ (23 ≤ k ∧ k ≤ 31) ∨ (33 ≤ k ∧ k ≤ 45) ∨ (47 ≤ k ∧ k ≤ 57)) : ROs Y k n = A Y k n := if_pos h
theorem CLRz_of (h : CLX X cvr fof Y n) (e : X.2 = w.2) (e52 : X.1 52 = w.1 52) : CLRz w cvr fof Y n := by
  obtain ⟨x1, x2⟩ := X
  obtain ⟨w1, w2⟩ := w
  have e : x2 = w2 := e
  subst e
  exact ⟨h.1.2.1, h.2.1.1, (h.1.1 52 (by decide) (by decide)).trans e52, h.2.2⟩
/-- rows at the very end -/
theorem FNx_top (hR : XRn w0 T w p Q) (hK : CLRz w cvr fof Y n) (h32 : w.1 32 = I (n : Nat)) (hn : n ≤ 100000) (hc : ∀ x y, -2147483648 ≤ cvr x y ∧ cvr x y < 2147483648) (hf : ∀ x y, -2147483648 ≤ fof x y ∧ fof x y < 2147483648) : FNx w0 fof cvr (A m 23) (A m) (ROs Y) (Y.2.2.2 34) m w 1 a 0 q Q00 Q false [] [] [] := by
  obtain ⟨k2, l1, -, d⟩ := hK
  have q32 : Q 32 = n := by
    have e := hR.2.2.2.2 32 (by decide)
    have := (I_eq (x := (Q 32 : Nat)) (y := (n : Nat)) (by omega) (by omega) (by omega) (by omega)).mp (e.1.symm.trans h32)
    omega
  have yA : ∀ k n, k ≠ 27 → A Y k n = A w k n := fun k n hk => by
    show (Y.2.2.1 k n).toInt = _
    rw [k2 k hk]; rfl
  have y23 : ∀ n, ROs Y 23 n = A w 23 n := fun n => by rw [ROs_y (by omega), yA 23 n (by decide)]
  have cI : ∀ (c : Int) (i : Nat), -2147483648 ≤ c → c < 2147483648 → (A w 23 i = c ↔ w.2.2.1 23 i = I c) := fun c i h1 h2 => by
    constructor
    · intro e
      exact (I_of _).trans (congrArg I e)
    · intro e
      show (w.2.2.1 23 i).toInt = c
      rw [e]; exact I_ti h1 h2
  refine ⟨fun k _ _ _ => rfl, fun _ _ _ _ _ _ => rfl, fun k i hk => ?_, ⟨fun k i h1 h2 h3 h4 hg _ _ _ => ?_, fun i _ hi h1 h2 => ?_, fun i _ _ => ?_, fun i _ _ => by rw [l1]⟩, fun i _ hi => ⟨fun h => ?_, fun h => ?_⟩⟩
  · rw [ROs_y (by omega), yA k i (by omega)]
    show (w.2.2.1 k i).toInt = (w0.2.2.1 k i).toInt
    rw [hR.1.2 k (by unfold TRW; rcases hk with rfl | rfl | rfl <;> decide)]
  · have := grp_ro hg
    rw [ROs_y (by omega), yA k i h1]
  · rw [y23] at h1 h2
    rw [ROs_y (by omega)]
    show (Y.2.2.1 27 i).toInt = (w.2.2.1 27 i).toInt
    rw [(d i (by omega)).2.2 (fun e => h1 ((cI 12 i (by decide) (by decide)).mpr e)) (fun e => h2 ((cI 15 i (by decide) (by decide)).mpr e))]
  · rw [if_neg (fun h => by cases h.1), ROs_y (by omega), yA 30 i (by decide)]
  · rw [y23] at h
    rw [ROs_y (by omega), ROs_y (by omega), ROs_y (by omega), yA 25 i (by decide), yA 26 i (by decide)]
    show (Y.2.2.1 27 i).toInt = _
    rw [(d i (by omega)).1 ((cI 12 i (by decide) (by decide)).mp h)]
    exact I_ti (hc _ _).1 (hc _ _).2
  · rw [y23] at h
    rw [ROs_y (by omega), ROs_y (by omega), ROs_y (by omega), yA 25 i (by decide), yA 26 i (by decide)]
    show (Y.2.2.1 27 i).toInt = _
    rw [(d i (by omega)).2.1 ((cI 15 i (by decide) (by decide)).mp h)]
    exact I_ti (hf _ _).1 (hf _ _).2
/-- the tables -/
theorem tabs_x (hP : PGZ m0 w0 T nm fof cvr G q m r w z) (hK : CLRz w cvr fof Y n) (h32 : w.1 32 = I (n : Nat)) (hn : n ≤ 100000) (hc : ∀ x y, -2147483648 ≤ cvr x y ∧ cvr x y < 2147483648) (hf : ∀ x y, -2147483648 ≤ fof x y ∧ fof x y < 2147483648) (h442 : m0.1 442 = I (G : Nat)) (hG : G ≤ 666) (h449 : m0.1 449 = I (q : Nat)) (hq : q ≤ 400) : (FTs m Y ∧ FAr m Y ∧ FUs m Y) ∧ F m 442 = F Y 52 := by
  obtain ⟨a, Q, fr, -, -, ⟨-, i449⟩, ⟨hR, -⟩, h52, hM⟩ := hP
  obtain ⟨o1, o2⟩ := hM _ _ _ _ (FNx_top (m := m) (a := a) (q := q) hR hK h32 hn hc hf)
  have f442 : F m 442 = ((G : Nat) : Int) := by
    unfold F
    rw [fr.1 442 (by omega), h442]
    exact I_ti (by omega) (by omega)
  have f449 : F m 449 = ((q : Nat) : Int) := by
    unfold F
    rw [i449, h449]
    exact I_ti (by omega) (by omega)
  have yA : ∀ k n, k ≠ 27 → A Y k n = A w k n := fun k n hk => by
    show (Y.2.2.1 k n).toInt = _
    rw [hK.1 k hk]; rfl
  have tA : ∀ {v : MS} {k i : Nat} {x : Nat}, v.2.2.1 k i = I (x : Nat) → x < 100000 → A v k i = ((x : Nat) : Int) := fun {v k i x} e hx => by
    show (v.2.2.1 k i).toInt = _
    rw [e]; exact I_ti (by omega) (by omega)
  refine ⟨⟨fun f hf => ?_, fun f hf => ?_, fun u hu => ?_⟩, ?_⟩
  · rw [f442] at hf
    obtain ⟨e, k1, x1, x2, x3, x4, x5, g2, x6⟩ := o2 f (by omega)
    exact ⟨by omega, e, k1, tA x1 (by omega), by rw [yA 50 f (by decide)]; exact tA x3 (by omega), g2, g2, x6⟩
  · rw [f442] at hf
    obtain ⟨e, k1, x1, x2, x3, x4, x5, -⟩ := o2 f (by omega)
    rw [yA 48 f (by decide)]
    show (m.2.2.1 25 f).toInt = (w.2.2.1 48 f).toInt
    rw [x5, fr.2 25 (by omega)]
  · rw [f449] at hu
    have hu' : u < q := by omega
    obtain ⟨ar, e, ad, L, c, H, y1, y2, y3, y4, y5, y6, y7, y8, y9, y10, y11, y12, y13⟩ := o1 u hu'
    rw [ROs_y (by omega)] at y9 y11 y12
    exact ⟨by omega, ar, e, ad, L, c, H, y1, y2, y3, y4, y5, y6, y7, y8, y9, y10, y11, y12, y13⟩
  · rw [f442]
    unfold F
    rw [hK.2.2.1, h52]
    exact (I_ti (by omega) (by omega)).symm
end
