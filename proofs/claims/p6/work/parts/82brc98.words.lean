set_option maxRecDepth 100000
def eqN (sg tx : Nat → Int32) : Nat → Nat → Nat → Bool
  | _, _, 0 => true
  | a, b, m + 1 => decide (sg a = tx b) && eqN sg tx (a + 1) (b + 1) m
def skN (sg tx : Nat → Int32) (fr : Nat → Nat) (b len : Nat) : Nat → Nat → Option Nat
  | _, 0 => none
  | w, m + 1 => if fr (w + 1) - fr w = len ∧ eqN sg tx (fr w) b len = true then some w else skN sg tx fr b len (w + 1) m
def noI (r : Option Nat) : Int32 := match r with
  | some w => Int32.ofNat w
  | none => -1
def WD (u : CS) (v0 s f ns nf : Nat) (sg : Nat → Int32) (fr : Nat → Nat) (n : Nat) : Prop :=
  isO u v0 11 = true ∧ gI u v0 11 2 = some (Int32.ofNat n) ∧ gR u v0 11 0 = some (some s) ∧ gR u v0 11 1 = some (some f) ∧ (∀ j, j < nf → aI u f 4 (Int32.ofNat j) = some (Int32.ofNat (fr j))) ∧ (∀ j, j < ns → aI u s 3 (Int32.ofNat j) = some (sg j)) ∧ (∀ j, j < n → fr j ≤ fr (j + 1)) ∧ (∀ j, j ≤ n → fr j ≤ ns) ∧ n < nf ∧ ns < 100000 ∧ nf < 100000
def TX (u : CS) (t nt : Nat) (tx : Nat → Int32) : Prop := (∀ j, j < nt → aI u t 3 (Int32.ofNat j) = some (tx j)) ∧ nt < 100000
theorem q_add {a b : Nat} : Int32.ofNat a + Int32.ofNat b = Int32.ofNat (a + b) := (Int32.ofNat_add a b).symm
theorem isS_loop {u : CS} {v0 s f ns nf n t nt N w b : Nat} {sg tx : Nat → Int32} {fr : Nat → Nat} (hw : WD u v0 s f ns nf sg fr n) (ht : TX u t nt tx) (hwn : w < n) (hb : b + (fr (w + 1) - fr w) ≤ nt) : ∀ (m p k : Nat), p + m = fr (w + 1) → fr w ≤ p → gg_Wo_isSame N (k + m + 1) u v0 (Int32.ofNat w) (some t) (Int32.ofNat b) (Int32.ofNat (fr w)) (Int32.ofNat p) = some (u, if eqN sg tx p (b + (p - fr w)) m = true then 1 else 0) := by
  obtain ⟨h1, h2, h3, h4, h5, h6, h7, h8, h9, h10, h11⟩ := hw
  obtain ⟨t1, t2⟩ := ht
  have hf := h8 (w + 1) (by omega)
  have e1 : Int32.ofNat w + 1 = Int32.ofNat (w + 1) := q_suc w
  intro m
  induction m with
  | zero =>
    intro p k hp hq
    have e2 : decide (Int32.ofNat (fr (w + 1)) ≤ Int32.ofNat p) = true := decide_eq_true ((q_le (by omega) (by omega)).mpr (by omega))
    show fb_Wo_isSame_12 N (gg_Wo_isSame N (k + 0)) u v0 _ _ _ _ _ = _
    unfold fb_Wo_isSame_12
    rw [h4, q_bo, q_bo, e1, h5 (w + 1) (by omega), q_bo, e2]
    rfl
  | succ m ih =>
    intro p k hp hq
    have e2 : decide (Int32.ofNat (fr (w + 1)) ≤ Int32.ofNat p) = false := decide_eq_false (fun z => absurd ((q_le (by omega) (by omega)).mp z) (by omega))
    have e3 : Int32.ofNat b + Int32.ofNat p - Int32.ofNat (fr w) = Int32.ofNat (b + (p - fr w)) := by
      rw [q_add, q_sub (by omega)]
      congr 1
      omega
    show fb_Wo_isSame_12 N (gg_Wo_isSame N (k + (m + 1))) u v0 _ _ _ _ _ = _
    unfold fb_Wo_isSame_12
    rw [h4, q_bo, q_bo, e1, h5 (w + 1) (by omega), q_bo, e2, h3, q_bo, q_bo, h6 p (by omega), q_bo, q_bo, e3, t1 _ (by omega), q_bo]
    by_cases h : sg p = tx (b + (p - fr w))
    · have i1 := ih (p + 1) k (by omega) (by omega)
      rw [show b + (p + 1 - fr w) = b + (p - fr w) + 1 from by omega] at i1
      simp only [br, h, decide_true, if_true, eqN, Bool.true_and, q_suc]
      exact i1
    · simp only [br, h, decide_false, eqN, Bool.false_and]
      rfl
theorem isS_ok {u : CS} {v0 s f ns nf n t nt N w b : Nat} {sg tx : Nat → Int32} {fr : Nat → Nat} (hw : WD u v0 s f ns nf sg fr n) (ht : TX u t nt tx) (hwn : w < n) (hb : b + (fr (w + 1) - fr w) ≤ nt) (hN : fr (w + 1) - fr w + 1 ≤ N) : fm_Wo_isSame N u v0 (Int32.ofNat w) (some t) (Int32.ofNat b) = some (u, if eqN sg tx (fr w) b (fr (w + 1) - fr w) = true then 1 else 0) := by
  have h7 := hw.2.2.2.2.2.2.1 w hwn
  have h := isS_loop (N := N) hw ht hwn hb (fr (w + 1) - fr w) (fr w) (N - (fr (w + 1) - fr w + 1)) (by omega) (Nat.le_refl _)
  rw [show N - (fr (w + 1) - fr w + 1) + (fr (w + 1) - fr w) + 1 = N from by omega, Nat.sub_self, Nat.add_zero] at h
  obtain ⟨h1, h2, h3, h4, h5, -, -, -, h9, -⟩ := hw
  unfold fm_Wo_isSame fb_Wo_isSame_0
  rw [h4, q_bo, q_bo, h5 w (by omega), q_bo]
  exact h
theorem seek_loop {u : CS} {v0 s f ns nf n t nt N b len : Nat} {sg tx : Nat → Int32} {fr : Nat → Nat} (hw : WD u v0 s f ns nf sg fr n) (ht : TX u t nt tx) (hb : b + len ≤ nt) (hN : len + 1 ≤ N) : ∀ (m w k : Nat), w + m = n → gg_Wo_seek N (k + m + 1) u v0 (some t) (Int32.ofNat b) (Int32.ofNat len) (Int32.ofNat w) = some (u, noI (skN sg tx fr b len w m)) := by
  have hw0 := hw
  obtain ⟨h1, h2, h3, h4, h5, h6, h7, h8, h9, h10, h11⟩ := hw
  have ht2 := ht.2
  intro m
  induction m with
  | zero =>
    intro w k hp
    have e2 : decide (Int32.ofNat n ≤ Int32.ofNat w) = true := decide_eq_true ((q_le (by omega) (by omega)).mpr (by omega))
    show fb_Wo_seek_3 N (gg_Wo_seek N (k + 0)) u v0 _ _ _ _ = _
    unfold fb_Wo_seek_3
    rw [h2, q_bo, e2]
    rfl
  | succ m ih =>
    intro w k hp
    have e2 : decide (Int32.ofNat n ≤ Int32.ofNat w) = false := decide_eq_false (fun z => absurd ((q_le (by omega) (by omega)).mp z) (by omega))
    have hm := h7 w (by omega)
    have hq := h8 (w + 1) (by omega)
    have i1 := ih (w + 1) k (by omega)
    have e4 : fb_Wo_seek_47 N (gg_Wo_seek N (k + (m + 1))) u v0 (some t) (Int32.ofNat b) (Int32.ofNat len) (Int32.ofNat w) = some (u, noI (skN sg tx fr b len (w + 1) m)) := by
      unfold fb_Wo_seek_47
      rw [q_suc]
      exact i1
    show fb_Wo_seek_3 N (gg_Wo_seek N (k + (m + 1))) u v0 _ _ _ _ = _
    unfold fb_Wo_seek_3
    rw [h2, q_bo, e2, h4, q_bo, q_bo, q_suc, h5 (w + 1) (by omega), q_bo, q_bo, q_bo, h5 w (by omega), q_bo, q_sub hm, q_ck h1, e4]
    by_cases h : fr (w + 1) - fr w = len
    · have i2 := isS_ok (N := N) (b := b) (w := w) hw0 ht (by omega) (by omega) (by omega)
      rw [i2, q_bx]
      have e5 : decide (Int32.ofNat (fr (w + 1) - fr w) = Int32.ofNat len) = true := decide_eq_true (by rw [h])
      rw [e5]
      by_cases h9 : eqN sg tx (fr w) b (fr (w + 1) - fr w) = true
      · have e6 : skN sg tx fr b len w (m + 1) = some w := if_pos ⟨h, by rw [← h]; exact h9⟩
        rw [if_pos h9, e6]
        rfl
      · have e6 : skN sg tx fr b len w (m + 1) = skN sg tx fr b len (w + 1) m := if_neg (fun z => h9 (by rw [h]; exact z.2))
        rw [if_neg h9, e6]
        exact e4
    · have e5 : decide (Int32.ofNat (fr (w + 1) - fr w) = Int32.ofNat len) = false := decide_eq_false (fun z => h (by
        have := congrArg Int32.toNatClampNeg z
        rw [q_nat (by omega), q_nat (by omega)] at this
        exact this))
      have e6 : skN sg tx fr b len w (m + 1) = skN sg tx fr b len (w + 1) m := if_neg (fun z => h z.1)
      rw [e5, e6]
      rfl
theorem seek_ok {u : CS} {v0 s f ns nf n t nt N b len : Nat} {sg tx : Nat → Int32} {fr : Nat → Nat} (hw : WD u v0 s f ns nf sg fr n) (ht : TX u t nt tx) (hb : b + len ≤ nt) (hN : len + 1 ≤ N) (hN2 : n + 1 ≤ N) : fm_Wo_seek N u v0 (some t) (Int32.ofNat b) (Int32.ofNat len) = some (u, noI (skN sg tx fr b len 0 n)) := by
  have h := seek_loop (N := N) hw ht hb hN n 0 (N - (n + 1)) (by omega)
  rw [show N - (n + 1) + n + 1 = N from by omega] at h
  exact h
