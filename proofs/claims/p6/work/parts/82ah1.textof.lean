def TBX (u : MS) (r1 many : Nat) : Prop := many ≤ 2198 ∧ ∀ k, k ≤ many → 0 ≤ A u r1 k ∧ A u r1 k ≤ 5000 ∧ (k < many → A u r1 k ≤ A u r1 (k + 1))
def TSM (u : MS) (r0 r1 r3 k bg len : Nat) : Prop := A u r1 (k + 1) - A u r1 k = len ∧ ∀ i, i < len → u.2.2.1 r0 ((A u r1 k).toNat + i) = u.2.2.1 r3 (bg + i)
def TXN (u : MS) (r0 r1 r3 many bg len : Nat) (v : MS) : Prop := FR [] [] [r0, r1] [] u v ∧ (∀ j, j ≠ many + 1 → A v r1 j = A u r1 j) ∧ A v r1 (many + 1) = A u r1 many + len ∧ (∀ i, i < len → v.2.2.1 r0 ((A u r1 many).toNat + i) = vp_nar .byte (u.2.2.1 r3 (bg + i))) ∧ ∀ j : Nat, (j : Int) < A u r1 many → v.2.2.1 r0 j = u.2.2.1 r0 j
def TXQ (u : MS) (r0 r1 r3 many bg len : Nat) (v : MS) (r : Int32) : Prop := (∃ k, k < many ∧ v = u ∧ r = I k ∧ TSM u r0 r1 r3 k bg len) ∨ (r = I many ∧ (∀ k, k < many → ¬ TSM u r0 r1 r3 k bg len) ∧ TXN u r0 r1 r3 many bg len v)
section
variable {u v : MS} {N r0 r1 r3 many bg len L3 : Nat}
theorem tx_copy (h1 : isK r1 4 = true ∧ ln r1 = 2200) (h0 : isK r0 3 = true ∧ ln r0 = 5000) (h3 : isK r3 3 = true ∧ ln r3 = L3 ∧ L3 < 100000) (hne : r0 ≠ r1 ∧ r3 ≠ r0 ∧ r3 ≠ r1) (tx : TBX u r1 many) (hb : bg + len ≤ L3) (hs : A u r1 many + len ≤ 5000) : ∀ (d i : Nat) (v : MS) (m : Nat), i + d = len → d + 1 ≤ m → FR [] [] [r0] [] u v → (∀ j, j < i → v.2.2.1 r0 ((A u r1 many).toNat + j) = vp_nar .byte (u.2.2.1 r3 (bg + j))) → (∀ j : Nat, (j : Int) < A u r1 many → v.2.2.1 r0 j = u.2.2.1 r0 j) → OK (fun w r => r = I many ∧ TXN u r0 r1 r3 many bg len w) ((gg_M_textOf N m).2.2 v r0 r1 (I many) r3 (I bg) (I len) (I i)) := by
  obtain ⟨t1, t2⟩ := tx
  have tm := t2 many (Nat.le_refl _)
  have em : (I ((many : Nat) : Int)).toNatClampNeg = many := by rw [I_tn (by omega) (by omega)]; omega
  have em1 : I (many : Int) + 1 = I ((many + 1 : Nat) : Int) := by rw [lit1q, I_add]; rfl
  have em2 : (I ((many + 1 : Nat) : Int)).toNatClampNeg = many + 1 := by rw [I_tn (by omega) (by omega)]; omega
  intro d
  induction d with
  | zero =>
    intro i v m hi hm f1 f2 f3
    obtain ⟨m', rfl⟩ : ∃ m', m = m' + 1 := ⟨m - 1, by omega⟩
    show OK _ (fb_M_textOf_96 N (gg_M_textOf N m') v r0 r1 (I many) r3 (I bg) (I len) (I i))
    unfold fb_M_textOf_96
    have v1 : v.2.2.1 r1 many = I (A u r1 many) := by
      rw [I_A]; congr 1; exact f1.A (by simpa using Ne.symm hne.1)
    refine k_le (x := (len : Int)) (y := (i : Int)) ⟨by omega, by omega⟩ ⟨by omega, by omega⟩ (fun _ => ?_) (fun y => by omega)
    rw [em1]
    refine ok_ck.mpr ⟨h1.1, k_in (n := 2200) h1.2 (by decide) (by omega) (ok_ck.mpr ⟨h1.1, k_in (n := 2200) h1.2 (by decide) (by omega) (ok_lt.mpr (ok_some.mpr ⟨rfl, ?_⟩))⟩)⟩
    rw [em, em2, v1, I_add, wa_e]
    have ry : RG (A u r1 many + len) := ⟨by omega, by omega⟩
    refine ⟨FR.wa (FR.mo f1 (by simp) (by simp) (by intro k hk; simp at hk; simp [hk]) (by simp)) (by simp), fun j hj => ?_, wa_eq ry, fun j hj => ?_, fun j hj => ?_⟩
    · rw [wa_ne hj]; exact f1.A (by simpa using Ne.symm hne.1)
    · show (if r0 = r1 then _ else v.2.2.1 r0) _ = _
      rw [if_neg hne.1]; exact f2 j (by omega)
    · show (if r0 = r1 then _ else v.2.2.1 r0) _ = _
      rw [if_neg hne.1]; exact f3 j hj
  | succ d ih =>
    intro i v m hi hm f1 f2 f3
    obtain ⟨m', rfl⟩ : ∃ m', m = m' + 1 := ⟨m - 1, by omega⟩
    show OK _ (fb_M_textOf_96 N (gg_M_textOf N m') v r0 r1 (I many) r3 (I bg) (I len) (I i))
    unfold fb_M_textOf_96
    have v1 : v.2.2.1 r1 many = I (A u r1 many) := by
      rw [I_A]; congr 1; exact f1.A (by simpa using Ne.symm hne.1)
    have v3 : ∀ j, v.2.2.1 r3 j = u.2.2.1 r3 j := fun j => by
      have := f1.2.2.1 r3 (by simpa using hne.2.1)
      rw [this]
    have e1 : I (bg : Int) + I (i : Int) = I ((bg + i : Nat) : Int) := by rw [I_add]; congr 1
    have e2 : v.2.2.1 r1 (I ((many : Nat) : Int)).toNatClampNeg + I (i : Int) = I (A u r1 many + i) := by rw [em, v1, I_add]
    have e3 : I (i : Int) + 1 = I ((i + 1 : Nat) : Int) := by rw [lit1q, I_add]; rfl
    have ebi : (I ((bg + i : Nat) : Int)).toNatClampNeg = bg + i := by rw [I_tn (by omega) (by omega)]; omega
    have eai : (I (A u r1 many + i)).toNatClampNeg = (A u r1 many).toNat + i := by rw [I_tn (by omega) (by omega)]; omega
    refine k_le (x := (len : Int)) (y := (i : Int)) ⟨by omega, by omega⟩ ⟨by omega, by omega⟩ (fun y => by omega) (fun _ => ?_)
    rw [e1, e2, e3, ebi, eai]
    refine ok_ck.mpr ⟨h1.1, k_in (n := 2200) h1.2 (by decide) (by omega) (ok_ck.mpr ⟨h3.1, k_in (n := L3) h3.2.1 (by omega) (by omega) (ok_ck.mpr ⟨h0.1, k_in (n := 5000) h0.2 (by decide) (by omega) (ok_lt.mpr ?_)⟩)⟩)⟩
    rw [v3]
    refine ih (i + 1) _ m' (by omega) (by omega) ?_ (fun j hj => ?_) (fun j hj => ?_)
    · rw [I_of (vp_nar .byte (u.2.2.1 r3 (bg + i))), wa_e]
      exact FR.wa f1 (by simp)
    · show (if r0 = r0 then upd (v.2.2.1 r0) _ _ else v.2.2.1 r0) _ = _
      rw [if_pos rfl]
      show (if (A u r1 many).toNat + j = (A u r1 many).toNat + i then _ else _) = _
      by_cases z : j = i
      · rw [if_pos (by omega), z]
      · rw [if_neg (by omega)]; exact f2 j (by omega)
    · show (if r0 = r0 then upd (v.2.2.1 r0) _ _ else v.2.2.1 r0) _ = _
      rw [if_pos rfl]
      show (if j = (A u r1 many).toNat + i then _ else _) = _
      rw [if_neg (by omega)]; exact f3 j hj
theorem tx_cmp {k m0 : Nat} (h1 : isK r1 4 = true ∧ ln r1 = 2200) (h0 : isK r0 3 = true ∧ ln r0 = 5000) (h3 : isK r3 3 = true ∧ ln r3 = L3 ∧ L3 < 100000) (tx : TBX u r1 many) (hk : k < many) (hb : bg + len ≤ L3) (hl : len ≤ 5000) (hO : ¬ TSM u r0 r1 r3 k bg len → ∀ m, m0 ≤ m → OK (TXQ u r0 r1 r3 many bg len) ((gg_M_textOf N m).1 u r0 r1 (I many) r3 (I bg) (I len) (I ((k + 1 : Nat) : Int)))) : ∀ (d i : Nat) (s : Int32) (m : Nat), i + d = len → m0 + d + 1 ≤ m → ((s = 0 ∧ ¬ TSM u r0 r1 r3 k bg len) ∨ (s = 1 ∧ A u r1 (k + 1) - A u r1 k = len ∧ ∀ j, j < i → u.2.2.1 r0 ((A u r1 k).toNat + j) = u.2.2.1 r3 (bg + j))) → OK (TXQ u r0 r1 r3 many bg len) ((gg_M_textOf N m).2.1 u r0 r1 (I many) r3 (I bg) (I len) (I k) s (I i)) := by
  obtain ⟨t1, t2⟩ := tx
  have tk := t2 k (by omega)
  have tk1 := t2 (k + 1) (by omega)
  have ek : (I ((k : Nat) : Int)).toNatClampNeg = k := by rw [I_tn (by omega) (by omega)]; omega
  have ek1 : I (k : Int) + 1 = I ((k + 1 : Nat) : Int) := by rw [lit1q, I_add]; rfl
  intro d
  induction d with
  | zero =>
    intro i s m hi hm hs
    obtain ⟨m', rfl⟩ : ∃ m', m = m' + 1 := ⟨m - 1, by omega⟩
    show OK _ (fb_M_textOf_35 N (gg_M_textOf N m') u r0 r1 (I many) r3 (I bg) (I len) (I k) s (I i))
    unfold fb_M_textOf_35 fb_M_textOf_79
    refine k_le (x := (len : Int)) (y := (i : Int)) ⟨by omega, by omega⟩ ⟨by omega, by omega⟩ (fun _ => ?_) (fun y => by omega)
    rcases hs with ⟨hs, hn⟩ | ⟨hs, hl2, ha⟩
    · rw [hs, br00, ek1]; exact hO hn m' (by omega)
    · rw [hs, br10]
      exact ok_some.mpr (Or.inl ⟨k, hk, rfl, rfl, hl2, fun j hj => ha j (by omega)⟩)
  | succ d ih =>
    intro i s m hi hm hs
    obtain ⟨m', rfl⟩ : ∃ m', m = m' + 1 := ⟨m - 1, by omega⟩
    show OK _ (fb_M_textOf_35 N (gg_M_textOf N m') u r0 r1 (I many) r3 (I bg) (I len) (I k) s (I i))
    unfold fb_M_textOf_35 fb_M_textOf_79
    refine k_le (x := (len : Int)) (y := (i : Int)) ⟨by omega, by omega⟩ ⟨by omega, by omega⟩ (fun y => by omega) (fun _ => ?_)
    rcases hs with ⟨hs, hn⟩ | ⟨hs, hl2, ha⟩
    · rw [hs, br00, br00, ek1]; exact hO hn m' (by omega)
    · rw [hs, br10]
      have e1 : I (bg : Int) + I (i : Int) = I ((bg + i : Nat) : Int) := by rw [I_add]; congr 1
      have e2 : u.2.2.1 r1 (I ((k : Nat) : Int)).toNatClampNeg + I (i : Int) = I (A u r1 k + i) := by rw [ek, I_A, I_add]
      have e3 : I (i : Int) + 1 = I ((i + 1 : Nat) : Int) := by rw [lit1q, I_add]; rfl
      have ebi : (I ((bg + i : Nat) : Int)).toNatClampNeg = bg + i := by rw [I_tn (by omega) (by omega)]; omega
      have eai : (I (A u r1 k + i)).toNatClampNeg = (A u r1 k).toNat + i := by rw [I_tn (by omega) (by omega)]; omega
      unfold fb_M_textOf_71
      rw [e1, e2, e3, ebi, eai]
      refine ok_ck.mpr ⟨h1.1, k_in (n := 2200) h1.2 (by decide) (by omega) (ok_ck.mpr ⟨h0.1, k_in (n := 5000) h0.2 (by decide) (by omega) (ok_ck.mpr ⟨h3.1, k_in (n := L3) h3.2.1 (by omega) (by omega) (ok_br.mpr ⟨fun q => ?_, fun q => ?_⟩)⟩)⟩)⟩
      · have q' := of_decide_eq_true q
        refine ih (i + 1) 1 m' (by omega) (by omega) (Or.inr ⟨rfl, hl2, fun j hj => ?_⟩)
        by_cases z : j = i
        · rw [z]; exact q'
        · exact ha j (by omega)
      · have q' := of_decide_eq_false q
        exact ih (i + 1) 0 m' (by omega) (by omega) (Or.inl ⟨rfl, fun ts => q' (ts.2 i (by omega))⟩)
theorem tx_outer (h1 : isK r1 4 = true ∧ ln r1 = 2200) (h0 : isK r0 3 = true ∧ ln r0 = 5000) (h3 : isK r3 3 = true ∧ ln r3 = L3 ∧ L3 < 100000) (hne : r0 ≠ r1 ∧ r3 ≠ r0 ∧ r3 ≠ r1) (tx : TBX u r1 many) (hb : bg + len ≤ L3) (hs : A u r1 many + len ≤ 5000) : ∀ (d k : Nat), k + d = many → (∀ j, j < k → ¬ TSM u r0 r1 r3 j bg len) → ∀ m, (len + 3) * (d + 1) ≤ m → OK (TXQ u r0 r1 r3 many bg len) ((gg_M_textOf N m).1 u r0 r1 (I many) r3 (I bg) (I len) (I k)) := by
  have tx' := tx
  obtain ⟨t1, t2⟩ := tx
  have tm := t2 many (Nat.le_refl _)
  intro d
  induction d with
  | zero =>
    intro k hk hn m hm
    obtain ⟨m', rfl⟩ : ∃ m', m = m' + 1 := ⟨m - 1, by omega⟩
    show OK _ (fb_M_textOf_3 N (gg_M_textOf N m') u r0 r1 (I many) r3 (I bg) (I len) (I k))
    unfold fb_M_textOf_3
    refine k_le (x := (many : Int)) (y := (k : Int)) ⟨by omega, by omega⟩ ⟨by omega, by omega⟩ (fun _ => ?_) (fun y => by omega)
    refine ok_mono (tx_copy h1 h0 h3 hne tx' hb hs len 0 u m' (by omega) (by omega) FR.rf (fun j hj => by omega) (fun j _ => rfl)) (fun w r hw => Or.inr ⟨hw.1, fun j hj => hn j (by omega), hw.2⟩)
  | succ d ih =>
    intro k hk hn m hm
    have mul : (len + 3) * (d + 1 + 1) = (len + 3) * (d + 1) + (len + 3) := Nat.mul_succ _ _
    obtain ⟨m', rfl⟩ : ∃ m', m = m' + 1 := ⟨m - 1, by omega⟩
    have tk := t2 k (by omega)
    have tk1 := t2 (k + 1) (by omega)
    show OK _ (fb_M_textOf_3 N (gg_M_textOf N m') u r0 r1 (I many) r3 (I bg) (I len) (I k))
    unfold fb_M_textOf_3 fb_M_textOf_30
    have ek : (I ((k : Nat) : Int)).toNatClampNeg = k := by rw [I_tn (by omega) (by omega)]; omega
    have ek1 : I (k : Int) + 1 = I ((k + 1 : Nat) : Int) := by rw [lit1q, I_add]; rfl
    have ek2 : (I ((k + 1 : Nat) : Int)).toNatClampNeg = k + 1 := by rw [I_tn (by omega) (by omega)]; omega
    refine k_le (x := (many : Int)) (y := (k : Int)) ⟨by omega, by omega⟩ ⟨by omega, by omega⟩ (fun y => by omega) (fun _ => ?_)
    rw [ek1, ek, ek2, I_A (k := r1) (i := k + 1), I_A (k := r1) (i := k), I_sub]
    refine ok_ck.mpr ⟨h1.1, k_in (n := 2200) h1.2 (by decide) (by omega) (ok_ck.mpr ⟨h1.1, k_in (n := 2200) h1.2 (by decide) (by omega) ?_⟩)⟩
    have cmp := fun s hs' => tx_cmp (N := N) (u := u) (r0 := r0) (r3 := r3) (bg := bg) (len := len) (m0 := (len + 3) * (d + 1)) h1 h0 h3 tx' (show k < many by omega) hb (by omega) (fun hz m hm => ih (k + 1) (by omega) (fun j hj => by
      by_cases z : j = k
      · rw [z]; exact hz
      · exact hn j (by omega)) m hm) len 0 s m' (by omega) (by omega) hs'
    refine k_eq (x := A u r1 (k + 1) - A u r1 k) (y := (len : Int)) ⟨by omega, by omega⟩ ⟨by omega, by omega⟩ (fun q => ?_) (fun q => ?_)
    · exact cmp 1 (Or.inr ⟨rfl, q, fun j hj => by omega⟩)
    · exact cmp 0 (Or.inl ⟨rfl, fun ts => q ts.1⟩)
theorem textOf_ok (hN : 200000 ≤ N) (h1 : isK r1 4 = true ∧ ln r1 = 2200) (h0 : isK r0 3 = true ∧ ln r0 = 5000) (h3 : isK r3 3 = true ∧ ln r3 = L3 ∧ L3 < 100000) (hne : r0 ≠ r1 ∧ r3 ≠ r0 ∧ r3 ≠ r1) (tx : TBX u r1 many) (hb : bg + len ≤ L3) (hs : A u r1 many + len ≤ 5000) (hl : len ≤ 30) : OK (TXQ u r0 r1 r3 many bg len) (fm_M_textOf N u r0 r1 (I many) r3 (I bg) (I len)) := by
  unfold fm_M_textOf fb_M_textOf_0
  have tm := tx.1
  have : (len + 3) * (many + 1) ≤ 33 * 2199 := Nat.mul_le_mul (by omega) (by omega)
  exact tx_outer h1 h0 h3 hne tx hb hs many 0 (by omega) (fun j hj => by omega) N (by omega)
end
