/-! the reader's marks: nodes, patterns, clauses, funs, held rows, what is saved, what waits -/
set_option maxRecDepth 100000
/-- which counter a row goes by -/
def grp (k : Nat) : Nat := if 23 ≤ k ∧ k ≤ 31 then 32 else if 33 ≤ k ∧ k ≤ 38 then 39 else if 40 ≤ k ∧ k ≤ 45 then 46 else if 53 ≤ k ∧ k ≤ 55 then 56 else if k = 57 then 58 else if k = 74 then 75 else if k = 76 then 77 else if 79 ≤ k ∧ k ≤ 82 then 83 else 0
/-- the counters -/
def MKs : List Nat := [32, 39, 46, 56, 58, 75, 77, 83]
def QMK (w : MS) (Q : Nat → Nat) : Prop := ∀ k, k ∈ MKs → w.1 k = I (Q k : Nat) ∧ Q k ≤ 24000
/-- what lies below the marks, and what has no marks, is kept -/
def QRR (Q : Nat → Nat) (w v : MS) : Prop := (∀ k, grp k = 0 → ¬ (59 ≤ k ∧ k ≤ 64) → k ≠ 78 → v.2.2.1 k = w.2.2.1 k) ∧ (∀ k q, grp k ≠ 0 → q < Q (grp k) → v.2.2.1 k q = w.2.2.1 k q) ∧ ∀ k q, k ≠ 34 ∨ q < Q 39 → v.2.2.2 k q = w.2.2.2 k q
/-- marks go on -/
def QLE (Q Q2 : Nat → Nat) : Prop := ∀ k, k ∈ MKs → Q k ≤ Q2 k
/-- one mark is moved -/
def qst (Q : Nat → Nat) (k n : Nat) : Nat → Nat := fun j => if j = k then n else Q j
section
variable {α β : Type} {N i p q g n : Nat} {Q Q2 Q3 : Nat → Nat} {w v u : MS} {x y k t : Int32} {R : MS → α → MS → β → Prop} {A' : Option (MS × α)} {f : MS → Int32 → Option (MS × β)}
theorem grp_m {k : Nat} (h : grp k ≠ 0) : grp k ∈ MKs := by
  unfold grp at h ⊢
  by_cases h1 : 23 ≤ k ∧ k ≤ 31
  · rw [if_pos h1]; decide
  rw [if_neg h1] at h ⊢
  by_cases h2 : 33 ≤ k ∧ k ≤ 38
  · rw [if_pos h2]; decide
  rw [if_neg h2] at h ⊢
  by_cases h3 : 40 ≤ k ∧ k ≤ 45
  · rw [if_pos h3]; decide
  rw [if_neg h3] at h ⊢
  by_cases h4 : 53 ≤ k ∧ k ≤ 55
  · rw [if_pos h4]; decide
  rw [if_neg h4] at h ⊢
  by_cases h5 : k = 57
  · rw [if_pos h5]; decide
  rw [if_neg h5] at h ⊢
  by_cases h6 : k = 74
  · rw [if_pos h6]; decide
  rw [if_neg h6] at h ⊢
  by_cases h7 : k = 76
  · rw [if_pos h7]; decide
  rw [if_neg h7] at h ⊢
  by_cases h8 : 79 ≤ k ∧ k ≤ 82
  · rw [if_pos h8]; decide
  · rw [if_neg h8] at h; exact absurd rfl h
theorem QLE_rf : QLE Q Q := fun _ _ => Nat.le_refl _
theorem QLE_tr (h : QLE Q Q2) (k : QLE Q2 Q3) : QLE Q Q3 := fun j hj => Nat.le_trans (h j hj) (k j hj)
theorem QLE_st (h : QLE Q Q2) {k : Nat} (hn : Q k ≤ n) : QLE Q (qst Q2 k n) := fun j hj => by
  show Q j ≤ if j = k then n else Q2 j
  by_cases z : j = k
  · rw [if_pos z, z]; exact hn
  · rw [if_neg z]; exact h j hj
theorem qst_at {k : Nat} : qst Q k n k = n := if_pos rfl
theorem qst_no {k j : Nat} (h : j ≠ k) : qst Q k n j = Q j := if_neg h
theorem QRR_rf : QRR Q w w := ⟨fun _ _ _ _ => rfl, fun _ _ _ _ => rfl, fun _ _ _ => rfl⟩
theorem QRR_tr (h : QRR Q w v) (k : QRR Q2 v u) (hq : QLE Q Q2) : QRR Q w u := ⟨fun j a b c => (k.1 j a b c).trans (h.1 j a b c), fun j q a b => (k.2.1 j q a (Nat.lt_of_lt_of_le b (hq _ (grp_m a)))).trans (h.2.1 j q a b), fun j q a => (k.2.2 j q (by
  rcases a with a | a
  · exact Or.inl a
  · exact Or.inr (Nat.lt_of_lt_of_le a (hq 39 (by decide))))).trans (h.2.2 j q a)⟩
theorem QRR_I {k : Nat} (h : QRR Q w v) : QRR Q w (upI v k x) := h
/-- a row is written above its mark -/
theorem QRR_A {k : Nat} (h : QRR Q w v) (hk : grp k ≠ 0) (hq : Q (grp k) ≤ q) : QRR Q w (upA v k (upd (v.2.2.1 k) q x)) := ⟨fun j a b c => by
  have : j ≠ k := fun e => hk (e ▸ a)
  rw [upA_no this]; exact h.1 j a b c, fun j r a b => by
  by_cases z : j = k
  · subst z
    rw [upA_at, upd_no (by omega)]; exact h.2.1 j r a b
  · rw [upA_no z]; exact h.2.1 j r a b, h.2.2⟩
/-- names' rows, what is put aside -/
theorem QRR_S {k : Nat} {z : Nat → Int32} (h : QRR Q w v) (hk : (59 ≤ k ∧ k ≤ 64) ∨ k = 78) : QRR Q w (upA v k z) := ⟨fun j a b c => by
  have : j ≠ k := fun e => by omega
  rw [upA_no this]; exact h.1 j a b c, fun j r a b => by
  have : j ≠ k := fun e => by
    rw [e] at a
    unfold grp at a
    rw [if_neg (by omega), if_neg (by omega), if_neg (by omega), if_neg (by omega), if_neg (by omega), if_neg (by omega), if_neg (by omega), if_neg (by omega)] at a
    exact a rfl
  rw [upA_no this]; exact h.2.1 j r a b, h.2.2⟩
/-- rows and terms are the same -/
theorem QRR_e (h : QRR Q w v) (e1 : u.2.2.1 = v.2.2.1) (e2 : u.2.2.2 = v.2.2.2) : QRR Q w u := by
  unfold QRR at h ⊢
  rw [e1, e2]; exact h
/-- a pattern has been read -/
theorem QRR_P {pi : Nat} (h : RFP w v pi) (hp : Q 39 ≤ pi) : QRR Q w v := ⟨fun k a b c => by
  refine h.2.1 k ?_
  unfold grp at a
  by_cases z : 33 ≤ k ∧ k ≤ 38
  · by_cases z1 : 23 ≤ k ∧ k ≤ 31
    · omega
    · rw [if_neg z1, if_pos z] at a
      cases a
  · omega, fun k q a b => by
  by_cases z : 33 ≤ k ∧ k ≤ 38
  · have e : grp k = 39 := by
      unfold grp
      rw [if_neg (by omega), if_pos z]
    rw [e] at b
    exact h.2.2.1 k q (by omega) (by omega)
  · have : ¬ (59 ≤ k ∧ k ≤ 64) := fun y => by
      unfold grp at a
      rw [if_neg (by omega), if_neg (by omega), if_neg (by omega), if_neg (by omega), if_neg (by omega), if_neg (by omega), if_neg (by omega), if_neg (by omega)] at a
      exact a rfl
    rw [h.2.1 k (by omega)], fun k q a => h.2.2.2 k q (by omega)⟩
theorem nsh {t : Nat} (h : t ≤ 4002) : vp_nar .short ((I (t : Nat)).toInt16.toInt32) = I (t : Nat) := by
  have h1 : ((I (t : Nat)).toInt16).toInt = ((t : Nat) : Int) := by
    rw [Int32.toInt_toInt16, I_ti (by omega) (by omega)]
    exact Int.bmod_eq_of_le (by omega) (by omega)
  have h2 : (I (t : Nat)).toInt16.toInt32 = I (t : Nat) := by
    apply Int32.toInt_inj.mp
    rw [Int16.toInt_toInt32, h1, I_ti (by omega) (by omega)]
  rw [h2]
  show (I (t : Nat)).toInt16.toInt32 = _
  exact h2
/-- a node is made -/
theorem nod_e (h : w.1 32 = I (i : Nat)) (hi : i ≤ 24000) (hk : vp_nar .byte (k.toInt8.toInt32) = k) (ht : vp_nar .short (t.toInt16.toInt32) = t) : fm_M_node N w k t = if i < 16000 then some (nwD w i k t, I (i : Nat)) else none := by
  unfold fm_M_node fb_M_node_0
  rw [hk, ht, show vp_nar .boolean 0 = 0 from rfl, h, i_nt2 (by omega)]
  by_cases z : i < 16000
  · rw [if_pos z, show ln 23 = 16000 from rfl, i_inb z (by decide), ck_t, lt_e]
    have e1 : ∀ (v : MS) (j : Nat) (q : Nat → Int32), (upA v j q).1 32 = v.1 32 := fun _ _ _ => rfl
    simp only [e1, h, i_nt2 (show i ≤ 100000 by omega), show ln 24 = 16000 from rfl, show ln 25 = 16000 from rfl, show ln 26 = 16000 from rfl, show ln 27 = 16000 from rfl, show ln 28 = 16000 from rfl, show ln 29 = 16000 from rfl, show ln 30 = 16000 from rfl, i_inb z (show 16000 ≤ 2147483647 by decide), ck_t, lt_e, i_suc]
    rw [upI_at, show ((i + 1 : Nat) : Int) = (i : Int) + 1 by omega, ← I_add, ← lit1, show I (i : Nat) + 1 - 1 = I (i : Nat) by rw [lit1, I_add, I_sub]; congr 1; omega]
    rw [lit1, I_add, show (i : Int) + 1 = ((i + 1 : Nat) : Int) by omega]
    rfl
  · rw [if_neg z]
    have : inb (I (i : Nat)) (ln 23) = false := by
      rw [show ln 23 = 16000 from rfl]
      cases hb : inb (I (i : Nat)) 16000 with
      | false => rfl
      | true => have := (I_inb (by omega) (by omega)).mp hb; omega
    rw [this]
    rfl
theorem r_nod (h : w.1 32 = I (i : Nat)) (hi : i ≤ 24000) (hk : vp_nar .byte (k.toInt8.toInt32) = k) (ht : vp_nar .short (t.toInt16.toInt32) = t) (hh : i < 16000 → PP R A' (f (nwD w i k t) (I (i : Nat)))) : PP R A' (bnd (fm_M_node N w k t) f) := by
  rw [nod_e h hi hk ht]
  by_cases z : i < 16000
  · rw [if_pos z, bnd_s]
    exact hh z
  · rw [if_neg z]
    exact pp_nr
theorem k_nod {P : MS → β → Prop} (h : w.1 32 = I (i : Nat)) (hi : i ≤ 24000) (hk : vp_nar .byte (k.toInt8.toInt32) = k) (ht : vp_nar .short (t.toInt16.toInt32) = t) (hh : i < 16000 → PK P (f (nwD w i k t) (I (i : Nat)))) : PK P (bnd (fm_M_node N w k t) f) := by
  rw [nod_e h hi hk ht]
  by_cases z : i < 16000
  · rw [if_pos z, bnd_s]
    exact hh z
  · rw [if_neg z]
    exact pk_none
theorem nwD_n : (nwD w i k t).1 32 = I ((i + 1 : Nat) : Int) := upI_at
theorem nwD_i {j : Nat} (h : j ≠ 32) : (nwD w i k t).1 j = w.1 j := upI_ne h
theorem nwD_r {j : Nat} (h : j < 23 ∨ 30 < j) : (nwD w i k t).2.2.1 j = w.2.2.1 j := by
  show (upA (upA (upA (upA (upA (upA (upA (upA w 23 (upd (w.2.2.1 23) i k)) 24 (upd (w.2.2.1 24) i t)) 25 (upd (w.2.2.1 25) i (-1))) 26 (upd (w.2.2.1 26) i (-1))) 27 (upd (w.2.2.1 27) i (-1))) 28 (upd (w.2.2.1 28) i (-1))) 29 (upd (w.2.2.1 29) i (-1))) 30 (upd (w.2.2.1 30) i 0)).2.2.1 j = _
  rw [upA_no (by omega), upA_no (by omega), upA_no (by omega), upA_no (by omega), upA_no (by omega), upA_no (by omega), upA_no (by omega), upA_no (by omega)]
theorem nwD_o {j q : Nat} (h : q ≠ i) : (nwD w i k t).2.2.1 j q = w.2.2.1 j q := by
  show (if j = 30 then upd (w.2.2.1 30) i 0 else if j = 29 then upd (w.2.2.1 29) i (-1) else if j = 28 then upd (w.2.2.1 28) i (-1) else if j = 27 then upd (w.2.2.1 27) i (-1) else if j = 26 then upd (w.2.2.1 26) i (-1) else if j = 25 then upd (w.2.2.1 25) i (-1) else if j = 24 then upd (w.2.2.1 24) i t else if j = 23 then upd (w.2.2.1 23) i k else w.2.2.1 j) q = _
  by_cases h1 : j = 30
  · rw [if_pos h1, upd_no h, h1]
  rw [if_neg h1]
  by_cases h2 : j = 29
  · rw [if_pos h2, upd_no h, h2]
  rw [if_neg h2]
  by_cases h3 : j = 28
  · rw [if_pos h3, upd_no h, h3]
  rw [if_neg h3]
  by_cases h4 : j = 27
  · rw [if_pos h4, upd_no h, h4]
  rw [if_neg h4]
  by_cases h5 : j = 26
  · rw [if_pos h5, upd_no h, h5]
  rw [if_neg h5]
  by_cases h6 : j = 25
  · rw [if_pos h6, upd_no h, h6]
  rw [if_neg h6]
  by_cases h7 : j = 24
  · rw [if_pos h7, upd_no h, h7]
  rw [if_neg h7]
  by_cases h8 : j = 23
  · rw [if_pos h8, upd_no h, h8]
  rw [if_neg h8]
theorem nwD_at : (nwD w i k t).2.2.1 23 i = k ∧ (nwD w i k t).2.2.1 24 i = t ∧ (nwD w i k t).2.2.1 25 i = -1 ∧ (nwD w i k t).2.2.1 26 i = -1 ∧ (nwD w i k t).2.2.1 27 i = -1 ∧ (nwD w i k t).2.2.1 28 i = -1 ∧ (nwD w i k t).2.2.1 29 i = -1 ∧ (nwD w i k t).2.2.1 30 i = 0 := ⟨upd_at, upd_at, upd_at, upd_at, upd_at, upd_at, upd_at, upd_at⟩
theorem QRR_D (h : QRR Q w v) (hq : Q 32 ≤ i) : QRR Q w (nwD v i k t) := ⟨fun j a b c => by
  rw [nwD_r (by
    unfold grp at a
    by_cases z : 23 ≤ j ∧ j ≤ 31
    · rw [if_pos z] at a; cases a
    · omega)]
  exact h.1 j a b c, fun j r a b => by
  by_cases z : 23 ≤ j ∧ j ≤ 31
  · have e : grp j = 32 := if_pos z
    rw [e] at b
    rw [nwD_o (by omega)]
    exact h.2.1 j r a (by rw [e]; exact b)
  · rw [nwD_r (by omega)]
    exact h.2.1 j r a b, h.2.2⟩
/-- marks behind a new node -/
theorem QMK_D (h : QMK w Q) (hi : Q 32 = i) (h16 : i < 16000) : QMK (nwD w i k t) (qst Q 32 (i + 1)) := fun j hj => by
  by_cases z : j = 32
  · rw [z, qst_at]
    exact ⟨nwD_n, by omega⟩
  · rw [qst_no z, nwD_i z]
    exact h j hj
theorem QMK_I {j : Nat} (h : QMK w Q) (hj : j ∉ MKs) : QMK (upI w j x) Q := fun k hk => by
  have : k ≠ j := fun e => hj (e ▸ hk)
  rw [upI_ne this]
  exact h k hk
theorem QMK_st {j : Nat} (h : QMK w Q) (hn : n ≤ 24000) : QMK (upI w j (I (n : Nat))) (qst Q j n) := fun k hk => by
  by_cases z : k = j
  · rw [z, qst_at, upI_at]; exact ⟨rfl, hn⟩
  · rw [qst_no z, upI_ne z]; exact h k hk
theorem QMK_A {j : Nat} {z : Nat → Int32} (h : QMK w Q) : QMK (upA w j z) Q := h
/-- a pattern has been read -/
theorem QMK_P {pi pj : Nat} (h : QMK w Q) (hf : RFP w v pi) (h39 : v.1 39 = I (pj : Nat)) (hp : pj ≤ 5000) : QMK v (qst Q 39 pj) := fun k hk => by
  by_cases z : k = 39
  · rw [z, qst_at]; exact ⟨h39, by omega⟩
  · rw [qst_no z, hf.1 k z (by rintro rfl; revert hk; decide) (by rintro rfl; revert hk; decide)]; exact h k hk
end
