set_option maxRecDepth 100000
def CNl (m : MS) (nm : Nat → Nat) : SCT → Prop
  | [] => True
  | e :: t => m.2.2.1 40 t.length = I (tot t : Nat) ∧ (∀ k x, e.1[k]? = some x → m.2.2.1 39 (tot t + k) = I (nm x : Nat)) ∧ CNl m nm t
def CNs (m : MS) (nm : Nat → Nat) (sc : SCT) : Prop := m.1 709 = I ((sc.length - 1 : Nat) : Int) ∧ (1 ≤ sc.length ∧ sc.length ≤ 27) ∧ m.1 706 = I (tot sc : Nat) ∧ tot sc ≤ 4000 ∧ CNl m nm sc
def NMJ (nm : Nat → Nat) : Prop := (∀ x y, nm x = nm y → x = y) ∧ ∀ x, nm x ≤ x + 1
def gN : SCT → Nat → Option Nat
  | [], _ => none
  | e :: t, i => if i < tot t then gN t i else e.1[i - tot t]?
def lvi : SCT → Nat → Nat
  | [], _ => 0
  | e :: t, i => if t.length = 0 ∨ tot t ≤ i then t.length else lvi t i
section
variable {m v : MS} {nm : Nat → Nat} {sc t : SCT} {e : List Nat × List Nat × Nat} {s x y N i f tok : Nat}
theorem gN_lt : ∀ {sc : SCT} {i : Nat}, i < tot sc → ∃ y, gN sc i = some y
  | [], _, h => absurd h (Nat.not_lt_zero _)
  | e :: t, i, h => by
    unfold gN
    have h : i < tot t + e.1.length := h
    by_cases z : i < tot t
    · rw [if_pos z]; exact gN_lt z
    · rw [if_neg z]; exact ⟨_, List.getElem?_eq_getElem (by omega)⟩
theorem gN_fnd : ∀ {sc : SCT} {i y : Nat}, gN sc i = some y → fnd y sc
  | [], _, _, h => by cases h
  | e :: t, i, y, h => by
    unfold gN at h
    split at h
    · obtain ⟨d, a, b⟩ := gN_fnd h
      exact ⟨d, List.mem_cons_of_mem _ a, b⟩
    · exact ⟨e, List.mem_cons_self, List.mem_of_getElem? h⟩
theorem cn_at : ∀ {sc : SCT} {i y : Nat}, CNl m nm sc → gN sc i = some y → m.2.2.1 39 i = I (nm y : Nat)
  | [], _, _, _, h => by cases h
  | e :: t, i, y, c, h => by
    unfold gN at h
    split at h
    · exact cn_at c.2.2 h
    · rename_i z
      have := c.2.1 (i - tot t) y h
      rw [show tot t + (i - tot t) = i by omega] at this
      exact this
theorem nmi_i (h : NMJ nm) (hx : x < 1400) (hy : y < 1400) (e : I (nm x : Nat) = I (nm y : Nat)) : x = y := h.1 x y (i_inj (by have := h.2 x; omega) (by have := h.2 y; omega) e)
theorem iB_lv {sc0 : SCT} : ∀ (M : Nat) (sc : SCT), CNl m nm sc → sc ≠ [] → sc.length ≤ 27 → tot sc ≤ 4000 → i ≤ 4000 → PK (fun v r => r = 1 ∧ v = upA m 42 (upd (m.2.2.1 42) (I (tok : Nat)).toNatClampNeg (I (lvi sc i : Nat)))) ((hg_Cm_isBound N M).2 m (I (tok : Nat)) (I (i : Nat)) (I ((sc.length - 1 : Nat) : Int)))
  | 0, _, _, _, _, _, _ => pk_none
  | M + 1, [], _, h, _, _, _ => absurd rfl h
  | M + 1, e :: t, c, _, hl, ht, hi => by
    have hl : t.length + 1 ≤ 27 := hl
    have ht : tot t + e.1.length ≤ 4000 := ht
    show PK _ (hb_Cm_isBound_31 N (hg_Cm_isBound N M) m (I (tok : Nat)) (I (i : Nat)) (I (t.length : Nat)))
    unfold hb_Cm_isBound_31 hb_Cm_isBound_54
    have fin : lvi (e :: t) i = t.length → PK (fun v r => r = 1 ∧ v = upA m 42 (upd (m.2.2.1 42) (I (tok : Nat)).toNatClampNeg (I (lvi (e :: t) i : Nat)))) (ck (inb (I (tok : Nat)) 4002) (lt (upA m 42 (upd (m.2.2.1 42) (I (tok : Nat)).toNatClampNeg (I (t.length : Nat)))) (fun w3 => ck (isb 1) (some (w3, (1 : Int32)))))) := fun z => by
      refine pk_ck (fun _ => pk_lt (pk_ck (fun _ => pk_some ⟨rfl, ?_⟩)))
      rw [z]
    rw [lit0q, decI (by omega) (by omega) (by omega) (by omega)]
    refine pk_br (fun h1 => ?_) (fun h1 => ?_)
    · have h1 := of_decide_eq_true h1
      exact fin (by unfold lvi; rw [if_pos (Or.inl (by omega))])
    · have h1 := of_decide_eq_false h1
      refine pk_ck (fun _ => ?_)
      rw [tnI (n := t.length) rfl (by omega), c.1, decI (by omega) (by omega) (by omega) (by omega)]
      refine pk_br (fun h2 => ?_) (fun h2 => ?_)
      · have h2 := of_decide_eq_true h2
        exact fin (by unfold lvi; rw [if_pos (Or.inr (by omega))])
      · have h2 := of_decide_eq_false h2
        have t0 : t ≠ [] := fun z => by rw [z] at h1; exact h1 (by decide)
        have e1 : lvi (e :: t) i = lvi t i := by
          conv => lhs; unfold lvi
          rw [if_neg (by omega)]
        rw [e1, show I (t.length : Nat) + -1 = I ((t.length - 1 : Nat) : Int) by rw [show (-1 : Int32) = I (-1) from rfl, I_add]; congr 1; omega]
        exact iB_lv (sc0 := sc0) M t c.2.2 t0 (by omega) (by omega) hi
theorem iB_lp (hn : NMJ nm) (c : CNs m nm sc) (ok : SOK sc) (hx : x < 1400) (hf : f ≤ 4000) : ∀ (M n : Nat), n ≤ tot sc → (∀ j, n ≤ j → j < tot sc → gN sc j ≠ some x) → PK (fun v r => (r = 0 ∧ v = m ∧ ∀ j, f ≤ j → j < tot sc → gN sc j ≠ some x) ∨ (r = 1 ∧ ∃ i, f ≤ i ∧ i < tot sc ∧ gN sc i = some x ∧ (∀ j, i < j → j < tot sc → gN sc j ≠ some x) ∧ v = upA m 42 (upd (m.2.2.1 42) (I (tok : Nat)).toNatClampNeg (I (lvi sc i : Nat))))) ((hg_Cm_isBound N M).1 m (I (nm x : Nat)) (I (tok : Nat)) (I (f : Nat)) (I ((n : Int) - 1)))
  | 0, _, _, _ => pk_none
  | M + 1, n, hn2, hj => by
    obtain ⟨c1, c2, c3, c4, c5⟩ := id c
    show PK _ (hb_Cm_isBound_8 N (hg_Cm_isBound N M) m (I (nm x : Nat)) (I (tok : Nat)) (I (f : Nat)) (I ((n : Int) - 1)))
    unfold hb_Cm_isBound_8
    rw [decL (by omega) (by omega) (by omega) (by omega)]
    refine pk_br (fun h1 => ?_) (fun h1 => ?_)
    · have h1 := of_decide_eq_true h1
      exact pk_ck (fun _ => pk_some (Or.inl ⟨rfl, rfl, fun j hj1 hj2 => hj j (by omega) hj2⟩))
    · have h1 := of_decide_eq_false h1
      refine pk_ck (fun _ => ?_)
      obtain ⟨y, hy⟩ := gN_lt (sc := sc) (i := n - 1) (by omega)
      rw [show ((n : Int) - 1) = ((n - 1 : Nat) : Int) by omega, tnI (n := n - 1) rfl (by omega), cn_at c5 hy]
      refine pk_br (fun h2 => ?_) (fun h2 => ?_)
      · have h2 := of_decide_eq_true h2
        have : y = x := nmi_i hn (fnd_lt ok (gN_fnd hy)) hx h2
        rw [c1]
        refine pk_mo (iB_lv (N := N) (nm := nm) (sc0 := sc) M sc c5 (fun z => by rw [z] at c2; exact absurd c2.1 (by decide)) c2.2 c4 (by omega)) (fun v r q => Or.inr ⟨q.1, n - 1, by omega, by omega, by rw [hy, this], fun j hj1 hj2 => hj j (by omega) hj2, q.2⟩)
      · have h2 := of_decide_eq_false h2
        rw [show I ((n - 1 : Nat) : Int) + -1 = I (((n - 1 : Nat) : Int) - 1) by rw [show (-1 : Int32) = I (-1) from rfl, I_add]; rfl]
        refine iB_lp hn c ok hx hf M (n - 1) (by omega) (fun j hj1 hj2 => ?_)
        by_cases ej : j = n - 1
        · rw [ej, hy]
          intro z
          injection z with z
          exact h2 (by rw [z])
        · exact hj j (by omega) hj2
end
