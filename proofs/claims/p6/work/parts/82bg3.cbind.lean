set_option maxRecDepth 100000
def lvx (x : Nat) : SCT → Nat
  | [] => 0
  | e :: t => if e.1.contains x then t.length else lvx x t
def bnS (x : Nat) : SCT → SCT
  | [] => []
  | e :: t => (e.1 ++ [x], e.2.1, max e.2.2 (e.1.length + 1)) :: t
section
variable {m v : MS} {nm : Nat → Nat} {sc t : SCT} {e : List Nat × List Nat × Nat} {s x y N i f tok : Nat}
theorem lv_e : ∀ {sc : SCT} {i : Nat}, gN sc i = some x → (∀ j, i < j → j < tot sc → gN sc j ≠ some x) → lvi sc i = lvx x sc
  | [], _, h, _ => by cases h
  | e :: t, i, h, hl => by
    unfold lvx
    by_cases c : e.1.contains x = true
    · rw [if_pos c]
      obtain ⟨k, hk, ek⟩ := List.getElem_of_mem (List.contains_iff_mem.mp c)
      have g : gN (e :: t) (tot t + k) = some x := by
        unfold gN
        rw [if_neg (by omega), show tot t + k - tot t = k by omega, List.getElem?_eq_getElem hk, ek]
      have : tot t + k ≤ i := by
        apply Nat.le_of_not_lt
        intro z
        exact hl (tot t + k) z (by show tot t + k < tot t + e.1.length; omega) g
      unfold lvi
      rw [if_pos (Or.inr (by omega))]
    · rw [if_neg c]
      have hi : i < tot t := by
        apply Nat.lt_of_not_le
        intro z
        unfold gN at h
        rw [if_neg (by omega)] at h
        exact c (List.contains_iff_mem.mpr (List.mem_of_getElem? h))
      have h2 : gN t i = some x := by
        unfold gN at h
        rw [if_pos hi] at h
        exact h
      have t0 : t.length ≠ 0 := fun z => by
        rw [List.length_eq_zero_iff.mp z] at h2
        cases h2
      have e1 : lvi (e :: t) i = lvi t i := by
        conv => lhs; unfold lvi
        rw [if_neg (by omega)]
      rw [e1]
      refine lv_e h2 (fun j hj1 hj2 z => ?_)
      refine hl j hj1 (by show j < tot t + e.1.length; omega) ?_
      unfold gN
      rw [if_pos hj2]
      exact z
theorem fnd_gN : ∀ {sc : SCT}, fnd x sc → ∃ i, i < tot sc ∧ gN sc i = some x
  | [], ⟨_, h, _⟩ => absurd h List.not_mem_nil
  | e :: t, ⟨d, hd, hx⟩ => by
    rcases List.mem_cons.mp hd with rfl | hd
    · obtain ⟨k, hk, ek⟩ := List.getElem_of_mem hx
      refine ⟨tot t + k, by show tot t + k < tot t + d.1.length; omega, ?_⟩
      unfold gN
      rw [if_neg (by omega), show tot t + k - tot t = k by omega, List.getElem?_eq_getElem hk, ek]
    · obtain ⟨i, hi, g⟩ := fnd_gN ⟨d, hd, hx⟩
      refine ⟨i, by show i < tot t + e.1.length; omega, ?_⟩
      unfold gN
      rw [if_pos hi]
      exact g
theorem isB_all (hn : NMJ nm) (c : CNs m nm sc) (ok : SOK sc) (hx : x < 1400) (ht : tok ≤ 4001) : PK (fun v r => (r = 0 ∧ v = m ∧ fnb x sc = false) ∨ (r = 1 ∧ fnb x sc = true ∧ v = upA m 42 (upd (m.2.2.1 42) tok (I (lvx x sc : Nat))))) (hm_Cm_isBound N m (I (nm x : Nat)) (I (tok : Nat)) 0) := by
  unfold hm_Cm_isBound hb_Cm_isBound_0
  rw [c.2.2.1, lit1q, I_sub]
  refine pk_mo (iB_lp (N := N) (f := 0) hn c ok hx (by omega) N (tot sc) (Nat.le_refl _) (fun j h1 h2 => absurd h2 (by omega))) (fun v r q => ?_)
  rcases q with ⟨q1, q2, q3⟩ | ⟨q1, i, q2, q3, q4, q5, q6⟩
  · refine Or.inl ⟨q1, q2, ?_⟩
    cases hf : fnb x sc
    · rfl
    · obtain ⟨i, hi, g⟩ := fnd_gN (fnb_e.mp hf)
      exact absurd g (q3 i (Nat.zero_le _) hi)
  · refine Or.inr ⟨q1, fnb_e.mpr (gN_fnd q4), ?_⟩
    rw [q6, lv_e q4 q5, tnI (n := tok) rfl (by omega)]
theorem isB_own (hn : NMJ nm) (c : CNs m nm (e :: t)) (ok : SOK (e :: t)) (hx : x < 1400) (ht : tok ≤ 4001) : PK (fun v r => (r = 0 ∧ v = m ∧ x ∉ e.1) ∨ (r = 1 ∧ x ∈ e.1 ∧ v = upA m 42 (upd (m.2.2.1 42) tok (I (t.length : Nat))))) (hm_Cm_isBound N m (I (nm x : Nat)) (I (tok : Nat)) (I (tot t : Nat))) := by
  unfold hm_Cm_isBound hb_Cm_isBound_0
  have c4 : tot t + e.1.length ≤ 4000 := c.2.2.2.1
  rw [c.2.2.1, lit1q, I_sub]
  refine pk_mo (iB_lp (N := N) (f := tot t) hn c ok hx (by omega) N (tot (e :: t)) (Nat.le_refl _) (fun j h1 h2 => absurd h2 (by omega))) (fun v r q => ?_)
  rcases q with ⟨q1, q2, q3⟩ | ⟨q1, i, q2, q3, q4, q5, q6⟩
  · refine Or.inl ⟨q1, q2, fun hm => ?_⟩
    obtain ⟨k, hk, ek⟩ := List.getElem_of_mem hm
    refine q3 (tot t + k) (by omega) (by show tot t + k < tot t + e.1.length; omega) ?_
    unfold gN
    rw [if_neg (by omega), show tot t + k - tot t = k by omega, List.getElem?_eq_getElem hk, ek]
  · have hm : x ∈ e.1 := by
      unfold gN at q4
      rw [if_neg (by omega)] at q4
      exact List.mem_of_getElem? q4
    refine Or.inr ⟨q1, hm, ?_⟩
    rw [q6, lv_e q4 q5, tnI (n := tok) rfl (by omega)]
    unfold lvx
    rw [if_pos (List.contains_iff_mem.mpr hm)]
end
