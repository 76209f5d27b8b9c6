set_option maxRecDepth 100000
def rfP (own : Bool) (x : Nat) : SCT → SCT
  | [] => []
  | e :: t => if own then (if e.1.contains x then e :: t else bnS x (e :: t)) else (if fnb x (e :: t) then hld x (e :: t) else bnS x (e :: t))
def rfL (own : Bool) (x : Nat) : SCT → Nat
  | [] => 32
  | e :: t => if own then (if e.1.contains x then t.length else 32) else (if fnb x (e :: t) then lvx x (e :: t) else 32)
def rfX (own : Bool) (x : Nat) : SCT → Nat
  | [] => 0
  | e :: t => if own then (if e.1.contains x then 0 else e.1.length + 1) else (if fnb x (e :: t) then 0 else e.1.length + 1)
def NFR (m v : MS) : Prop := (∀ k, k ≠ 706 → k < 440 ∨ 460 ≤ k → v.1 k = m.1 k) ∧ ∀ k, k < 22 ∨ 36 ≤ k → k ≠ 39 → k ≠ 41 → k ≠ 42 → v.2.2.1 k = m.2.2.1 k
section
variable {m v u : MS} {nm : Nat → Nat} {sc t : SCT} {e : List Nat × List Nat × Nat} {s x y N i f tok cm : Nat}
theorem NFR_rf : NFR m m := ⟨fun _ _ _ => rfl, fun _ _ _ _ _ => rfl⟩
theorem NFR_tr (a : NFR m v) (b : NFR v u) : NFR m u := ⟨fun k h1 h2 => (b.1 k h1 h2).trans (a.1 k h1 h2), fun k h1 h2 h3 h4 => (b.2 k h1 h2 h3 h4).trans (a.2 k h1 h2 h3 h4)⟩
theorem NFR_kn (h : Knc m v) : NFR m v := ⟨fun k _ h2 => h.1 k h2, fun k h1 _ _ _ => h.2 k h1⟩
theorem CNl_fr : ∀ {sc : SCT}, CNl m nm sc → v.2.2.1 40 = m.2.2.1 40 → (∀ j, j < tot sc → v.2.2.1 39 j = m.2.2.1 39 j) → CNl v nm sc
  | [], _, _, _ => trivial
  | e :: t, c, h40, h39 => ⟨by rw [h40]; exact c.1, fun k x hk => by
      have := (List.getElem?_eq_some_iff.mp hk).1
      rw [h39 _ (by show tot t + k < tot t + e.1.length; omega)]; exact c.2.1 k x hk, CNl_fr c.2.2 h40 (fun j hj => h39 j (by show j < tot t + e.1.length; omega))⟩
theorem CNs_kn (c : CNs m nm sc) (h : Knc m v) : CNs v nm sc := ⟨by rw [h.1 _ (by decide)]; exact c.1, c.2.1, by rw [h.1 _ (by decide)]; exact c.2.2.1, c.2.2.2.1, CNl_fr c.2.2.2.2 (h.2 _ (by decide)) (fun j _ => by rw [h.2 _ (by decide)])⟩
theorem CNs_42 {g : Nat → Int32} (c : CNs m nm sc) : CNs (upA m 42 g) nm sc := ⟨c.1, c.2.1, c.2.2.1, c.2.2.2.1, CNl_fr c.2.2.2.2 (upA_no (by decide)) (fun j _ => by rw [upA_no (by decide)])⟩
theorem tot_hld : ∀ {sc : SCT}, tot (hld x sc) = tot sc
  | [] => rfl
  | e :: t => by
    unfold hld
    split
    · rfl
    · split
      · show tot (hld x t) + e.1.length = tot t + e.1.length
        rw [tot_hld]
      · rfl
theorem CNl_hld : ∀ {sc : SCT}, CNl m nm sc → CNl m nm (hld x sc)
  | [], _ => trivial
  | e :: t, c => by
    unfold hld
    split
    · exact c
    · split
      · exact ⟨by rw [hld_len, tot_hld]; exact c.1, fun k y hk => by rw [tot_hld]; exact c.2.1 k y hk, CNl_hld c.2.2⟩
      · exact c
theorem CNs_hld (c : CNs m nm sc) : CNs m nm (hld x sc) := ⟨by rw [hld_len]; exact c.1, by rw [hld_len]; exact c.2.1, by rw [tot_hld]; exact c.2.2.1, by rw [tot_hld]; exact c.2.2.2.1, CNl_hld c.2.2.2.2⟩
theorem bind_c (c : CNs m nm (e :: t)) (h4 : tot (e :: t) < 4000) (hm : m.2.2.1 41 t.length = I (cm : Nat)) (hc : cm ≤ 4000) : PK (fun v _ => CNs v nm (bnS x (e :: t)) ∧ v.2.2.1 41 = upd (m.2.2.1 41) t.length (I ((max cm (e.1.length + 1) : Nat) : Int)) ∧ v.2.2.1 42 = m.2.2.1 42 ∧ NFR m v) (hm_Cm_bind N m (I (nm x : Nat))) := by
  obtain ⟨c1, c2, c3, c4, c5⟩ := c
  have h4 : tot t + e.1.length < 4000 := h4
  have et : tot (e :: t) = tot t + e.1.length := rfl
  have c2 : 1 ≤ t.length + 1 ∧ t.length + 1 ≤ 27 := c2
  have c1 : m.1 709 = I (t.length : Nat) := c1
  unfold hm_Cm_bind hb_Cm_bind_0 hb_Cm_bind_32
  rw [c3, show (4000 : Int32) = I 4000 from rfl, decide_eq_false (fun z => by
    have := (I_le (by omega) (by omega) (by omega) (by omega)).mp z
    omega)]
  show PK _ (ck _ _)
  refine pk_ck (fun _ => pk_lt (pk_lt (pk_ck (fun _ => pk_ck (fun _ => pk_lt (pk_ck (fun _ => pk_lt (pk_some ?_))))))))
  rw [tnI (n := tot (e :: t)) rfl (by omega)]
  have e9 : ∀ g : Nat → Int32, (upI (upA m 39 g) 706 ((upA m 39 g).1 706 + 1)).1 709 = I (t.length : Nat) := fun g => by rw [upI_ne (by decide)]; exact c1
  have e6 : ∀ g : Nat → Int32, (upI (upA m 39 g) 706 ((upA m 39 g).1 706 + 1)).1 706 = I ((tot (e :: t) + 1 : Nat) : Int) := fun g => by rw [upI_at]; show m.1 706 + 1 = _; rw [c3, i_suc]
  have e40 : ∀ g : Nat → Int32, (upI (upA m 39 g) 706 ((upA m 39 g).1 706 + 1)).2.2.1 40 = m.2.2.1 40 := fun g => upA_no (by decide)
  have e41 : ∀ g : Nat → Int32, (upI (upA m 39 g) 706 ((upA m 39 g).1 706 + 1)).2.2.1 41 = m.2.2.1 41 := fun g => upA_no (by decide)
  rw [e9, tnI (n := t.length) rfl (by omega), e6, e40, e41, c5.1, hm, I_sub, show ((tot (e :: t) + 1 : Nat) : Int) - (tot t : Nat) = ((e.1.length + 1 : Nat) : Int) by omega]
  have ey : (if I (cm : Nat) < I ((e.1.length + 1 : Nat) : Int) then I ((e.1.length + 1 : Nat) : Int) else I (cm : Nat)) = I ((max cm (e.1.length + 1) : Nat) : Int) := by
    by_cases z : cm < e.1.length + 1
    · rw [if_pos ((I_lt (by omega) (by omega) (by omega) (by omega)).mpr (by omega)), Nat.max_eq_right (by omega)]
    · rw [if_neg (fun y => z (by have := (I_lt (by omega) (by omega) (by omega) (by omega)).mp y; omega)), Nat.max_eq_left (by omega)]
  rw [ey]
  generalize hg : upd (m.2.2.1 39) (tot (e :: t)) (I (nm x : Nat)) = g
  refine ⟨⟨by rw [show (upA (upI (upA m 39 g) 706 ((upA m 39 g).1 706 + 1)) 41 (upd (m.2.2.1 41) t.length (I ((max cm (e.1.length + 1) : Nat) : Int)))).1 709 = I (t.length : Nat) from e9 g]; rfl, c2, by
    show (upI (upA m 39 g) 706 ((upA m 39 g).1 706 + 1)).1 706 = _
    rw [e6]
    congr 2
    show tot t + e.1.length + 1 = tot t + (e.1 ++ [x]).length
    rw [List.length_append, List.length_singleton]; omega, by
    show tot t + (e.1 ++ [x]).length ≤ 4000
    rw [List.length_append, List.length_singleton]; omega, ⟨by rw [upA_no (by decide), e40]; exact c5.1, fun k y hk => ?_, CNl_fr c5.2.2 (by rw [upA_no (by decide), e40]) (fun j hj => ?_)⟩⟩, upA_at, by rw [upA_no (by decide)]; exact upA_no (by decide), ⟨fun k h1 _ => upI_ne h1, fun k h1 h2 h3 h5 => by rw [upA_no h3]; exact upA_no h2⟩⟩
  · have hk : (e.1 ++ [x])[k]? = some y := hk
    rw [upA_no (by decide)]
    show (upA m 39 g).2.2.1 39 (tot t + k) = _
    rw [upA_at, ← hg]
    by_cases ek : k < e.1.length
    · rw [upd_no (by rw [et]; omega)]
      rw [List.getElem?_append_left ek] at hk
      exact c5.2.1 k y hk
    · have hk2 := (List.getElem?_eq_some_iff.mp hk).1
      rw [List.length_append, List.length_singleton] at hk2
      have : k = e.1.length := by omega
      rw [this, et, upd_at]
      rw [this, List.getElem?_append_right (Nat.le_refl _), Nat.sub_self] at hk
      injection hk with hk
      rw [hk]
  · rw [upA_no (by decide)]
    show (upA m 39 g).2.2.1 39 j = _
    rw [upA_at, ← hg, upd_no (by rw [et]; omega)]
end
