set_option maxRecDepth 100000
section
variable {w v u : MS} {sc t : SCT} {e : List Nat × List Nat × Nat} {s x y N : Nat}
theorem bnS_ok (ok : SOK (e :: t)) (hx : x < 1400) (nx : x ∉ e.1) : SOK (bnS x (e :: t)) := by
  obtain ⟨⟨n1, n2, n3, n4, n5, n6, n7⟩, ok2⟩ := ok
  have nd : (e.1 ++ [x]).Nodup := by
    rw [List.nodup_append]
    refine ⟨n1, List.nodup_cons.mpr ⟨List.not_mem_nil, List.nodup_nil⟩, fun a ha b hb => ?_⟩
    rw [List.mem_singleton.mp hb]
    exact fun z => nx (by rw [← z]; exact ha)
  have lt : ∀ y, y ∈ e.1 ++ [x] → y < 1400 := fun y hy => by
    rcases List.mem_append.mp hy with h | h
    · exact n2 y h
    · rw [List.mem_singleton.mp h]; exact hx
  have ln := nd_len 1400 _ nd lt
  have l1 : (e.1 ++ [x]).length = e.1.length + 1 := by rw [List.length_append, List.length_singleton]
  refine ⟨⟨nd, lt, n3, ?_, ?_, n6, n7⟩, ok2⟩
  · show (e.1 ++ [x]).length ≤ max e.2.2 (e.1.length + 1)
    rw [l1]; exact Nat.le_max_right _ _
  · show max e.2.2 (e.1.length + 1) ≤ 1400
    exact Nat.max_le.mpr ⟨n5, by omega⟩
theorem bind_m (h : RNs w (e :: t)) (hx : x < 1400) (nx : x ∉ e.1) : PK (fun v _ => RNs v (bnS x (e :: t)) ∧ v.1 66 = (if 40 < max e.2.2 (e.1.length + 1) then 1 else w.1 66) ∧ (∀ k, k ≠ 66 → v.1 k = w.1 k) ∧ ∀ k, k ≠ 59 → k ≠ 60 → k ≠ 64 → v.2.2.1 k = w.2.2.1 k) (fm_M_bind N w (I (x : Nat))) := by
  obtain ⟨r1, r2, ⟨⟨a1, a2, a3, a4, a5⟩, r3⟩, ok⟩ := h
  obtain ⟨⟨n1, n2, n3, n4, n5, n6, n7⟩, ok2⟩ := id ok
  have okb := bnS_ok ok hx nx
  have l0 := nd_len 1400 _ n1 n2
  have r2 : 1 ≤ t.length + 1 ∧ t.length + 1 ≤ 27 := r2
  have r1 : w.1 65 = I (t.length : Nat) := r1
  have e0 : (1400 : Int32) * I (t.length : Nat) + I (e.1.length : Nat) = I ((1400 * t.length + e.1.length : Nat) : Int) := by
    rw [show (1400 : Int32) = I 1400 from rfl, I_mul, I_add]
    congr 1
  unfold fm_M_bind fb_M_bind_0
  rw [r1]
  refine pk_ck (fun _ => pk_ck (fun _ => pk_lt (pk_ck (fun _ => pk_ck (fun _ => pk_lt (pk_ck (fun _ => pk_ck (fun _ => ?_))))))))
  rw [tnI (n := t.length) rfl (by omega), a1, e0, tnI (n := 1400 * t.length + e.1.length) rfl (by omega)]
  generalize hg : upd (w.2.2.1 59) (1400 * t.length + e.1.length) (I (x : Nat)) = g
  have b5 : (upA w 59 g).1 65 = I (t.length : Nat) := r1
  have b60 : (upA w 59 g).2.2.1 60 = w.2.2.1 60 := upA_no (by decide)
  rw [b5, tnI (n := t.length) rfl (by omega), b60, a1, i_suc]
  generalize hg2 : upd (w.2.2.1 60) t.length (I ((e.1.length + 1 : Nat) : Int)) = g2
  have c5 : (upA (upA w 59 g) 60 g2).1 65 = I (t.length : Nat) := r1
  have c60 : (upA (upA w 59 g) 60 g2).2.2.1 60 t.length = I ((e.1.length + 1 : Nat) : Int) := by rw [upA_at, ← hg2, upd_at]
  have c64 : (upA (upA w 59 g) 60 g2).2.2.1 64 t.length = I (e.2.2 : Nat) := by rw [upA_no (by decide), upA_no (by decide)]; exact a5
  rw [c5, tnI (n := t.length) rfl (by omega), c60, c64, decI (by omega) (by omega) (by omega) (by omega)]
  have fin : ∀ k : Nat, k = max e.2.2 (e.1.length + 1) → PK (fun v _ => RNs v (bnS x (e :: t)) ∧ v.1 66 = (if 40 < max e.2.2 (e.1.length + 1) then 1 else w.1 66) ∧ (∀ k, k ≠ 66 → v.1 k = w.1 k) ∧ ∀ k, k ≠ 59 → k ≠ 60 → k ≠ 64 → v.2.2.1 k = w.2.2.1 k) (fb_M_bind_87 N () (upA (upA w 59 g) 60 g2) 64 (I (t.length : Nat)) (I (k : Nat))) := fun k hk => by
    have hk2 : k ≤ 1400 := by rw [hk]; exact okb.1.2.2.2.2.1
    unfold fb_M_bind_87 fb_M_bind_107
    refine pk_ck (fun _ => pk_ck (fun _ => pk_lt ?_))
    rw [tnI (n := t.length) rfl (by omega)]
    generalize hg3 : upd ((upA (upA w 59 g) 60 g2).2.2.1 64) t.length (I (k : Nat)) = g3
    have d5 : (upA (upA (upA w 59 g) 60 g2) 64 g3).1 65 = I (t.length : Nat) := r1
    have d64 : (upA (upA (upA w 59 g) 60 g2) 64 g3).2.2.1 64 t.length = I (k : Nat) := by rw [upA_at, ← hg3, upd_at]
    have rn : ∀ v : MS, v.1 65 = w.1 65 → v.2.2.1 = (upA (upA (upA w 59 g) 60 g2) 64 g3).2.2.1 → RNs v (bnS x (e :: t)) := fun v v1 v2 => by
      have p59 : v.2.2.1 59 = g := by rw [v2, upA_no (by decide), upA_no (by decide), upA_at]
      have p60 : v.2.2.1 60 = g2 := by rw [v2, upA_no (by decide), upA_at]
      have p64 : v.2.2.1 64 = upd (w.2.2.1 64) t.length (I (k : Nat)) := by rw [v2, upA_at, ← hg3, upA_no (by decide), upA_no (by decide)]
      have po : ∀ j, j ≠ 59 → j ≠ 60 → j ≠ 64 → v.2.2.1 j = w.2.2.1 j := fun j j1 j2 j3 => by rw [v2, upA_no j3, upA_no j2, upA_no j1]
      have l1 : (e.1 ++ [x]).length = e.1.length + 1 := by rw [List.length_append, List.length_singleton]
      refine ⟨by rw [v1, r1]; rfl, r2, ⟨⟨?_, fun j y hj => ?_, ?_, fun j y hj => ?_, ?_⟩, RNl_fr ok2 r3 (fun j hj => ⟨?_, ?_, ?_⟩) (fun j hj => ⟨?_, ?_⟩)⟩, okb⟩
      · show v.2.2.1 60 t.length = I (((e.1 ++ [x]).length : Nat) : Int)
        rw [p60, ← hg2, upd_at, l1]
      · have hj : (e.1 ++ [x])[j]? = some y := hj
        rw [p59, ← hg]
        by_cases ek : j < e.1.length
        · rw [upd_no (by omega)]
          rw [List.getElem?_append_left ek] at hj
          exact a2 j y hj
        · have hk2 := (List.getElem?_eq_some_iff.mp hj).1
          rw [l1] at hk2
          have : j = e.1.length := by omega
          rw [this, upd_at]
          rw [this, List.getElem?_append_right (Nat.le_refl _), Nat.sub_self] at hj
          injection hj with hj
          rw [hj]
      · rw [po 63 (by decide) (by decide) (by decide)]; exact a3
      · rw [po 61 (by decide) (by decide) (by decide)]; exact a4 j y hj
      · rw [p64, upd_at, hk]
      · rw [p60, ← hg2, upd_no (by omega)]
      · rw [po 63 (by decide) (by decide) (by decide)]
      · rw [p64, upd_no (by omega)]
      · rw [p59, ← hg, upd_no (by omega)]
      · rw [po 61 (by decide) (by decide) (by decide)]
    refine pk_ck (fun _ => ?_)
    rw [d5, tnI (n := t.length) rfl (by omega), d64, show (40 : Int32) = I 40 from rfl, decI (by omega) (by omega) (by omega) (by omega)]
    refine pk_br (fun h1 => ?_) (fun h1 => ?_)
    · have h1 := of_decide_eq_true h1
      refine pk_ck (fun _ => pk_some ⟨rn _ rfl rfl, ?_, fun _ _ => rfl, fun j j1 j2 j3 => by rw [upA_no j3, upA_no j2, upA_no j1]⟩)
      rw [if_neg (by omega)]; rfl
    · have h1 := of_decide_eq_false h1
      refine pk_lt (pk_ck (fun _ => pk_some ⟨rn _ (upI_ne (by decide)) rfl, ?_, fun j hj => upI_ne hj, fun j j1 j2 j3 => by
        show (upA (upA (upA w 59 g) 60 g2) 64 g3).2.2.1 j = _
        rw [upA_no j3, upA_no j2, upA_no j1]⟩))
      rw [if_pos (by omega)]; exact upI_at
  refine pk_br (fun h1 => ?_) (fun h1 => ?_)
  · have h1 := of_decide_eq_true h1
    exact pk_ck (fun _ => fin e.2.2 (by rw [Nat.max_eq_left (by omega)]))
  · have h1 := of_decide_eq_false h1
    exact pk_ck (fun _ => fin (e.1.length + 1) (by rw [Nat.max_eq_right (by omega)]))
end
