set_option maxRecDepth 100000
def fnb (x : Nat) (sc : SCT) : Bool := sc.any (fun e => e.1.contains x)
theorem fnb_e {x : Nat} {sc : SCT} : fnb x sc = true ↔ fnd x sc := by
  unfold fnb fnd
  rw [List.any_eq_true]
  exact ⟨fun ⟨e, h1, h2⟩ => ⟨e, h1, List.contains_iff_mem.mp h2⟩, fun ⟨e, h1, h2⟩ => ⟨e, h1, List.contains_iff_mem.mpr h2⟩⟩
def hld (x : Nat) : SCT → SCT
  | [] => []
  | e :: t => if e.1.contains x || e.2.1.contains x then e :: t else if fnb x t then (e.1, (if e.2.1.length < 60 then e.2.1 ++ [x] else e.2.1), e.2.2) :: hld x t else e :: t
def FHD (u w : MS) : Prop := (∀ k, w.1 k = u.1 k) ∧ ∀ k, k < 61 ∨ 64 ≤ k → w.2.2.1 k = u.2.2.1 k
section
variable {w v : MS} {sc t : SCT} {e : List Nat × List Nat × Nat} {s x N : Nat}
theorem bIn_loop (hw : RW1 w s e) (hs : s ≤ 27) (hl : e.1.length ≤ 1400) (hx : x < 1400) (hb : ∀ y, y ∈ e.1 → y < 1400) : ∀ (M k : Nat), (∀ j, j < k → e.1[j]? ≠ some x) → k ≤ e.1.length → PK (fun v r => v = w ∧ ((r = -1 ∧ x ∉ e.1) ∨ ∃ j : Nat, r = I (j : Nat) ∧ j < 1400 ∧ x ∈ e.1)) (gg_M_boundIn N M w (I (s : Nat)) (I (x : Nat)) (I (k : Nat)))
  | 0, k, _, _ => pk_none
  | M + 1, k, hj, hk => by
    show PK _ (fb_M_boundIn_2 N (gg_M_boundIn N M) w (I (s : Nat)) (I (x : Nat)) (I (k : Nat)))
    unfold fb_M_boundIn_2
    refine pk_ck (fun _ => ?_)
    rw [tnI (n := s) rfl (by omega), hw.1, decI (by omega) (by omega) (by omega) (by omega)]
    refine pk_br (fun h1 => ?_) (fun h1 => ?_)
    · have h1 := of_decide_eq_true h1
      refine pk_some ⟨rfl, Or.inl ⟨rfl, fun hm => ?_⟩⟩
      obtain ⟨j, hj2, e2⟩ := List.getElem_of_mem hm
      exact hj j (by omega) (by rw [List.getElem?_eq_getElem hj2, e2])
    · have h1 := of_decide_eq_false h1
      have hk2 : k < e.1.length := by omega
      refine pk_ck (fun _ => ?_)
      have e1 : (1400 : Int32) * I (s : Nat) + I (k : Nat) = I ((1400 * s + k : Nat) : Int) := by
        rw [show (1400 : Int32) = I 1400 from rfl, I_mul, I_add]
        congr 1
      have gk : e.1[k]? = some e.1[k] := List.getElem?_eq_getElem hk2
      have hy := hb _ (List.getElem_mem hk2)
      rw [e1, tnI (n := 1400 * s + k) rfl (by omega), hw.2.1 k _ gk]
      refine pk_br (fun h2 => ?_) (fun h2 => ?_)
      · have h2 := of_decide_eq_true h2
        have : e.1[k] = x := i_inj (by omega) (by omega) h2
        exact pk_some ⟨rfl, Or.inr ⟨k, rfl, by omega, by rw [← this]; exact List.getElem_mem hk2⟩⟩
      · have h2 := of_decide_eq_false h2
        rw [i_suc]
        refine bIn_loop hw hs hl hx hb M (k + 1) (fun j hj2 => ?_) (by omega)
        by_cases ej : j = k
        · rw [ej, gk]
          intro z
          injection z with z
          exact h2 (by rw [z])
        · exact hj j (by omega)
theorem bIn_p (hw : RW1 w s e) (hs : s ≤ 27) (hn : e.1.Nodup) (hb : ∀ y, y ∈ e.1 → y < 1400) (hx : x < 1400) : PK (fun v r => v = w ∧ ((r = -1 ∧ x ∉ e.1) ∨ ∃ j : Nat, r = I (j : Nat) ∧ j < 1400 ∧ x ∈ e.1)) (fm_M_boundIn N w (I (s : Nat)) (I (x : Nat))) := by
  unfold fm_M_boundIn fb_M_boundIn_0
  have := bIn_loop (N := N) hw hs (nd_len 1400 _ hn hb) hx hb N 0 (fun j hj => absurd hj (Nat.not_lt_zero _)) (Nat.zero_le _)
  exact this
def FHU (n : Nat) (u w : MS) : Prop := (∀ j, n ≤ j → w.2.2.1 63 j = u.2.2.1 63 j) ∧ ∀ j, 1400 * n ≤ j → w.2.2.1 61 j = u.2.2.1 61 j
theorem RNl_fr : ∀ {sc : SCT}, SOK sc → RNl w sc → (∀ j, j < sc.length → v.2.2.1 60 j = w.2.2.1 60 j ∧ v.2.2.1 63 j = w.2.2.1 63 j ∧ v.2.2.1 64 j = w.2.2.1 64 j) → (∀ j, j < 1400 * sc.length → v.2.2.1 59 j = w.2.2.1 59 j ∧ v.2.2.1 61 j = w.2.2.1 61 j) → RNl v sc
  | [], _, _, _, _ => trivial
  | e :: t, ok, h, a, b => by
    obtain ⟨⟨n1, n2, n3, n4, n5, n6, n7⟩, ok2⟩ := ok
    obtain ⟨⟨h1, h2, h3, h4, h5⟩, h6⟩ := h
    have l1 := nd_len 1400 _ n1 n2
    have el : (e :: t).length = t.length + 1 := rfl
    obtain ⟨a1, a2, a3⟩ := a t.length (by omega)
    refine ⟨⟨by rw [a1]; exact h1, fun k x hk => ?_, by rw [a2]; exact h3, fun k x hk => ?_, by rw [a3]; exact h5⟩, RNl_fr ok2 h6 (fun j hj => a j (by omega)) (fun j hj => b j (by omega))⟩
    · have := (List.getElem?_eq_some_iff.mp hk).1
      rw [(b (1400 * t.length + k) (by omega)).1]; exact h2 k x hk
    · have := (List.getElem?_eq_some_iff.mp hk).1
      rw [(b (1400 * t.length + k) (by omega)).2]; exact h4 k x hk
theorem hld_len : ∀ {sc : SCT}, (hld x sc).length = sc.length
  | [] => rfl
  | e :: t => by
    unfold hld
    split
    · rfl
    · split
      · simp only [List.length_cons, hld_len (sc := t)]
      · rfl
theorem hld_fnd : ∀ {sc : SCT} {y : Nat}, fnd y (hld x sc) ↔ fnd y sc
  | [], y => Iff.rfl
  | e :: t, y => by
    unfold hld
    split
    · exact Iff.rfl
    · split
      · have ih := hld_fnd (sc := t) (y := y)
        constructor
        · rintro ⟨d, hd, hy⟩
          rcases List.mem_cons.mp hd with rfl | hd
          · exact ⟨e, List.mem_cons_self, hy⟩
          · obtain ⟨d2, a, b⟩ := ih.mp ⟨d, hd, hy⟩
            exact ⟨d2, List.mem_cons_of_mem _ a, b⟩
        · rintro ⟨d, hd, hy⟩
          rcases List.mem_cons.mp hd with rfl | hd
          · exact ⟨_, List.mem_cons_self, hy⟩
          · obtain ⟨d2, a, b⟩ := ih.mpr ⟨d, hd, hy⟩
            exact ⟨d2, List.mem_cons_of_mem _ a, b⟩
      · exact Iff.rfl
theorem HLx_mo {y : Nat} : ∀ {sc : SCT}, HLx y sc → HLx y (hld x sc)
  | [], h => h
  | e :: t, h => by
    unfold hld
    split
    · exact h
    · split
      · rcases h with h | ⟨h1, h2⟩
        · exact Or.inl h
        · refine Or.inr ⟨?_, HLx_mo h2⟩
          show y ∈ (if e.2.1.length < 60 then e.2.1 ++ [x] else e.2.1) ∨ 60 ≤ (if e.2.1.length < 60 then e.2.1 ++ [x] else e.2.1).length
          split
          · rcases h1 with h1 | h1
            · exact Or.inl (List.mem_append_left _ h1)
            · omega
          · exact h1
      · exact h
theorem HLx_new : ∀ {sc : SCT}, SOK sc → fnb x sc = true → HLx x (hld x sc)
  | [], _, h => by cases h
  | e :: t, ok, h => by
    obtain ⟨⟨n1, n2, n3, n4, n5, n6, n7⟩, ok2⟩ := ok
    unfold hld
    split
    · rename_i c
      rw [Bool.or_eq_true] at c
      by_cases c1 : e.1.contains x = true
      · exact Or.inl (List.contains_iff_mem.mp c1)
      · rcases c with c | c
        · exact absurd c c1
        · have := List.contains_iff_mem.mp c
          exact Or.inr ⟨Or.inl this, n6 x this⟩
    · rename_i c
      have c1 : e.1.contains x = false := by
        cases z : e.1.contains x
        · rfl
        · exact absurd (by rw [z]; rfl) c
      have f2 : fnb x t = true := by
        unfold fnb at h ⊢
        rw [List.any_cons, c1, Bool.false_or] at h
        exact h
      rw [if_pos f2]
      refine Or.inr ⟨?_, HLx_new ok2 f2⟩
      show x ∈ (if e.2.1.length < 60 then e.2.1 ++ [x] else e.2.1) ∨ 60 ≤ (if e.2.1.length < 60 then e.2.1 ++ [x] else e.2.1).length
      split
      · exact Or.inl (List.mem_append_right _ (List.mem_singleton.mpr rfl))
      · exact Or.inr (by omega)
theorem hld_ok : ∀ {sc : SCT}, SOK sc → SOK (hld x sc)
  | [], _ => trivial
  | e :: t, ok => by
    unfold hld
    split
    · exact ok
    · rename_i c
      split
      · rename_i hf
        obtain ⟨⟨n1, n2, n3, n4, n5, n6, n7⟩, ok2⟩ := ok
        refine ⟨⟨n1, n2, ?_, n4, n5, fun y hy => ?_, ?_⟩, hld_ok ok2⟩
        · show (if e.2.1.length < 60 then e.2.1 ++ [x] else e.2.1).length ≤ 60
          split
          · rw [List.length_append, List.length_singleton]; omega
          · exact n3
        · have hy : y ∈ (if e.2.1.length < 60 then e.2.1 ++ [x] else e.2.1) := hy
          split at hy
          · rcases List.mem_append.mp hy with h | h
            · exact HLx_mo (n6 y h)
            · rw [List.mem_singleton.mp h]; exact HLx_new ok2 hf
          · exact HLx_mo (n6 y hy)
        · show (if e.2.1.length < 60 then e.2.1 ++ [x] else e.2.1).Nodup
          split
          · rw [List.nodup_append]
            refine ⟨n7, List.nodup_cons.mpr ⟨List.not_mem_nil, List.nodup_nil⟩, fun a ha b hb => ?_⟩
            rw [List.mem_singleton.mp hb]
            exact fun z => c (by rw [Bool.or_eq_true]; exact Or.inr (List.contains_iff_mem.mpr (by rw [← z]; exact ha)))
          · exact n7
      · exact ok
theorem fnd_lt : ∀ {sc : SCT} {y : Nat}, SOK sc → fnd y sc → y < 1400
  | [], _, _, ⟨_, h, _⟩ => absurd h List.not_mem_nil
  | e :: t, y, ok, ⟨d, hd, hy⟩ => by
    rcases List.mem_cons.mp hd with rfl | hd
    · exact ok.1.2.1 y hy
    · exact fnd_lt ok.2 ⟨d, hd, hy⟩
end
