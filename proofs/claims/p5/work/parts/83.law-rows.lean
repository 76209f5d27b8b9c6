/-! the law: worlds side by side; a call changes its own and leaves the rest -/
theorem ap_r {α : Type} {w r : List α} {k : Nat} {q : α} (h : r[k]? = some q) : (w ++ r)[w.length + k]? = some q := by
  rw [List.getElem?_append_right (by omega)]
  simpa using h
theorem ap_l {α : Type} {w r : List α} {k : Nat} {q : α} (h : w[k]? = some q) : (w ++ r)[k]? = some q := by
  rw [List.getElem?_append_left (List.getElem?_eq_some_iff.mp h).1]
  exact h
theorem ap_c {α : Type} {w r : List α} {k : Nat} {q : α} (h : (w ++ r)[k]? = some q) : w[k]? = some q ∨ ∃ j, k = w.length + j ∧ r[j]? = some q := by
  by_cases hk : k < w.length
  · rw [List.getElem?_append_left hk] at h
    exact Or.inl h
  · rw [List.getElem?_append_right (by omega)] at h
    exact Or.inr ⟨k - w.length, by omega, h⟩
theorem fr_l {D : va_G} {cl : List vw_C} {w r : va_W} {H : Heap} (hP : va_P D cl (w ++ r) H) : va_P D cl w H := fun k q h => hP k q (ap_l h)
theorem fr_r {D : va_G} {cl : List vw_C} {w r : va_W} {H : Heap} (hP : va_P D cl (w ++ r) H) : va_P D cl r H := fun k q h => hP (w.length + k) q (ap_r h)
theorem fd_l {A : Nat → Prop} {w r : va_W} (hD : va_D A (w ++ r)) : va_D A w := ⟨fun i j p q hi hj e => hD.1 i j p q (ap_l hi) (ap_l hj) e, fun k q h => hD.2 k q (ap_l h)⟩
theorem fd_r {A : Nat → Prop} {w r : va_W} (hD : va_D A (w ++ r)) : va_D A r := ⟨fun i j p q hi hj e => by have := hD.1 _ _ p q (ap_r (w := w) hi) (ap_r (w := w) hj) e; omega, fun k q h => hD.2 _ q (ap_r (w := w) h)⟩
theorem fr_join {D : va_G} {cl : List vw_C} {A : Nat → Prop} {w w2 r : va_W} {H H1 : Heap} (hP : va_P D cl (w ++ r) H) (hD : va_D A (w ++ r)) (hA : ∀ q, H.size ≤ q → A q)
    (hP2 : va_P D cl w2 H1) (hD2 : va_D (va_A w H.size) w2) (hk : ∀ q, q < H.size → ¬ va_A w H.size q → H1[q]? = H[q]?) : va_P D cl (w2 ++ r) H1 ∧ va_D A (w2 ++ r) := by
  have hlt : ∀ (k : Nat) (q : Nat × va_E), r[k]? = some q → q.1 < H.size := fun k q h => (hP (w.length + k) q (ap_r h)).lt
  have hno : ∀ (k : Nat) (q : Nat × va_E), r[k]? = some q → ¬ va_A w H.size q.1 := by
    intro k q h hz
    rcases hz with ⟨j, e1, hj⟩ | hz
    · have h3 := hD.1 j (w.length + k) _ _ (ap_l hj) (ap_r h) rfl
      have h4 := (List.getElem?_eq_some_iff.mp hj).1
      omega
    · have := hlt k q h
      omega
  refine ⟨fun k q h => ?_, fun i j a b ha hb hab => ?_, fun k q h => ?_⟩
  · rcases ap_c h with h9 | ⟨j, rfl, h9⟩
    · exact hP2 k q h9
    · exact (hP (w.length + j) q (ap_r h9)).kept (hk q.1 (hlt j q h9) (hno j q h9))
  · rcases ap_c ha with ha9 | ⟨i2, rfl, ha9⟩
    · rcases ap_c hb with hb9 | ⟨j2, rfl, hb9⟩
      · exact hD2.1 i j a b ha9 hb9 hab
      · exact absurd (by rw [← hab]; exact hD2.2 i a ha9) (hno j2 b hb9)
    · rcases ap_c hb with hb9 | ⟨j2, rfl, hb9⟩
      · exact absurd (by rw [hab]; exact hD2.2 j b hb9) (hno i2 a ha9)
      · have := (fd_r hD).1 i2 j2 a b ha9 hb9 hab
        omega
  · rcases ap_c h with h9 | ⟨j, rfl, h9⟩
    · rcases hD2.2 k q h9 with ⟨j, e1, hj⟩ | hz
      · exact hD.2 j (q.1, e1) (ap_l hj)
      · exact hA _ hz
    · exact hD.2 _ q (ap_r (w := w) h9)
theorem fr_swap {D : va_G} {cl : List vw_C} {a b c : va_W} {H : Heap} (h : va_P D cl (a ++ (b ++ c)) H) : va_P D cl (b ++ (a ++ c)) H := wP_perm (by rw [← List.append_assoc, ← List.append_assoc]; exact List.Perm.append_right c List.perm_append_comm) h
theorem fd_swap {A : Nat → Prop} {a b c : va_W} (h : va_D A (a ++ (b ++ c))) : va_D A (b ++ (a ++ c)) := wD_perm (by rw [← List.append_assoc, ← List.append_assoc]; exact List.Perm.append_right c List.perm_append_comm) h
section FRC
variable {p : Program} {l : Launch} {e : Env} {R : Room} {s : State} {m : MethodId} {args : Array Value} {below : List Frame} {meth : Method} {c : Code} {H : Heap} {locs : List Loc} {cells slots mc ms : Nat} {Q : State → Prop} {pc : Nat} {ls : Array Slot} {st0 rest : List Value} {D : va_G} {cl : List vw_C} {A : Nat → Prop} {w r : va_W} {ι : Type} {w2 : ι → va_W} {val : ι → Option Value} {Ex : ι → Prop} {Qa : State → Outcome → State → Prop}
theorem fr_S {F : Nat → Prop} (hA : ∀ q, s.heap.size ≤ q → A q) (hS : va_S A s.heap H locs) (hF : ∀ q, F q → A q) {H1 : Heap} {L : List Loc} (hz : H.size ≤ H1.size) (hk : ∀ q, q < H.size → ¬ F q → H1[q]? = H[q]?) (hL : ∀ q ∈ L, F q.base) : va_S A s.heap H1 (locs ++ L) :=
  ⟨Nat.le_trans hS.1 hz, fun q h1 h2 => by rw [hk q (Nat.lt_of_lt_of_le h1 hS.1) (fun z => h2 (hF q z))]; exact hS.2.1 q h1 h2, fun q hq => by
    rcases List.mem_append.mp hq with h | h
    · exact hS.2.2 q h
    · exact hF _ (hL q h)⟩
theorem fr_call (hA : ∀ q, s.heap.size ≤ q → A q) (hP : va_P D cl (w ++ r) H) (hD : va_D A (w ++ r)) (hS : va_S A s.heap H locs)
    (hr : va_Run p l e R s m args below meth c H locs cells slots mc ms (F0 m pc ls st0) rest Qa (va_A w H.size))
    (post : ∀ (st t : State) (v : Option Value), Qa st (.returned v) t → ∃ i, Ex i ∧ v = val i ∧ va_P D cl (w2 i) t.heap ∧ va_D (va_A w H.size) (w2 i) ∧ va_F (va_A w H.size) st t)
    (kk : ∀ (i : ι) (H1 : Heap) (locs1 : List Loc), Ex i → va_P D cl (w2 i ++ r) H1 → va_D A (w2 i ++ r) → va_S A s.heap H1 locs1 → W p l e R s m args below meth c H1 locs1 (cells + mc) (slots + ms) Q (F0 m (pc + 3) ls ((val i).toList ++ rest))) : W p l e R s m args below meth c H locs cells slots Q (F0 m pc ls st0) := by
  have hF : ∀ q, va_A w H.size q → A q := fun q h => by
    rcases h with ⟨k, e1, h⟩ | h
    · exact hD.2 k _ (ap_l h)
    · exact hA q (Nat.le_trans hS.1 h)
  intro T hT X
  obtain ⟨v1, st₀, t, T', L, h0, X', hL, e1, e2, hq, sx⟩ := hr T hT X
  obtain ⟨i, hEx, rfl, hP2, hD2, hz, hk⟩ := post _ _ _ hq
  rw [h0] at hz hk
  obtain ⟨j1, j2⟩ := fr_join (H1 := T'.heap) hP hD (fun q h => hA q (Nat.le_trans hS.1 h)) (by rw [e1]; exact hP2) hD2 (fun q h1 h2 => by rw [e1]; exact hk q h1 h2)
  obtain ⟨t2, a1, b1⟩ := kk i T'.heap (locs ++ L) hEx j1 j2 (fr_S hA hS hF (by rw [e1]; exact hz) (fun q h1 h2 => by rw [e1]; exact hk q h1 h2) hL) T' rfl X'
  exact ⟨t2, sx t2 a1, b1⟩
theorem fr_callT {nm : String} (hA : ∀ q, s.heap.size ≤ q → A q) (hP : va_P D cl (w ++ r) H) (hD : va_D A (w ++ r)) (hS : va_S A s.heap H locs)
    (hr : RunT p l e R s m args below meth c H locs cells slots mc ms (F0 m pc ls st0) rest Qa (va_A w H.size))
    (post : ∀ (st t : State) (v : Addr), Qa st (.threw v) t → ∃ i, Ex i ∧ (∃ cell, t.heap[v]? = some cell ∧ t.vm.findClass nm = some cell.cls ∧ cell.vm = .none) ∧ va_P D cl (w2 i) t.heap ∧ va_D (va_A w H.size) (w2 i) ∧ va_F (va_A w H.size) st t)
    (kk : ∀ (i : ι) (v : Addr) (cell : Cell) (H1 : Heap) (locs1 : List Loc), Ex i → va_P D cl (w2 i ++ r) H1 → va_D A (w2 i ++ r) → va_S A s.heap H1 locs1 → H1[v]? = some cell → s.vm.findClass nm = some cell.cls → cell.vm = .none → WT p l e R s m args below meth c H1 locs1 (cells + mc) (slots + ms) Q (F0 m pc ls rest) v) : W p l e R s m args below meth c H locs cells slots Q (F0 m pc ls st0) := by
  have hF : ∀ q, va_A w H.size q → A q := fun q h => by
    rcases h with ⟨k, e1, h⟩ | h
    · exact hD.2 k _ (ap_l h)
    · exact hA q (Nat.le_trans hS.1 h)
  intro T hT X
  obtain ⟨v1, st₀, t, T', L, h0, X', hL, e1, e2, hq, sx⟩ := hr T hT X
  obtain ⟨i, hEx, ⟨cell, c1, c2, c3⟩, hP2, hD2, hz, hk⟩ := post _ _ _ hq
  rw [h0] at hz hk
  obtain ⟨j1, j2⟩ := fr_join (H1 := T'.heap) hP hD (fun q h => hA q (Nat.le_trans hS.1 h)) (by rw [e1]; exact hP2) hD2 (fun q h1 h2 => by rw [e1]; exact hk q h1 h2)
  obtain ⟨t2, a1, b1⟩ := kk i v1 cell T'.heap (locs ++ L) hEx j1 j2 (fr_S hA hS hF (by rw [e1]; exact hz) (fun q h1 h2 => by rw [e1]; exact hk q h1 h2) hL) (by rw [e1]; exact c1) (by rw [← X'.warmed.alike.findClass, e2]; exact c2) c3 T' rfl X'
  exact ⟨t2, sx t2 a1, b1⟩
end FRC
