/-! one that ENDS now: name, CALLS, clearings, links, out of what it was -/
set_option maxRecDepth 100000
section
variable {q : Nat} {m w m2 w2 : MS}
theorem QE_sc (sc : SCs q m w) (hb : 0 ≤ F m (pq q 15) ∧ F m (pq q 15) ≤ 24) (h5 : m.1 (pq q 5) = w.2.2.1 90 q) (hm : ∀ k, k = 5 ∨ k = 12 ∨ k = 13 ∨ k = 15 → m2.1 (pq q k) = m.1 (pq q k)) (h14 : m2.2.2.1 (pq q 14) = m.2.2.1 (pq q 14)) (hw : ∀ K, K = 90 ∨ K = 113 ∨ K = 114 → w2.2.2.1 K q = w.2.2.1 K q) (h116 : w2.2.2.1 116 = w.2.2.1 116) (h117 : w2.2.2.1 117 = w.2.2.1 117) : QEs m2 w2 q := by
  obtain ⟨L, l1, l2⟩ := LS_of sc hb
  exact ⟨by rw [hm 12 (by omega), hw 113 (by omega)]; exact sc.1, by rw [hm 13 (by omega), hw 114 (by omega)]; exact sc.2.1, by rw [hm 5 (by omega), hw 90 (by omega)]; exact h5, L, LSm_st l1 (hm 15 (by omega)) h14, LSw_fr l2 h116 h117⟩
/-- a copy in another's cells is no one's that goes -/
theorem cp_loc2 {d z s : Nat} (hd : d ≠ z) (f : FR [] [] [89, 142] [88, 141] w w2) (h89 : ∀ r, A w2 89 r = if r = z then ((s : Nat) : Int) else A w 89 r) (h88 : ∀ i, ¬ (500 * z ≤ i ∧ i < 500 * z + 500) → w2.2.2.2 88 i = w.2.2.2 88 i) : LOCw d w w2 := cp_loc hd f h89 h88
theorem w89_loc {d z : Nat} {x : Int} (hd : d ≠ z) : LOCw d w (wa w 89 z x) := by
  refine ⟨fun K i h => wa_at (fun c => ?_), fun K h => wa_at (fun c => by omega), fun i _ _ => wa_at (fun c => by omega), rfl, fun _ _ _ => rfl, fun _ _ _ => rfl, fun _ _ _ => rfl, fun _ _ _ => rfl⟩
  have := OWi_k h
  omega
end
