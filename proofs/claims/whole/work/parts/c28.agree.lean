/-! a heap is told by its cells -/
set_option maxRecDepth 100000
section
variable {h h2 : Nat → Int64} {n : Nat} {ow kd : Nat → Nat} {Fv : Int64 → Int64 → Prop} {P : Int64 → Prop} {f s : Nat} {t : Int64}
theorem SZ_ag (hh : ∀ i, i < n → h2 i = h i) (z : SZ h n ow kd Fv P f t s) : SZ h2 n ow kd Fv P f t s := SZ_ext (Nat.le_refl _) hh (fun _ _ => rfl) (fun _ _ => rfl) (fun _ _ q => q) (fun _ q => q) z
theorem SZc_ag (hh : ∀ i, i < n → h2 i = h i) (z : SZc h n ow kd Fv P f t s) : SZc h2 n ow kd Fv P f t s := SZ_extc (Nat.le_refl _) hh (fun _ _ => rfl) (fun _ _ => rfl) (fun _ _ q => q) (fun _ q => q) z
theorem HP_agr (hh : ∀ i, i < n → h2 i = h i) (g : HP h n ow kd Fv P) : HP h2 n ow kd Fv P := fun t z gt => by
  obtain ⟨f, s, y1, y2⟩ := g t z gt
  refine ⟨f, s, SZ_ag hh y1, fun q => ?_⟩
  obtain ⟨q1, q2, q3⟩ := y2 q
  have bk := (HP_bk g z gt).1
  have bn := bk.2.2.2.1
  refine ⟨q1, by rw [blk_ag z hh bn]; exact q2, ?_⟩
  rw [hh _ (by omega)]
  exact q3
theorem HPc_agr (hh : ∀ i, i < n → h2 i = h i) (g : HPc h n ow kd Fv P) : HPc h2 n ow kd Fv P := fun t z gt => by
  obtain ⟨f, s, y1, y2⟩ := g t z gt
  refine ⟨f, s, SZc_ag hh y1, fun q => ?_⟩
  obtain ⟨q1, q2, q3⟩ := y2 q
  have bk := (HP_bkc g z gt).1
  have bn := bk.2.2.2.1
  refine ⟨q1, by rw [blk_ag z hh bn]; exact q2, ?_⟩
  rw [hh _ (by omega)]
  exact q3
end
