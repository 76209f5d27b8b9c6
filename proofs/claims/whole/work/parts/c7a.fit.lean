/-! one pattern is tried, both sides -/
set_option maxRecDepth 100000
/-- here: what stays while patterns are tried -/
def FWx (p B0 : Nat) (w0 w : MS) : Prop := FR [] [] [94, 160, 162] [93, 141, 161, 163] w0 w ∧ (∀ k, k ≠ p → A w 94 k = A w0 94 k) ∧ ∀ i, ¬ (2500 * p + B0 ≤ i ∧ i < 2500 * p + 2500) → w.2.2.2 93 i = w0.2.2.2 93 i
/-- what does not change -/
def FTx (b : Int → Nat → Nat → Prop) (Fv : Int64 → Int64 → Prop) (P : Int64 → Prop) (Fv' : Int64 → Int64 → Prop) (P' : Int64 → Prop) (ow kd ow' kd' : Nat → Nat) (p jf nbj U na : Nat) (fa' : Nat → Nat) (H : List Nat) (m0 w0 : MS) : Prop := (p < 24 ∧ F w0 133 = ((p : Nat) : Int)) ∧ (A w0 95 p = ((jf + 1 : Nat) : Int) ∧ jf < 60 ∧ A w0 99 (60 * p + jf) = ((nbj : Nat) : Int) ∧ A w0 101 (60 * p + jf) = ((H.length : Nat) : Int)) ∧ (ISb b (m0.2.2.2 (pq p 2)) U (hp w0 p) U ∧ HPc (m0.2.2.2 (pq p 2)) U ow kd Fv P ∧ HP (hp w0 p) U ow' kd' Fv' P' ∧ U ≤ 500) ∧ CTX Fv P m0 ∧ FVH Fv' ∧ ATf m0 w0 fa' na ∧ H.Nodup
/-- what does -/
def FSt (b : Int → Nat → Nat → Prop) (P : Int64 → Prop) (P' : Int64 → Prop) (ow kd ow' kd' : Nat → Nat) (p B0 nbj U W Y : Nat) (H O : List Nat) (m0 w0 m w : MS) : Prop := NFx p B0 m0 m ∧ FWx p B0 w0 w ∧ PLs b p m w U (nbj + (H ++ O).length) W Y ∧ NMs m p nbj (H ++ O) ∧ (B0 ≤ nbj + (H ++ O).length ∧ O.Nodup) ∧ ∀ k, k < nbj + (H ++ O).length → TPb b U ow kd P U ow' kd' P' (m.2.2.2 (pq p 33) k) (w.2.2.2 93 (2500 * p + k))
section
variable {b : Int → Nat → Nat → Prop} {Fv Fv' : Int64 → Int64 → Prop} {P P' : Int64 → Prop} {ow kd ow' kd' fa' : Nat → Nat} {N p B0 jf nbj U W Y na B : Nat} {H O : List Nat} {m0 w0 m w m2 w2 : MS} {t x : Int64}
theorem FWx.fr (h : FWx p B0 w0 w) (f : FR [] [] [160, 162] [141, 161, 163] w w2) : FWx p B0 w0 w2 := ⟨FR.tr h.1 (FR.mo f (by simp) (by simp) (by simp) (by simp)), fun k hk => by rw [FR.A f (by simp)]; exact h.2.1 k hk, fun i hi => by rw [f.2.2.2 93 (by simp)]; exact h.2.2 i hi⟩
theorem FSt_w (h : FSt b P P' ow kd ow' kd' p B0 nbj U W Y H O m0 w0 m w) (f : FR [] [] [160, 162] [141, 161, 163] w w2) : FSt b P P' ow kd ow' kd' p B0 nbj U W Y H O m0 w0 m w2 := by
  obtain ⟨h1, h2, h3, h4, h5, h6⟩ := h
  refine ⟨h1, h2.fr f, PLs_cg h3 (fun _ _ => rfl) (fun _ _ => rfl) (fun _ _ => rfl) (fun _ _ => rfl) (fun _ _ => rfl) (fun k hk => by rw [f.2.2.1 k (by simp at hk ⊢; omega)]) (fun i _ => by rw [f.2.2.2 88 (by simp)]) (fun i _ => by rw [f.2.2.2 93 (by simp)]) (fun i _ => by rw [f.2.2.2 91 (by simp)]) (fun i _ => by rw [f.2.2.2 107 (by simp)]), h4, h5, fun k hk => by rw [f.2.2.2 93 (by simp)]; exact h6 k hk⟩
theorem NFx.fr (h : NFx p B0 m0 m) (f : FR [] [] [] [44, 45, 46] m m2) : NFx p B0 m0 m2 := by
  obtain ⟨h1, ⟨B1, b1, b2, b3, b4⟩, h3⟩ := h
  have i1 : ∀ k, m2.1 k = m.1 k := fun k => f.1 k (by simp)
  have fF : ∀ k, F m2 k = F m k := fun k => congrArg Int32.toInt (i1 k)
  have j1 : ∀ k, 100 ≤ k → m2.2.2.2 k = m.2.2.2 k := fun k hk => f.2.2.2 k (by simp; omega)
  refine ⟨FIx.tr h1 (FC.mo (FC.of f (by simp) (by simp) (by simp) (by simp)) (by simp) (by simp) (by simp) (by simp) (by simp) (by simp) (by simp)), ⟨B1, b1, by rw [fF]; exact b2, by rw [fF]; exact b3, by rw [fF]; exact b4⟩, fun i hi => ⟨?_, ?_⟩⟩
  · rw [f.2.2.1 _ (by simp)]; exact (h3 i hi).1
  · rw [j1 _ (by unfold pq; omega)]; exact (h3 i hi).2
theorem FSt_m (h : FSt b P P' ow kd ow' kd' p B0 nbj U W Y H O m0 w0 m w) (f : FR [] [] [] [44, 45, 46] m m2) : FSt b P P' ow kd ow' kd' p B0 nbj U W Y H O m0 w0 m2 w := by
  obtain ⟨h1, h2, h3, h4, h5, h6⟩ := h
  have j1 : ∀ k, 100 ≤ k → m2.2.2.2 k = m.2.2.2 k := fun k hk => f.2.2.2 k (by simp; omega)
  have q : ∀ k, m2.2.2.2 (pq p k) = m.2.2.2 (pq p k) := fun k => j1 _ (by unfold pq; omega)
  refine ⟨h1.fr f, h2, PLs_cg h3 (fun k _ => f.1 _ (by simp)) (fun i _ => by rw [q]) (fun i _ => by rw [q]) (fun i _ => by rw [q]) (fun i _ => by rw [q]) (fun _ _ => rfl) (fun _ _ => rfl) (fun _ _ => rfl) (fun _ _ => rfl) (fun _ _ => rfl), fun i y hy => ?_, h5, fun k hk => by rw [q]; exact h6 k hk⟩
  show (m2.2.2.1 (pq p 32) _).toInt = _
  rw [f.2.2.1 _ (by simp)]
  exact h4 i y hy
/-- one more name, both sides -/
theorem FSt_bind {s : Nat} (h : FSt b P P' ow kd ow' kd' p B0 nbj U W Y H O m0 w0 m w) (hpp : p < 24) (q : TPb b U ow kd P U ow' kd' P' t x) (hs : s ∉ O) (hs2 : s < 2147483648) (hB : nbj + (H ++ O).length < 2500) (z1 : FIx p m m2) (z3 : F m2 (pq p 24) = ((nbj + (H ++ O).length + 1 : Nat) : Int)) (z4 : ((nbj + (H ++ O).length + 1 : Nat) : Int) ≤ F m2 (pq p 43) ∧ ((nbj + (H ++ O).length + 1 : Nat) : Int) ≤ F m2 (pq p 42)) (z5 : ∀ i, i ≤ nbj + (H ++ O).length → m2.2.2.1 (pq p 32) i = if i = nbj + (H ++ O).length then I ((s : Nat) : Int) else m.2.2.1 (pq p 32) i) (z6 : ∀ i, i ≤ nbj + (H ++ O).length → m2.2.2.2 (pq p 33) i = if i = nbj + (H ++ O).length then t else m.2.2.2 (pq p 33) i) : FSt b P P' ow kd ow' kd' p B0 nbj U W Y H (O ++ [s]) m0 w0 m2 (wa (wj w 93 (2500 * p + (nbj + (H ++ O).length)) x) 94 p ((nbj + (H ++ O).length + 1 : Nat) : Int)) := by
  obtain ⟨⟨h1, ⟨B1, b1, b2, b3, b4⟩, b5⟩, h2, h3, h4, ⟨h5, h5b⟩, h6⟩ := h
  have el : nbj + (H ++ (O ++ [s])).length = nbj + (H ++ O).length + 1 := by simp; omega
  have eL : H ++ (O ++ [s]) = (H ++ O) ++ [s] := by simp
  have fq : ∀ k, k < 100 → k ∉ [24, 42, 43] → m2.1 (pq p k) = m.1 (pq p k) := fun k h hk => z1.2.2.2.2.1 p k h (fun _ => hk)
  have jq : ∀ k, k < 100 → k ∉ [33] → m2.2.2.2 (pq p k) = m.2.2.2 (pq p k) := fun k h hk => z1.jq h hk
  have w93 : ∀ i, (wa (wj w 93 (2500 * p + (nbj + (H ++ O).length)) x) 94 p ((nbj + (H ++ O).length + 1 : Nat) : Int)).2.2.2 93 i = if i = 2500 * p + (nbj + (H ++ O).length) then x else w.2.2.2 93 i := fun i => by rw [J_wa]; exact wj_row
  have tp : ∀ k, k < nbj + (H ++ O).length + 1 → TPb b U ow kd P U ow' kd' P' (m2.2.2.2 (pq p 33) k) ((wa (wj w 93 (2500 * p + (nbj + (H ++ O).length)) x) 94 p ((nbj + (H ++ O).length + 1 : Nat) : Int)).2.2.2 93 (2500 * p + k)) := fun k hk => by
    rw [z6 k (by omega), w93]
    by_cases c : k = nbj + (H ++ O).length
    · rw [if_pos c, if_pos (by omega)]; exact q
    · rw [if_neg c, if_neg (by omega)]; exact h6 k (by omega)
  refine ⟨⟨FIx.tr h1 z1, ⟨_, by omega, z3, z4.1, z4.2⟩, fun i hi => ⟨?_, ?_⟩⟩, ⟨FR.wa (FR.wj h2.1 (by simp)) (by simp), fun k hk => ?_, fun i hi => ?_⟩, ?_, ?_, ⟨by omega, ?_⟩, ?_⟩
  · rw [z5 i (by omega), if_neg (by omega)]; exact (b5 i hi).1
  · rw [z6 i (by omega), if_neg (by omega)]; exact (b5 i hi).2
  · rw [wa_ne hk, A_wj]; exact h2.2.1 k hk
  · rw [w93, if_neg (by omega)]; exact h2.2.2 i hi
  · rw [el]
    obtain ⟨⟨⟨p1, p2, p3⟩, p4, p5⟩, ⟨p6, p7, p8⟩, ⟨p9, p10, p11⟩, p12, p13, p14⟩ := h3
    have aw : ∀ K, K ≠ 94 → A (wa (wj w 93 (2500 * p + (nbj + (H ++ O).length)) x) 94 p ((nbj + (H ++ O).length + 1 : Nat) : Int)) K p = A w K p := fun K hK => by rw [wa_rne hK, A_wj]
    have jw : ∀ K, K ≠ 93 → (wa (wj w 93 (2500 * p + (nbj + (H ++ O).length)) x) 94 p ((nbj + (H ++ O).length + 1 : Nat) : Int)).2.2.2 K = w.2.2.2 K := fun K hK => wj_22 hK
    have fQ : ∀ k, k < 100 → k ∉ [24, 42, 43] → F m2 (pq p k) = F m (pq p k) := fun k h hk => congrArg Int32.toInt (fq k h hk)
    refine ⟨⟨⟨by rw [fQ 4 (by omega) (by simp)]; exact p1, by rw [aw 89 (by omega)]; exact p2, p3⟩, ?_, ?_⟩, ⟨z3, wa_sm (by omega) (by omega), fun i hi => (tp i hi).1⟩, ⟨by rw [fQ 26 (by omega) (by simp)]; exact p9, by rw [aw 92 (by omega)]; exact p10, fun i hi => by rw [jq 35 (by omega) (by simp), jw 91 (by omega)]; exact p11 i hi⟩, by rw [fQ 7 (by omega) (by simp)]; exact p12, by rw [aw 108 (by omega)]; exact p13, fun i hi => by rw [jq 6 (by omega) (by simp), jw 107 (by omega)]; exact p14 i hi⟩
    · rw [jq 2 (by omega) (by simp)]
      have : hp (wa (wj w 93 (2500 * p + (nbj + (H ++ O).length)) x) 94 p ((nbj + (H ++ O).length + 1 : Nat) : Int)) p = hp w p := by unfold hp; rw [jw 88 (by omega)]
      rw [this]
      exact p4
    · rw [fq 5 (by omega) (by simp), wa_21 (by omega)]
      exact p5
  · intro i y hy
    rw [eL] at hy
    show (m2.2.2.1 (pq p 32) (nbj + i)).toInt = _
    by_cases c : i < (H ++ O).length
    · rw [List.getElem?_append_left c] at hy
      rw [z5 _ (by omega), if_neg (by omega)]
      exact h4 i y hy
    · rw [List.getElem?_append_right (by omega)] at hy
      have ei : i = (H ++ O).length := by
        apply Classical.byContradiction
        intro cc
        rw [List.getElem?_eq_none (by show 1 ≤ _; omega)] at hy
        cases hy
      subst ei
      rw [Nat.sub_self] at hy
      have hy2 : s = y := by simpa using hy
      subst hy2
      rw [z5 _ (by omega), if_pos rfl]
      exact I_ti (by omega) (by omega)
  · rw [List.nodup_append]
    exact ⟨h5b, by simp, fun a ha c hc e => hs (by rw [List.mem_singleton.mp hc] at e; rw [← e]; exact ha)⟩
  · rw [el]
    exact tp
end
section
variable {β : Type} {b : Int → Nat → Nat → Prop} {Fv Fv' : Int64 → Int64 → Prop} {P P' : Int64 → Prop} {ow kd ow' kd' fa' : Nat → Nat} {N p B0 jf nbj U W Y na : Nat} {H : List Nat} {m0 w0 : MS} {Q : MS → Int32 → MS → β → Prop} {K : MS → Int32 → Option (MS × β)}
/-- the stack, here -/
def RSk (w : MS) (P0 : Nat → Int) (X0 : Nat → Int64) (many : Nat) : Prop := ∀ k, k < many → A w 160 k = P0 k ∧ w.2.2.2 161 k = X0 k
theorem pr_row {K1 i : Nat} (h : K1 = 8 ∨ K1 = 18 ∨ K1 = 19 ∨ (23 ≤ K1 ∧ K1 ≤ 31) ∨ (33 ≤ K1 ∧ K1 ≤ 45) ∨ (47 ≤ K1 ∧ K1 ≤ 57)) : ROs w0 K1 i = A w0 K1 i := if_pos h
theorem tl_iso {t x : Int64} {h h' : Nat → Int64} (is : ISb b h U h' U) (g : HPc h U ow kd Fv P) (g' : HP h' U ow' kd' Fv' P') (q : TPb b U ow kd P U ow' kd' P' t x) : ∀ k, (∀ i, i < k → so (tlc h t i) = 7) → TPb b U ow kd P U ow' kd' P' (tlc h t k) (tlc h' x k)
  | 0, _ => q
  | k + 1, hk => (TP_pair is g g' (tl_iso is g g' q k (fun i hi => hk i (by omega))) (hk k (by omega))).2.2
theorem sp_iso {t x : Int64} {h h' : Nat → Int64} {n : Nat} {tl : Bool} (is : ISb b h U h' U) (g : HPc h U ow kd Fv P) (g' : HP h' U ow' kd' Fv' P') (q : TPb b U ow kd P U ow' kd' P' t x) : SPn h t n tl ↔ SPn h' x n tl := by
  have fw : ∀ k, (∀ i, i < k → so (tlc h' x i) = 7) → (∀ i, i < k → so (tlc h t i) = 7) := by
    intro k
    induction k with
    | zero => intro _ i hi; omega
    | succ k ih =>
      intro h1 i hi
      have h2 := ih (fun i hi => h1 i (by omega))
      by_cases c : i = k
      · subst c
        have := (tl_iso is g g' q i h2).1
        rw [← RTb_so this]
        exact h1 i (by omega)
      · exact h2 i (by omega)
  constructor
  · intro s
    refine ⟨fun k hk => ?_, fun e => ?_⟩
    · rw [RTb_so (tl_iso is g g' q k (fun i hi => s.1 i (by omega))).1]; exact s.1 k hk
    · rw [RTb_so (tl_iso is g g' q n s.1).1]; exact s.2 e
  · intro s
    have h2 := fw n s.1
    exact ⟨h2, fun e => by rw [← RTb_so (tl_iso is g g' q n h2).1]; exact s.2 e⟩
end
