/-! room for a TUPLE that wraps what goes up -/
set_option maxRecDepth 100000
section
variable {b b2 : Int → Nat → Nat → Prop} {N p n B W Wc Y U e c r B0 W0 d ee : Nat} {ow kd ow' kd' : Nat → Nat} {Fv Fv' : Int64 → Int64 → Prop} {P P' : Int64 → Prop} {m w m2 w2 : MS} {x t : Int64} {is ls as js : List Nat} {z : Int}
theorem GGm_fr (f : FR is ls as js m m2) (h1 : ∀ k, k ∈ is → (∃ l, l < 100 ∧ k = pq p l) ∨ (1100 ≤ k ∧ k < 1120 ∧ k ≠ 1106 ∧ k ≠ 1107)) (h2 : ∀ k, k ∈ ls → (∃ l, l < 100 ∧ k = pq p l) ∨ (1100 ≤ k ∧ k < 1120)) (h3 : ∀ k, k ∈ as → ∃ l, l < 100 ∧ k = pq p l) (h4 : ∀ k, k ∈ js → (∃ l, l < 100 ∧ k = pq p l) ∨ k < 100) : GGm p m m2 := by
  have ne : ∀ d k l, d ≠ p → k < 100 → l < 100 → pq d k ≠ pq p l := fun d k l hd hk hl c => hd (pq_e hk hl c).1
  refine ⟨fun d hd k hk => ⟨f.1 _ (fun c => ?_), f.2.1 _ (fun c => ?_), f.2.2.1 _ (fun c => ?_), f.2.2.2 _ (fun c => ?_)⟩, ⟨f.2.2.1 23 (fun c => ?_), f.1 22 (fun c => ?_), f.2.2.1 2 (fun c => ?_), f.2.2.1 3 (fun c => ?_)⟩, f.1 955 (fun c => ?_), f.2.2.1 54 (fun c => ?_), f.1 956 (fun c => ?_), fun K hK => f.2.2.1 K (fun c => ?_), fun k hk => f.1 k (fun c => ?_)⟩
  · rcases h1 _ c with ⟨l, hl, e⟩ | e
    · exact ne d k l hd hk hl e
    · unfold pq at e; omega
  · rcases h2 _ c with ⟨l, hl, e⟩ | e
    · exact ne d k l hd hk hl e
    · unfold pq at e; omega
  · obtain ⟨l, hl, e⟩ := h3 _ c
    exact ne d k l hd hk hl e
  · rcases h4 _ c with ⟨l, hl, e⟩ | e
    · exact ne d k l hd hk hl e
    · unfold pq at e; omega
  · obtain ⟨l, hl, e⟩ := h3 _ c
    unfold pq at e; omega
  · rcases h1 _ c with ⟨l, hl, e⟩ | e
    · unfold pq at e; omega
    · omega
  · obtain ⟨l, hl, e⟩ := h3 _ c
    unfold pq at e; omega
  · obtain ⟨l, hl, e⟩ := h3 _ c
    unfold pq at e; omega
  · rcases h1 _ c with ⟨l, hl, e⟩ | e
    · unfold pq at e; omega
    · omega
  · obtain ⟨l, hl, e⟩ := h3 _ c
    unfold pq at e; omega
  · rcases h1 _ c with ⟨l, hl, e⟩ | e
    · unfold pq at e; omega
    · omega
  · obtain ⟨l, hl, e⟩ := h3 _ c
    unfold pq at e; omega
  · rcases h1 _ c with ⟨l, hl, e⟩ | e
    · unfold pq at e; omega
    · omega
theorem GGm_xr (f : XRm p m m2) : GGm p m m2 := GGm_fr f (fun k hk => by
  simp only [List.mem_cons, List.not_mem_nil, or_false] at hk
  rcases hk with rfl | rfl
  · exact Or.inl ⟨4, by omega, rfl⟩
  · exact Or.inl ⟨5, by omega, rfl⟩) (by simp) (by simp) (fun k hk => by
  simp only [List.mem_cons, List.not_mem_nil, or_false] at hk
  rcases hk with rfl | rfl | rfl | rfl | rfl
  · exact Or.inl ⟨2, by omega, rfl⟩
  · exact Or.inl ⟨3, by omega, rfl⟩
  · exact Or.inl ⟨33, by omega, rfl⟩
  · exact Or.inl ⟨35, by omega, rfl⟩
  · exact Or.inl ⟨6, by omega, rfl⟩)
theorem GGm_pu (f : FR [pq p 26, pq p 45] [] [] [pq p 35] m m2) : GGm p m m2 := GGm_fr f (fun k hk => by
  simp only [List.mem_cons, List.not_mem_nil, or_false] at hk
  rcases hk with rfl | rfl
  · exact Or.inl ⟨26, by omega, rfl⟩
  · exact Or.inl ⟨45, by omega, rfl⟩) (by simp) (by simp) (fun k hk => by
  simp only [List.mem_cons, List.not_mem_nil, or_false] at hk
  subst hk
  exact Or.inl ⟨35, by omega, rfl⟩)
theorem GGm_pa (f : FR [pq p 4] [] [] [pq p 2] m m2) : GGm p m m2 := GGm_fr f (fun k hk => by
  simp only [List.mem_cons, List.not_mem_nil, or_false] at hk
  subst hk
  exact Or.inl ⟨4, by omega, rfl⟩) (by simp) (by simp) (fun k hk => by
  simp only [List.mem_cons, List.not_mem_nil, or_false] at hk
  subst hk
  exact Or.inl ⟨2, by omega, rfl⟩)
theorem GGw_xm (h : XMr p w w2) : GGw p w w2 := ⟨fun d hd => LOCw_xm h hd, ⟨fun K hK => h.1.2.2.1 K (by unfold PRr at hK; simp; omega), h.1.2.2.2 34 (by simp), h.1.2.2.1 12 (by simp), h.1.2.2.1 13 (by simp), h.1.1 14 (by simp)⟩, h.1.1 150 (by simp), fun K hK => h.1.2.2.1 K (by simp; omega), h.1.2.2.2 148 (by simp), fun K hK => h.1.2.2.1 K (by simp; omega), fun k hk => h.1.1 k (by simp; omega)⟩
theorem XMr_two (f : FR [] [] [89] [88] w w2) (h1 : ∀ r, r ≠ p → A w2 89 r = A w 89 r) (h2 : ∀ i, ¬ (500 * p ≤ i ∧ i < 500 * p + 500) → w2.2.2.2 88 i = w.2.2.2 88 i) : XMr p w w2 := ⟨FR.mo f (by simp) (by simp) (by simp) (by simp), fun r hr => ⟨h1 r hr, by rw [f.2.2.1 90 (by simp)], FR.A f (by simp)⟩, h2, fun i _ => by rw [f.2.2.2 91 (by simp)], fun i _ => by rw [f.2.2.2 93 (by simp)], fun i _ => by rw [f.2.2.2 107 (by simp)]⟩
/-- good terms behind a fall -/
theorem PTQ_fall (q : PTQ m p n ow kd Fv P B Wc Y) (hB : B0 ≤ B) (hW : W0 ≤ Wc) : PTQ (unS m p c r B0 W0) p n ow kd Fv P B0 W0 Y := by
  have bb := PTQ_b q
  obtain ⟨⟨q1, q2, q3⟩, ⟨q4, q5⟩, ⟨q6, q7⟩, ⟨q8, q9⟩, ⟨l1, e1, e2, e3⟩, ⟨l2, e4, e5, e6⟩, e7⟩ := q
  have im : ∀ k, k ≠ 21 → k ≠ 24 → k ≠ 26 → k ≠ 28 → F (unS m p c r B0 W0) (pq p k) = F m (pq p k) := fun k h1 h2 h3 h4 => by
    show (if pq p k = pq p 26 then _ else if pq p k = pq p 24 then _ else if pq p k = pq p 21 then _ else if pq p k = pq p 28 then _ else m.1 (pq p k)).toInt = _
    rw [if_neg (pq_inj h3), if_neg (pq_inj h2), if_neg (pq_inj h1), if_neg (pq_inj h4)]
    rfl
  refine ⟨⟨by rw [im 4 (by omega) (by omega) (by omega) (by omega)]; exact q1, q2, q3⟩, ⟨?_, fun i hi => q5 i (by omega)⟩, ⟨?_, fun i hi => q7 i (by omega)⟩, ⟨by rw [im 7 (by omega) (by omega) (by omega) (by omega)]; exact q8, q9⟩, ⟨l1, by rw [im 43 (by omega) (by omega) (by omega) (by omega)]; exact e1, by omega, e3⟩, ⟨l2, by rw [im 45 (by omega) (by omega) (by omega) (by omega)]; exact e4, by omega, e6⟩, e7⟩
  · show (if pq p 24 = pq p 26 then _ else if pq p 24 = pq p 24 then I ((B0 : Nat) : Int) else _).toInt = _
    rw [if_neg (pq_inj (by omega)), if_pos rfl]
    exact I_ti (by omega) (by omega)
  · show (if pq p 26 = pq p 26 then I ((W0 : Nat) : Int) else _).toInt = _
    rw [if_pos rfl]
    exact I_ti (by omega) (by omega)
theorem CX_fall (q : CX w p (hp w p) n ow' kd' Fv' P' W B Y) (hB : B0 ≤ B) (hW : W0 ≤ W) : CX (unR w p c r B0 W0) p (hp (unR w p c r B0 W0) p) n ow' kd' Fv' P' W0 B0 Y := by
  obtain ⟨-, q2, q3, q4, ⟨q5, q5b⟩, ⟨q6, q6b⟩, ⟨q7, q7b⟩, q8, q9, q10, q11⟩ := q
  refine ⟨rfl, q2, q3, q4, ⟨?_, by omega⟩, ⟨?_, by omega⟩, ⟨?_, q7b⟩, fun i hi => q8 i (by omega), fun i hi => q9 i (by omega), q10, q11⟩
  · show A (wa (wa (wa (wa w 106 p _) 95 p _) 92 p ((W0 : Nat) : Int)) 94 p ((B0 : Nat) : Int)) 92 p = _
    rw [wa_rne (by omega), wa_sm (by omega) (by omega)]
  · show A (wa (wa (wa (wa w 106 p _) 95 p _) 92 p _) 94 p ((B0 : Nat) : Int)) 94 p = _
    rw [wa_sm (by omega) (by omega)]
  · rw [← q7]
    exact congrArg Int32.toInt (((wa_at (by omega)).trans (wa_at (by omega))).trans ((wa_at (by omega)).trans (wa_at (by omega))))
theorem CX_hand (q : CX w p (hp w p) n ow' kd' Fv' P' W B Y) (g : GT n ow' kd' P' x) : CX (wl (wi w 140 z) 139 x) p (hp (wl (wi w 140 z) 139 x) p) n ow' kd' Fv' P' W B Y := by
  obtain ⟨-, q2, q3, q4, q5, q6, q7, q8, q9, q10, -⟩ := q
  exact ⟨rfl, q2, q3, q4, q5, q6, q7, q8, q9, q10, fun _ => g⟩
/-- room for three cells, or it ENDS -/
theorem room_pe (q : PTQ m p n ow kd Fv P B (W + e) Y) (cx : CTX Fv P m) (xc : CX w p (hp w p) n ow' kd' Fv' P' W B Y) (pl : PLs b p (wi m (pq p 26) ((W : Nat) : Int)) w n B W Y) (hx : ∀ i, W ≤ i → i < W + e → RTb b (m.2.2.2 (pq p 35) i) x) (g' : GT n ow' kd' P' x) (he : 0 < e) (he2 : e ≤ 100000) (h9 : F m (pq p 9) ≠ 3) (hee : F m 955 = ((ee : Nat) : Int) ∧ ee < 24) (h3 : F w 133 = ((p : Nat) : Int)) (hN : 2200000 ≤ N) :
    PP (fun m2 r w2 r2 => (r = 1 ∧ r2 = 1 ∧ XRm p m m2 ∧ XRr p (wl (wi w 140 ((p : Nat) : Int)) 139 x) w2 ∧ ∃ b2 U, PLs b2 p (wi m2 (pq p 26) ((W : Nat) : Int)) w2 U B W Y ∧ (∀ i, W ≤ i → i < W + e → RTb b2 (m2.2.2.2 (pq p 35) i) (w2.2.1 139)) ∧ U + 3 ≤ 500 ∧ (∃ ow2 kd2, PTQ m2 p U ow2 kd2 Fv P B (W + e) Y) ∧ (∃ ow2 kd2, CX w2 p (hp w2 p) U ow2 kd2 Fv' P' W B Y)) ∨ (r = 0 ∧ r2 = 0 ∧ ∃ m4, XRm p m m4 ∧ XRr p (wl (wi w 140 ((p : Nat) : Int)) 139 x) w2 ∧ m2 = enS m4 p (mk 1 20) p ee ∧ m4.1 (pq p 5) = w2.2.2.1 90 p)) (hm_Ma_room N m p 3) (bnd (fm_M_hand N w (I ((p : Nat) : Int)) x) (fun u1 _ => fm_M_wants N u1 (u1.1 133) 3)) := by
  have hN2 : fm_M_hand N w (I ((p : Nat) : Int)) x = some (wl (wi w 140 ((p : Nat) : Int)) 139 x, ()) := hand_e
  have g3 : F (wl (wi w 140 ((p : Nat) : Int)) 139 x) 133 = ((p : Nat) : Int) := by rw [F_wl, wi_ne (by omega)]; exact h3
  rw [hN2, bnd_so, I_F' g3]
  unfold hm_Ma_room hb_Ma_room_0
  have wp := want_pe (k := 3) q cx (CX_hand xc g') pl hx he he2 (by omega) hN
  intro m2 r w2 r2 e1 e2
  cases hz : hm_Pr_want N m p 3 with
  | none => rw [hz] at e1; cases e1
  | some z =>
    obtain ⟨m4, r4⟩ := z
    rw [hz, bnd_so] at e1
    obtain ⟨b2, U, a1, a2, a3, a4, a5, a6, a7⟩ := wp m4 r4 w2 r2 hz e2
    rcases a3 with ⟨c1, c2⟩ | ⟨c1, c2, c3⟩
    · subst c1 c2
      rw [show decide ((0 : Int32) = 0) = true from rfl, br_t] at e1
      have e9 : F m4 (pq p 9) ≠ 3 := by
        rw [FR.F a4 (by
          simp only [List.mem_cons, List.not_mem_nil, or_false]
          intro c
          rcases c with c | c
          · exact pq_inj (by omega) c
          · exact pq_inj (by omega) c)]
        exact h9
      have e55 : F m4 955 = ((ee : Nat) : Int) := by rw [FR.F a4 (by simp [pq_n])]; exact hee.1
      have eb : hm_Wl_endsBy N m4 p 20 = some (enS m4 p (mk 1 20) p ee, ()) := by
        unfold hm_Wl_endsBy hb_Wl_endsBy_0
        rw [show (1 : Int32) = I 1 from rfl, show (20 : Int32) = I 20 from rfl, e_make, bnd_so, endsW_e e9 e55 hee.2, bnd_so]
      rw [eb, bnd_so] at e1
      have e1' : some (enS m4 p (mk 1 20) p ee, (0 : Int32)) = some (m2, r) := e1
      injection e1' with e1'
      injection e1' with i1 i2
      refine Or.inr ⟨i2.symm, rfl, m4, a4, a5, i1.symm, ?_⟩
      have := a1.1.2.2
      rw [show (wi m4 (pq p 26) ((W : Nat) : Int)).1 (pq p 5) = m4.1 (pq p 5) from if_neg (pq_inj (by omega))] at this
      exact this
    · subst c1 c2
      rw [show decide ((1 : Int32) = 0) = false from rfl, br_f] at e1
      have e1' : some (m4, (1 : Int32)) = some (m2, r) := e1
      injection e1' with e1'
      injection e1' with i1 i2
      subst i1
      exact Or.inl ⟨i2.symm, rfl, a4, a5, b2, U, a1, a2, c3, a6, a7⟩
end
