/-! a part is tried, both sides -/
set_option maxRecDepth 100000
section
variable {b : Int → Nat → Nat → Prop} {P P' : Int64 → Prop} {ow kw ow' kd' : Nat → Nat} {p j B0 U W Y kd sc fl k0 a : Nat} {m w m2 w2 m3 w3 : MS} {nb : Nat → Nat} {Hs Os : Nat → List Nat} {O2 : List Nat} {y : Option (Nat × Nat × Nat)} {v : Int}
theorem RUb_94 (ru : RUb m w p j nb Hs Os y) : RUb m (wa w 94 p v) p j nb Hs Os y := by
  obtain ⟨⟨fa, ct⟩, ⟨r5, r6⟩, r7, ⟨r8, r9, r10⟩, r11, r12, r13⟩ := ru
  have wR : ∀ K, K ≠ 94 → (wa w 94 p v).2.2.1 K = w.2.2.1 K := fun K h => wa_21 h
  have pr : ∀ K, PRr K → (wa w 94 p v).2.2.1 K = w.2.2.1 K := fun K h => wR K (by unfold PRr at h; omega)
  exact ⟨FC_w ⟨fa, ct⟩ (fun _ _ => rfl) (fun _ _ => rfl) rfl (fun K h => by rw [wR K (by omega)]) (fun K r h1 h2 _ _ => by rw [wR K (by omega)]) (fun K c h1 h2 _ => by rw [wR K (by omega)]) pr rfl, ⟨r5, by rw [wa_rne (by omega)]; exact r6⟩, GD_w r7 rfl rfl rfl (fun _ _ _ => rfl) (fun _ _ => rfl) rfl pr rfl, ⟨r8, r9, r10⟩, r11, r12, r13⟩
theorem TRr_94 {H O : List Nat} (h : TRr kd sc m w p H O) : TRr kd sc m (wa w 94 p v) p H O := TRr_w h rfl rfl rfl (fun _ _ => rfl) rfl (fun K h => wa_21 (by unfold PRr at h; omega)) rfl
theorem exO_id : exO Os j (Os j) = Os := by
  funext i
  unfold exO
  by_cases c : i = j
  · rw [if_pos c, c]
  · rw [if_neg c]
theorem NFx_24 (nf : NFx p B0 m m3) (hB : B0 ≤ 100000) : NFx p B0 m (wi m3 (pq p 24) ((B0 : Nat) : Int)) := by
  obtain ⟨h1, ⟨B1, h2, h3, h4, h5⟩, h6⟩ := nf
  exact ⟨FC.wi_q h1 (by omega) (by simp), ⟨B0, Nat.le_refl _, wi_sm (by omega) (by omega), by rw [wi_ne (pq_inj (by omega))]; omega, by rw [wi_ne (pq_inj (by omega))]; omega⟩, h6⟩
/-- numbers of the machine, there -/
theorem NF_1 (nf : NFx p B0 m m3) {l : Nat} (h : l < 2000) : m3.1 l = m.1 l := nf.1.1 l h (by simp)
theorem NF_q (nf : NFx p B0 m m3) {l : Nat} (h : l < 100) (h1 : l ≠ 24) (h2 : l ≠ 42) (h3 : l ≠ 43) : m3.1 (pq p l) = m.1 (pq p l) := nf.1.2.2.2.2.1 p l h (fun _ => by simp; omega)
/-- it goes on behind PATTERNS: all but names is as it was -/
theorem RUb_nf (ru : RUb m w p j nb Hs Os none) (hX : ∃ X, O2 = Os j ++ X) (nf : NFx p B0 m m3) (fw : FWx p B0 w w3) (nms : NMs m3 p (nb j) (Hs j ++ O2)) (h24 : F m3 (pq p 24) = ((nb j + (Hs j ++ O2).length : Nat) : Int)) (hB : B0 = nb j + (Hs j ++ Os j).length) : RUb m3 w3 p j nb Hs (exO Os j O2) none := by
  obtain ⟨⟨fa, ct⟩, ⟨r5, r6⟩, r7, ⟨r8, r9, r10⟩, r11, r12, r13⟩ := ru
  obtain ⟨h12, h152⟩ : F m 1112 = 0 ∧ F w 152 = 0 := by
    rcases r7 with ⟨_, c3, c4⟩ | ⟨_, _, _, c, _⟩
    · exact ⟨c3, c4⟩
    · cases c
  have f := fw.1
  have g : ∀ l, l < 2000 → F m3 l = F m l := fun l h => congrArg Int32.toInt (NF_1 nf h)
  exact ⟨⟨FA_ex fa hX nf fw nms h24 hB, CT_ex ct hX nf fw⟩, ⟨(congrArg Int32.toInt (NF_q nf (by omega) (by omega) (by omega) (by omega))).trans r5, by rw [FR.A f (by simp)]; exact r6⟩, Or.inl ⟨rfl, (g 1112 (by omega)).trans h12, by rw [FR.F f (by simp)]; exact h152⟩, ⟨(g 1108 (by omega)).trans r8, (g 1109 (by omega)).trans r9, by rw [FR.F f (by simp)]; exact r10⟩, by rw [FR.F f (by simp)]; exact r11, by rw [NF_1 nf (by omega), f.1 165 (by simp)]; exact r12, by rw [NF_1 nf (by omega), f.1 164 (by simp)]; exact r13⟩
/-- a write of the place, there; of the part, here -/
theorem RUb_pc (ru : RUb m w p j nb Hs Os none) {v1 v2 : Int} {l : Nat} (hl : l = 153 ∨ l = 154) : RUb (wi m 1105 v1) (wi w l v2) p j nb Hs Os none := by
  obtain ⟨⟨fa, ct⟩, ⟨r5, r6⟩, r7, ⟨r8, r9, r10⟩, r11, r12, r13⟩ := ru
  obtain ⟨h12, h152⟩ : F m 1112 = 0 ∧ F w 152 = 0 := by
    rcases r7 with ⟨_, c3, c4⟩ | ⟨_, _, _, c, _⟩
    · exact ⟨c3, c4⟩
    · cases c
  exact ⟨FC_w ⟨fa, ct⟩ (fun k _ => if_neg (fun c => pq_n (by omega) c.symm)) (fun _ _ => rfl) rfl (fun _ _ => rfl) (fun _ _ _ _ _ _ => rfl) (fun _ _ _ _ _ => rfl) (fun _ _ => rfl) rfl, ⟨(wi_ne (fun c => pq_n (by omega) c.symm)).trans r5, r6⟩, Or.inl ⟨rfl, (wi_ne (by omega)).trans h12, (wi_ne (by omega)).trans h152⟩, ⟨(wi_ne (by omega)).trans r8, (wi_ne (by omega)).trans r9, (wi_ne (by omega)).trans r10⟩, (wi_ne (by omega)).trans r11, by rw [wi_1 (by omega), wi_1 (by omega)]; exact r12, by rw [wi_1 (by omega), wi_1 (by omega)]; exact r13⟩
theorem RUb_pm (ru : RUb m w p j nb Hs Os none) {v1 : Int} : RUb (wi m 1105 v1) w p j nb Hs Os none := by
  obtain ⟨⟨fa, ct⟩, ⟨r5, r6⟩, r7, ⟨r8, r9, r10⟩, r11, r12, r13⟩ := ru
  obtain ⟨h12, h152⟩ : F m 1112 = 0 ∧ F w 152 = 0 := by
    rcases r7 with ⟨_, c3, c4⟩ | ⟨_, _, _, c, _⟩
    · exact ⟨c3, c4⟩
    · cases c
  exact ⟨FC_w ⟨fa, ct⟩ (fun k _ => if_neg (fun c => pq_n (by omega) c.symm)) (fun _ _ => rfl) rfl (fun _ _ => rfl) (fun _ _ _ _ _ _ => rfl) (fun _ _ _ _ _ => rfl) (fun _ _ => rfl) rfl, ⟨(wi_ne (fun c => pq_n (by omega) c.symm)).trans r5, r6⟩, Or.inl ⟨rfl, (wi_ne (by omega)).trans h12, h152⟩, ⟨(wi_ne (by omega)).trans r8, (wi_ne (by omega)).trans r9, r10⟩, r11, by rw [wi_1 (by omega)]; exact r12, by rw [wi_1 (by omega)]; exact r13⟩
/-- it does not fit: the next part -/
theorem TR_next (ru : RUb m w p j nb Hs Os none) (kdw : F w 153 = ((kd : Nat) : Int)) (h156 : F w 156 = ((nb j + (Hs j).length + (Os j).length : Nat) : Int)) (tr : TRr kd sc m w p (Hs j) (Os j)) (nd : (Os j).Nodup ∧ (Hs j).Nodup) (zr : ∃ f g, ZRs (A m 23) (ROs w) (w.2.2.2 34) (CRs (A m 23) (ROs w) (w.2.2.2 34) f) kd sc (Hs j) (Os j) g fl (A w 45 k0)) (nf : NFx p B0 m m3) (fw : FWx p B0 (wa w 94 p v) w3) (hB : B0 = nb j + (Hs j ++ Os j).length) (hB2 : B0 ≤ 100000) (hfl : fl < 100000) : TRs (wi (wi m3 (pq p 24) ((B0 : Nat) : Int)) 1105 ((fl : Nat) : Int)) (wi w3 154 (A w3 45 k0)) p j nb Hs Os kd sc fl (A w 45 k0) := by
  have nf2 := NFx_24 nf hB2
  have f := fw.1
  have fa := ru.1.1
  have hB3 : B0 = nb j + (Hs j).length + (Os j).length := by rw [hB, List.length_append]; omega
  have pr : ∀ K, PRr K → w3.2.2.1 K = w.2.2.1 K := fun K h => (f.2.2.1 K (by unfold PRr at h; simp; omega)).trans (wa_21 (by unfold PRr at h; omega))
  have h34 : w3.2.2.2 34 = w.2.2.2 34 := f.2.2.2 34 (by simp)
  have hP : ∀ K, PRr K → A w3 K = A w K := fun K a => by funext i; show (w3.2.2.1 K i).toInt = _; rw [pr K a]; rfl
  have h23 : A (wi (wi m3 (pq p 24) ((B0 : Nat) : Int)) 1105 ((fl : Nat) : Int)) 23 = A m 23 := nf2.c
  have wF : ∀ l, F w3 l = F w l := fun l => FR.F f (by simp)
  have w1 : ∀ l, w3.1 l = w.1 l := fun l => f.1 l (by simp)
  have nms : NMs (wi m3 (pq p 24) ((B0 : Nat) : Int)) p (nb j) (Hs j ++ Os j) := fun i x hx => by
    have il : i < (Hs j ++ Os j).length := (List.getElem?_eq_some_iff.mp hx).1
    show (m3.2.2.1 (pq p 32) (nb j + i)).toInt = _
    rw [(nf.2.2 (nb j + i) (by omega)).1]
    exact (fa.2.1 j (Nat.le_refl _)).2.2.2.2.2 i x hx
  have ru3 : RUb (wi m3 (pq p 24) ((B0 : Nat) : Int)) w3 p j nb Hs Os none := by
    have := RUb_nf (RUb_94 (v := v) ru) (O2 := Os j) ⟨[], by simp⟩ nf2 fw nms (by rw [wi_sm (by omega) (by omega), hB]) hB
    rw [exO_id] at this
    exact this
  have ar := A_r w3 45 k0
  refine ⟨RUb_pc ru3 (by omega), wi_sm (by omega) (by omega), ⟨?_, ?_, ?_⟩, ?_, nd, ?_⟩
  · rw [wi_ne (by omega), wF]; exact kdw
  · rw [wi_sm ar.1 ar.2, hP 45 (by unfold PRr; omega)]
  · rw [wi_ne (by omega), wF]; exact h156
  · refine TRr_w tr ?_ (nf2.1.2.2.2.2.2.1 p 10 (by omega) (fun _ => by simp)) (by show w3.2.2.2 111 p = _; rw [f.2.2.2 111 (by simp)]; rfl) (fun l hl => ?_) ?_ pr h34
    · exact (wi_1 (fun c => pq_n (by omega) c.symm)).trans (NF_q nf2 (by omega) (by omega) (by omega) (by omega))
    · exact (wi_1 (by omega)).trans (w1 l)
    · exact nf2.1.2.2.1 23 (by omega) (by simp)
  · obtain ⟨f2, g2, zr⟩ := zr
    exact ⟨f2, g2, by rw [h23, show ROs (wi w3 154 (A w3 45 k0)) = ROs w3 from rfl, ROs_eq pr, show (wi w3 154 (A w3 45 k0)).2.2.2 34 = w3.2.2.2 34 from rfl, h34]; exact zr⟩
end
