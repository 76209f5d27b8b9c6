set_option maxRecDepth 100000
def EMd (u w : MS) (l : List Int) : Prop := (F u 441 ≤ F w 441 ∧ F w 441 ≤ 24000 ∧ F w 441 ≤ F u 441 + ((l.length : Nat) : Int)) ∧ (∀ j : Nat, ((j : Nat) : Int) < F u 441 → A w 23 j = A u 23 j) ∧ (F w 441 < 24000 → F w 441 = F u 441 + ((l.length : Nat) : Int) ∧ ∀ k, k < l.length → A w 23 ((F u 441).toNat + k) = l.getD k 0)
section
variable {u v w : MS} {N lv t L : Nat} {l l2 : List Int} {x y c : Int} {H : List Nat}
theorem EMc.d (h : EMc u w l) : EMd u w l := h.2
theorem EMd.tr (hu : 1 ≤ F u 441) (a : EMd u v l) (b : EMd v w l2) : EMd u w (l ++ l2) := by
  obtain ⟨⟨a2, a3, a4⟩, a5, a6⟩ := a
  obtain ⟨⟨b2, b3, b4⟩, b5, b6⟩ := b
  refine ⟨⟨by omega, b3, by rw [List.length_append]; omega⟩, fun j hj => by rw [b5 j (by omega), a5 j hj], fun z => ?_⟩
  obtain ⟨c1, c2⟩ := b6 z
  obtain ⟨d1, d2⟩ := a6 (by omega)
  refine ⟨by rw [List.length_append]; omega, fun k hk => ?_⟩
  rw [List.length_append] at hk
  rcases Nat.lt_or_ge k l.length with y | y
  · rw [b5 _ (by omega), d2 k y, List.getD_eq_getElem?_getD, List.getD_eq_getElem?_getD, List.getElem?_append_left y]
  · have := c2 (k - l.length) (by omega)
    rw [List.getD_eq_getElem?_getD, List.getElem?_append_right y, ← List.getD_eq_getElem?_getD, ← this]
    congr 1
    omega
theorem EMd.no (h : F u 441 ≤ 24000) (e1 : F w 441 = F u 441) (e2 : w.2.2.1 23 = u.2.2.1 23) : EMd u w [] := ⟨⟨by omega, by omega, by rw [e1]; simp⟩, fun j _ => by show (w.2.2.1 23 j).toInt = _; rw [e2]; rfl, fun _ => ⟨by rw [e1]; simp, fun k hk => absurd hk (by simp)⟩⟩
theorem EMd.n1 (hu : 1 ≤ F u 441) (a : EMd u v l) (h : F v 441 ≤ 24000) (e1 : F w 441 = F v 441) (e2 : w.2.2.1 23 = v.2.2.1 23) : EMd u w l := by
  have := EMd.tr hu a (EMd.no h e1 e2)
  rw [List.append_nil] at this
  exact this
theorem EMd.n0 (hu : 1 ≤ F v 441) (h : F u 441 ≤ 24000) (e1 : F v 441 = F u 441) (e2 : v.2.2.1 23 = u.2.2.1 23) (b : EMd v w l) : EMd u w l := by
  have := EMd.tr (by omega) (EMd.no h e1 e2) b
  rw [List.nil_append] at this
  exact this
theorem bindC_ok (h : CVI u lv) (ht : F u 706 < 4000) : OK (fun w _ => KMc u w lv ∧ F w 706 = F u 706 + 1 ∧ FR [706] [] [39, 41] [] u w) (hm_Cm_bind N u (I x)) := by
  obtain ⟨h1, h2, h3, h4, h5, h6, h7, h8, h9⟩ := h
  obtain ⟨s, hs⟩ : ∃ s : Nat, F u 706 = ((s : Nat) : Int) := ⟨(F u 706).toNat, by omega⟩
  unfold hm_Cm_bind hb_Cm_bind_0
  rw [I_F (k := 706), hs, show (4000 : Int32) = I 4000 from rfl, show decide (I 4000 ≤ I ((s : Nat) : Int)) = false from decide_eq_false (fun q => absurd ((I_le (by decide) (by decide) (by omega) (by omega)).mp q) (by omega)), br_fq]
  refine e_in ⟨by omega, by omega⟩ (by decide) (ok_lt.mpr (ok_lt.mpr ?_))
  rw [tnI (n := s) rfl (by omega), show upA u 39 (upd (u.2.2.1 39) s (I x)) = wa u 39 s x from rfl]
  have e : (wa u 39 s x).1 706 = I ((s : Nat) : Int) := by show u.1 706 = _; rw [I_F (k := 706), hs]
  rw [e, lit1q, I_add, show ((s : Nat) : Int) + 1 = ((s + 1 : Nat) : Int) by omega, wi_e]
  have eF : ∀ k, k ≠ 706 → F (wi (wa u 39 s x) 706 ((s + 1 : Nat) : Int)) k = F u k := fun k hk => by rw [F_wi (by omega) (by omega), if_neg hk]; rfl
  have e4 : F (wi (wa u 39 s x) 706 ((s + 1 : Nat) : Int)) 706 = ((s + 1 : Nat) : Int) := by rw [F_wi (by omega) (by omega), if_pos rfl]
  have eA : ∀ r k, r ≠ 39 → A (wi (wa u 39 s x) 706 ((s + 1 : Nat) : Int)) r k = A u r k := fun r k hr => by show A (wa u 39 s x) r k = _; rw [wa_rne hr]
  have fr : FR [706] [] [39, 41] [] u (wi (wa u 39 s x) 706 ((s + 1 : Nat) : Int)) := FR.wi (FR.wa FR.rf (by simp)) (by simp)
  generalize wi (wa u 39 s x) 706 ((s + 1 : Nat) : Int) = v at eF e4 eA fr
  unfold hb_Cm_bind_32
  rw [I_F (k := 709), eF 709 (by decide), h3.1, I_F (k := 706), e4]
  refine e_in ⟨by omega, by omega⟩ (by decide) (e_in ⟨by omega, by omega⟩ (by decide) (ok_lt.mpr (e_in ⟨by omega, by omega⟩ (by decide) (ok_lt.mpr (ok_some.mpr ?_)))))
  rw [tnI (n := lv) rfl (by omega), I_A (k := 41), I_A (k := 40), I_sub, eA 41 _ (by decide), eA 40 _ (by decide)]
  obtain ⟨⟨c1, c2⟩, c3, c4⟩ := h7 lv (by omega)
  obtain ⟨z, hz, z1, z2, z3⟩ : ∃ z : Int, (if I (A u 41 lv) < I (((s + 1 : Nat) : Int) - A u 40 lv) then I (((s + 1 : Nat) : Int) - A u 40 lv) else I (A u 41 lv)) = I z ∧ A u 41 lv ≤ z ∧ ((s + 1 : Nat) : Int) - A u 40 lv ≤ z ∧ z ≤ 4000 := by
    by_cases q : A u 41 lv < ((s + 1 : Nat) : Int) - A u 40 lv
    · rw [if_pos ((I_lt (by omega) (by omega) (by omega) (by omega)).mpr q)]
      exact ⟨_, rfl, by omega, by omega, by omega⟩
    · rw [if_neg (fun q2 => q ((I_lt (by omega) (by omega) (by omega) (by omega)).mp q2))]
      exact ⟨_, rfl, by omega, by omega, by omega⟩
  rw [hz, wa_e]
  have w41 : A (wa v 41 lv z) 41 lv = z := wa_eq ⟨by omega, by omega⟩
  have wo : ∀ j, j ≠ lv → A (wa v 41 lv z) 41 j = A u 41 j := fun j hj => by rw [wa_ne hj, eA 41 _ (by decide)]
  have w40 : ∀ j, A (wa v 41 lv z) 40 j = A u 40 j := fun j => by rw [wa_rne (by decide), eA 40 _ (by decide)]
  have wF : ∀ k, F (wa v 41 lv z) k = F v k := fun k => rfl
  have fw : FR [706] [] [39, 41] [] u (wa v 41 lv z) := FR.wa fr (by simp)
  refine ⟨⟨FR.mo fw (by simp) (by simp) (by simp) (by simp), ⟨by rw [wF, eF 441 (by decide)]; exact h1, by rw [wF, e4]; omega, ⟨by rw [wF, eF 709 (by decide)]; exact h3.1, h3.2⟩, ⟨by rw [wF, eF 712 (by decide)]; exact h4.1, by rw [wF, eF 713 (by decide)]; exact h4.2⟩, by rw [wF, eF 714 (by decide)]; exact h5, by rw [wF, eF 711 (by decide)]; exact h6, fun j hj => ?_, by rw [w40, wF, e4]; omega, by rw [w40, wF, e4, w41]; exact z2⟩, by rw [wF, eF 441 (by decide)]; omega, by rw [wF, eF 714 (by decide)]; omega, fun q => by rw [wF, eF 711 (by decide)] at q; exact q, ⟨by rw [wF, eF 712 (by decide)], by rw [wF, eF 713 (by decide)]⟩, fun j _ => w40 j, fun j hj => wo j (by omega), by rw [w41]; exact z1⟩, by rw [wF, e4], fw⟩
  rw [w40]
  by_cases q : j = lv
  · rw [q, w41]
    exact ⟨⟨c1, c2⟩, by omega, z3⟩
  · rw [wo j q]; exact h7 j hj
theorem top_km {m : Int} (h : CVI u lv) (h1 : A u 40 lv ≤ m) (h2 : m ≤ F u 706) : KMc u (wi u 706 m) lv := by
  obtain ⟨g1, g2, g3, g4, g5, g6, g7, g8, g9⟩ := h
  have c := g7 lv (by omega)
  have eF : ∀ k, k ≠ 706 → F (wi u 706 m) k = F u k := fun k hk => by rw [F_wi (by omega) (by omega), if_neg hk]
  have e4 : F (wi u 706 m) 706 = m := by rw [F_wi (by omega) (by omega), if_pos rfl]
  have eA : ∀ r k, A (wi u 706 m) r k = A u r k := fun r k => rfl
  exact ⟨FR.wi FR.rf (by simp), ⟨by rw [eF 441 (by decide)]; exact g1, by rw [e4]; omega, ⟨by rw [eF 709 (by decide)]; exact g3.1, g3.2⟩, ⟨by rw [eF 712 (by decide)]; exact g4.1, by rw [eF 713 (by decide)]; exact g4.2⟩, by rw [eF 714 (by decide)]; exact g5, by rw [eF 711 (by decide)]; exact g6, g7, by rw [e4, eA]; exact h1, by rw [e4, eA, eA]; omega⟩, by rw [eF 441 (by decide)]; omega, by rw [eF 714 (by decide)]; omega, fun z => by rw [eF 711 (by decide)] at z; exact z, ⟨eF 712 (by decide), eF 713 (by decide)⟩, fun j _ => rfl, fun j _ => rfl, by rw [eA]; omega⟩
theorem forget_B {α : Type} {Q : MS → α → Prop} {f : MS → Unit → Option (MS × α)} {m : Int} (h : CVI u lv) (h1 : A u 40 lv ≤ m) (h2 : m ≤ F u 706) (k : ∀ w l, KMc u w lv → F w 706 = m → FR [441, 706] [] [23] [] u w → EMd u w l → ((l = [] ∧ F u 706 = m) ∨ (l = [16, F u 706 - m] ∧ m < F u 706)) → OK Q (f w ())) : OK Q (bnd (hm_Cm_forget N u (I m)) f) := by
  have g := h.2.1
  have g7 := h.2.2.2.2.2.2.1 lv (by have := h.2.2.1.2; omega)
  unfold hm_Cm_forget hb_Cm_forget_0 hb_Cm_forget_30
  rw [ok_bnd, I_F (k := 706)]
  refine k_le ⟨by omega, by omega⟩ ⟨by omega, by omega⟩ (fun z => ok_lt.mpr (ok_some.mpr ?_)) (fun z => ?_)
  · rw [wi_e]
    have e := top_km h h1 h2
    exact k _ [] e (by rw [F_wi (by omega) (by omega), if_pos rfl]) (FR.wi FR.rf (by simp)) (EMd.no h.1.2 (by rw [F_wi (by omega) (by omega), if_neg (by decide)]) rfl) (Or.inl ⟨rfl, by omega⟩)
  · rw [show (16 : Int32) = I 16 from rfl]
    refine put_1 h.1 ⟨by decide, by decide⟩ (fun w1 e1 => ?_)
    have e6 : F w1 706 = F u 706 := congrArg _ (e1.1.1 706 (by simp))
    rw [I_F (k := 706), e6, I_sub]
    refine put_B h.1.1 e1 ⟨by omega, by omega⟩ (fun w2 e2 => ok_lt.mpr (ok_some.mpr ?_))
    rw [wi_e]
    have k2 := EMc.km h e2
    have e7 : F w2 706 = F u 706 := congrArg _ (e2.1.1 706 (by simp))
    have e8 : A w2 40 lv = A u 40 lv := k2.2.2.2.2.2.2.1 lv (Nat.le_refl _)
    have k3 := top_km (m := m) k2.2.1 (by omega) (by omega)
    have eo : F (wi w2 706 m) 441 = F w2 441 := by rw [F_wi (by omega) (by omega), if_neg (by decide)]
    exact k _ _ (k2.tr k3) (by rw [F_wi (by omega) (by omega), if_pos rfl]) (FR.wi (FR.mo e2.1 (by simp) (by simp) (by simp) (by simp)) (by simp)) (EMd.n1 h.1.1 e2.d e2.2.1.2.1 eo rfl) (Or.inr ⟨rfl, z⟩)
end
