section
set_option maxRecDepth 100000
def EMd (u w : MS) (l : List Int) : Prop := (F u 441 ≤ F w 441 ∧ F w 441 ≤ 24000 ∧ F w 441 ≤ F u 441 + ((l.length : Nat) : Int)) ∧ (∀ j : Nat, ((j : Nat) : Int) < F u 441 → A w 23 j = A u 23 j) ∧ (F w 441 < 24000 → F w 441 = F u 441 + ((l.length : Nat) : Int) ∧ ∀ k, k < l.length → A w 23 ((F u 441).toNat + k) = l.getD k 0)
section
variable {u v w : MS} {N lv t L : Nat} {l l2 : List Int} {x y c : Int} {H : List Nat}
theorem EMc.d (h : EMc u w l) : EMd u w l := h.2
theorem EMd.tr (hu : 1 ≤ F u 441) (a : EMd u v l) (b : EMd v w l2) : EMd u w (l ++ l2) := by
  obtain ⟨⟨a2, a3, a4⟩, a5, a6⟩ := a
  obtain ⟨⟨b2, b3, b4⟩, b5, b6⟩ := b
  refine ⟨⟨by omega, b3, by rw [List.length_append]; omega⟩, fun j hj => by rw [b5 j (by omega), a5 j hj], fun z => ?_⟩
  obtain ⟨c1, c2⟩ := b6 z
  obtain ⟨d1, d2⟩ := a6 (by omega)
  refine ⟨by rw [List.length_append]; omega, fun k hk => ?_⟩
  rw [List.length_append] at hk
  rcases Nat.lt_or_ge k l.length with y | y
  · rw [b5 _ (by omega), d2 k y, List.getD_eq_getElem?_getD, List.getD_eq_getElem?_getD, List.getElem?_append_left y]
  · have := c2 (k - l.length) (by omega)
    rw [List.getD_eq_getElem?_getD, List.getElem?_append_right y, ← List.getD_eq_getElem?_getD, ← this]
    congr 1
    omega
theorem EMd.no (h : F u 441 ≤ 24000) (e1 : F w 441 = F u 441) (e2 : w.2.2.1 23 = u.2.2.1 23) : EMd u w [] := ⟨⟨by omega, by omega, by rw [e1]; simp⟩, fun j _ => by show (w.2.2.1 23 j).toInt = _; rw [e2]; rfl, fun _ => ⟨by rw [e1]; simp, fun k hk => absurd hk (by simp)⟩⟩
theorem EMd.n1 (hu : 1 ≤ F u 441) (a : EMd u v l) (h : F v 441 ≤ 24000) (e1 : F w 441 = F v 441) (e2 : w.2.2.1 23 = v.2.2.1 23) : EMd u w l := by
  have := EMd.tr hu a (EMd.no h e1 e2)
  rw [List.append_nil] at this
  exact this
theorem EMd.n0 (hu : 1 ≤ F v 441) (h : F u 441 ≤ 24000) (e1 : F v 441 = F u 441) (e2 : v.2.2.1 23 = u.2.2.1 23) (b : EMd v w l) : EMd u w l := by
  have := EMd.tr (by omega) (EMd.no h e1 e2) b
  rw [List.nil_append] at this
  exact this
theorem bindC_ok (h : CVI u lv) (ht : F u 706 < 4000) : OK (fun w _ => KMc u w lv ∧ F w 706 = F u 706 + 1 ∧ FR [706] [] [39, 41] [] u w) (hm_Cm_bind N u (I x)) := by
  obtain ⟨h1, h2, h3, h4, h5, h6, h7, h8, h9⟩ := h
  obtain ⟨s, hs⟩ : ∃ s : Nat, F u 706 = ((s : Nat) : Int) := ⟨(F u 706).toNat, by omega⟩
  unfold hm_Cm_bind hb_Cm_bind_0
  rw [I_F (k := 706), hs, show (4000 : Int32) = I 4000 from rfl, show decide (I 4000 ≤ I ((s : Nat) : Int)) = false from decide_eq_false (fun q => absurd ((I_le (by decide) (by decide) (by omega) (by omega)).mp q) (by omega)), br_fq]
  refine e_in ⟨by omega, by omega⟩ (by decide) (ok_lt.mpr (ok_lt.mpr ?_))
  rw [tnI (n := s) rfl (by omega), show upA u 39 (upd (u.2.2.1 39) s (I x)) = wa u 39 s x from rfl]
  have e : (wa u 39 s x).1 706 = I ((s : Nat) : Int) := by show u.1 706 = _; rw [I_F (k := 706), hs]
  rw [e, lit1q, I_add, show ((s : Nat) : Int) + 1 = ((s + 1 : Nat) : Int) by omega, wi_e]
  have eF : ∀ k, k ≠ 706 → F (wi (wa u 39 s x) 706 ((s + 1 : Nat) : Int)) k = F u k := fun k hk => by rw [F_wi (by omega) (by omega), if_neg hk]; rfl
  have e4 : F (wi (wa u 39 s x) 706 ((s + 1 : Nat) : Int)) 706 = ((s + 1 : Nat) : Int) := by rw [F_wi (by omega) (by omega), if_pos rfl]
  have eA : ∀ r k, r ≠ 39 → A (wi (wa u 39 s x) 706 ((s + 1 : Nat) : Int)) r k = A u r k := fun r k hr => by show A (wa u 39 s x) r k = _; rw [wa_rne hr]
  have fr : FR [706] [] [39, 41] [] u (wi (wa u 39 s x) 706 ((s + 1 : Nat) : Int)) := FR.wi (FR.wa FR.rf (by simp)) (by simp)
  generalize wi (wa u 39 s x) 706 ((s + 1 : Nat) : Int) = v at eF e4 eA fr
  unfold hb_Cm_bind_32
  rw [I_F (k := 709), eF 709 (by decide), h3.1, I_F (k := 706), e4]
  refine e_in ⟨by omega, by omega⟩ (by decide) (e_in ⟨by omega, by omega⟩ (by decide) (ok_lt.mpr (e_in ⟨by omega, by omega⟩ (by decide) (ok_lt.mpr (ok_some.mpr ?_)))))
  rw [tnI (n := lv) rfl (by omega), I_A (k := 41), I_A (k := 40), I_sub, eA 41 _ (by decide), eA 40 _ (by decide)]
  obtain ⟨⟨c1, c2⟩, c3, c4⟩ := h7 lv (by omega)
  obtain ⟨z, hz, z1, z2, z3⟩ : ∃ z : Int, (if I (A u 41 lv) < I (((s + 1 : Nat) : Int) - A u 40 lv) then I (((s + 1 : Nat) : Int) - A u 40 lv) else I (A u 41 lv)) = I z ∧ A u 41 lv ≤ z ∧ ((s + 1 : Nat) : Int) - A u 40 lv ≤ z ∧ z ≤ 4000 := by
    by_cases q : A u 41 lv < ((s + 1 : Nat) : Int) - A u 40 lv
    · rw [if_pos ((I_lt (by omega) (by omega) (by omega) (by omega)).mpr q)]
      exact ⟨_, rfl, by omega, by omega, by omega⟩
    · rw [if_neg (fun q2 => q ((I_lt (by omega) (by omega) (by omega) (by omega)).mp q2))]
      exact ⟨_, rfl, by omega, by omega, by omega⟩
  rw [hz, wa_e]
  have w41 : A (wa v 41 lv z) 41 lv = z := wa_eq ⟨by omega, by omega⟩
  have wo : ∀ j, j ≠ lv → A (wa v 41 lv z) 41 j = A u 41 j := fun j hj => by rw [wa_ne hj, eA 41 _ (by decide)]
  have w40 : ∀ j, A (wa v 41 lv z) 40 j = A u 40 j := fun j => by rw [wa_rne (by decide), eA 40 _ (by decide)]
  have wF : ∀ k, F (wa v 41 lv z) k = F v k := fun k => rfl
  have fw : FR [706] [] [39, 41] [] u (wa v 41 lv z) := FR.wa fr (by simp)
  refine ⟨⟨FR.mo fw (by simp) (by simp) (by simp) (by simp), ⟨by rw [wF, eF 441 (by decide)]; exact h1, by rw [wF, e4]; omega, ⟨by rw [wF, eF 709 (by decide)]; exact h3.1, h3.2⟩, ⟨by rw [wF, eF 712 (by decide)]; exact h4.1, by rw [wF, eF 713 (by decide)]; exact h4.2⟩, by rw [wF, eF 714 (by decide)]; exact h5, by rw [wF, eF 711 (by decide)]; exact h6, fun j hj => ?_, by rw [w40, wF, e4]; omega, by rw [w40, wF, e4, w41]; exact z2⟩, by rw [wF, eF 441 (by decide)]; omega, by rw [wF, eF 714 (by decide)]; omega, fun q => by rw [wF, eF 711 (by decide)] at q; exact q, ⟨by rw [wF, eF 712 (by decide)], by rw [wF, eF 713 (by decide)]⟩, fun j _ => w40 j, fun j hj => wo j (by omega), by rw [w41]; exact z1⟩, by rw [wF, e4], fw⟩
  rw [w40]
  by_cases q : j = lv
  · rw [q, w41]
    exact ⟨⟨c1, c2⟩, by omega, z3⟩
  · rw [wo j q]; exact h7 j hj
theorem top_km {m : Int} (h : CVI u lv) (h1 : A u 40 lv ≤ m) (h2 : m ≤ F u 706) : KMc u (wi u 706 m) lv := by
  obtain ⟨g1, g2, g3, g4, g5, g6, g7, g8, g9⟩ := h
  have c := g7 lv (by omega)
  have eF : ∀ k, k ≠ 706 → F (wi u 706 m) k = F u k := fun k hk => by rw [F_wi (by omega) (by omega), if_neg hk]
  have e4 : F (wi u 706 m) 706 = m := by rw [F_wi (by omega) (by omega), if_pos rfl]
  have eA : ∀ r k, A (wi u 706 m) r k = A u r k := fun r k => rfl
  exact ⟨FR.wi FR.rf (by simp), ⟨by rw [eF 441 (by decide)]; exact g1, by rw [e4]; omega, ⟨by rw [eF 709 (by decide)]; exact g3.1, g3.2⟩, ⟨by rw [eF 712 (by decide)]; exact g4.1, by rw [eF 713 (by decide)]; exact g4.2⟩, by rw [eF 714 (by decide)]; exact g5, by rw [eF 711 (by decide)]; exact g6, g7, by rw [e4, eA]; exact h1, by rw [e4, eA, eA]; omega⟩, by rw [eF 441 (by decide)]; omega, by rw [eF 714 (by decide)]; omega, fun z => by rw [eF 711 (by decide)] at z; exact z, ⟨eF 712 (by decide), eF 713 (by decide)⟩, fun j _ => rfl, fun j _ => rfl, by rw [eA]; omega⟩
theorem forget_B {α : Type} {Q : MS → α → Prop} {f : MS → Unit → Option (MS × α)} {m : Int} (h : CVI u lv) (h1 : A u 40 lv ≤ m) (h2 : m ≤ F u 706) (k : ∀ w l, KMc u w lv → F w 706 = m → FR [441, 706] [] [23] [] u w → EMd u w l → ((l = [] ∧ F u 706 = m) ∨ (l = [16, F u 706 - m] ∧ m < F u 706)) → OK Q (f w ())) : OK Q (bnd (hm_Cm_forget N u (I m)) f) := by
  have g := h.2.1
  have g7 := h.2.2.2.2.2.2.1 lv (by have := h.2.2.1.2; omega)
  unfold hm_Cm_forget hb_Cm_forget_0 hb_Cm_forget_30
  rw [ok_bnd, I_F (k := 706)]
  refine k_le ⟨by omega, by omega⟩ ⟨by omega, by omega⟩ (fun z => ok_lt.mpr (ok_some.mpr ?_)) (fun z => ?_)
  · rw [wi_e]
    have e := top_km h h1 h2
    exact k _ [] e (by rw [F_wi (by omega) (by omega), if_pos rfl]) (FR.wi FR.rf (by simp)) (EMd.no h.1.2 (by rw [F_wi (by omega) (by omega), if_neg (by decide)]) rfl) (Or.inl ⟨rfl, by omega⟩)
  · rw [show (16 : Int32) = I 16 from rfl]
    refine put_1 h.1 ⟨by decide, by decide⟩ (fun w1 e1 => ?_)
    have e6 : F w1 706 = F u 706 := congrArg _ (e1.1.1 706 (by simp))
    rw [I_F (k := 706), e6, I_sub]
    refine put_B h.1.1 e1 ⟨by omega, by omega⟩ (fun w2 e2 => ok_lt.mpr (ok_some.mpr ?_))
    rw [wi_e]
    have k2 := EMc.km h e2
    have e7 : F w2 706 = F u 706 := congrArg _ (e2.1.1 706 (by simp))
    have e8 : A w2 40 lv = A u 40 lv := k2.2.2.2.2.2.2.1 lv (Nat.le_refl _)
    have k3 := top_km (m := m) k2.2.1 (by omega) (by omega)
    have eo : F (wi w2 706 m) 441 = F w2 441 := by rw [F_wi (by omega) (by omega), if_neg (by decide)]
    exact k _ _ (k2.tr k3) (by rw [F_wi (by omega) (by omega), if_pos rfl]) (FR.wi (FR.mo e2.1 (by simp) (by simp) (by simp) (by simp)) (by simp)) (EMd.n1 h.1.1 e2.d e2.2.1.2.1 eo rfl) (Or.inr ⟨rfl, z⟩)
end
end
section
set_option maxRecDepth 100000
def PTSc (v : MS) (i j b : Nat) : Prop := i ≤ j ∧ ∀ z : MS, (∀ k, i ≤ k → k < j → A z 23 k = A v 23 k) → ∀ f e b2, PTc z f j b2 e → PTc z (f + (j - i)) i (b + b2) e
def FRp (u w : MS) : Prop := FR [441, 706] [] [23, 39, 41, 42] [] u w
def PQc (u w : MS) (lv : Nat) (B : Int) (t : Nat) : Prop := FRp u w ∧ KMc u w lv ∧ (∀ j : Nat, ((j : Nat) : Int) < F u 441 → A w 23 j = A u 23 j) ∧ F w 441 ≤ F u 441 + B ∧ ∃ k : Nat, F w 706 = F u 706 + ((k : Nat) : Int) ∧ k ≤ t ∧ (F w 441 < 24000 → PTSc w (F u 441).toNat (F w 441).toNat k)
section
variable {u v w : MS} {N lv t t2 L i j k b b2 e f : Nat} {l l2 : List Int} {x y c B B2 : Int} {H : List Nat}
theorem PTc_m : ∀ {f i b e : Nat}, PTc u f i b e → PTc u (f + 1) i b e
  | 0, _, _, _, h => h.elim
  | f + 1, i, b, e, h => by
    unfold PTc at h ⊢
    rcases h with h | ⟨h1, h⟩ | ⟨h1, n, h2, h3, h⟩ | ⟨h1, h⟩ | ⟨h1, c, h2, h⟩ | ⟨h1, h⟩ | ⟨h1, h2, h⟩ | ⟨h1, h⟩
    · exact Or.inl h
    · exact Or.inr (Or.inl ⟨h1, PTc_m h⟩)
    · exact Or.inr (Or.inr (Or.inl ⟨h1, n, h2, h3, PTc_m h⟩))
    · exact Or.inr (Or.inr (Or.inr (Or.inl ⟨h1, PTc_m h⟩)))
    · exact Or.inr (Or.inr (Or.inr (Or.inr (Or.inl ⟨h1, c, h2, PTc_m h⟩))))
    · exact Or.inr (Or.inr (Or.inr (Or.inr (Or.inr (Or.inl ⟨h1, PTc_m h⟩)))))
    · exact Or.inr (Or.inr (Or.inr (Or.inr (Or.inr (Or.inr (Or.inl ⟨h1, h2, PTc_m h⟩))))))
    · exact Or.inr (Or.inr (Or.inr (Or.inr (Or.inr (Or.inr (Or.inr ⟨h1, PTc_m h⟩))))))
theorem PTc_ms (h : PTc u f i b e) : ∀ n, PTc u (f + n) i b e
  | 0 => h
  | n + 1 => PTc_m (PTc_ms h n)
theorem PTS_tr (a : PTSc v i j b) (c : PTSc v j k b2) : PTSc v i k (b + b2) := ⟨Nat.le_trans a.1 c.1, fun z hz f e b3 h => by
  have h1 := c.2 z (fun k k1 k2 => hz k (by have := a.1; omega) k2) f e b3 h
  have h2 := a.2 z (fun k2 k3 k4 => hz k2 k3 (by have := c.1; omega)) _ e _ h1
  have e1 := a.1
  have e2 := c.1
  rw [show f + (k - i) = f + (k - j) + (j - i) by omega, Nat.add_assoc b b2 b3]
  exact h2⟩
theorem PTS_k (h : PTSc v i j b) (e : ∀ k, i ≤ k → k < j → A w 23 k = A v 23 k) : PTSc w i j b := ⟨h.1, fun z hz => h.2 z (fun k k1 k2 => (hz k k1 k2).trans (e k k1 k2))⟩
theorem PTS_n : PTSc v i i 0 := ⟨Nat.le_refl _, fun z _ f e b2 h => by rw [Nat.sub_self, Nat.zero_add]; exact h⟩
theorem PTS_1 (h : A v 23 i = 1) : PTSc v i (i + 3) 0 := ⟨by omega, fun z hz f e b2 g => by
  rw [show f + (i + 3 - i) = f + 2 + 1 by omega, Nat.zero_add]
  exact Or.inr (Or.inl ⟨(hz i (by omega) (by omega)).trans h, PTc_ms g 2⟩)⟩
theorem PTS_2 {n : Nat} (h : A v 23 i = 2) (h2 : A v 23 (i + 1) = ((n : Nat) : Int)) (hn : n ≤ 40) : PTSc v i (i + 2 + n) 0 := ⟨by omega, fun z hz f e b2 g => by
  rw [show f + (i + 2 + n - i) = f + (n + 1) + 1 by omega, Nat.zero_add]
  exact Or.inr (Or.inr (Or.inl ⟨(hz i (by omega) (by omega)).trans h, n, (hz (i + 1) (by omega) (by omega)).trans h2, hn, PTc_ms g (n + 1)⟩))⟩
theorem PTS_3 (h : A v 23 i = 3) : PTSc v i (i + 2) 0 := ⟨by omega, fun z hz f e b2 g => by
  rw [show f + (i + 2 - i) = f + 1 + 1 by omega, Nat.zero_add]
  exact Or.inr (Or.inr (Or.inr (Or.inl ⟨(hz i (by omega) (by omega)).trans h, PTc_ms g 1⟩)))⟩
theorem PTS_4 (h : A v 23 i = 4) : PTSc v i (i + 2) 1 := ⟨by omega, fun z hz f e b2 g => by
  rw [show f + (i + 2 - i) = f + 1 + 1 by omega]
  exact Or.inr (Or.inr (Or.inr (Or.inr (Or.inl ⟨(hz i (by omega) (by omega)).trans h, b2, by omega, PTc_ms g 1⟩))))⟩
theorem PTS_5 (h : A v 23 i = 5) : PTSc v i (i + 1) 0 := ⟨by omega, fun z hz f e b2 g => by
  rw [show f + (i + 1 - i) = f + 1 by omega, Nat.zero_add]
  exact Or.inr (Or.inr (Or.inr (Or.inr (Or.inr (Or.inl ⟨(hz i (by omega) (by omega)).trans h, g⟩)))))⟩
theorem PTS_6 {n : Nat} (h : A v 23 i = 6) (h2 : A v 23 (i + 1) = ((n : Nat) : Int)) (hn : n ≤ 8) : PTSc v i (i + 2) 0 := ⟨by omega, fun z hz f e b2 g => by
  rw [show f + (i + 2 - i) = f + 1 + 1 by omega, Nat.zero_add]
  exact Or.inr (Or.inr (Or.inr (Or.inr (Or.inr (Or.inr (Or.inl ⟨(hz i (by omega) (by omega)).trans h, ⟨n, (hz (i + 1) (by omega) (by omega)).trans h2, hn⟩, PTc_ms g 1⟩))))))⟩
theorem PTS_7 (h : A v 23 i = 7) : PTSc v i (i + 1) 0 := ⟨by omega, fun z hz f e b2 g => by
  rw [show f + (i + 1 - i) = f + 1 by omega, Nat.zero_add]
  exact Or.inr (Or.inr (Or.inr (Or.inr (Or.inr (Or.inr (Or.inr ⟨(hz i (by omega) (by omega)).trans h, g⟩))))))⟩
theorem PQ_tr (hu : 1 ≤ F u 441) (a : PQc u v lv B t) (c : PQc v w lv B2 t2) : PQc u w lv (B + B2) (t + t2) := by
  obtain ⟨a1, a2, a3, a4, ka, a5, a6, a7⟩ := a
  obtain ⟨c1, c2, c3, c4, kc, c5, c6, c7⟩ := c
  have s1 := a2.2.2.1
  have s2 := c2.2.2.1
  refine ⟨FR.tr a1 c1, a2.tr c2, fun j hj => by rw [c3 j (by omega), a3 j hj], by omega, ka + kc, by omega, by omega, fun z => ?_⟩
  exact PTS_tr (PTS_k (a7 (by omega)) (fun k k1 k2 => c3 k (by omega))) (c7 z)
theorem PQ_w (h : PQc u w lv B t) (h1 : B ≤ B2) (h2 : t ≤ t2) : PQc u w lv B2 t2 := by
  obtain ⟨a1, a2, a3, a4, ka, a5, a6, a7⟩ := h
  exact ⟨a1, a2, a3, by omega, ka, a5, by omega, a7⟩
theorem PQ_em (h : CVI u lv) (e : EMc u w l) (hp : F w 441 < 24000 → (∀ k, k < l.length → A w 23 ((F u 441).toNat + k) = l.getD k 0) → PTSc w (F u 441).toNat ((F u 441).toNat + l.length) 0) : PQc u w lv ((l.length : Nat) : Int) 0 := by
  refine ⟨FR.mo e.1 (by simp) (by simp) (by simp) (by simp), EMc.km h e, e.2.2.1, e.2.1.2.2, 0, ?_, Nat.le_refl _, fun z => ?_⟩
  · rw [show F w 706 = F u 706 from congrArg _ (e.1.1 706 (by simp))]; simp
  · obtain ⟨g1, g2⟩ := e.2.2.2 z
    have := hp z g2
    have h1 := h.1.1
    rw [show (F w 441).toNat = (F u 441).toNat + l.length by omega]
    exact this
end
end
section
set_option maxRecDepth 100000
def CSX (u : MS) (c : Nat) (ps : Nat → Nat) : Prop := CST u ∧ TKS u c ps
section
variable {u v w : MS} {N lv t t2 L i j k b b2 e f n cc : Nat} {l l2 : List Int} {x y c B B2 : Int} {H : List Nat} {ps : Nat → Nat}
theorem KMF.F (h : KMF u w) (hk : k ∉ [441, 706, 709, 711, 712, 713, 714]) : F w k = F u k := congrArg _ (h.1 k hk)
theorem KMF.A (h : KMF u w) (hk : j ∉ [23, 30, 31, 32, 39, 40, 41, 42]) : A w j k = A u j k := by show (w.2.2.1 j k).toInt = _; rw [h.2.2.1 j hk]; rfl
theorem FRp.m (h : FRp u w) : KMF u w := FR.mo h (by simp) (by simp) (by simp) (by simp)
theorem CST_f (h : CST u) (g : KMF u w) : CST w := by
  obtain ⟨h1, h2, h3, h4⟩ := h
  have eF : ∀ k, k ∉ [441, 706, 709, 711, 712, 713, 714] → w.1 k = u.1 k := g.1
  have eA : ∀ k, k ∉ [23, 30, 31, 32, 39, 40, 41, 42] → w.2.2.1 k = u.2.2.1 k := g.2.2.1
  refine ⟨by rw [g.F (k := 81) (by simp)]; exact h1, fun k hk => by rw [eA 5 (by simp)]; exact h2 k hk, ?_, by rw [g.F (k := 182) (by simp)]; exact h4⟩
  unfold WDc at h3 ⊢
  simp only [show 20 * 9 + 2 = 182 from rfl, show 9 + 1 = 10 from rfl, show 9 + 2 = 11 from rfl] at h3 ⊢
  simpa only [g.F (k := 182) (by simp), show ∀ j, A w 11 j = A u 11 j from fun j => g.A (by simp), show ∀ j, A w 10 j = A u 10 j from fun j => g.A (by simp), eA 10 (by simp), eA 11 (by simp)] using h3
theorem CSX_k (h : CSX u cc ps) (g : KMF u w) : CSX w cc ps := by
  refine ⟨CST_f h.1 g, ?_⟩
  obtain ⟨-, h1, h2, h3, h4, h5⟩ := h
  have eA : ∀ k, k ∉ [23, 30, 31, 32, 39, 40, 41, 42] → w.2.2.1 k = u.2.2.1 k := g.2.2.1
  refine ⟨⟨by rw [g.F (k := 85) (by simp)]; exact h1.1, h1.2⟩, by rw [g.A (j := 6) (by simp)]; exact h2, h3, by rw [g.F (k := 81) (by simp)]; exact h4, fun t ht => ?_⟩
  obtain ⟨k, h6, h7⟩ := h5 t ht
  exact ⟨k, by rw [g.A (j := 6) (by simp)]; exact h6, TVL_k h7 (g.A (by simp)) (eA 5 (by simp)) (by rw [g.F (k := 22) (by simp)]; omega) (by rw [g.F (k := 242) (by simp)]; omega)⟩
theorem ps_lt (h : CSX u cc ps) (ht : t < cc) : ps t < ps (t + 1) := by
  obtain ⟨k, -, h7⟩ := h.2.2.2.2.2 t ht
  exact h7.2.2.2.2
theorem ps_le (h : CSX u cc ps) : ∀ {a b : Nat}, a ≤ b → b ≤ cc → ps a ≤ ps b := by
  intro a b hab hb
  induction b with
  | zero => rw [show a = 0 by omega]; omega
  | succ b ih =>
    by_cases z : a = b + 1
    · rw [z]; omega
    · have := ih (by omega) (by omega)
      have := ps_lt h (t := b) (by omega)
      omega
theorem string_B {α : Type} {Q : MS → α → Prop} {g : MS → Unit → Option (MS × α)} {z : MS} (h0 : 1 ≤ F z 441) (e : EMc z u l) (hc : CSX u cc ps) (hn : n ≤ 8015) (ht : t < cc) (h4 : A u 6 t = 4) (ha : A u 18 n = A u 7 t) (hN : 100 ≤ N) (kk : ∀ w l2, EMc z w (l ++ (((l2.length : Nat) : Int) :: l2)) → l2.length ≤ 40 → ps t + l2.length + 2 ≤ ps (t + 1) → OK Q (g w ())) : OK Q (bnd (hm_Cm_string N u (I ((n : Nat) : Int))) g) := by
  obtain ⟨k, h6, h7⟩ := hc.2.2.2.2.2 t ht
  have hk4 : k = 4 := by omega
  obtain ⟨fr, L, h8, h9, h10, h11, h12⟩ := h7.2.2.2.1 hk4
  have hps : ps (t + 1) ≤ ps cc := ps_le hc (by omega) (Nat.le_refl _)
  have h81 := hc.2.2.2.2.1
  have hp4 := hc.2.2.2.1
  have g2 : ∀ (M d Ln : Nat) (l3 : List Int) (v : MS), EMc z v (l ++ (((Ln : Nat) : Int) :: l3)) → FR [441] [] [23] [] u v → l3.length = d → d ≤ Ln → Ln ≤ 40 → Ln ≤ L → Ln < M + d → OK Q (bnd ((hg_Cm_string N M).2 v (I ((fr : Nat) : Int)) (I ((Ln : Nat) : Int)) (I ((d : Nat) : Int))) g) := by
    intro M
    induction M with
    | zero => intro d Ln l3 v _ _ _ _ _ _ hM; omega
    | succ M ih =>
      intro d Ln l3 v ev fv hd hdL hL4 hLL hM
      rw [ok_bnd]
      show OK _ (hb_Cm_string_50 N (hg_Cm_string N M) v (I ((fr : Nat) : Int)) (I ((Ln : Nat) : Int)) (I ((d : Nat) : Int)))
      unfold hb_Cm_string_50
      refine k_le ⟨by omega, by omega⟩ ⟨by omega, by omega⟩ (fun q => ok_some.mpr ?_) (fun q => ?_)
      · have : Ln = l3.length := by omega
        subst this
        exact kk v l3 ev (by omega) (by omega)
      · rw [I_add]
        have fm : KMF u v := FR.mo fv (by simp) (by simp) (by simp) (by simp)
        obtain ⟨r, e1, -⟩ := signAt_e (N := N) (u := v) (x := ((fr : Nat) : Int) + ((d : Nat) : Int)) (CST_f hc.1 fm) ⟨by omega, by omega⟩
        rw [e1, bnd_so, lit1q, I_add, show ((d : Nat) : Int) + 1 = ((d + 1 : Nat) : Int) by omega, I_of r]
        rw [ok_bnd]
        have s1 : 1 ≤ F v 441 ∧ F v 441 ≤ 24000 := ⟨by have := ev.2.1.1; omega, ev.2.1.2.1⟩
        obtain ⟨w5, hw5, ew5⟩ := put_e (N := N) (u := v) (x := r.toInt) s1 (ti_rng r)
        rw [hw5]
        refine ok_some.mpr ?_
        have ev5 := EMc.tr h0 ev ew5
        rw [List.append_assoc, List.cons_append] at ev5
        exact ok_bnd.mp (ih (d + 1) Ln (l3 ++ [r.toInt]) w5 ev5 (fv.tr ew5.1) (by simp; omega) (by omega) hL4 hLL (by omega))
  have g1 : ∀ (M d : Nat), d ≤ L → L + 42 ≤ M + d → OK Q (bnd ((hg_Cm_string N M).1 u (I ((fr : Nat) : Int)) (I ((d : Nat) : Int))) g) := by
    intro M
    induction M with
    | zero => intro d _ hM; omega
    | succ M ih =>
      intro d hd hM
      rw [ok_bnd]
      show OK _ (hb_Cm_string_12 N (hg_Cm_string N M) u (I ((fr : Nat) : Int)) (I ((d : Nat) : Int)))
      have e39 : OK (fun u r => OK Q (g u r)) (hb_Cm_string_39 N (hg_Cm_string N M) u (I ((fr : Nat) : Int)) (I ((d : Nat) : Int))) := by
        unfold hb_Cm_string_39
        obtain ⟨w8, hw8, ew8⟩ := put_e (N := N) (u := u) (x := ((d : Nat) : Int)) ⟨by have := e.2.1.1; omega, e.2.1.2.1⟩ ⟨by omega, by omega⟩
        rw [hw8, bnd_so, lit0q]
        have e8 := EMc.tr h0 e ew8
        have f8 := ew8.1
        exact ok_bnd.mp (g2 M 0 d [] w8 e8 f8 rfl (by omega) (by omega) hd (by omega))
      unfold hb_Cm_string_12
      rw [show (40 : Int32) = I 40 from rfl]
      refine k_le ⟨by decide, by decide⟩ ⟨by omega, by omega⟩ (fun _ => e39) (fun q => ?_)
      rw [I_add]
      obtain ⟨r, e1, e2⟩ := signAt_e (N := N) (u := u) (x := ((fr : Nat) : Int) + ((d : Nat) : Int)) hc.1 ⟨by omega, by omega⟩
      rw [e1, bnd_so]
      refine ok_br.mpr ⟨fun _ => e39, fun q2 => ?_⟩
      rw [lit1q, I_add, show ((d : Nat) : Int) + 1 = ((d + 1 : Nat) : Int) by omega]
      have dl : d ≠ L := fun q3 => by
        rcases e2 with ⟨-, -, e3⟩ | ⟨e3, -⟩
        · rw [q3, show (((fr : Nat) : Int) + ((L : Nat) : Int)).toNat = fr + L by omega, h10] at e3
          rw [e3] at q2
          exact absurd q2 (by decide)
        · omega
      exact ok_bnd.mp (ih (d + 1) (by omega) (by omega))
  unfold hm_Cm_string hb_Cm_string_0
  rw [ok_bnd]
  refine e_in ⟨by omega, by omega⟩ (by decide) ?_
  rw [tnI (n := n) rfl (by omega), I_A (k := 18), ha, h8, lit0q]
  exact ok_bnd.mp (g1 N 0 (by omega) (by omega))
theorem KM_row (h : CVI u lv) (g : FR [] [] [39, 42] [] u w) : KMc u w lv := by
  have eF : ∀ k, F w k = F u k := fun k => congrArg _ (g.1 k (by simp))
  have eA : ∀ r k, r ∉ [39, 42] → A w r k = A u r k := fun r k hr => by show (w.2.2.1 r k).toInt = _; rw [g.2.2.1 r hr]; rfl
  refine ⟨FR.mo g (by simp) (by simp) (by simp) (by simp), ?_, by rw [eF]; omega, by rw [eF]; omega, fun z => by rw [eF] at z; exact z, ⟨eF _, eF _⟩, fun j _ => eA 40 _ (by simp), fun j _ => eA 41 _ (by simp), by rw [eA 41 _ (by simp)]; omega⟩
  unfold CVI
  simp only [eF, eA 40 _ (by simp), eA 41 _ (by simp)]
  exact h
theorem nameIn_ok (h : CVI u lv) (ht : t < 4002) (h4 : F u 706 < 4000) (hx : RG x) (hN : 10000 ≤ N) : OK (fun w _ => PQc u w lv 2 1) (hm_Cm_nameInPattern N u (I x) (I ((t : Nat) : Int))) := by
  have h3 := h.2.2.1
  have h7 := h.2.2.2.2.2.2.1
  unfold hm_Cm_nameInPattern hb_Cm_nameInPattern_0 hb_Cm_nameInPattern_92
  refine e_in ⟨by omega, by omega⟩ (by decide) (ok_lt.mpr ?_)
  rw [tnI (n := t) rfl (by omega), show (32 : Int32) = I 32 from rfl, wa_e]
  have g1 : FR [] [] [39, 42] [] u (wa u 42 t 32) := FR.wa FR.rf (by simp)
  generalize wa u 42 t 32 = v at g1
  have k1 := KM_row h g1
  have pv : FRp u v := FR.mo g1 (by simp) (by simp) (by simp) (by simp)
  have e4 : F v 441 = F u 441 := congrArg _ (g1.1 441 (by simp))
  have e6 : F v 706 = F u 706 := congrArg _ (g1.1 706 (by simp))
  have e9 : F v 709 = F u 709 := congrArg _ (g1.1 709 (by simp))
  have a23 : ∀ j, A v 23 j = A u 23 j := fun j => by show (v.2.2.1 23 j).toInt = _; rw [g1.2.2.1 23 (by simp)]; rfl
  have q1 : PQc u v lv 0 0 := ⟨pv, k1, fun j _ => a23 j, by omega, 0, by rw [e6]; simp, Nat.le_refl _, fun _ => by rw [e4]; exact PTS_n⟩
  have st : ∀ (y : Int) (z : MS) (Q : MS → Unit → Prop) (g : MS → Unit → Option (MS × Unit)), (y = 3 ∨ y = 4) → CVI z lv → (∀ w, EMc z w [y, x] → OK Q (g w ())) → OK Q (bnd (hm_Co_put N z (I y)) (fun u3 r3 => bnd (hm_Co_put N u3 (I x)) g)) := fun y z Q g hy hz hk => put_1 hz.1 ⟨by omega, by omega⟩ (fun w1 e1 => put_B hz.1.1 e1 hx (fun w2 e2 => hk w2 e2))
  have e46 : ∀ fr : Int, 0 ≤ fr ∧ fr ≤ 4000 → OK (fun w _ => PQc u w lv 2 1) (hb_Cm_nameInPattern_46 N () v (I x) (I x) (I ((t : Nat) : Int)) (I fr)) := fun fr hf => by
    unfold hb_Cm_nameInPattern_46 hb_Cm_nameInPattern_92
    rw [ok_bnd]
    refine ok_mono (isBound_ok (N := N) (nm := x) k1.2.1 ht hf hN) (fun v2 r2 hv2 => ?_)
    obtain ⟨g2, hr⟩ := hv2
    have g2' : FR [] [] [39, 42] [] v v2 := FR.mo g2 (by simp) (by simp) (by simp) (by simp)
    have k2 := KM_row k1.2.1 g2'
    have e42 : F v2 441 = F v 441 := congrArg _ (g2.1 441 (by simp))
    have e62 : F v2 706 = F v 706 := congrArg _ (g2.1 706 (by simp))
    have q2 : PQc v v2 lv 0 0 := ⟨FR.mo g2' (by simp) (by simp) (by simp) (by simp), k2, fun j _ => by show (v2.2.2.1 23 j).toInt = _; rw [g2.2.2.1 23 (by simp)]; rfl, by omega, 0, by rw [e62]; simp, Nat.le_refl _, fun _ => by rw [e42]; exact PTS_n⟩
    have q3 := PQ_tr h.1.1 q1 q2
    have ca : OK (fun w _ => PQc u w lv 2 1) (bnd (hm_Co_put N v2 4) (fun u3 r3 => bnd (hm_Co_put N u3 (I x)) (fun u6 r6 => bnd (hm_Cm_bind N u6 (I x)) (fun u8 r8 => some (u8, ()))))) := by
      rw [show (4 : Int32) = I 4 from rfl]
      refine st 4 v2 _ _ (Or.inr rfl) k2.2.1 (fun w5 e5 => ?_)
      have k5 := EMc.km k2.2.1 e5
      have e65 : F w5 706 = F u 706 := by rw [show F w5 706 = F v2 706 from congrArg _ (e5.1.1 706 (by simp)), e62, e6]
      rw [ok_bnd]
      refine ok_mono (bindC_ok (N := N) (x := x) k5.2.1 (by omega)) (fun w8 _ hw8 => ok_some.mpr ?_)
      obtain ⟨k8, e68, g8⟩ := hw8
      have e48 : F w8 441 = F w5 441 := congrArg _ (g8.1 441 (by simp))
      have a8 : ∀ j, A w8 23 j = A w5 23 j := fun j => by show (w8.2.2.1 23 j).toInt = _; rw [g8.2.2.1 23 (by simp)]; rfl
      have q8 : PQc v2 w8 lv 2 1 := by
        refine ⟨FR.tr (FR.mo e5.1 (by simp) (by simp) (by simp) (by simp)) (FR.mo g8 (by simp) (by simp) (by simp) (by simp)), k5.tr k8, fun j hj => by rw [a8, e5.2.2.1 j hj], ?_, 1, by omega, Nat.le_refl _, fun z => ?_⟩
        · have := e5.2.1.2.2
          simp at this
          omega
        · obtain ⟨z1, z2⟩ := e5.2.2.2 (by omega)
          have z3 := z2 0 (by simp)
          have s1 := k2.2.1.1.1
          simp at z1
          rw [show (F w8 441).toNat = (F v2 441).toNat + 2 by omega]
          exact PTS_4 (by rw [a8]; exact z3)
      exact PQ_w (PQ_tr h.1.1 q3 q8) (by omega) (by omega)
    have cb : OK (fun w _ => PQc u w lv 2 1) (bnd (hm_Co_put N v2 3) (fun u10 r10 => bnd (hm_Co_put N u10 (I x)) (fun u13 r13 => some (u13, ())))) := by
      rw [show (3 : Int32) = I 3 from rfl]
      refine st 3 v2 _ _ (Or.inl rfl) k2.2.1 (fun w5 e5 => ok_some.mpr ?_)
      have q8 := PQ_em k2.2.1 e5 (fun z z2 => PTS_3 (z2 0 (by simp)))
      exact PQ_w (PQ_tr h.1.1 q3 q8) (by simp) (by omega)
    exact ok_br.mpr ⟨fun _ => ca, fun _ => cb⟩
  refine ok_br.mpr ⟨fun _ => ?_, fun _ => ok_br.mpr ⟨fun _ => ?_, fun _ => ?_⟩⟩
  · rw [show (5 : Int32) = I 5 from rfl]
    refine put_1 k1.2.1.1 ⟨by decide, by decide⟩ (fun w1 e1 => ok_some.mpr ?_)
    have q8 := PQ_em k1.2.1 e1 (fun z z2 => PTS_5 (z2 0 (by simp)))
    exact PQ_w (PQ_tr h.1.1 q1 q8) (by simp) (by omega)
  · rw [lit0q]
    exact e46 0 (by omega)
  · rw [I_F (k := 709), e9, h3.1]
    refine e_in ⟨by omega, by omega⟩ (by decide) ?_
    rw [tnI (n := lv) rfl (by omega), I_A (k := 40)]
    have := (k1.2.1.2.2.2.2.2.2.1 lv (by omega)).1
    exact e46 _ this
end
end
section
set_option maxRecDepth 100000
def PatS (N : Nat) (S : SF_Cm_listPattern) (f : Nat) : Prop := ∀ (u : MS) (lv c : Nat) (ps : Nat → Nat) (n lo hi a b q r : Nat), CVI u lv → CSX u c ps → PAc u f n lo hi a b q r → b ≤ 8000 → hi ≤ c → F u 706 + ((hi - lo : Nat) : Int) ≤ 4000 → OK (fun w _ => PQc u w lv (12 * ((hi - lo : Nat) : Int) + ((ps hi - ps lo : Nat) : Int)) (hi - lo)) (S.2 u (I ((n : Nat) : Int)))
def LisS (N : Nat) (S : SF_Cm_listPattern) (f : Nat) : Prop := ∀ (u : MS) (lv c : Nat) (ps : Nat → Nat) (n lo hi a b q r : Nat), CVI u lv → CSX u c ps → a < n ∧ n ≤ b → TLc u (PAc u f) n lo hi a q r → b ≤ 8000 → hi ≤ c → F u 706 + ((hi - lo : Nat) : Int) ≤ 4000 → OK (fun w _ => PQc u w lv (12 * ((hi - lo : Nat) : Int) + ((ps hi - ps lo : Nat) : Int)) (hi - lo)) (S.1 u (I ((n : Nat) : Int)))
section
variable {u v w : MS} {N lv t t2 L i j k b b2 e f n c a q r lo hi m d : Nat} {l l2 : List Int} {x y B B2 : Int} {ps : Nat → Nat} {S : SF_Cm_listPattern}
theorem KN_m (h : KMF u w) : KNc u w a b n := ⟨⟨h.2.2.1 6 (by simp), h.2.2.1 7 (by simp)⟩, fun k _ _ => ⟨⟨h.A (by simp), h.A (by simp), h.A (by simp), h.A (by simp), h.A (by simp)⟩, fun _ => h.A (by simp)⟩⟩
theorem PQ_top (h : PQc u w lv B t) : F w 706 ≤ F u 706 + ((t : Nat) : Int) := by
  obtain ⟨-, -, -, -, k, h1, h2, -⟩ := h
  omega
theorem prow_ok (hS : PatS N S f) : ∀ (k M : Nat) (n lo hi a b q r : Nat) (v : MS), CVI v lv → CSX v c ps → RWc v 1 (PAc v f) k n lo hi a b q r → b ≤ 8000 → hi ≤ c → F v 706 + ((hi - lo : Nat) : Int) ≤ 4000 → k + 1 ≤ M → OK (fun w _ => PQc v w lv (12 * ((hi - lo : Nat) : Int) + ((ps hi - ps lo : Nat) : Int)) (hi - lo)) (hg_Cm_pattern N S M v (I ((n : Nat) : Int)))
  | 0, _, _, _, _, _, _, _, _, _, _, _, h, _, _, _, _ => h.elim
  | k + 1, M, n, lo, hi, a, b, q, r, v, hv, hc, h, hb, hh, ht, hM => by
    obtain ⟨M, rfl⟩ : ∃ M2, M = M2 + 1 + 1 := ⟨M - 2, by omega⟩
    show OK _ (hb_Cm_pattern_268 N S (hg_Cm_pattern N S (M + 1)) v (I ((n : Nat) : Int)))
    obtain ⟨m, c2, s, e, h⟩ := h
    have he := PA_bd f _ _ _ _ _ _ _ e
    have hn := he.1
    have hlm := he.2.1
    have hms : m ≤ hi ∧ c2 ≤ b ∧ (m < hi → m + 1 < hi) := by
      rcases h with ⟨-, -, h1, h2, -⟩ | ⟨-, n2, -, h3⟩
      · omega
      · have := (RW_hd (PA_bd f) h3).1; unfold HDc at this; omega
    unfold hb_Cm_pattern_268 hb_Cm_pattern_298
    refine k_c (y := 0) rfl ⟨by omega, by omega⟩ ⟨by decide, by decide⟩ (fun z => absurd z (by omega)) (fun _ => ?_)
    rw [ok_bnd]
    refine ok_mono (hS v lv c ps n lo m a c2 q s hv hc e (by clear h; omega) (by clear h; omega) (by clear h; omega)) (fun v1 _ p1 => e_in ⟨by omega, by omega⟩ (by decide) ?_)
    rw [tnI (n := n) rfl (by omega), I_A (k := 21), p1.2.1.1.A (j := 21) (by simp)]
    have m1 := ps_le hc (a := lo) (b := m) (by omega) (by omega)
    have m2 := ps_le hc (a := m) (b := hi) (by omega) (by omega)
    rcases h with ⟨-, h0, rfl, -, -⟩ | ⟨-, n2, h2, h3⟩
    · rw [h0]
      show OK _ (hb_Cm_pattern_268 N S (hg_Cm_pattern N S M) v1 (I 0))
      unfold hb_Cm_pattern_268 hb_Cm_pattern_298
      refine k_c (y := 0) rfl ⟨by decide, by decide⟩ ⟨by decide, by decide⟩ (fun _ => ok_some.mpr p1) (fun z => absurd rfl z)
    · rw [h2]
      have g1 := (RW_hd (PA_bd f) h3).1.2.1
      have tp := PQ_top p1
      have m3 := ps_le hc (a := m) (b := m + 1) (by omega) (by omega)
      have m4 := ps_le hc (a := m + 1) (b := hi) (by omega) (by omega)
      refine ok_mono (prow_ok hS k (M + 1) n2 (m + 1) hi c2 b s r v1 p1.2.1.2.1 (CSX_k hc p1.2.1.1) (RW_k (PA_k (Nat.le_refl _)) (PA_bd f) h3 (KN_m p1.2.1.1)) hb hh (by omega) (by omega)) (fun w _ p2 => ?_)
      exact PQ_w (PQ_tr hv.1.1 p1 p2) (by omega) (by omega)
theorem lrow_ok {Q : MS → Unit → Prop} {x : Int32} (hS : PatS N S f) : ∀ (k M : Nat) (n lo hi a b q r : Nat) (v : MS), CVI v lv → CSX v c ps → RWc v 1 (PAc v f) k n lo hi a b q r → b ≤ 8000 → hi ≤ c → F v 706 + ((hi - lo : Nat) : Int) ≤ 4000 → k + 1 ≤ M → (∀ M2 w, PQc v w lv (12 * ((hi - lo : Nat) : Int) + ((ps hi - ps lo : Nat) : Int) + 1) (hi - lo) → OK Q (hb_Cm_listPattern_10 N S (hg_Cm_listPattern N S M2) w x 0)) → OK Q (hg_Cm_listPattern N S M v x (I ((n : Nat) : Int)))
  | 0, _, _, _, _, _, _, _, _, _, _, _, h, _, _, _, _, _ => h.elim
  | k + 1, M, n, lo, hi, a, b, q, r, v, hv, hc, h, hb, hh, ht, hM, kk => by
    obtain ⟨M, rfl⟩ : ∃ M2, M = M2 + 1 + 1 := ⟨M - 2, by omega⟩
    show OK _ (hb_Cm_listPattern_10 N S (hg_Cm_listPattern N S (M + 1)) v x (I ((n : Nat) : Int)))
    obtain ⟨m, c2, s, e, h⟩ := h
    have he := PA_bd f _ _ _ _ _ _ _ e
    have hn := he.1
    have hlm := he.2.1
    have hms : m ≤ hi ∧ c2 ≤ b ∧ (m < hi → m + 1 < hi) := by
      rcases h with ⟨-, -, h1, h2, -⟩ | ⟨-, n2, -, h3⟩
      · omega
      · have := (RW_hd (PA_bd f) h3).1; unfold HDc at this; omega
    unfold hb_Cm_listPattern_10
    refine k_c (y := 0) rfl ⟨by omega, by omega⟩ ⟨by decide, by decide⟩ (fun z => absurd z (by omega)) (fun _ => ?_)
    rw [show (7 : Int32) = I 7 from rfl]
    refine put_1 hv.1 ⟨by decide, by decide⟩ (fun v0 e0 => ?_)
    have p0 := PQ_em hv e0 (fun z z2 => PTS_7 (z2 0 (by simp)))
    have k0 := p0.2.1
    have tp0 := PQ_top p0
    have e' := PA_k (u := v) (w := v0) (Nat.le_refl f) _ _ _ _ _ _ _ e (KN_m k0.1)
    rw [ok_bnd]
    refine ok_mono (hS v0 lv c ps n lo m a c2 q s k0.2.1 (CSX_k hc k0.1) e' (by clear h; omega) (by clear h; omega) (by clear h; omega)) (fun v1 _ p1 => e_in ⟨by omega, by omega⟩ (by decide) ?_)
    have km := k0.1.tr p1.2.1.1
    rw [tnI (n := n) rfl (by omega), I_A (k := 21), km.A (j := 21) (by simp)]
    have m1 := ps_le hc (a := lo) (b := m) (by omega) (by omega)
    have m2 := ps_le hc (a := m) (b := hi) (by omega) (by omega)
    have p2 := PQ_w (B2 := 12 * ((m - lo : Nat) : Int) + ((ps m - ps lo : Nat) : Int) + 1) (t2 := m - lo) (PQ_tr hv.1.1 p0 p1) (by simp; omega) (by omega)
    rcases h with ⟨-, h0, rfl, -, -⟩ | ⟨-, n2, h2, h3⟩
    · rw [h0]
      exact kk M v1 p2
    · rw [h2]
      have g1 := (RW_hd (PA_bd f) h3).1.2.1
      have tp := PQ_top p2
      have m3 := ps_le hc (a := m) (b := m + 1) (by omega) (by omega)
      have m4 := ps_le hc (a := m + 1) (b := hi) (by omega) (by omega)
      refine lrow_ok hS k (M + 1) n2 (m + 1) hi c2 b s r v1 p2.2.1.2.1 (CSX_k hc p2.2.1.1) (RW_k (PA_k (Nat.le_refl _)) (PA_bd f) h3 (KN_m p2.2.1.1)) hb hh (by omega) (by omega) (fun M2 w p3 => kk M2 w ?_)
      exact PQ_w (PQ_tr hv.1.1 p2 p3) (by omega) (by omega)
theorem PQ_rf (h : CVI u lv) : PQc u u lv 0 0 := ⟨FR.rf, KMc.rf h, fun _ _ => rfl, by omega, 0, by simp, Nat.le_refl _, fun _ => PTS_n⟩
theorem listPat_ok (hS : PatS N S f) (hN : 10000 ≤ N) {S2 : SF_Cm_listPattern} (h2 : S2.1 = hm_Cm_listPattern N S) : LisS N S2 f := by
  intro u lv c ps n lo hi a b q r hv hc hn hT hb hh ht
  rw [h2]
  obtain ⟨k, m, mid, c1, s, h18, h19, hk8, hor, hend⟩ := hT
  have oh := OR_hd (PA_bd f) hor
  have cn : c1 < n ∧ mid + 1 ≤ hi := by
    rcases hend with ⟨-, h1, -, h2⟩ | ⟨-, x, c2, -, h3, h4⟩
    · omega
    · have := PA_bd f _ _ _ _ _ _ _ h3; unfold HDc at this; omega
  unfold hm_Cm_listPattern hb_Cm_listPattern_0
  refine e_in ⟨by omega, by omega⟩ (by decide) ?_
  rw [tnI (n := n) rfl (by omega), I_A (k := 18), h18]
  have m1 := ps_le hc (a := lo) (b := lo + 1) (by omega) (by omega)
  have m2 := ps_le hc (a := lo + 1) (b := mid) (by omega) (by omega)
  have m3 := ps_le hc (a := mid) (b := hi) (by omega) (by omega)
  have fin : ∀ M2 w, PQc u w lv (12 * ((mid - (lo + 1) : Nat) : Int) + ((ps mid - ps (lo + 1) : Nat) : Int) + 1) (mid - (lo + 1)) → OK (fun w _ => PQc u w lv (12 * ((hi - lo : Nat) : Int) + ((ps hi - ps lo : Nat) : Int)) (hi - lo)) (hb_Cm_listPattern_10 N S (hg_Cm_listPattern N S M2) w (I ((n : Nat) : Int)) 0) := fun M2 w p1 => by
    unfold hb_Cm_listPattern_10 hb_Cm_listPattern_84
    rw [show decide ((0 : Int32) = 0) = true from rfl, br_tq]
    refine e_in ⟨by omega, by omega⟩ (by decide) ?_
    rw [tnI (n := n) rfl (by omega), I_A (k := 20), p1.2.1.1.A (j := 20) (by simp)]
    have kw := p1.2.1
    have tp := PQ_top p1
    rcases hend with ⟨h0, h1, -, -⟩ | ⟨hk1, x, c2, hx, ex, hxn⟩
    · rw [h0]
      refine k_c (y := 0) rfl ⟨by decide, by decide⟩ ⟨by decide, by decide⟩ (fun _ => ?_) (fun z => absurd rfl z)
      rw [show (1 : Int32) = I 1 from rfl, show (6 : Int32) = I 6 from rfl, show (0 : Int32) = I 0 from rfl]
      refine put_1 kw.2.1.1 ⟨by decide, by decide⟩ (fun w1 e1 => term_B kw.2.1.1.1 e1 ⟨by decide, by decide⟩ ⟨by decide, by decide⟩ (fun w2 e2 => ok_some.mpr ?_))
      have p2 := PQ_em kw.2.1 e2 (fun z z2 => PTS_1 (z2 0 (by simp)))
      exact PQ_w (PQ_tr hv.1.1 p1 p2) (by simp; omega) (by omega)
    · rw [hx]
      have hd := PA_bd f _ _ _ _ _ _ _ ex
      unfold HDc at hd
      refine k_c (y := 0) rfl ⟨by omega, by omega⟩ ⟨by decide, by decide⟩ (fun z => absurd z (by omega)) (fun _ => e_in ⟨by omega, by omega⟩ (by decide) ?_)
      have m4 := ps_le hc (a := mid) (b := mid + 1) (by omega) (by omega)
      have m5 := ps_le hc (a := mid + 1) (b := hi - 1) (by omega) (by omega)
      have m6 := ps_le hc (a := hi - 1) (b := hi) (by omega) (by omega)
      rw [ok_bnd]
      refine ok_mono (hS w lv c ps x (mid + 1) (hi - 1) c1 c2 s r kw.2.1 (CSX_k hc kw.1) (PA_k (Nat.le_refl f) _ _ _ _ _ _ _ ex (KN_m kw.1)) (by omega) (by omega) (by omega)) (fun w2 _ p2 => ok_some.mpr ?_)
      exact PQ_w (PQ_tr hv.1.1 p1 p2) (by omega) (by omega)
  rcases hor with ⟨rfl, rfl, h3, -, -⟩ | ⟨hk1, hrw⟩
  · obtain ⟨M, rfl⟩ : ∃ M, N = M + 1 := ⟨N - 1, by omega⟩
    show OK _ (hb_Cm_listPattern_10 (M + 1) S (hg_Cm_listPattern (M + 1) S M) u (I ((n : Nat) : Int)) 0)
    exact fin M u (PQ_w (PQ_rf hv) (by omega) (by omega))
  · exact lrow_ok hS k N m (lo + 1) mid a c1 q s u hv hc hrw (by omega) (by omega) (by omega) (by omega) fin
theorem patC_ok (hS : PatS N S f) (hL : LisS N S f) (hN : 10000 ≤ N) {S2 : SF_Cm_listPattern} (h2 : S2.2 = hm_Cm_pattern N S) : PatS N S2 (f + 1) := by
  intro u lv c ps n lo hi a b q r hv hc hP hb hh ht
  rw [h2]
  obtain ⟨hd, htk, hqr, hP⟩ := hP
  have hc4 := hc.2.1.2
  unfold HDc at hd
  have m1 := ps_le hc (a := lo) (b := hi) (by omega) (by omega)
  unfold hm_Cm_pattern hb_Cm_pattern_0 hb_Cm_pattern_298
  have i1 : inb (I ((n : Nat) : Int)) 8016 = true := (I_inb (by omega) (by omega)).mpr ⟨by omega, by omega⟩
  rw [i1, tnI (n := n) rfl (by omega), I_A (k := 16), ck_t]
  have tm : ∀ (y x : Int) (w : MS), (y = 0 ∨ y = 1) → RG x → EMc u w [1] → OK (fun w _ => PQc u w lv (12 * ((hi - lo : Nat) : Int) + ((ps hi - ps lo : Nat) : Int)) (hi - lo)) (bnd (hm_Cm_term N w (I y) (I x)) (fun u20 r20 => some (u20, ()))) := fun y x w hy hx e1 => term_B hv.1.1 e1 ⟨by clear hP; omega, by clear hP; omega⟩ hx (fun w2 e2 => ok_some.mpr (by
    have p2 := PQ_em hv e2 (fun z z2 => PTS_1 (z2 0 (by simp)))
    exact PQ_w p2 (by clear hP; simp; omega) (by omega)))
  have a18 : ∀ w, EMc u w [1] → ∀ k, A w 18 k = A u 18 k := fun w e1 k => by show (w.2.2.1 18 k).toInt = _; rw [e1.1.2.2.1 18 (by simp)]; rfl
  rcases hP with ⟨⟨l16, l6, l17, l18⟩, rfl⟩ | ⟨e16, m, e18, hm, ⟨l16, l6, l17, l18⟩, l1, rfl⟩ | ⟨e16, m, c1, e18, em, hcn⟩ | ⟨e16, hT⟩ | ⟨e16, hT⟩
  · rcases (by omega : A u 6 lo = 1 ∨ A u 6 lo = 2 ∨ A u 6 lo = 3 ∨ A u 6 lo = 4) with l | l | l | l
    · have e16 : A u 16 n = 1 := l16.trans l
      refine k_c (y := 1) rfl (A_r _ _ _) ⟨by decide, by decide⟩ (fun _ => ?_) (fun z => absurd e16 z)
      refine put_1 (x := 1) hv.1 ⟨by decide, by decide⟩ (fun w1 e1 => ok_ck.mpr ⟨rfl, ?_⟩)
      rw [I_A (k := 18)]
      exact tm 0 _ w1 (by omega) (A_r _ _ _) e1
    · have e16 : A u 16 n = 2 := l16.trans l
      refine k_c (y := 1) rfl (A_r _ _ _) ⟨by decide, by decide⟩ (fun z => absurd z (by omega)) (fun _ => ?_)
      refine k_c (y := 2) rfl (A_r _ _ _) ⟨by decide, by decide⟩ (fun _ => ?_) (fun z => absurd e16 z)
      refine put_1 (x := 1) hv.1 ⟨by decide, by decide⟩ (fun w1 e1 => ok_ck.mpr ⟨rfl, ?_⟩)
      rw [I_A (k := 18)]
      exact tm 1 _ w1 (by omega) (A_r _ _ _) e1
    · have e16 : A u 16 n = 3 := l16.trans l
      refine k_c (y := 1) rfl (A_r _ _ _) ⟨by decide, by decide⟩ (fun z => absurd z (by omega)) (fun _ => ?_)
      refine k_c (y := 2) rfl (A_r _ _ _) ⟨by decide, by decide⟩ (fun z => absurd z (by omega)) (fun _ => ?_)
      refine k_c (y := 3) rfl (A_r _ _ _) ⟨by decide, by decide⟩ (fun _ => ?_) (fun z => absurd e16 z)
      refine ok_ck.mpr ⟨rfl, ok_ck.mpr ⟨rfl, ?_⟩⟩
      rw [I_A (k := 18), I_A (k := 17), l17, ok_bnd]
      refine ok_mono (nameIn_ok (N := N) hv (t := lo) (by omega) (by omega) (A_r _ _ _) hN) (fun w _ p1 => ok_some.mpr (PQ_w p1 (by omega) (by omega)))
    · have e16 : A u 16 n = 4 := l16.trans l
      refine k_c (y := 1) rfl (A_r _ _ _) ⟨by decide, by decide⟩ (fun z => absurd z (by omega)) (fun _ => ?_)
      refine k_c (y := 2) rfl (A_r _ _ _) ⟨by decide, by decide⟩ (fun z => absurd z (by omega)) (fun _ => ?_)
      refine k_c (y := 3) rfl (A_r _ _ _) ⟨by decide, by decide⟩ (fun z => absurd z (by omega)) (fun _ => ?_)
      refine k_c (y := 4) rfl (A_r _ _ _) ⟨by decide, by decide⟩ (fun _ => ?_) (fun z => absurd e16 z)
      refine put_1 (x := 2) hv.1 ⟨by decide, by decide⟩ (fun w1 e1 => ?_)
      have k1 := EMc.km hv e1
      refine string_B (t := lo) (n := n) (N := N) hv.1.1 e1 (CSX_k hc k1.1) (by omega) (by omega) (by rw [k1.1.A (j := 6) (by simp)]; exact l) (by rw [k1.1.A (j := 18) (by simp), k1.1.A (j := 7) (by simp)]; exact l18) (by omega) (fun w2 l2 e2 h40 hps => ok_some.mpr ?_)
      have p2 := PQ_em hv e2 (fun z z2 => ?_)
      · exact PQ_w p2 (by simp; omega) (by omega)
      · have := PTS_2 (n := l2.length) (z2 0 (by simp)) (z2 1 (by simp)) h40
        rw [List.length_append, List.length_cons]
        show PTSc w2 _ ((F u 441).toNat + (1 + (l2.length + 1))) 0
        rw [show (F u 441).toNat + (1 + (l2.length + 1)) = (F u 441).toNat + 0 + 2 + l2.length by omega]
        exact this
  · refine k_c (y := 1) rfl (A_r _ _ _) ⟨by decide, by decide⟩ (fun z => absurd z (by omega)) (fun _ => ?_)
    refine k_c (y := 2) rfl (A_r _ _ _) ⟨by decide, by decide⟩ (fun z => absurd z (by omega)) (fun _ => ?_)
    refine k_c (y := 3) rfl (A_r _ _ _) ⟨by decide, by decide⟩ (fun z => absurd z (by omega)) (fun _ => ?_)
    refine k_c (y := 4) rfl (A_r _ _ _) ⟨by decide, by decide⟩ (fun z => absurd z (by omega)) (fun _ => ?_)
    refine k_c (y := 5) rfl (A_r _ _ _) ⟨by decide, by decide⟩ (fun z => absurd z (by omega)) (fun _ => ?_)
    refine k_c (y := 6) rfl (A_r _ _ _) ⟨by decide, by decide⟩ (fun z => absurd z (by omega)) (fun _ => ?_)
    refine k_c (y := 7) rfl (A_r _ _ _) ⟨by decide, by decide⟩ (fun z => absurd z (by omega)) (fun _ => ?_)
    refine k_c (y := 8) rfl (A_r _ _ _) ⟨by decide, by decide⟩ (fun z => absurd z (by omega)) (fun _ => ?_)
    refine k_c (y := 9) rfl (A_r _ _ _) ⟨by decide, by decide⟩ (fun z => absurd z (by omega)) (fun _ => ?_)
    refine k_c (y := 10) rfl (A_r _ _ _) ⟨by decide, by decide⟩ (fun z => absurd z (by omega)) (fun _ => ?_)
    refine k_c (y := 11) rfl (A_r _ _ _) ⟨by decide, by decide⟩ (fun z => absurd z (by omega)) (fun _ => ?_)
    refine k_c (y := 12) rfl (A_r _ _ _) ⟨by decide, by decide⟩ (fun z => absurd z (by omega)) (fun _ => ?_)
    refine k_c (y := 13) rfl (A_r _ _ _) ⟨by decide, by decide⟩ (fun z => absurd z (by omega)) (fun _ => ?_)
    refine k_c (y := 14) rfl (A_r _ _ _) ⟨by decide, by decide⟩ (fun z => absurd z (by omega)) (fun _ => ?_)
    refine k_c (y := 15) rfl (A_r _ _ _) ⟨by decide, by decide⟩ (fun z => absurd z (by omega)) (fun _ => ?_)
    refine k_c (y := 16) rfl (A_r _ _ _) ⟨by decide, by decide⟩ (fun z => absurd z (by omega)) (fun _ => ?_)
    refine k_c (y := 17) rfl (A_r _ _ _) ⟨by decide, by decide⟩ (fun _ => ?_) (fun z => absurd e16 z)
    refine put_1 (x := 1) hv.1 ⟨by decide, by decide⟩ (fun w1 e1 => ok_ck.mpr ⟨rfl, ?_⟩)
    rw [I_A (k := 18), a18 w1 e1, e18]
    refine e_in ⟨by omega, by omega⟩ (by decide) ?_
    rw [tnI (n := m) rfl (by omega), I_of (-(w1.2.2.1 18 m))]
    exact tm 0 _ w1 (by omega) (ti_rng _) e1
  · refine k_c (y := 1) rfl (A_r _ _ _) ⟨by decide, by decide⟩ (fun z => absurd z (by omega)) (fun _ => ?_)
    refine k_c (y := 2) rfl (A_r _ _ _) ⟨by decide, by decide⟩ (fun z => absurd z (by omega)) (fun _ => ?_)
    refine k_c (y := 3) rfl (A_r _ _ _) ⟨by decide, by decide⟩ (fun z => absurd z (by omega)) (fun _ => ?_)
    refine k_c (y := 4) rfl (A_r _ _ _) ⟨by decide, by decide⟩ (fun z => absurd z (by omega)) (fun _ => ?_)
    refine k_c (y := 5) rfl (A_r _ _ _) ⟨by decide, by decide⟩ (fun _ => ?_) (fun z => absurd e16 z)
    refine ok_ck.mpr ⟨rfl, ?_⟩
    rw [I_A (k := 18), e18, ok_bnd]
    have hd2 := PA_bd f _ _ _ _ _ _ _ em
    unfold HDc at hd2
    have m2 := ps_le hc (a := lo) (b := lo + 1) (by omega) (by omega)
    have m3 := ps_le hc (a := lo + 1) (b := hi - 1) (by omega) (by omega)
    have m4 := ps_le hc (a := hi - 1) (b := hi) (by omega) (by omega)
    exact ok_mono (hS u lv c ps m (lo + 1) (hi - 1) a c1 q r hv hc em (by omega) (by omega) (by omega)) (fun w _ p1 => ok_some.mpr (PQ_w p1 (by omega) (by omega)))
  · refine k_c (y := 1) rfl (A_r _ _ _) ⟨by decide, by decide⟩ (fun z => absurd z (by omega)) (fun _ => ?_)
    refine k_c (y := 2) rfl (A_r _ _ _) ⟨by decide, by decide⟩ (fun z => absurd z (by omega)) (fun _ => ?_)
    refine k_c (y := 3) rfl (A_r _ _ _) ⟨by decide, by decide⟩ (fun z => absurd z (by omega)) (fun _ => ?_)
    refine k_c (y := 4) rfl (A_r _ _ _) ⟨by decide, by decide⟩ (fun z => absurd z (by omega)) (fun _ => ?_)
    refine k_c (y := 5) rfl (A_r _ _ _) ⟨by decide, by decide⟩ (fun z => absurd z (by omega)) (fun _ => ?_)
    refine k_c (y := 6) rfl (A_r _ _ _) ⟨by decide, by decide⟩ (fun _ => ?_) (fun z => absurd e16 z)
    obtain ⟨k, m, c1, h18, h19, hk8, hor, hcn⟩ := hT
    have oh := OR_hd (PA_bd f) hor
    refine put_1 (x := 6) hv.1 ⟨by decide, by decide⟩ (fun w1 e1 => ok_ck.mpr ⟨rfl, ?_⟩)
    have k1 := EMc.km hv e1
    rw [I_A (k := 19), k1.1.A (j := 19) (by simp), h19]
    refine put_B hv.1.1 e1 ⟨by omega, by omega⟩ (fun w2 e2 => ok_ck.mpr ⟨rfl, ?_⟩)
    have p2 := PQ_em hv e2 (fun z z2 => PTS_6 (n := k) (z2 0 (by simp)) (z2 1 (by simp)) hk8)
    have k2 := p2.2.1
    have tp := PQ_top p2
    rw [I_A (k := 18), k2.1.A (j := 18) (by simp), h18]
    rcases hor with ⟨rfl, rfl, h3, -, -⟩ | ⟨hk1, hrw⟩
    · obtain ⟨M, rfl⟩ : ∃ M, N = M + 1 := ⟨N - 1, by omega⟩
      show OK _ (hb_Cm_pattern_268 (M + 1) S (hg_Cm_pattern (M + 1) S M) w2 0)
      unfold hb_Cm_pattern_268 hb_Cm_pattern_298
      rw [show decide ((0 : Int32) = 0) = true from rfl, br_tq]
      exact ok_some.mpr (PQ_w p2 (by simp; omega) (by omega))
    · have m2 := ps_le hc (a := lo) (b := lo + 1) (by omega) (by omega)
      have m3 := ps_le hc (a := lo + 1) (b := hi - 1) (by omega) (by omega)
      have m4 := ps_le hc (a := hi - 1) (b := hi) (by omega) (by omega)
      have rh := (RW_hd (PA_bd f) hrw).1.2.1
      refine ok_mono (prow_ok hS k N m (lo + 1) (hi - 1) a c1 q r w2 k2.2.1 (CSX_k hc k2.1) (RW_k (PA_k (Nat.le_refl _)) (PA_bd f) hrw (KN_m k2.1)) (by omega) (by omega) (by omega) (by omega)) (fun w _ p3 => ?_)
      exact PQ_w (PQ_tr hv.1.1 p2 p3) (by simp; omega) (by omega)
  · refine k_c (y := 1) rfl (A_r _ _ _) ⟨by decide, by decide⟩ (fun z => absurd z (by omega)) (fun _ => ?_)
    refine k_c (y := 2) rfl (A_r _ _ _) ⟨by decide, by decide⟩ (fun z => absurd z (by omega)) (fun _ => ?_)
    refine k_c (y := 3) rfl (A_r _ _ _) ⟨by decide, by decide⟩ (fun z => absurd z (by omega)) (fun _ => ?_)
    refine k_c (y := 4) rfl (A_r _ _ _) ⟨by decide, by decide⟩ (fun z => absurd z (by omega)) (fun _ => ?_)
    refine k_c (y := 5) rfl (A_r _ _ _) ⟨by decide, by decide⟩ (fun z => absurd z (by omega)) (fun _ => ?_)
    refine k_c (y := 6) rfl (A_r _ _ _) ⟨by decide, by decide⟩ (fun z => absurd z (by omega)) (fun _ => ?_)
    refine k_c (y := 7) rfl (A_r _ _ _) ⟨by decide, by decide⟩ (fun _ => ?_) (fun z => absurd e16 z)
    rw [ok_bnd]
    exact ok_mono (hL u lv c ps n lo hi a b q r hv hc hd.1 hT hb hh ht) (fun w _ p1 => ok_some.mpr p1)
theorem grpA_ok (hN : 10000 ≤ N) : ∀ d f, (2 * f ≤ d → PatS N (hrc_Cm_listPattern N d) f) ∧ (2 * f + 1 ≤ d → LisS N (hrc_Cm_listPattern N d) f) := by
  intro d
  induction d with
  | zero =>
    intro f
    refine ⟨fun h => ?_, fun h => absurd h (by omega)⟩
    obtain rfl : f = 0 := by omega
    exact fun _ _ _ _ _ _ _ _ _ _ _ _ _ h => h.elim
  | succ d ih =>
    intro f
    refine ⟨fun h => ?_, fun h => listPat_ok ((ih f).1 (by omega)) hN rfl⟩
    cases f with
    | zero => exact fun _ _ _ _ _ _ _ _ _ _ _ _ _ h => h.elim
    | succ f => exact patC_ok ((ih f).1 (by omega)) ((ih f).2 (by omega)) hN rfl
end
end
section
set_option maxRecDepth 100000
abbrev Tyc : Type := Nat × Nat × List Nat × Nat × Nat
def WFi (T : Nat → Option Tyc) (v : MS) (i h m : Nat) (L : List Nat) (g x : Nat) : Prop := (1 ≤ i ∧ i < 24000) ∧ (h ≤ 1090 ∧ m ≤ 40 ∧ L.length ≤ 25) ∧ CHc T i L h m ∧ GRc T v i h m L g x ∧ (x ≤ i ∧ (A v 23 i ≠ 32 → x < i)) ∧ (IN1 T v i h m L g x ∨ IN2 T v i h m L g x ∨ IN3 T v i h m L g x)
def ARc (T : Nat → Option Tyc) (v : MS) (a b h m : Nat) (L : List Nat) (g x : Nat) : Prop := (1 ≤ a ∧ b ≤ 24000 ∧ L.length ≤ 25) ∧ (match L with
  | [] => True
  | t :: M => b ≤ t ∧ ∃ h2 m2, T t = some (h2 + 1, m2, M, 0, 0) ∧ h2 ≤ h ∧ m2 ≤ m) ∧ (g ≠ 0 → g < a ∧ ∃ hg n t : Nat, T g = some (hg, m, L, 0, x) ∧ hg ≤ h ∧ A v 23 (g + 1) = ((n : Nat) : Int) ∧ n ≤ m ∧ A v 23 (g + 2) = ((t : Nat) : Int) ∧ b ≤ t ∧ T t = some (hg, m - n, L, 0, x)) ∧ (x ≤ a ∧ (x = a → A v 23 a = 32))
def TBLc (u v : MS) (q r : Nat) : Prop := F v 442 = F u 442 ∧ F v 449 = F u 449 ∧ F u 22 ≤ F v 22 ∧ (∀ f, A v 25 f = A u 25 f) ∧ ∀ pl, q ≤ pl → pl < r → A v 30 pl = A u 30 pl ∧ A v 31 pl = A u 31 pl ∧ A v 32 pl = A u 32 pl
def PLSc (T : Nat → Option Tyc) (v : MS) (q r : Nat) : Prop := ∀ pl, q ≤ pl → pl < r → ∃ a e p k : Nat, A v 30 pl = ((a : Nat) : Int) ∧ A v 31 pl = ((e : Nat) : Int) ∧ A v 32 pl = ((p : Nat) : Int) ∧ A v 23 p = ((k : Nat) : Int) ∧ p + k < 24000 ∧ T e = some (a, k, [], 0, 0)
def SGc (u : MS) (a b q r : Nat) (H : List (Nat × Tyc)) (z h m : Nat) (L : List Nat) (g x : Nat) (o : Option Tyc) : Prop := (a ≤ b ∧ q ≤ r) ∧ (a = b → o = some (h, m, L, g, x)) ∧ (∀ p t, (p, t) ∈ H → a ≤ p ∧ p < b) ∧ ∃ T0 : Nat → Option Tyc, (a < b → T0 a = some (h, m, L, g, x)) ∧ ∀ (v : MS) (T : Nat → Option Tyc), (∀ j, a ≤ j → j < b → (∀ t, (j, t) ∉ H) → A v 23 j = A u 23 j) → TBLc u v q r → (∀ i, a ≤ i → i < b → T i = T0 i) → (∀ y1, o = some y1 → T b = some y1) → (∀ p t, (p, t) ∈ H → ∃ d : Nat, A v 23 p = ((d : Nat) : Int) ∧ b ≤ d ∧ T d = some t) → ARc T v a b z m L g x → (∀ i h m L g x, a ≤ i → i < b → T i = some (h, m, L, g, x) → WFi T v i h m L g x) ∧ PLSc T v q r
section
variable {T : Nat → Option Tyc} {u v w : MS} {a b c q r s z z2 h m h1 m1 g x n k i : Nat} {L : List Nat} {H H1 H2 : List (Nat × Tyc)} {y1 : Tyc} {o : Option Tyc}
theorem WFT_i : (∀ i h m L g x, T i = some (h, m, L, g, x) → WFi T u i h m L g x) → WFT T u := fun z => z
theorem TBLc.rf : TBLc u u q r := ⟨rfl, rfl, by omega, fun _ => rfl, fun _ _ _ => ⟨rfl, rfl, rfl⟩⟩
theorem TBLc.tr (a : TBLc u v q r) (b : TBLc v w q r) : TBLc u w q r := by
  obtain ⟨a1, a2, a3, a4, a5⟩ := a
  obtain ⟨b1, b2, b3, b4, b5⟩ := b
  exact ⟨b1.trans a1, b2.trans a2, by omega, fun f => (b4 f).trans (a4 f), fun pl h1 h2 => ⟨(b5 pl h1 h2).1.trans (a5 pl h1 h2).1, (b5 pl h1 h2).2.1.trans (a5 pl h1 h2).2.1, (b5 pl h1 h2).2.2.trans (a5 pl h1 h2).2.2⟩⟩
theorem TBLc.mo {q2 r2 : Nat} (a : TBLc u v q r) (h1 : q ≤ q2) (h2 : r2 ≤ r) : TBLc u v q2 r2 := ⟨a.1, a.2.1, a.2.2.1, a.2.2.2.1, fun pl z1 z2 => a.2.2.2.2 pl (by omega) (by omega)⟩
theorem AR_l (z : ARc T v a c h m L g x) (hb : b ≤ c) : ARc T v a b h m L g x := by
  obtain ⟨z1, z2, z3, z4⟩ := z
  refine ⟨⟨z1.1, by omega, z1.2.2⟩, ?_, fun hg => ?_, z4⟩
  · cases L with
    | nil => trivial
    | cons t M => exact ⟨by have := z2.1; omega, z2.2⟩
  · obtain ⟨g1, hg, n, t, g2, g3, g4, g5, g6, g7, g8⟩ := z3 hg
    exact ⟨g1, hg, n, t, g2, g3, g4, g5, g6, by omega, g8⟩
theorem AR_r (y : ARc T v a c z m L g x) (hab : a ≤ b) (hm : m ≤ m1) (hg0 : g ≠ 0 → m1 = m) : ARc T v b c z m1 L g x := by
  obtain ⟨z1, z2, z3, z4⟩ := y
  refine ⟨⟨by omega, by omega, z1.2.2⟩, ?_, fun hg => ?_, by omega, fun e => ?_⟩
  · cases L with
    | nil => trivial
    | cons t M =>
      obtain ⟨z5, h2, m2, z6, z7, z8⟩ := z2
      exact ⟨z5, h2, m2, z6, by omega, by omega⟩
  · obtain ⟨g1, hg2, n, t, g2, g3, g4, g5, g6, g7, g8⟩ := z3 hg
    rw [hg0 hg]
    exact ⟨by omega, hg2, n, t, g2, by omega, g4, g5, g6, g7, g8⟩
  · have : a = b := by omega
    rw [← this]
    exact z4.2 (by omega)
theorem AR_z (y : ARc T v a c z m L g x) (hz : z ≤ z2) : ARc T v a c z2 m L g x := by
  obtain ⟨y1, y2, y3, y4⟩ := y
  refine ⟨y1, ?_, fun hg => ?_, y4⟩
  · cases L with
    | nil => trivial
    | cons t M =>
      obtain ⟨z5, h2, m2, z6, z7, z8⟩ := y2
      exact ⟨z5, h2, m2, z6, by omega, by omega⟩
  · obtain ⟨g1, hg2, n, t, g2, g3, g4⟩ := y3 hg
    exact ⟨g1, hg2, n, t, g2, by omega, g4⟩
theorem SG_k (y : SGc u a b q r H z h m L g x o) (e : ∀ j, a ≤ j → j < b → (∀ t, (j, t) ∉ H) → A w 23 j = A u 23 j) (t : TBLc u w q r) : SGc w a b q r H z h m L g x o := by
  obtain ⟨z1, z2, z3, T0, z4, z5⟩ := y
  exact ⟨z1, z2, z3, T0, z4, fun v T h1 h2 => z5 v T (fun j j1 j2 j3 => (h1 j j1 j2 j3).trans (e j j1 j2 j3)) (t.tr h2)⟩
theorem SG_nl : SGc u a a q q [] z h m L g x (some (h, m, L, g, x)) := ⟨⟨Nat.le_refl _, Nat.le_refl _⟩, fun _ => rfl, fun p t hp => absurd hp (by simp), fun _ => none, fun z => absurd z (by omega), fun v T _ _ _ _ _ _ => ⟨fun i _ _ _ _ _ h1 h2 => absurd h2 (by omega), fun pl h1 h2 => absurd h2 (by omega)⟩⟩
theorem SG_seq (y0 : SGc u a b q s H1 z h m L g x (some (h1, m1, L, g, x))) (y : SGc u b c s r H2 z h1 m1 L g x o) (hm : m ≤ m1) (hg0 : g ≠ 0 → m1 = m) : SGc u a c q r (H1 ++ H2) z h m L g x o := by
  obtain ⟨⟨z1, z1'⟩, z2, z3, T1, z4, z5⟩ := y0
  obtain ⟨⟨y1, y1'⟩, y2, y3, T2, y4, y5⟩ := y
  have ab : a = b → h1 = h ∧ m1 = m := fun e => by have := z2 e; injection this with this; injection this with e1 e2; injection e2 with e2 e3; exact ⟨e1, e2⟩
  refine ⟨⟨by omega, by omega⟩, fun e => ?_, fun p t hp => ?_, fun i => if i < b then T1 i else T2 i, fun hac => ?_, fun v T ha ht hT ho hH hX => ?_⟩
  · obtain ⟨e1, e2⟩ := ab (by omega)
    rw [y2 (by omega), e1, e2]
  · rcases List.mem_append.mp hp with hp | hp
    · have := z3 p t hp; omega
    · have := y3 p t hp; omega
  · show (if a < b then T1 a else T2 a) = _
    by_cases e : a < b
    · rw [if_pos e]; exact z4 e
    · have e2 : a = b := by omega
      obtain ⟨e3, e4⟩ := ab e2
      rw [if_neg e, e2, y4 (by omega), e3, e4]
  · have hT1 : ∀ i, a ≤ i → i < b → T i = T1 i := fun i i1 i2 => by
      rw [hT i i1 (by omega)]
      show (if i < b then T1 i else T2 i) = _
      rw [if_pos i2]
    have hT2 : ∀ i, b ≤ i → i < c → T i = T2 i := fun i i1 i2 => by
      rw [hT i (by omega) i2]
      show (if i < b then T1 i else T2 i) = _
      rw [if_neg (by omega)]
    have hb : T b = some (h1, m1, L, g, x) := by
      by_cases e : b < c
      · rw [hT2 b (Nat.le_refl _) e]; exact y4 e
      · have e2 : b = c := by omega
        rw [e2]; exact ho _ (y2 e2)
    obtain ⟨r1, r2⟩ := z5 v T (fun j j1 j2 j3 => ha j j1 (by omega) (fun t hp => by
      rcases List.mem_append.mp hp with hp | hp
      · exact j3 t hp
      · have := y3 j t hp; omega)) (ht.mo (Nat.le_refl _) y1') hT1 (fun y1 e => by injection e with e; rw [← e]; exact hb) (fun p t hp => by
        obtain ⟨d, d1, d2, d3⟩ := hH p t (List.mem_append.mpr (Or.inl hp))
        exact ⟨d, d1, by omega, d3⟩) (AR_l hX y1)
    obtain ⟨r3, r4⟩ := y5 v T (fun j j1 j2 j3 => ha j (by omega) j2 (fun t hp => by
      rcases List.mem_append.mp hp with hp | hp
      · have := z3 j t hp; omega
      · exact j3 t hp)) (ht.mo z1' (Nat.le_refl _)) hT2 ho (fun p t hp => hH p t (List.mem_append.mpr (Or.inr hp))) (AR_r hX z1 hm hg0)
    refine ⟨fun i h m L g x i1 i2 e => ?_, fun pl p1 p2 => ?_⟩
    · rcases Nat.lt_or_ge i b with i3 | i3
      · exact r1 i h m L g x i1 i3 e
      · exact r3 i h m L g x i3 i2 e
    · rcases Nat.lt_or_ge pl s with p3 | p3
      · exact r2 pl p1 p3
      · exact r4 pl p3 p2
theorem SG_arr (y : SGc u a b q r (H1 ++ H2) z h m L g x o) (hab : a < b) (ho : o = none ∨ o = some y1) (h1 : ∀ p t, (p, t) ∈ H1 → t = y1 ∧ A w 23 p = ((b : Nat) : Int)) (hd : ∀ p t t2, (p, t) ∈ H1 → (p, t2) ∉ H2) (e : ∀ j, a ≤ j → j < b → (∀ t, (j, t) ∉ H1) → A w 23 j = A u 23 j) (t : TBLc u w q r) : SGc w a b q r H2 z h m L g x (some y1) := by
  obtain ⟨z1, z2, z3, T0, z4, z5⟩ := y
  refine ⟨z1, fun e => absurd e (by omega), fun p t hp => z3 p t (List.mem_append.mpr (Or.inr hp)), T0, z4, fun v T ha ht hT hb hH hX => z5 v T (fun j j1 j2 j3 => ?_) (t.tr ht) hT (fun y2 e2 => ?_) (fun p t hp => ?_) hX⟩
  · rw [ha j j1 j2 (fun t hp => j3 t (List.mem_append.mpr (Or.inr hp))), e j j1 j2 (fun t hp => j3 t (List.mem_append.mpr (Or.inl hp)))]
  · rcases ho with ho | ho
    · rw [ho] at e2; cases e2
    · rw [ho] at e2; injection e2 with e2; rw [← e2]; exact hb _ rfl
  · rcases List.mem_append.mp hp with hp | hp
    · obtain ⟨rfl, h3⟩ := h1 p t hp
      have pb := z3 p t (List.mem_append.mpr (Or.inl hp))
      exact ⟨b, by rw [ha p pb.1 pb.2 (fun t2 => hd p t t2 hp)]; exact h3, Nat.le_refl _, hb _ rfl⟩
    · exact hH p t hp
theorem SG_z (y : SGc u a b q r H z h m L g x o) (hz : z2 ≤ z) : SGc u a b q r H z2 h m L g x o := by
  obtain ⟨z1, z2, z3, T0, z4, z5⟩ := y
  exact ⟨z1, z2, z3, T0, z4, fun v T h1 h2 h3 h4 h5 h6 => z5 v T h1 h2 h3 h4 h5 (AR_z h6 hz)⟩
theorem SG_in (hz : z ≤ h) (hk : 1 ≤ k) (hh : h ≤ 1090) (hm : m ≤ 40) (hH : ∀ p t, (p, t) ∈ H → a ≤ p ∧ p < a + k) (hin : ∀ (v : MS) (T : Nat → Option Tyc), (∀ j, a ≤ j → j < a + k → (∀ t, (j, t) ∉ H) → A v 23 j = A u 23 j) → TBLc u v q q → T a = some (h, m, L, g, x) → (∀ y1, o = some y1 → T (a + k) = some y1) → (∀ p t, (p, t) ∈ H → ∃ d : Nat, A v 23 p = ((d : Nat) : Int) ∧ a + k ≤ d ∧ T d = some t) → ARc T v a (a + k) z m L g x → IN1 T v a h m L g x ∨ IN2 T v a h m L g x ∨ IN3 T v a h m L g x) : SGc u a (a + k) q q H z h m L g x o := by
  refine ⟨⟨by omega, Nat.le_refl _⟩, fun e => absurd e (by omega), hH, fun i => if i = a then some (h, m, L, g, x) else none, fun _ => if_pos rfl, fun v T ha ht hT ho hH2 hX => ⟨fun i h2 m2 L2 g2 x2 i1 i2 e => ?_, fun pl p1 p2 => absurd p2 (by omega)⟩⟩
  rw [hT i i1 i2] at e
  have hTa : T a = some (h, m, L, g, x) := by rw [hT a (Nat.le_refl _) (by omega)]; exact if_pos rfl
  by_cases ia : i = a
  · have e2 : some (h, m, L, g, x) = some (h2, m2, L2, g2, x2) := by
      have : (if i = a then some (h, m, L, g, x) else none) = some (h2, m2, L2, g2, x2) := e
      rw [if_pos ia] at this
      exact this
    injection e2 with e2
    injection e2 with e3 e2
    injection e2 with e4 e2
    injection e2 with e5 e2
    injection e2 with e6 e7
    subst e3 e4 e5 e6 e7
    subst ia
    have hi := hin v T ha ht hTa ho hH2 hX
    obtain ⟨x1, x2, x3, x4⟩ := hX
    refine ⟨⟨x1.1, by omega⟩, ⟨hh, hm, x1.2.2⟩, ?_, fun hg => ?_, ⟨x4.1, fun q => ?_⟩, hi⟩
    · cases L with
      | nil => trivial
      | cons t M =>
        obtain ⟨y5, h2, m2, y6, y7, y8⟩ := x2
        exact ⟨by omega, h2, m2, y6, by omega, y8⟩
    · obtain ⟨g1, hg2, n, t, g2, g3, g4, g5, g6, g7, g8⟩ := x3 hg
      exact ⟨g1, hg2, n, t, g2, by omega, g4, g5, g6, by omega, g8⟩
    · rcases Nat.lt_or_ge x i with z | z
      · exact z
      · exact absurd (x4.2 (by omega)) q
  · have : (if i = a then some (h, m, L, g, x) else none) = some (h2, m2, L2, g2, x2) := e
    rw [if_neg ia] at this
    cases this
end
end
section
set_option maxRecDepth 100000
section
variable {T : Nat → Option Tyc} {u v w : MS} {a b c e q r s h m h1 m1 g x n k i f z : Nat} {L : List Nat} {H H1 H2 : List (Nat × Tyc)} {y y1 : Tyc} {o : Option Tyc}
theorem no_H {p : Nat} {t : Tyc} : (p, t) ∈ ([] : List (Nat × Tyc)) → False := fun h => absurd h (by simp)
theorem SG_term (hz : z ≤ h) (hh : h ≤ 1090) (hm : m ≤ 40) (w0 : A u 23 a = 1) (w1 : A u 23 (a + 1) = 0 ∨ (A u 23 (a + 1) = 1 ∧ 0 ≤ A u 23 (a + 2) ∧ A u 23 (a + 2) < F u 22) ∨ (A u 23 (a + 1) = 6 ∧ A u 23 (a + 2) = 0)) : SGc u a (a + 3) q q [] z h m L g x (some (h + 1, m, L, g, x)) := SG_in hz (by omega) hh hm (fun p t hp => (no_H hp).elim) (fun v T hA hT hTa ho hH hX => by
  have e0 : A v 23 a = A u 23 a := hA a (Nat.le_refl _) (by omega) (fun t hp => by simp at hp)
  have e1 : A v 23 (a + 1) = A u 23 (a + 1) := hA (a + 1) (by omega) (by omega) (fun t hp => by simp at hp)
  have e2 : A v 23 (a + 2) = A u 23 (a + 2) := hA (a + 2) (by omega) (by omega) (fun t hp => by simp at hp)
  exact Or.inl (Or.inl (⟨by rw [e0]; exact w0, by rw [e1, e2]; have := hT.2.2.1; omega, ho _ rfl⟩)))
theorem SG_str (hz : z ≤ h) (hh : h ≤ 1090) (hm : m ≤ 40) (w0 : A u 23 a = 2) (w1 : A u 23 (a + 1) = ((n : Nat) : Int)) (hn : n ≤ 40) : SGc u a (a + (2 + n)) q q [] z h m L g x (some (h + 1, m, L, g, x)) := SG_in hz (by omega) hh hm (fun p t hp => (no_H hp).elim) (fun v T hA hT hTa ho hH hX => by
  have e0 : A v 23 a = A u 23 a := hA a (Nat.le_refl _) (by omega) (fun t hp => by simp at hp)
  have e1 : A v 23 (a + 1) = A u 23 (a + 1) := hA (a + 1) (by omega) (by omega) (fun t hp => by simp at hp)
  exact Or.inl (Or.inr (Or.inl (⟨by rw [e0]; exact w0, n, by rw [e1]; exact w1, hn, by rw [Nat.add_assoc]; exact ho _ rfl⟩))))
theorem SG_name (hz : z ≤ h) (hh : h ≤ 1090) (hm : m ≤ 40) (w0 : A u 23 a = 3) : SGc u a (a + 2) q q [] z h m L g x (some (h + 1, m, L, g, x)) := SG_in hz (by omega) hh hm (fun p t hp => (no_H hp).elim) (fun v T hA hT hTa ho hH hX => by
  have e0 : A v 23 a = A u 23 a := hA a (Nat.le_refl _) (by omega) (fun t hp => by simp at hp)
  exact Or.inl (Or.inr (Or.inr (Or.inl (⟨by rw [e0]; exact w0, ho _ rfl⟩)))))
theorem SG_tup (hz : z ≤ h) (hh : h ≤ 1090) (hm : m ≤ 40) (w0 : A u 23 a = 4) (w1 : A u 23 (a + 1) = ((n : Nat) : Int)) (hn : n ≤ h) : SGc u a (a + 2) q q [] z h m L g x (some (h - n + 1, m, L, g, x)) := SG_in hz (by omega) hh hm (fun p t hp => (no_H hp).elim) (fun v T hA hT hTa ho hH hX => by
  have e0 : A v 23 a = A u 23 a := hA a (Nat.le_refl _) (by omega) (fun t hp => by simp at hp)
  have e1 : A v 23 (a + 1) = A u 23 (a + 1) := hA (a + 1) (by omega) (by omega) (fun t hp => by simp at hp)
  exact Or.inl (Or.inr (Or.inr (Or.inr (Or.inl (⟨by rw [e0]; exact w0, n, by rw [e1]; exact w1, hn, ho _ rfl⟩))))))
theorem SG_lst (hz : z ≤ h) (hh : h ≤ 1090) (hm : m ≤ 40) (w0 : A u 23 a = 5) (w1 : A u 23 (a + 1) = ((n : Nat) : Int)) (hn : 1 ≤ n ∧ n + 1 ≤ h) : SGc u a (a + 2) q q [] z h m L g x (some (h - n, m, L, g, x)) := SG_in hz (by omega) hh hm (fun p t hp => (no_H hp).elim) (fun v T hA hT hTa ho hH hX => by
  have e0 : A v 23 a = A u 23 a := hA a (Nat.le_refl _) (by omega) (fun t hp => by simp at hp)
  have e1 : A v 23 (a + 1) = A u 23 (a + 1) := hA (a + 1) (by omega) (by omega) (fun t hp => by simp at hp)
  exact Or.inl (Or.inr (Or.inr (Or.inr (Or.inr (Or.inl (⟨by rw [e0]; exact w0, n, by rw [e1]; exact w1, hn.1, hn.2, ho _ rfl⟩)))))))
theorem SG_fof (hz : z ≤ h) (hh : h ≤ 1090) (hm : m ≤ 40) (w0 : A u 23 a = 7) (w1 : A u 23 (a + 1) = ((f : Nat) : Int)) (hf : ((f : Nat) : Int) < F u 442) : SGc u a (a + 2) q q [] z h m L g x (some (h + 1, m, L, g, x)) := SG_in hz (by omega) hh hm (fun p t hp => (no_H hp).elim) (fun v T hA hT hTa ho hH hX => by
  have e0 : A v 23 a = A u 23 a := hA a (Nat.le_refl _) (by omega) (fun t hp => by simp at hp)
  have e1 : A v 23 (a + 1) = A u 23 (a + 1) := hA (a + 1) (by omega) (by omega) (fun t hp => by simp at hp)
  exact Or.inl (Or.inr (Or.inr (Or.inr (Or.inr (Or.inr (Or.inr (Or.inl (⟨by rw [e0]; exact w0, f, by rw [e1]; exact w1, by rw [hT.1]; exact hf, ho _ rfl⟩)))))))))
theorem SG_bin (hz : z ≤ h) (hh : h ≤ 1090) (hm : m ≤ 40) (w0 : A u 23 a = 8 ∨ A u 23 a = 9 ∨ A u 23 a = 10) (h2 : 2 ≤ h) : SGc u a (a + 2) q q [] z h m L g x (some (h - 1, m, L, g, x)) := SG_in hz (by omega) hh hm (fun p t hp => (no_H hp).elim) (fun v T hA hT hTa ho hH hX => by
  have e0 : A v 23 a = A u 23 a := hA a (Nat.le_refl _) (by omega) (fun t hp => by simp at hp)
  exact Or.inl (Or.inr (Or.inr (Or.inr (Or.inr (Or.inr (Or.inr (Or.inr (Or.inl (⟨by rw [e0]; exact w0, h2, ho _ rfl⟩))))))))))
theorem SG_neg (hz : z ≤ h) (hh : h ≤ 1090) (hm : m ≤ 40) (w0 : A u 23 a = 11 ∨ A u 23 a = 12) (h2 : 1 ≤ h) : SGc u a (a + 1) q q [] z h m L g x (some (h, m, L, g, x)) := SG_in hz (by omega) hh hm (fun p t hp => (no_H hp).elim) (fun v T hA hT hTa ho hH hX => by
  have e0 : A v 23 a = A u 23 a := hA a (Nat.le_refl _) (by omega) (fun t hp => by simp at hp)
  exact Or.inl (Or.inr (Or.inr (Or.inr (Or.inr (Or.inr (Or.inr (Or.inr (Or.inr (Or.inl (⟨by rw [e0]; exact w0, h2, ho _ rfl⟩)))))))))))
theorem SG_and (hz : z ≤ h) (hh : h ≤ 1090) (hm : m ≤ 40) (w0 : A u 23 a = 13 ∨ A u 23 a = 14) (h2 : 1 ≤ h) : SGc u a (a + 2) q q [(a + 1, (h, m, L, g, x))] z h m L g x (some (h - 1, m, L, g, x)) := SG_in hz (by omega) hh hm (fun p t hp => by simp at hp; omega) (fun v T hA hT hTa ho hH hX => by
  have e0 : A v 23 a = A u 23 a := hA a (Nat.le_refl _) (by omega) (fun t hp => by simp at hp)
  obtain ⟨d, d1, d2, d3⟩ := hH (a + 1) (h, m, L, g, x) (by simp)
  exact Or.inl (Or.inr (Or.inr (Or.inr (Or.inr (Or.inr (Or.inr (Or.inr (Or.inr (Or.inr (Or.inl (⟨by rw [e0]; exact w0, h2, ho _ rfl, d, d1, by omega, d3⟩))))))))))))
theorem SG_drop (hz : z ≤ h) (hh : h ≤ 1090) (hm : m ≤ 40) (w0 : A u 23 a = 15) (h2 : 1 ≤ h) : SGc u a (a + 1) q q [] z h m L g x (some (h - 1, m, L, g, x)) := SG_in hz (by omega) hh hm (fun p t hp => (no_H hp).elim) (fun v T hA hT hTa ho hH hX => by
  have e0 : A v 23 a = A u 23 a := hA a (Nat.le_refl _) (by omega) (fun t hp => by simp at hp)
  exact Or.inl (Or.inr (Or.inr (Or.inr (Or.inr (Or.inr (Or.inr (Or.inr (Or.inr (Or.inr (Or.inr (Or.inl (⟨by rw [e0]; exact w0, h2, ho _ rfl⟩)))))))))))))
theorem SG_fgt (hz : z ≤ h) (hh : h ≤ 1090) (hm : m ≤ 40) (w0 : A u 23 a = 16) (hg : g = 0) (w1 : A u 23 (a + 1) = ((n : Nat) : Int)) (hn : n ≤ m) : SGc u a (a + 2) q q [] z h m L g x (some (h, m - n, L, g, x)) := SG_in hz (by omega) hh hm (fun p t hp => (no_H hp).elim) (fun v T hA hT hTa ho hH hX => by
  have e0 : A v 23 a = A u 23 a := hA a (Nat.le_refl _) (by omega) (fun t hp => by simp at hp)
  have e1 : A v 23 (a + 1) = A u 23 (a + 1) := hA (a + 1) (by omega) (by omega) (fun t hp => by simp at hp)
  exact Or.inl (Or.inr (Or.inr (Or.inr (Or.inr (Or.inr (Or.inr (Or.inr (Or.inr (Or.inr (Or.inr (Or.inr (Or.inl (⟨by rw [e0]; exact w0, hg, n, by rw [e1]; exact w1, hn, ho _ rfl⟩))))))))))))))
theorem SG_send (hz : z ≤ h) (hh : h ≤ 1090) (hm : m ≤ 40) (w0 : A u 23 a = 17) (h2 : 2 ≤ h) : SGc u a (a + 1) q q [] z h m L g x (some (h - 1, m, L, g, x)) := SG_in hz (by omega) hh hm (fun p t hp => (no_H hp).elim) (fun v T hA hT hTa ho hH hX => by
  have e0 : A v 23 a = A u 23 a := hA a (Nat.le_refl _) (by omega) (fun t hp => by simp at hp)
  exact Or.inl (Or.inr (Or.inr (Or.inr (Or.inr (Or.inr (Or.inr (Or.inr (Or.inr (Or.inr (Or.inr (Or.inr (Or.inr (⟨by rw [e0]; exact w0, h2, ho _ rfl⟩))))))))))))))
theorem SG_jump (hz : z ≤ h) (hh : h ≤ 1090) (hm : m ≤ 40) (w0 : A u 23 a = 18) : SGc u a (a + 2) q q [(a + 1, (h, m, L, g, x))] z h m L g x none := SG_in hz (by omega) hh hm (fun p t hp => by simp at hp; omega) (fun v T hA hT hTa ho hH hX => by
  have e0 : A v 23 a = A u 23 a := hA a (Nat.le_refl _) (by omega) (fun t hp => by simp at hp)
  obtain ⟨d, d1, d2, d3⟩ := hH (a + 1) (h, m, L, g, x) (by simp)
  exact Or.inr (Or.inl (Or.inl (⟨by rw [e0]; exact w0, d, d1, by omega, d3⟩))))
theorem SG_hold (hz : z ≤ h) (hh : h ≤ 1090) (hm : m ≤ 40) (w0 : A u 23 a = 22) (hg : g ≠ 0) (h2 : 1 ≤ h) : SGc u a (a + 1) q q [] z h m L g x (some (h - 1, m, L, g, x)) := SG_in hz (by omega) hh hm (fun p t hp => (no_H hp).elim) (fun v T hA hT hTa ho hH hX => by
  have e0 : A v 23 a = A u 23 a := hA a (Nat.le_refl _) (by omega) (fun t hp => by simp at hp)
  exact Or.inr (Or.inl (Or.inr (Or.inr (Or.inr (Or.inr (Or.inl (⟨by rw [e0]; exact w0, hg, h2, ho _ rfl⟩))))))))
theorem SG_gded (hz : z ≤ h) (hh : h ≤ 1090) (hm : m ≤ 40) (w0 : A u 23 a = 23) : SGc u a (a + 1) q q [] z h m L g x (some (h, m, L, 0, x)) := SG_in hz (by omega) hh hm (fun p t hp => (no_H hp).elim) (fun v T hA hT hTa ho hH hX => by
  have e0 : A v 23 a = A u 23 a := hA a (Nat.le_refl _) (by omega) (fun t hp => by simp at hp)
  exact Or.inr (Or.inl (Or.inr (Or.inr (Or.inr (Or.inr (Or.inr (Or.inl (⟨by rw [e0]; exact w0, ho _ rfl⟩)))))))))
theorem SG_chos (hz : z ≤ h) (hh : h ≤ 1090) (hm : m ≤ 40) (w0 : A u 23 a = 24) (w1 : A u 23 (a + 1) = ((n : Nat) : Int)) (hn : n ≤ h) : SGc u a (a + 3) q q [] z h m L g x (some (h - n, m, L, g, x)) := SG_in hz (by omega) hh hm (fun p t hp => (no_H hp).elim) (fun v T hA hT hTa ho hH hX => by
  have e0 : A v 23 a = A u 23 a := hA a (Nat.le_refl _) (by omega) (fun t hp => by simp at hp)
  have e1 : A v 23 (a + 1) = A u 23 (a + 1) := hA (a + 1) (by omega) (by omega) (fun t hp => by simp at hp)
  exact Or.inr (Or.inl (Or.inr (Or.inr (Or.inr (Or.inr (Or.inr (Or.inr (Or.inl (⟨by rw [e0]; exact w0, n, by rw [e1]; exact w1, hn, ho _ rfl⟩))))))))))
theorem SG_ret (hz : z ≤ h) (hh : h ≤ 1090) (hm : m ≤ 40) (w0 : A u 23 a = 35) (hg : g = 0 ∧ x = 0 ∧ 1 ≤ h ∧ L = []) : SGc u a (a + 1) q q [] z h m L g x none := SG_in hz (by omega) hh hm (fun p t hp => (no_H hp).elim) (fun v T hA hT hTa ho hH hX => by
  have e0 : A v 23 a = A u 23 a := hA a (Nat.le_refl _) (by omega) (fun t hp => by simp at hp)
  exact Or.inr (Or.inr (Or.inr (Or.inr (Or.inr (Or.inr (Or.inl (⟨by rw [e0]; exact w0, hg.1, hg.2.1, hg.2.2.1, hg.2.2.2⟩))))))))
theorem SG_nocl (hz : z ≤ h) (hh : h ≤ 1090) (hm : m ≤ 40) (w0 : A u 23 a = 36 ∨ A u 23 a = 38) : SGc u a (a + 1) q q [] z h m L g x none := SG_in hz (by omega) hh hm (fun p t hp => (no_H hp).elim) (fun v T hA hT hTa ho hH hX => by
  have e0 : A v 23 a = A u 23 a := hA a (Nat.le_refl _) (by omega) (fun t hp => by simp at hp)
  exact Or.inr (Or.inr (Or.inr (Or.inr (Or.inr (Or.inr (Or.inr (Or.inl (by rw [e0]; exact w0)))))))))
theorem SG_noca (hz : z ≤ h) (hh : h ≤ 1090) (hm : m ≤ 40) (w0 : A u 23 a = 37) (h2 : 1 ≤ h) : SGc u a (a + 1) q q [] z h m L g x none := SG_in hz (by omega) hh hm (fun p t hp => (no_H hp).elim) (fun v T hA hT hTa ho hH hX => by
  have e0 : A v 23 a = A u 23 a := hA a (Nat.le_refl _) (by omega) (fun t hp => by simp at hp)
  exact Or.inr (Or.inr (Or.inr (Or.inr (Or.inr (Or.inr (Or.inr (Or.inr (Or.inl (⟨by rw [e0]; exact w0, h2⟩))))))))))
theorem SG_pre {y : Int} (hz : z ≤ h) (hh : h ≤ 1090) (hm : m ≤ 40) (w0 : A u 23 a = 39) (w1 : A u 23 (a + 1) = y) (h2 : tkc y ≤ h) : SGc u a (a + 2) q q [] z h m L g x (some (h - tkc y + 1, m, L, g, x)) := SG_in hz (by omega) hh hm (fun p t hp => (no_H hp).elim) (fun v T hA hT hTa ho hH hX => by
  have e0 : A v 23 a = A u 23 a := hA a (Nat.le_refl _) (by omega) (fun t hp => by simp at hp)
  have e1 : A v 23 (a + 1) = A u 23 (a + 1) := hA (a + 1) (by omega) (by omega) (fun t hp => by simp at hp)
  exact Or.inr (Or.inr (Or.inr (Or.inr (Or.inr (Or.inr (Or.inr (Or.inr (Or.inr (Or.inl (⟨by rw [e0]; exact w0, by rw [e1, w1]; exact h2, by rw [e1, w1]; exact ho _ rfl⟩)))))))))))
theorem SG_tow {y : Int} (hz : z ≤ h) (hh : h ≤ 1090) (hm : m ≤ 40) (w0 : A u 23 a = 40) (w1 : A u 23 (a + 1) = y) (h2 : (if y = 29 then 2 else 1) ≤ h) : SGc u a (a + 2) q q [] z h m L g x (some (h - (if y = 29 then 2 else 1) + 1, m, L, g, x)) := SG_in hz (by omega) hh hm (fun p t hp => (no_H hp).elim) (fun v T hA hT hTa ho hH hX => by
  have e0 : A v 23 a = A u 23 a := hA a (Nat.le_refl _) (by omega) (fun t hp => by simp at hp)
  have e1 : A v 23 (a + 1) = A u 23 (a + 1) := hA (a + 1) (by omega) (by omega) (fun t hp => by simp at hp)
  exact Or.inr (Or.inr (Or.inr (Or.inr (Or.inr (Or.inr (Or.inr (Or.inr (Or.inr (Or.inr (⟨by rw [e0]; exact w0, by rw [e1, w1]; exact h2, by rw [e1, w1]; exact ho _ rfl⟩)))))))))))
theorem SG_take (hz : z ≤ h) (hh : h ≤ 1090) (hm : m ≤ 40) (w0 : A u 23 a = 33) (hg : g = 0 ∧ x ≠ 0) : SGc u a (a + 1) q q [] z h m L g x (some (h, m, L, 0, 0)) := SG_in hz (by omega) hh hm (fun p t hp => (no_H hp).elim) (fun v T hA hT hTa ho hH hX => by
  have e0 : A v 23 a = A u 23 a := hA a (Nat.le_refl _) (by omega) (fun t hp => by simp at hp)
  exact Or.inr (Or.inr (Or.inr (Or.inr (Or.inl (⟨by rw [e0]; exact w0, hg.1, hg.2, ho _ rfl⟩))))))
theorem SG_fit {b2 : Nat} (hz : z ≤ h) (hh : h ≤ 1090) (hm : m + b2 ≤ 40) (w0 : A u 23 a = 19) (hg : g = 0) (w1 : (∃ n : Nat, A u 23 (a + 1) = ((n : Nat) : Int) ∧ n ≤ h) ∨ (A u 23 (a + 1) = -1 ∧ 1 ≤ h) ∨ (A u 23 (a + 1) = -2 ∧ x ≠ 0)) (hp : PTSc u (a + 3) e b2) (he : A u 23 e = 8) (e24 : e < 24000) : SGc u a (e + 1) q q [(a + 2, (h, m, L, 0, x))] z h m L g x (some (h, m + b2, L, 0, x)) := by
  have ae := hp.1
  rw [show e + 1 = a + (e + 1 - a) by omega]
  refine SG_in hz (by omega) hh (by omega) (fun p t hp => by simp at hp; omega) (fun v T hA hT hTa ho hH hX => ?_)
  have eq : ∀ j, a ≤ j → j < e + 1 → j ≠ a + 2 → A v 23 j = A u 23 j := fun j j1 j2 j3 => hA j j1 (by omega) (fun t hp => by simp at hp; exact j3 hp.1)
  obtain ⟨d, d1, d2, d3⟩ := hH (a + 2) (h, m, L, 0, x) (by simp)
  have e1 := eq (a + 1) (by omega) (by omega) (by omega)
  have pt := hp.2 v (fun k k1 k2 => eq k (by omega) (by omega) (by omega)) 1 e 0 (Or.inl ⟨(eq e (by omega) (by omega) (by omega)).trans he, rfl, rfl⟩)
  have te := ho _ rfl
  rw [show a + (e + 1 - a) = e + 1 by omega] at te
  exact Or.inr (Or.inl (Or.inr (Or.inl ⟨(eq a (by omega) (by omega) (by omega)).trans w0, hg, by rw [e1]; exact w1, ⟨d, d1, by omega, d3⟩, _, b2, e, pt, by omega, hm, by omega, te⟩)))
theorem SG_mat {b2 : Nat} (hz : z ≤ h) (hh : h ≤ 1090) (hm : m + b2 ≤ 40) (w0 : A u 23 a = 20) (hg : g = 0) (h1 : 1 ≤ h) (hp : PTSc u (a + 1) e b2) (he : A u 23 e = 8) (e24 : e < 24000) : SGc u a (e + 1) q q [] z h m L g x (some (h, m + b2, L, 0, x)) := by
  have ae := hp.1
  rw [show e + 1 = a + (e + 1 - a) by omega]
  refine SG_in hz (by omega) hh (by omega) (fun p t hp => (no_H hp).elim) (fun v T hA hT hTa ho hH hX => ?_)
  have eq : ∀ j, a ≤ j → j < e + 1 → A v 23 j = A u 23 j := fun j j1 j2 => hA j j1 (by omega) (fun t hp => by simp at hp)
  have pt := hp.2 v (fun k k1 k2 => eq k (by omega) (by omega)) 1 e 0 (Or.inl ⟨(eq e (by omega) (by omega)).trans he, rfl, rfl⟩)
  have te := ho _ rfl
  rw [show a + (e + 1 - a) = e + 1 by omega] at te
  exact Or.inr (Or.inl (Or.inr (Or.inr (Or.inl ⟨(eq a (by omega) (by omega)).trans w0, hg, h1, _, b2, e, pt, by omega, hm, by omega, te⟩))))
theorem FL_ar {b h0 k : Nat} (z : ARc T v a b h0 m L g x) (hk : h0 ≤ k) : FLc T L k := by
  have z2 := z.2.1
  cases L with
  | nil => trivial
  | cons t M =>
    obtain ⟨-, h2, m2, z3, z4, -⟩ := z2
    exact ⟨h2, m2, z3, by omega⟩
theorem SG_call (hz : z + n ≤ h) (hh : h ≤ 1090) (hm : m ≤ 40) (w0 : A u 23 a = 25 ∨ (A u 23 a = 26 ∧ L = [])) (hg : g = 0 ∧ x = 0) (w1 : A u 23 (a + 1) = ((f : Nat) : Int)) (hf : ((f : Nat) : Int) < F u 442) (w2 : A u 23 (a + 2) = ((n : Nat) : Int)) (hn : A u 25 f = ((n : Nat) : Int)) : SGc u a (a + 4) q q [] z h m L g x (some (h - n + 1, m, L, 0, 0)) := SG_in (by omega) (by omega) hh hm (fun p t hp => (no_H hp).elim) (fun v T hA hT hTa ho hH hX => by
  have e0 : A v 23 a = A u 23 a := hA a (Nat.le_refl _) (by omega) (fun t hp => by simp at hp)
  have e1 : A v 23 (a + 1) = A u 23 (a + 1) := hA (a + 1) (by omega) (by omega) (fun t hp => by simp at hp)
  have e2 : A v 23 (a + 2) = A u 23 (a + 2) := hA (a + 2) (by omega) (by omega) (fun t hp => by simp at hp)
  exact Or.inr (Or.inl (Or.inr (Or.inr (Or.inr (Or.inr (Or.inr (Or.inr (Or.inr (Or.inl ⟨by rw [e0]; exact w0, hg.1, hg.2, f, n, by rw [e1]; exact w1, by rw [hT.1]; exact hf, by rw [e2]; exact w2, by rw [hT.2.2.2.1]; exact hn, by omega, FL_ar hX (by omega), ho _ rfl⟩))))))))))
theorem SG_app (hz : z + n + 1 ≤ h) (hh : h ≤ 1090) (hm : m ≤ 40) (w0 : A u 23 a = 27 ∨ (A u 23 a = 28 ∧ L = [])) (hg : g = 0 ∧ x = 0) (w1 : A u 23 (a + 1) = ((n : Nat) : Int)) : SGc u a (a + 3) q q [] z h m L g x (some (h - n, m, L, 0, 0)) := SG_in (by omega) (by omega) hh hm (fun p t hp => (no_H hp).elim) (fun v T hA hT hTa ho hH hX => by
  have e0 : A v 23 a = A u 23 a := hA a (Nat.le_refl _) (by omega) (fun t hp => by simp at hp)
  have e1 : A v 23 (a + 1) = A u 23 (a + 1) := hA (a + 1) (by omega) (by omega) (fun t hp => by simp at hp)
  exact Or.inr (Or.inl (Or.inr (Or.inr (Or.inr (Or.inr (Or.inr (Or.inr (Or.inr (Or.inr (Or.inl ⟨by rw [e0]; exact w0, hg.1, hg.2, n, by rw [e1]; exact w1, by omega, FL_ar hX (by omega), ho _ rfl⟩)))))))))))
end
end
section
set_option maxRecDepth 100000
def SGp (P : (Nat → Option Tyc) → MS → Prop) (u : MS) (a b q r : Nat) (H : List (Nat × Tyc)) (y : Tyc) (o : Option Tyc) : Prop := (a ≤ b ∧ q ≤ r) ∧ (a = b → o = some y) ∧ (∀ p t, (p, t) ∈ H → a ≤ p ∧ p < b) ∧ ∃ T0 : Nat → Option Tyc, (a < b → T0 a = some y) ∧ ∀ (v : MS) (T : Nat → Option Tyc), (∀ j, a ≤ j → j < b → (∀ t, (j, t) ∉ H) → A v 23 j = A u 23 j) → TBLc u v q r → (∀ i, a ≤ i → i < b → T i = T0 i) → (∀ y1, o = some y1 → T b = some y1) → (∀ p t, (p, t) ∈ H → ∃ d : Nat, A v 23 p = ((d : Nat) : Int) ∧ b ≤ d ∧ T d = some t) → P T v → (∀ i h m L g x, a ≤ i → i < b → T i = some (h, m, L, g, x) → WFi T v i h m L g x) ∧ PLSc T v q r
section
variable {T : Nat → Option Tyc} {u v w : MS} {a b c e q r s z h m h1 m1 g x n k i f : Nat} {L : List Nat} {H H1 H2 : List (Nat × Tyc)} {y y1 : Tyc} {o : Option Tyc} {P P1 P2 : (Nat → Option Tyc) → MS → Prop}
theorem SP_of (y : SGc u a b q r H z h m L g x o) : SGp (fun T v => ARc T v a b z m L g x) u a b q r H (h, m, L, g, x) o := y
theorem SP_to (y : SGp (fun T v => ARc T v a b z m L g x) u a b q r H (h, m, L, g, x) o) : SGc u a b q r H z h m L g x o := y
theorem SP_seq (y0 : SGp P1 u a b q s H1 y (some y1)) (y2 : SGp P2 u b c s r H2 y1 o) (f1 : ∀ v T, (∀ j, a ≤ j → j < c → (∀ t, (j, t) ∉ H1 ++ H2) → A v 23 j = A u 23 j) → T a = some y → T b = some y1 → (∀ y3, o = some y3 → T c = some y3) → (∀ p t, (p, t) ∈ H1 ++ H2 → ∃ d : Nat, A v 23 p = ((d : Nat) : Int) ∧ c ≤ d ∧ T d = some t) → P T v → P1 T v ∧ P2 T v) : SGp P u a c q r (H1 ++ H2) y o := by
  obtain ⟨⟨z1, z1'⟩, z2, z3, T1, z4, z5⟩ := y0
  obtain ⟨⟨w1, w1'⟩, y2, y3, T2, y4, y5⟩ := y2
  have ab : a = b → _ := fun e => z2 e
  refine ⟨⟨by omega, by omega⟩, fun e => ?_, fun p t hp => ?_, fun i => if i < b then T1 i else T2 i, fun hac => ?_, fun v T ha ht hT ho hH hX => ?_⟩
  · have e1 := ab (by omega)
    rw [y2 (by omega)]
    exact e1
  · rcases List.mem_append.mp hp with hp | hp
    · have := z3 p t hp; omega
    · have := y3 p t hp; omega
  · show (if a < b then T1 a else T2 a) = _
    by_cases e : a < b
    · rw [if_pos e]; exact z4 e
    · have e2 : a = b := by omega
      have e3 := ab e2
      rw [if_neg e, e2, y4 (by omega)]
      exact e3
  · have hT1 : ∀ i, a ≤ i → i < b → T i = T1 i := fun i i1 i2 => by
      rw [hT i i1 (by omega)]
      show (if i < b then T1 i else T2 i) = _
      rw [if_pos i2]
    have hT2 : ∀ i, b ≤ i → i < c → T i = T2 i := fun i i1 i2 => by
      rw [hT i (by omega) i2]
      show (if i < b then T1 i else T2 i) = _
      rw [if_neg (by omega)]
    have hb : T b = some y1 := by
      by_cases e : b < c
      · rw [hT2 b (Nat.le_refl _) e]; exact y4 e
      · have e2 : b = c := by omega
        rw [e2]; exact ho _ (y2 e2)
    have hTa : T a = some y := by
      by_cases e : a < b
      · rw [hT1 a (Nat.le_refl _) e]; exact z4 e
      · have e2 : a = b := by omega
        rw [e2, hb]; exact ab e2
    obtain ⟨hX1, hX2⟩ := f1 v T ha hTa hb ho hH hX
    obtain ⟨r1, r2⟩ := z5 v T (fun j j1 j2 j3 => ha j j1 (by omega) (fun t hp => by
      rcases List.mem_append.mp hp with hp | hp
      · exact j3 t hp
      · have := y3 j t hp; omega)) (ht.mo (Nat.le_refl _) w1') hT1 (fun y9 e => by injection e with e; rw [← e]; exact hb) (fun p t hp => by
        obtain ⟨d, d1, d2, d3⟩ := hH p t (List.mem_append.mpr (Or.inl hp))
        exact ⟨d, d1, by omega, d3⟩) hX1
    obtain ⟨r3, r4⟩ := y5 v T (fun j j1 j2 j3 => ha j (by omega) j2 (fun t hp => by
      rcases List.mem_append.mp hp with hp | hp
      · have := z3 j t hp; omega
      · exact j3 t hp)) (ht.mo z1' (Nat.le_refl _)) hT2 ho (fun p t hp => hH p t (List.mem_append.mpr (Or.inr hp))) hX2
    refine ⟨fun i h m L g x i1 i2 e => ?_, fun pl p1 p2 => ?_⟩
    · rcases Nat.lt_or_ge i b with i3 | i3
      · exact r1 i h m L g x i1 i3 e
      · exact r3 i h m L g x i3 i2 e
    · rcases Nat.lt_or_ge pl s with p3 | p3
      · exact r2 pl p1 p3
      · exact r4 pl p3 p2
theorem SP_in (hP : ∀ T v, P T v → ARc T v a (a + k) z m L g x) (hz : z ≤ h) (hk : 1 ≤ k) (hh : h ≤ 1090) (hm : m ≤ 40) (hH : ∀ p t, (p, t) ∈ H → a ≤ p ∧ p < a + k) (hin : ∀ (v : MS) (T : Nat → Option Tyc), (∀ j, a ≤ j → j < a + k → (∀ t, (j, t) ∉ H) → A v 23 j = A u 23 j) → TBLc u v q q → T a = some (h, m, L, g, x) → (∀ y1, o = some y1 → T (a + k) = some y1) → (∀ p t, (p, t) ∈ H → ∃ d : Nat, A v 23 p = ((d : Nat) : Int) ∧ a + k ≤ d ∧ T d = some t) → P T v → IN1 T v a h m L g x ∨ IN2 T v a h m L g x ∨ IN3 T v a h m L g x) : SGp P u a (a + k) q q H (h, m, L, g, x) o := by
  refine ⟨⟨by omega, Nat.le_refl _⟩, fun e => absurd e (by omega), hH, fun i => if i = a then some (h, m, L, g, x) else none, fun _ => if_pos rfl, fun v T ha ht hT ho hH2 hX => ⟨fun i h2 m2 L2 g2 x2 i1 i2 e => ?_, fun pl p1 p2 => absurd p2 (by omega)⟩⟩
  rw [hT i i1 i2] at e
  have hTa : T a = some (h, m, L, g, x) := by rw [hT a (Nat.le_refl _) (by omega)]; exact if_pos rfl
  by_cases ia : i = a
  · have e2 : some (h, m, L, g, x) = some (h2, m2, L2, g2, x2) := by
      have : (if i = a then some (h, m, L, g, x) else none) = some (h2, m2, L2, g2, x2) := e
      rw [if_pos ia] at this
      exact this
    injection e2 with e2
    injection e2 with e3 e2
    injection e2 with e4 e2
    injection e2 with e5 e2
    injection e2 with e6 e7
    subst e3 e4 e5 e6 e7
    subst ia
    have hi := hin v T ha ht hTa ho hH2 hX
    obtain ⟨x1, x2, x3, x4⟩ := hP T v hX
    refine ⟨⟨x1.1, by omega⟩, ⟨hh, hm, x1.2.2⟩, ?_, fun hg => ?_, ⟨x4.1, fun q => ?_⟩, hi⟩
    · cases L with
      | nil => trivial
      | cons t M =>
        obtain ⟨y5, h2, m2, y6, y7, y8⟩ := x2
        exact ⟨by omega, h2, m2, y6, by omega, y8⟩
    · obtain ⟨g1, hg2, n, t, g2, g3, g4, g5, g6, g7, g8⟩ := x3 hg
      exact ⟨g1, hg2, n, t, g2, by omega, g4, g5, g6, by omega, g8⟩
    · rcases Nat.lt_or_ge x i with z | z
      · exact z
      · exact absurd (x4.2 (by omega)) q
  · have : (if i = a then some (h, m, L, g, x) else none) = some (h2, m2, L2, g2, x2) := e
    rw [if_neg ia] at this
    cases this
theorem SG_grd (hz : z ≤ h) (hh : h ≤ 1090) (hm : m ≤ 40) (w0 : A u 23 a = 21) (w1 : A u 23 (a + 1) = ((n : Nat) : Int)) (hn : n ≤ m) (ha : 1 ≤ a) (yb : SGc u (a + 3) b q r [] h h m L a x (some (h, m, L, a, x))) (w2 : A u 23 b = 23) : SGc u a (b + 1) q r [(a + 2, (h, m - n, L, 0, x))] z h m L 0 x (some (h, m, L, 0, x)) := by
  have i0 : SGc u a (a + 3) q q [(a + 2, (h, m - n, L, 0, x))] z h m L 0 x (some (h, m, L, a, x)) := SG_in hz (by omega) hh hm (fun p t hp => by simp at hp; omega) (fun v T hA hT hTa ho hH hX => by
    have e0 : A v 23 a = A u 23 a := hA a (Nat.le_refl _) (by omega) (fun t hp => by simp at hp)
    have e1 : A v 23 (a + 1) = A u 23 (a + 1) := hA (a + 1) (by omega) (by omega) (fun t hp => by simp at hp)
    exact Or.inr (Or.inl (Or.inr (Or.inr (Or.inr (Or.inl ⟨by rw [e0]; exact w0, rfl, n, by rw [e1]; exact w1, hn, ho _ rfl⟩))))))
  have i1 : SGc u b (b + 1) r r [] h h m L a x (some (h, m, L, 0, x)) := SG_gded (Nat.le_refl _) hh hm w2
  have i2 := SG_seq yb i1 (Nat.le_refl _) (fun _ => rfl)
  rw [List.append_nil] at i2
  have i3 := SP_seq (P := fun T v => ARc T v a (b + 1) z m L 0 x) (SP_of i0) (SP_of i2) (fun v T hA hTa hTb hTc hH hX => ?_)
  · rw [List.append_nil] at i3
    exact i3
  · have ab := yb.1.1
    refine ⟨AR_l hX (by omega), ?_⟩
    obtain ⟨d, d1, d2, d3⟩ := hH (a + 2) (h, m - n, L, 0, x) (by simp)
    have e1 : A v 23 (a + 1) = A u 23 (a + 1) := hA (a + 1) (by omega) (by omega) (fun t hp => by simp at hp)
    obtain ⟨x1, x2, x3, x4⟩ := AR_z hX hz
    refine ⟨⟨by omega, x1.2⟩, x2, fun _ => ⟨by omega, h, n, d, hTa, Nat.le_refl _, by rw [e1]; exact w1, hn, d1, d2, d3⟩, by omega, fun q => absurd q (by omega)⟩
theorem SG_cat (hz : z ≤ h) (hh : h ≤ 1090) (hm : m ≤ 40) (hL : L.length ≤ 24) (w0 : A u 23 a = 29) (w1 : A u 23 (a + 1) = ((c : Nat) : Int)) (yb : SGc u (a + 2) b q r [] h h m (c :: L) 0 0 (some (h + 1, m + k, c :: L, 0, 0))) (hk : m + k ≤ 40) (hh2 : h + 1 ≤ 1090) (w2 : A u 23 b = 30) (yf : SGc u (b + 1) c r r [] z (h + 1) (m + k) L 0 0 (some (h + 1, m, L, 0, 0))) : SGc u a c q r [] z h m L 0 0 (some (h + 1, m, L, 0, 0)) := by
  have ab := yb.1.1
  have bc := yf.1.1
  have i0 : SGp (fun T v => ARc T v a c z m L 0 0 ∧ T c = some (h + 1, m, L, 0, 0)) u a (a + 2) q q [] (h, m, L, 0, 0) (some (h, m, c :: L, 0, 0)) := by
    refine SP_in (z := z) (fun T v hX => AR_l hX.1 (by omega)) hz (by omega) hh hm (fun p t hp => (no_H hp).elim) (fun v T hA hT hTa ho hH hX => ?_)
    have e0 : A v 23 a = A u 23 a := hA a (Nat.le_refl _) (by omega) (fun t hp => by simp at hp)
    have e1 : A v 23 (a + 1) = A u 23 (a + 1) := hA (a + 1) (by omega) (by omega) (fun t hp => by simp at hp)
    exact Or.inr (Or.inl (Or.inr (Or.inr (Or.inr (Or.inr (Or.inr (Or.inr (Or.inr (Or.inr (Or.inr (Or.inl ⟨by rw [e0]; exact w0, rfl, rfl, c, by rw [e1]; exact w1, by omega, hX.2, ho _ rfl⟩)))))))))))
  have i1 : SGc u b (b + 1) r r [] h (h + 1) (m + k) (c :: L) 0 0 (some (h + 1, m + k, L, 0, 0)) := SG_in (by omega) (by omega) hh2 hk (fun p t hp => (no_H hp).elim) (fun v T hA hT hTa ho hH hX => by
    have e0 : A v 23 b = A u 23 b := hA b (Nat.le_refl _) (by omega) (fun t hp => by simp at hp)
    exact Or.inr (Or.inl (Or.inr (Or.inr (Or.inr (Or.inr (Or.inr (Or.inr (Or.inr (Or.inr (Or.inr (Or.inr ⟨by rw [e0]; exact w2, rfl, c, L, rfl, ho _ rfl⟩))))))))))))
  have i2 := SG_seq yb i1 (by omega) (fun z => absurd rfl z)
  have i3 := SP_seq (P := fun T v => ARc T v a c z m L 0 0 ∧ T c = some (h + 1, m, L, 0, 0)) i0 (SP_of i2) (fun v T hA hTa hTb hTc hH hX => ⟨hX, ?_⟩)
  · have i4 := SP_seq (P := fun T v => ARc T v a c z m L 0 0) i3 (SP_of yf) (fun v T hA hTa hTb hTc hH hX => ⟨⟨hX, hTc _ rfl⟩, AR_r hX (by omega) (by omega) (fun z => absurd rfl z)⟩)
    exact i4
  · obtain ⟨x1, x2, x3, x4⟩ := hX.1
    exact ⟨⟨by omega, by omega, by simp; omega⟩, ⟨by omega, h, m, hX.2, Nat.le_refl _, Nat.le_refl _⟩, fun z => absurd rfl z, by omega, fun z => absurd z (by omega)⟩
end
end
section
set_option maxRecDepth 100000
section
variable {u v w : MS} {N lv t t2 n : Nat} {l l2 : List Int} {x y c a k : Int}
theorem seekF_ok (h : 0 ≤ F u 442 ∧ F u 442 ≤ 666) (ha : RG a) (hk : RG k) (hN : 1000 ≤ N) : OK (fun w r => w = u ∧ (r = I (-1) ∨ ∃ f : Nat, r = I ((f : Nat) : Int) ∧ ((f : Nat) : Int) < F u 442 ∧ A u 24 f = a ∧ A u 25 f = k)) (hm_Co_seek N u (I a) (I k)) := by
  have gen : ∀ (M f : Nat), ((f : Nat) : Int) ≤ F u 442 → 668 ≤ M + f → OK (fun w r => w = u ∧ (r = I (-1) ∨ ∃ f : Nat, r = I ((f : Nat) : Int) ∧ ((f : Nat) : Int) < F u 442 ∧ A u 24 f = a ∧ A u 25 f = k)) (hg_Co_seek N M u (I a) (I k) (I ((f : Nat) : Int))) := by
    intro M
    induction M with
    | zero => intro f hf hM; omega
    | succ M ih =>
      intro f hf hM
      show OK _ (hb_Co_seek_2 N (hg_Co_seek N M) u (I a) (I k) (I ((f : Nat) : Int)))
      unfold hb_Co_seek_2 hb_Co_seek_32
      rw [I_F (k := 442)]
      refine k_le ⟨by omega, by omega⟩ ⟨by omega, by omega⟩ (fun _ => ok_some.mpr ⟨rfl, Or.inl rfl⟩) (fun hlt => e_in ⟨by omega, by omega⟩ (by decide) ?_)
      rw [tnI (n := f) rfl (by omega), I_A (k := 24), I_A (k := 25), lit1q, I_add, show ((f : Nat) : Int) + 1 = ((f + 1 : Nat) : Int) by omega]
      have nx := ih (f + 1) (by omega) (by omega)
      refine k_eq (A_r _ _ _) ha (fun e1 => e_in ⟨by omega, by omega⟩ (by decide) ?_) (fun _ => nx)
      exact k_eq (A_r _ _ _) hk (fun e2 => ok_some.mpr ⟨rfl, Or.inr ⟨f, rfl, hlt, e1, e2⟩⟩) (fun _ => nx)
  unfold hm_Co_seek hb_Co_seek_0
  rw [lit0q]
  exact gen N 0 (by omega) (by omega)
theorem takL_e : ∀ k : Fin 29, takL.getD k.val 0 = I ((tkc ((k.val : Nat) : Int) : Nat) : Int) := by decide
theorem preOf_ok (h36 : WDc u 36) (h1 : WDc u 1) (hx : RG x) (hn : n ≤ 6) (hN : 200010 ≤ N) : OK (fun w r => w = u ∧ (r = I (-1) ∨ ∃ d : Nat, r = I ((d : Nat) : Int) ∧ ((d = 29 ∧ n = 2) ∨ (d < 29 ∧ tkc ((d : Nat) : Int) = n)))) (hm_Cm_predefinedOf N u (I x) (I ((n : Nat) : Int))) := by
  unfold hm_Cm_predefinedOf hb_Cm_predefinedOf_0
  have e27 : ∀ y : Int, -1 ≤ y → RG y → OK (fun w r => w = u ∧ (r = I (-1) ∨ ∃ d : Nat, r = I ((d : Nat) : Int) ∧ ((d = 29 ∧ n = 2) ∨ (d < 29 ∧ tkc ((d : Nat) : Int) = n)))) (hb_Cm_predefinedOf_27 N () u (I ((n : Nat) : Int)) (I y)) := fun y hy hr => by
    unfold hb_Cm_predefinedOf_27 hb_Cm_predefinedOf_53 hb_Cm_predefinedOf_54
    refine k_c (y := -1) rfl hr ⟨by decide, by decide⟩ (fun _ => ok_some.mpr ⟨rfl, Or.inl rfl⟩) (fun z => ?_)
    rw [show (29 : Int32) = I 29 from rfl]
    refine k_le ⟨by decide, by decide⟩ hr (fun _ => ok_some.mpr ⟨rfl, Or.inl rfl⟩) (fun z2 => e_in ⟨by omega, by omega⟩ (by decide) ?_)
    obtain ⟨d, rfl⟩ : ∃ d : Nat, y = ((d : Nat) : Int) := ⟨y.toNat, by omega⟩
    have hd : d < 29 := by omega
    have te : takL.getD d 0 = I ((tkc ((d : Nat) : Int) : Nat) : Int) := takL_e ⟨d, hd⟩
    rw [tnI (n := d) rfl (by omega), te]
    have tb : tkc ((d : Nat) : Int) ≤ 2 := by unfold tkc; split <;> (try split) <;> omega
    refine k_eq ⟨by omega, by omega⟩ ⟨by omega, by omega⟩ (fun e => ok_some.mpr ⟨rfl, Or.inr ⟨d, rfl, Or.inr ⟨hd, ?_⟩⟩⟩) (fun _ => ok_some.mpr ⟨rfl, Or.inl rfl⟩)
    have : ((tkc ((d : Nat) : Int) : Nat) : Int) = ((n : Nat) : Int) := e
    omega
  have sk : OK (fun w r => w = u ∧ ∃ y : Int, r = I y ∧ -1 ≤ y ∧ RG y) (hm_Wo_seekIn N u 1 36 (I x)) := by
    unfold hm_Wo_seekIn hb_Wo_seekIn_0 hb_Wo_seekIn_12 hb_Wo_seekIn_45
    have no : (fun (w : MS) (r : Int32) => w = u ∧ ∃ y : Int, r = I y ∧ -1 ≤ y ∧ RG y) u (-1) := ⟨rfl, -1, rfl, by omega, ⟨by decide, by decide⟩⟩
    rw [lit0q]
    refine k_lt hx ⟨by decide, by decide⟩ (fun _ => ok_some.mpr no) (fun z => ?_)
    rw [I_F (k := 20 * 1 + 2)]
    obtain ⟨d1, d2, d3, d4, d5⟩ := h1
    have d36 := h36.1
    refine k_lt hx (F_r _ _) (fun z2 => ?_) (fun _ => ok_some.mpr no)
    obtain ⟨s, rfl⟩ : ∃ s : Nat, x = ((s : Nat) : Int) := ⟨x.toNat, by omega⟩
    obtain ⟨c1, c2, c3⟩ := d5 s z2
    have d2' : F u (20 * 1 + 2) + 1 ≤ ((il (1 + 2) : Nat) : Int) := d2
    refine e_in ⟨by omega, by omega⟩ (by omega) ?_
    rw [lit1q, I_add, show ((s : Nat) : Int) + 1 = ((s + 1 : Nat) : Int) by omega]
    refine e_in ⟨by omega, by omega⟩ (by omega) (e_in ⟨by omega, by omega⟩ (by omega) ?_)
    rw [tnI (n := s) rfl (by omega), tnI (n := s + 1) rfl (by omega), I_A (k := 1 + 2), I_A (k := 1 + 2), I_sub, ok_bnd]
    refine ok_mono (seekW_ok (N := N) (b := 1 + 1) h36 (by omega) d4 c1 (by omega) (by omega) hN) (fun w r hw => ok_some.mpr ?_)
    obtain ⟨rfl, hr⟩ := hw
    rcases hr with rfl | ⟨k, rfl, hk⟩
    · exact no
    · have := F_r w (20 * 36 + 2)
      exact ⟨rfl, _, rfl, by omega, ⟨by omega, by omega⟩⟩
  rw [ok_bnd]
  refine ok_mono sk (fun w r hw => ?_)
  obtain ⟨rfl, y, rfl, hy, hr⟩ := hw
  refine k_c (y := 7) rfl hr ⟨by decide, by decide⟩ (fun _ => ?_) (fun _ => e27 y hy hr)
  exact k_c (y := 2) rfl ⟨by omega, by omega⟩ ⟨by decide, by decide⟩ (fun z => ok_some.mpr ⟨rfl, Or.inr ⟨29, rfl, Or.inl ⟨rfl, by omega⟩⟩⟩) (fun _ => e27 y hy hr)
theorem holdN_ok {fr to : Nat} (h : CVI u lv) (hft : fr ≤ to) (hto : to ≤ 4000) (hN : 1000000000 ≤ N) : OK (fun w r => (∃ l, EMc u w l) ∧ r = I (F w 441 - F u 441)) (hm_Cm_hold N u (I ((fr : Nat) : Int)) (I ((to : Nat) : Int))) := by
  have hs := h.1
  have e9 : F u 709 = ((lv : Nat) : Int) := h.2.2.1.1
  have gen : ∀ (M : Nat), (∀ (t : Nat) (v : MS) (l : List Int), EMc u v l → t ≤ to + 1 → (to + 1 - t) * 24010 < M → OK (fun w r => (∃ l, EMc u w l) ∧ r = I (F w 441 - F u 441)) ((hg_Cm_hold N M).1 v (I ((to : Nat) : Int)) (I (F u 441)) (I ((t : Nat) : Int)))) ∧ (∀ (t i : Nat) (nm : Int32) (v : MS) (l : List Int), EMc u v l → t ≤ to → i ≤ 24000 → (to - t) * 24010 + (24005 - i) < M → OK (fun w r => (∃ l, EMc u w l) ∧ r = I (F w 441 - F u 441)) ((hg_Cm_hold N M).2 v (I ((to : Nat) : Int)) (I (F u 441)) (I ((t : Nat) : Int)) nm (I ((i : Nat) : Int)))) := by
    intro M
    induction M with
    | zero => exact ⟨fun t v l _ _ hM => by omega, fun t i nm v l _ _ _ hM => by omega⟩
    | succ M ih =>
      have n113 : ∀ (t : Nat) (v : MS) (l : List Int), EMc u v l → t ≤ to → (to - t) * 24010 < M → OK (fun w r => (∃ l, EMc u w l) ∧ r = I (F w 441 - F u 441)) (hb_Cm_hold_113 N (hg_Cm_hold N M) v (I ((to : Nat) : Int)) (I (F u 441)) (I ((t : Nat) : Int))) := fun t v l ev ht hM => by
        unfold hb_Cm_hold_113
        rw [lit1q, I_add, show ((t : Nat) : Int) + 1 = ((t + 1 : Nat) : Int) by omega]
        exact ih.1 (t + 1) v l ev (by omega) (by omega)
      refine ⟨fun t v l ev ht hM => ?_, fun t i nm v l ev ht hi hM => ?_⟩
      · show OK _ (hb_Cm_hold_11 N (hg_Cm_hold N M) v (I ((to : Nat) : Int)) (I (F u 441)) (I ((t : Nat) : Int)))
        unfold hb_Cm_hold_11
        refine k_lt ⟨by omega, by omega⟩ ⟨by omega, by omega⟩ (fun _ => ok_some.mpr ⟨⟨l, ev⟩, by rw [I_F (k := 441), I_sub]⟩) (fun z => e_in ⟨by omega, by omega⟩ (by decide) ?_)
        have nx := n113 t v l ev (by omega) (by omega)
        refine ok_br.mpr ⟨fun _ => e_in ⟨by omega, by omega⟩ (by decide) (ok_br.mpr ⟨fun _ => nx, fun _ => e_in ⟨by omega, by omega⟩ (by decide) ?_⟩), fun _ => nx⟩
        obtain ⟨s, hs2⟩ : ∃ s : Nat, F u 441 = ((s : Nat) : Int) := ⟨(F u 441).toNat, by omega⟩
        have := ih.2 t s (v.2.2.1 7 (I ((t : Nat) : Int)).toNatClampNeg) v l ev (by omega) (by omega) (by omega)
        rw [hs2] at this ⊢
        exact this
      · show OK _ (hb_Cm_hold_60 N (hg_Cm_hold N M) v (I ((to : Nat) : Int)) (I (F u 441)) (I ((t : Nat) : Int)) nm (I ((i : Nat) : Int)))
        have vs := EMc.s hs ev
        have e92 : OK (fun w r => (∃ l, EMc u w l) ∧ r = I (F w 441 - F u 441)) (hb_Cm_hold_92 N (hg_Cm_hold N M) v (I ((to : Nat) : Int)) (I (F u 441)) (I ((t : Nat) : Int)) nm (I ((i : Nat) : Int))) := by
          unfold hb_Cm_hold_92
          refine ok_br.mpr ⟨fun _ => ?_, fun _ => n113 t v l ev ht (by omega)⟩
          rw [I_of nm]
          exact put_B hs.1 ev (ti_rng _) (fun w2 e2 => n113 t w2 _ e2 ht (by omega))
        unfold hb_Cm_hold_60
        rw [I_F (k := 441)]
        refine k_le ⟨by omega, by omega⟩ ⟨by omega, by omega⟩ (fun _ => e92) (fun z => ?_)
        obtain ⟨y, hy, e, -⟩ := atC_e (N := N) (u := v) (c := ((i : Nat) : Int)) ⟨by omega, by omega⟩
        rw [e, bnd_so]
        refine ok_br.mpr ⟨fun _ => e92, fun _ => ?_⟩
        rw [lit1q, I_add, show ((i : Nat) : Int) + 1 = ((i + 1 : Nat) : Int) by omega]
        exact ih.2 t (i + 1) nm v l ev ht (by omega) (by omega)
  unfold hm_Cm_hold hb_Cm_hold_0
  rw [I_F (k := 441)]
  exact (gen N).1 fr u [] (EMc.nl hs.2) (by omega) (by omega)
end
end
section
set_option maxRecDepth 100000
section
variable {T : Nat → Option Tyc} {u v w : MS} {a b c e q r s z h m h1 m1 g x n k i f : Nat} {L : List Nat} {H H1 H2 : List (Nat × Tyc)} {y y1 : Tyc} {o : Option Tyc} {P P1 P2 : (Nat → Option Tyc) → MS → Prop}
theorem SP_any (y0 : SGp P u a b q r H y none) (hab : a < b) : SGp P u a b q r H y o := by
  obtain ⟨z1, z2, z3, T0, z4, z5⟩ := y0
  exact ⟨z1, fun e => absurd e (by omega), z3, T0, z4, fun v T h1 h2 h3 _ h5 h6 => z5 v T h1 h2 h3 (fun y1 e => by cases e) h5 h6⟩
theorem SG_any (y0 : SGc u a b q r H z h m L g x none) (hab : a < b) : SGc u a b q r H z h m L g x o := SP_to (SP_any (SP_of y0) hab)
theorem SP_mo (y0 : SGp P1 u a b q r H y o) (hP : ∀ T v, TBLc u v q r → P T v → P1 T v) : SGp P u a b q r H y o := by
  obtain ⟨z1, z2, z3, T0, z4, z5⟩ := y0
  exact ⟨z1, z2, z3, T0, z4, fun v T h1 h2 h3 h4 h5 h6 => z5 v T h1 h2 h3 h4 h5 (hP T v h2 h6)⟩
theorem SP_p1 (y0 : SGp P1 u a b q q H y o) (hP : ∀ T v, P T v → P1 T v) (hp : ∀ v T, TBLc u v q (q + 1) → (∀ y1, o = some y1 → T b = some y1) → P T v → PLSc T v q (q + 1)) : SGp P u a b q (q + 1) H y o := by
  obtain ⟨z1, z2, z3, T0, z4, z5⟩ := y0
  exact ⟨⟨z1.1, by omega⟩, z2, z3, T0, z4, fun v T h1 h2 h3 h4 h5 h6 => ⟨(z5 v T h1 (h2.mo (Nat.le_refl _) (by omega)) h3 h4 h5 (hP T v h6)).1, hp v T h2 h4 h6⟩⟩
theorem AR_x (X : ARc T v a b z m L 0 0) (hx : x ≤ a) (h2 : x = a → A v 23 a = 32) : ARc T v a b z m L 0 x := ⟨X.1, X.2.1, fun z => absurd rfl z, hx, h2⟩
theorem SG_rcv (hz : z ≤ n) (hh : h ≤ 1090) (hm : m ≤ 40) (w0 : A u 23 a = 31) (w1 : (A u 23 (a + 1) = 1 ∧ h = n + 1 ∧ A u 23 (a + 3) = ((b + 2 : Nat) : Int) ∧ o = some (n, m, L, 0, 0)) ∨ (A u 23 (a + 1) = 0 ∧ h = n)) (w2 : A u 23 (a + 2) = 32) (yb : SGc u (a + 4) b q r H z n m L 0 (a + 2) (some (n, m, L, 0, a + 2))) (w3 : A u 23 b = 34) (w4 : A u 23 (b + 1) = ((a + 2 : Nat) : Int)) : SGc u a (b + 2) q r H z h m L 0 0 o := by
  have ab := yb.1.1
  have hb := yb.2.2.1
  have nH : ∀ j t, (j < a + 4 ∨ b ≤ j) → (j, t) ∉ H := fun j t hj hp => by have := hb j t hp; omega
  have i0 : SGc u a (a + 2) q q [] z h m L 0 0 (some (n, m, L, 0, a + 2)) := SG_in (by omega) (by omega) hh hm (fun p t hp => (no_H hp).elim) (fun v T hA hT hTa ho hH hX => by
    have e0 : A v 23 a = A u 23 a := hA a (Nat.le_refl _) (by omega) (fun t hp => by simp at hp)
    have e1 : A v 23 (a + 1) = A u 23 (a + 1) := hA (a + 1) (by omega) (by omega) (fun t hp => by simp at hp)
    refine Or.inr (Or.inr (Or.inl ⟨by rw [e0]; exact w0, rfl, rfl, ?_⟩))
    rw [e1]
    rcases w1 with ⟨w1, rfl, -⟩ | ⟨w1, rfl⟩
    · exact Or.inl ⟨w1, by omega, ho _ rfl⟩
    · exact Or.inr ⟨w1, ho _ rfl⟩)
  have i1 : SGp (fun T v => ARc T v (a + 2) (b + 2) z m L 0 (a + 2) ∧ (A v 23 (a + 1) = 0 ∨ (A v 23 (a + 3) = ((b + 2 : Nat) : Int) ∧ T (b + 2) = some (n, m, L, 0, 0)))) u (a + 2) (a + 4) q q [] (n, m, L, 0, a + 2) (some (n, m, L, 0, a + 2)) := by
    refine SP_in (a := a + 2) (k := 2) (z := z) (fun T v hX => AR_l hX.1 (by omega)) (by omega) (by omega) (by omega) hm (fun p t hp => (no_H hp).elim) (fun v T hA hT hTa ho hH hX => ?_)
    have e0 : A v 23 (a + 2) = A u 23 (a + 2) := hA (a + 2) (Nat.le_refl _) (by omega) (fun t hp => by simp at hp)
    refine Or.inr (Or.inr (Or.inr (Or.inl ⟨by rw [e0]; exact w2, rfl, rfl, ho _ rfl, ?_⟩)))
    rcases hX.2 with z | ⟨z1, z2⟩
    · exact Or.inl (by rw [show a + 2 - 1 = a + 1 by omega]; exact z)
    · exact Or.inr ⟨b + 2, z1, by omega, z2⟩
  have i3 : SGp (fun T v => ARc T v b (b + 2) z m L 0 (a + 2) ∧ T (a + 2) = some (n, m, L, 0, a + 2)) u b (b + 2) r r [] (n, m, L, 0, a + 2) o := by
    refine SP_in (k := 2) (z := z) (fun T v hX => hX.1) hz (by omega) (by omega) hm (fun p t hp => (no_H hp).elim) (fun v T hA hT hTa ho hH hX => ?_)
    have e0 : A v 23 b = A u 23 b := hA b (Nat.le_refl _) (by omega) (fun t hp => by simp at hp)
    have e1 : A v 23 (b + 1) = A u 23 (b + 1) := hA (b + 1) (by omega) (by omega) (fun t hp => by simp at hp)
    exact Or.inr (Or.inr (Or.inr (Or.inr (Or.inr (Or.inl ⟨by rw [e0]; exact w3, rfl, by omega, by have := hX.1.1.2.1; omega, by rw [e1]; exact w4, hX.2⟩)))))
  have i23 := SP_seq (P := fun T v => ARc T v (a + 4) (b + 2) z m L 0 (a + 2) ∧ T (a + 2) = some (n, m, L, 0, a + 2)) (SP_of yb) i3 (fun v T hA hTa hTb hTc hH hX => ⟨AR_l hX.1 (by omega), AR_r hX.1 (by omega) (Nat.le_refl _) (fun _ => rfl), hX.2⟩)
  have i13 := SP_seq (P := fun T v => ARc T v (a + 2) (b + 2) z m L 0 (a + 2) ∧ (A v 23 (a + 1) = 0 ∨ (A v 23 (a + 3) = ((b + 2 : Nat) : Int) ∧ T (b + 2) = some (n, m, L, 0, 0)))) i1 i23 (fun v T hA hTa hTb hTc hH hX => ⟨hX, AR_r hX.1 (by omega) (Nat.le_refl _) (fun _ => rfl), hTa⟩)
  have i03 := SP_seq (P := fun T v => ARc T v a (b + 2) z m L 0 0) (SP_of i0) i13 (fun v T hA hTa hTb hTc hH hX => ⟨AR_l hX (by omega), ?_, ?_⟩)
  · rw [List.append_nil, List.nil_append, List.nil_append] at i03
    exact SP_to i03
  · have e0 : A v 23 (a + 2) = A u 23 (a + 2) := hA (a + 2) (by omega) (by omega) (fun t hp => by simp at hp; exact nH _ t (Or.inl (by omega)) hp)
    exact AR_x (AR_r hX (by omega) (Nat.le_refl _) (fun _ => rfl)) (by omega) (fun _ => by rw [e0]; exact w2)
  · have e1 : A v 23 (a + 1) = A u 23 (a + 1) := hA (a + 1) (by omega) (by omega) (fun t hp => by simp at hp; exact nH _ t (Or.inl (by omega)) hp)
    have e3 : A v 23 (a + 3) = A u 23 (a + 3) := hA (a + 3) (by omega) (by omega) (fun t hp => by simp at hp; exact nH _ t (Or.inl (by omega)) hp)
    rw [e1, e3]
    rcases w1 with ⟨-, -, w1, w5⟩ | ⟨w1, -⟩
    · exact Or.inr ⟨w1, hTc _ w5⟩
    · exact Or.inl w1
theorem SG_fun (hz : z ≤ h) (hh : h ≤ 1090) (hm : m ≤ 40) (hn : n ≤ 1090) (hk : k ≤ 40) (w0 : A u 23 a = 18) (w1 : A u 23 (a + 1) = ((c + 1 : Nat) : Int)) (yb : SGc u (a + 2) c (q + 1) r [] n n k [] 0 0 (some (n, k, [], 0, 0))) (w2 : A u 23 c = 36) (w3 : A u 23 (c + 1) = 6) (w4 : A u 23 (c + 2) = ((q : Nat) : Int)) (w5 : A u 23 (c + 3) = ((k : Nat) : Int)) (hq : ((q : Nat) : Int) < F u 449) (p0 : A u 30 q = ((n : Nat) : Int)) (p1 : A u 31 q = ((a + 2 : Nat) : Int)) (p2 : A u 32 q = ((c + 3 : Nat) : Int)) : SGc u a (c + 4 + k) q r [] z h m L 0 0 (some (h + 1, m, L, 0, 0)) := by
  have ab := yb.1.1
  have qr := yb.1.2
  have j0 : SGc u a (a + 2) q q [(a + 1, (h, m, L, 0, 0))] z h m L 0 0 none := SG_jump hz hh hm w0
  have i0 : SGp (fun T v => ARc T v a (c + 1) z m L 0 0 ∧ A v 23 (c + 3) = ((k : Nat) : Int) ∧ c + 3 + k < 24000) u a (a + 2) q (q + 1) [(a + 1, (h, m, L, 0, 0))] (h, m, L, 0, 0) (some (n, k, [], 0, 0)) := by
    refine SP_p1 (SP_any (SP_of j0) (by omega)) (fun T v hX => AR_l hX.1 (by omega)) (fun v T ht ho hX pl h1 h2 => ?_)
    have : pl = q := by omega
    subst this
    obtain ⟨e0, e1, e2⟩ := ht.2.2.2.2 pl h1 h2
    exact ⟨n, a + 2, c + 3, k, by rw [e0]; exact p0, by rw [e1]; exact p1, by rw [e2]; exact p2, hX.2.1, hX.2.2, ho _ rfl⟩
  have i1 : SGc u c (c + 1) r r [] n n k [] 0 0 none := SG_nocl (Nat.le_refl _) hn hk (Or.inl w2)
  have i2 := SG_seq yb i1 (Nat.le_refl _) (fun _ => rfl)
  rw [List.append_nil] at i2
  have i3 := SP_seq (P := fun T v => ARc T v a (c + 1) z m L 0 0 ∧ A v 23 (c + 3) = ((k : Nat) : Int) ∧ c + 3 + k < 24000) i0 (SP_of i2) (fun v T hA hTa hTb hTc hH hX => ⟨hX, ?_⟩)
  · rw [List.append_nil] at i3
    have i4 : SGp (fun T v => ARc T v a (c + 1) z m L 0 0 ∧ A v 23 (c + 3) = ((k : Nat) : Int) ∧ c + 3 + k < 24000) u a (c + 1) q r [] (h, m, L, 0, 0) (some (h, m, L, 0, 0)) := by
      obtain ⟨z1, z2, z3, T0, z4, z5⟩ := i3
      refine ⟨z1, fun e => absurd e (by omega), fun p t hp => (no_H hp).elim, T0, z4, fun v T ha ht hT hb hH hX => z5 v T (fun j j1 j2 j3 => ha j j1 j2 (fun t hp => no_H hp)) ht hT (fun y2 e2 => by cases e2) (fun p t hp => ?_) hX⟩
      simp at hp
      obtain ⟨rfl, rfl⟩ := hp
      exact ⟨c + 1, by rw [ha (a + 1) (by omega) (by omega) (fun t hp => no_H hp)]; exact w1, Nat.le_refl _, hb _ rfl⟩
    have i5 : SGp (fun T v => ARc T v (c + 1) (c + 4 + k) z m L 0 0 ∧ A v 32 q = ((c + 3 : Nat) : Int)) u (c + 1) (c + 4 + k) r r [] (h, m, L, 0, 0) (some (h + 1, m, L, 0, 0)) := by
      rw [show c + 4 + k = c + 1 + (3 + k) by omega]
      refine SP_in (k := 3 + k) (z := z) (fun T v hX => hX.1) hz (by omega) hh hm (fun p t hp => (no_H hp).elim) (fun v T hA hT hTa ho hH hX => ?_)
      have e0 : A v 23 (c + 1) = A u 23 (c + 1) := hA (c + 1) (Nat.le_refl _) (by omega) (fun t hp => by simp at hp)
      have e1 : A v 23 (c + 2) = A u 23 (c + 2) := hA (c + 2) (by omega) (by omega) (fun t hp => by simp at hp)
      have e2 : A v 23 (c + 3) = A u 23 (c + 3) := hA (c + 3) (by omega) (by omega) (fun t hp => by simp at hp)
      refine Or.inl (Or.inr (Or.inr (Or.inr (Or.inr (Or.inr (Or.inl ⟨by rw [e0]; exact w3, q, k, by rw [show c + 1 + 1 = c + 2 by omega, e1]; exact w4, by rw [hT.2.1]; exact hq, by rw [show c + 1 + 2 = c + 3 by omega]; exact hX.2, by rw [show c + 1 + 2 = c + 3 by omega, e2]; exact w5, hk, ?_⟩))))))
      rw [show c + 1 + 3 + k = c + 1 + (3 + k) by omega]
      exact ho _ rfl
    have i6 := SP_seq (P := fun T v => ARc T v a (c + 4 + k) z m L 0 0 ∧ A v 32 q = ((c + 3 : Nat) : Int)) i4 i5 (fun v T hA hTa hTb hTc hH hX => ⟨⟨AR_l hX.1 (by omega), by rw [hA (c + 3) (by omega) (by omega) (fun t hp => by simp at hp)]; exact w5, by have := hX.1.1.2.1; omega⟩, AR_r hX.1 (by omega) (Nat.le_refl _) (fun _ => rfl), hX.2⟩)
    rw [List.append_nil] at i6
    exact SP_to (SP_mo i6 (fun T v ht hX => ⟨hX, by rw [(ht.2.2.2.2 q (Nat.le_refl _) (by omega)).2.2]; exact p2⟩))
  · exact ⟨⟨by omega, hX.1.1.2.1, by simp⟩, trivial, fun z => absurd rfl z, by omega, fun z => absurd z (by omega)⟩
end
end
