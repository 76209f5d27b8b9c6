set_option maxRecDepth 100000
def EMc (u w : MS) (l : List Int) : Prop := FR [441] [] [23] [] u w ∧ (F u 441 ≤ F w 441 ∧ F w 441 ≤ 24000 ∧ F w 441 ≤ F u 441 + ((l.length : Nat) : Int)) ∧ (∀ j : Nat, ((j : Nat) : Int) < F u 441 → A w 23 j = A u 23 j) ∧ (F w 441 < 24000 → F w 441 = F u 441 + ((l.length : Nat) : Int) ∧ ∀ k, k < l.length → A w 23 ((F u 441).toNat + k) = l.getD k 0)
def CHNc (u : MS) : List Nat → Int → Prop
  | [], c => c = 0
  | p :: H, c => c = ((p : Nat) : Int) ∧ (1 ≤ p ∧ p < 24000) ∧ (∀ q, q ∈ H → q < p) ∧ CHNc u H (A u 23 p)
section
variable {u v w : MS} {N : Nat} {l l2 : List Int} {x y c : Int} {H : List Nat}
theorem EMc.tr (hu : 1 ≤ F u 441) (a : EMc u v l) (b : EMc v w l2) : EMc u w (l ++ l2) := by
  obtain ⟨a1, ⟨a2, a3, a4⟩, a5, a6⟩ := a
  obtain ⟨b1, ⟨b2, b3, b4⟩, b5, b6⟩ := b
  refine ⟨a1.tr b1, ⟨by omega, b3, by rw [List.length_append]; omega⟩, fun j hj => by rw [b5 j (by omega), a5 j hj], fun z => ?_⟩
  obtain ⟨c1, c2⟩ := b6 z
  obtain ⟨d1, d2⟩ := a6 (by omega)
  refine ⟨by rw [List.length_append]; omega, fun k hk => ?_⟩
  rw [List.length_append] at hk
  rcases Nat.lt_or_ge k l.length with y | y
  · rw [b5 _ (by omega), d2 k y, List.getD_eq_getElem?_getD, List.getD_eq_getElem?_getD, List.getElem?_append_left y]
  · have := c2 (k - l.length) (by omega)
    rw [List.getD_eq_getElem?_getD, List.getElem?_append_right y, ← List.getD_eq_getElem?_getD, ← this]
    congr 1
    omega
theorem put_e (h : 1 ≤ F u 441 ∧ F u 441 ≤ 24000) (hx : RG x) : ∃ w, hm_Co_put N u (I x) = some (w, ()) ∧ EMc u w [x] := by
  obtain ⟨s, hs⟩ : ∃ s : Nat, F u 441 = ((s : Nat) : Int) := ⟨(F u 441).toNat, by omega⟩
  unfold hm_Co_put hb_Co_put_0 hb_Co_put_30
  rw [I_F (k := 441), hs, show (24000 : Int32) = I 24000 from rfl]
  rcases Nat.lt_or_ge s 24000 with z | z
  · rw [show decide (I 24000 ≤ I ((s : Nat) : Int)) = false from decide_eq_false (fun q => absurd ((I_le (by decide) (by decide) (by omega) (by omega)).mp q) (by omega)), br_fq, (I_inb (by omega) (by omega)).mpr ⟨by omega, by omega⟩, ck_t, lt_e, tnI (n := s) rfl (by omega), wa_e, lt_e]
    have e : (wa u 23 s x).1 441 = I ((s : Nat) : Int) := by show u.1 441 = _; rw [I_F (k := 441), hs]
    rw [e, lit1q, I_add, show ((s : Nat) : Int) + 1 = ((s + 1 : Nat) : Int) by omega, wi_e]
    have f1 : F (wi (wa u 23 s x) 441 ((s + 1 : Nat) : Int)) 441 = ((s + 1 : Nat) : Int) := by rw [F_wi (by omega) (by omega), if_pos rfl]
    refine ⟨_, rfl, FR.wi (FR.wa FR.rf (by simp)) (by simp), ⟨by omega, by omega, by rw [f1, hs]; simp⟩, fun j hj => ?_, fun _ => ⟨by rw [f1, hs]; simp, fun k hk => ?_⟩⟩
    · show A (wa u 23 s x) 23 j = _
      rw [wa_ne (by omega)]
    · have : k = 0 := by simp at hk; exact hk
      subst this
      show A (wa u 23 s x) 23 ((F u 441).toNat + 0) = _
      rw [hs, show ((s : Nat) : Int).toNat + 0 = s by omega, wa_eq hx]
      rfl
  · rw [show decide (I 24000 ≤ I ((s : Nat) : Int)) = true from decide_eq_true ((I_le (by decide) (by decide) (by omega) (by omega)).mpr (by omega)), br_tq]
    exact ⟨u, rfl, FR.rf, ⟨by omega, by omega, by show F u 441 ≤ F u 441 + ((1 : Nat) : Int); omega⟩, fun _ _ => rfl, fun q => absurd q (by omega)⟩
theorem EMc.s (h : 1 ≤ F u 441 ∧ F u 441 ≤ 24000) (e : EMc u w l) : 1 ≤ F w 441 ∧ F w 441 ≤ 24000 := ⟨by have := e.2.1.1; omega, e.2.1.2.1⟩
theorem put_B {α : Type} {Q : MS → α → Prop} {f : MS → Unit → Option (MS × α)} {z : MS} (h0 : 1 ≤ F z 441) (e : EMc z u l) (hx : RG x) (k : ∀ w, EMc z w (l ++ [x]) → OK Q (f w ())) : OK Q (bnd (hm_Co_put N u (I x)) f) := by
  obtain ⟨w, hw, ew⟩ := put_e (N := N) (u := u) (x := x) ⟨by have := e.2.1.1; omega, e.2.1.2.1⟩ hx
  rw [hw, bnd_so]
  exact k w (EMc.tr h0 e ew)
theorem EMc.nl (h : F u 441 ≤ 24000) : EMc u u [] := ⟨FR.rf, ⟨by omega, h, by simp⟩, fun _ _ => rfl, fun _ => ⟨by simp, fun k hk => absurd hk (by simp)⟩⟩
theorem put_1 {α : Type} {Q : MS → α → Prop} {f : MS → Unit → Option (MS × α)} (h : 1 ≤ F u 441 ∧ F u 441 ≤ 24000) (hx : RG x) (k : ∀ w, EMc u w [x] → OK Q (f w ())) : OK Q (bnd (hm_Co_put N u (I x)) f) := put_B h.1 (EMc.nl h.2) hx k
theorem term_B {α : Type} {Q : MS → α → Prop} {f : MS → Unit → Option (MS × α)} {z : MS} (h0 : 1 ≤ F z 441) (e : EMc z u l) (hx : RG x) (hy : RG y) (k : ∀ w, EMc z w (l ++ [x, y]) → OK Q (f w ())) : OK Q (bnd (hm_Cm_term N u (I x) (I y)) f) := by
  unfold hm_Cm_term hb_Cm_term_0
  rw [ok_bnd]
  refine put_B h0 e hx (fun w2 e2 => put_B h0 e2 hy (fun w3 e3 => ok_some.mpr (k w3 ?_)))
  rw [List.append_assoc] at e3
  exact e3
theorem hook_B {α : Type} {Q : MS → α → Prop} {f : MS → Int32 → Option (MS × α)} {z : MS} (h0 : 1 ≤ F z 441) (e : EMc z u l) (hx : RG x) (k : ∀ w, EMc z w (l ++ [x]) → OK Q (f w (I (F w 441 - 1)))) : OK Q (bnd (hm_Co_hook N u (I x)) f) := by
  unfold hm_Co_hook hb_Co_hook_0
  rw [ok_bnd]
  refine put_B h0 e hx (fun w2 e2 => ok_some.mpr ?_)
  rw [I_F (k := 441), lit1q, I_sub]
  exact k w2 e2
theorem atC_e (hc : RG c) : ∃ y : Int, RG y ∧ hm_Co_at N u (I c) = some (u, I y) ∧ ∀ p : Nat, c = ((p : Nat) : Int) → p < 24000 → y = A u 23 p := by
  unfold hm_Co_at hb_Co_at_0 hb_Co_at_11 hb_Co_at_21
  rw [lit0q, show (24000 : Int32) = I 24000 from rfl, decL hc.1 hc.2 (by decide) (by decide), decL hc.1 hc.2 (by decide) (by decide)]
  by_cases z : c < 0
  · rw [decide_eq_true z, br_tq]
    exact ⟨0, ⟨by decide, by decide⟩, rfl, fun p hp => absurd hp (by omega)⟩
  · rw [decide_eq_false z, br_fq]
    obtain ⟨s, rfl⟩ : ∃ s : Nat, c = ((s : Nat) : Int) := ⟨c.toNat, by omega⟩
    have := hc.2
    by_cases z2 : ((s : Nat) : Int) < 24000
    · rw [decide_eq_true z2, br_tq, (I_inb (by omega) (by omega)).mpr ⟨by omega, by omega⟩, ck_t, tnI (n := s) rfl (by omega), I_A (k := 23)]
      exact ⟨A u 23 s, A_r _ _ _, rfl, fun p hp _ => by rw [show p = s by omega]⟩
    · rw [decide_eq_false z2, br_fq]
      exact ⟨0, ⟨by decide, by decide⟩, rfl, fun p hp hp2 => absurd hp2 (by omega)⟩
theorem setC_e (hc : RG c) (hx : RG x) : ∃ w, hm_Co_set N u (I c) (I x) = some (w, ()) ∧ FR [] [] [23] [] u w ∧ (∀ j : Nat, ((j : Nat) : Int) ≠ c → A w 23 j = A u 23 j) ∧ ∀ p : Nat, c = ((p : Nat) : Int) → p < 24000 → A w 23 p = x := by
  unfold hm_Co_set hb_Co_set_0 hb_Co_set_18
  rw [lit0q, show (24000 : Int32) = I 24000 from rfl, decL hc.1 hc.2 (by decide) (by decide)]
  by_cases z : c < 0
  · rw [decide_eq_true z, br_tq]
    exact ⟨u, rfl, FR.rf, fun _ _ => rfl, fun p hp => absurd hp (by omega)⟩
  · rw [decide_eq_false z, br_fq]
    obtain ⟨s, rfl⟩ : ∃ s : Nat, c = ((s : Nat) : Int) := ⟨c.toNat, by omega⟩
    have := hc.2
    rcases Nat.lt_or_ge s 24000 with z2 | z2
    · rw [show decide (I 24000 ≤ I ((s : Nat) : Int)) = false from decide_eq_false (fun q => absurd ((I_le (by decide) (by decide) (by omega) (by omega)).mp q) (by omega)), br_fq, (I_inb (by omega) (by omega)).mpr ⟨by omega, by omega⟩, ck_t, tnI (n := s) rfl (by omega), lt_e, wa_e]
      exact ⟨_, rfl, FR.wa FR.rf (by simp), fun j hj => wa_ne (by omega), fun p hp _ => by rw [show p = s by omega]; exact wa_eq hx⟩
    · rw [show decide (I 24000 ≤ I ((s : Nat) : Int)) = true from decide_eq_true ((I_le (by decide) (by decide) (by omega) (by omega)).mpr (by omega)), br_tq]
      exact ⟨u, rfl, FR.rf, fun _ _ => rfl, fun p hp hp2 => absurd hp2 (by omega)⟩
theorem CHNc_k : ∀ {H : List Nat} {c : Int}, (∀ p, p ∈ H → A w 23 p = A u 23 p) → CHNc u H c → CHNc w H c
  | [], _, _, h => h
  | p :: H, c, e, h => by
    obtain ⟨h1, h2, h3, h4⟩ := h
    refine ⟨h1, h2, h3, ?_⟩
    rw [e p (by simp)]
    exact CHNc_k (fun q hq => e q (by simp [hq])) h4
theorem CHNc_len : ∀ {H : List Nat} {c : Int}, CHNc u H c → ((H.length : Nat) : Int) ≤ c
  | [], c, h => by have : c = 0 := h; simp [this]
  | p :: H, c, h => by
    obtain ⟨h1, h2, h3, h4⟩ := h
    have e := CHNc_len h4
    cases H with
    | nil => simp; omega
    | cons q H =>
      have e2 := h4.1
      have := h3 q (by simp)
      simp only [List.length_cons] at e ⊢
      omega
theorem arrive_ok (hc : RG c) (hN : 24002 ≤ N) : OK (fun w _ => FR [] [] [23] [] u w ∧ ∀ H, CHNc u H c → (∀ p, p ∈ H → A w 23 p = F u 441) ∧ ∀ j, j ∉ H → A w 23 j = A u 23 j) (hm_Co_arrive N u (I c)) := by
  have gen : ∀ (M n : Nat) (c : Int) (v : MS), RG c → n ≤ 24000 → 24001 ≤ M + n → FR [] [] [23] [] u v → OK (fun w _ => FR [] [] [23] [] u w ∧ ∀ H, CHNc v H c → H.length + n ≤ 24000 → (∀ p, p ∈ H → A w 23 p = F u 441) ∧ ∀ j, j ∉ H → A w 23 j = A v 23 j) (hg_Co_arrive N M v (I c) (I ((n : Nat) : Int))) := by
    intro M
    induction M with
    | zero => intro n c v _ _ hM; omega
    | succ M ih =>
      intro n c v hc hn hM gv
      show OK _ (hb_Co_arrive_4 N (hg_Co_arrive N M) v (I c) (I ((n : Nat) : Int)))
      unfold hb_Co_arrive_4 hb_Co_arrive_40
      rw [show (24000 : Int32) = I 24000 from rfl]
      refine k_le ⟨by decide, by decide⟩ ⟨by omega, by omega⟩ (fun z => ok_some.mpr ⟨gv, fun H hH hl => ?_⟩) (fun z => ?_)
      · cases H with
        | nil => exact ⟨fun p hp => absurd hp (by simp), fun _ _ => rfl⟩
        | cons p H => simp at hl; omega
      · rw [lit0q]
        refine k_eq hc ⟨by decide, by decide⟩ (fun z0 => ok_some.mpr ⟨gv, fun H hH hl => ?_⟩) (fun z0 => ?_)
        · cases H with
          | nil => exact ⟨fun p hp => absurd hp (by simp), fun _ _ => rfl⟩
          | cons p H => have := hH.1; have := hH.2.1.1; omega
        · obtain ⟨y, hy, e, ey⟩ := atC_e (N := N) (u := v) hc
          rw [e, bnd_so]
          have e441 : F v 441 = F u 441 := congrArg _ (gv.1 441 (by simp))
          obtain ⟨w, ew, gw, w1, w2⟩ := setC_e (N := N) (u := v) (x := F v 441) hc (F_r _ _)
          rw [I_F (k := 441), ew, bnd_so, lit1q, I_add, show ((n : Nat) : Int) + 1 = ((n + 1 : Nat) : Int) by omega]
          refine ok_mono (ih (n + 1) y w hy (by omega) (by omega) (gv.tr gw)) (fun w3 _ h3 => ⟨h3.1, fun H hH hl => ?_⟩)
          cases H with
          | nil => exact absurd hH z0
          | cons p H =>
            obtain ⟨h1, h2, h4, h5⟩ := hH
            rw [← ey p h1 h2.2] at h5
            have np : p ∉ H := fun q => absurd (h4 p q) (by omega)
            have h6 := CHNc_k (w := w) (fun q hq => w1 q (by have := h4 q hq; omega)) h5
            obtain ⟨g1, g2⟩ := h3.2 H h6 (by simp at hl; omega)
            refine ⟨fun q hq => ?_, fun j hj => ?_⟩
            · rcases List.mem_cons.mp hq with rfl | hq
              · rw [g2 _ np, w2 _ h1 h2.2, e441]
              · exact g1 q hq
            · rw [List.mem_cons] at hj
              rw [g2 j (fun q => hj (Or.inr q)), w1 j (fun q => hj (Or.inl (by omega)))]
  unfold hm_Co_arrive hb_Co_arrive_0
  refine ok_mono (gen N 0 c u hc (by omega) (by omega) FR.rf) (fun w _ h => ⟨h.1, fun H hH => h.2 H hH ?_⟩)
  cases H with
  | nil => simp
  | cons p H => have := CHNc_len hH; have := hH.1; have := hH.2.1; omega
end
