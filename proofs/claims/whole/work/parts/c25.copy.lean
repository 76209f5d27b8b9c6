/-! a term is copied, both sides -/
set_option maxRecDepth 100000
section
variable {bS bD : Int → Nat → Nat → Prop} {h : Nat → Int64} {N q o v n n' ns ns' s0 s0' z f f' : Nat} {ow kd ow' kd' owd kdd : Nat → Nat} {Fv Fv' : Int64 → Int64 → Prop} {P P' : Int64 → Prop} {m w : MS} {t x : Int64}
/-- what copy answers -/
theorem cp_res : ∀ M : Nat, (∀ (u : MS) (v1 v4 : Int32) (v5 : Int64) (v7 : Int32), PK (fun _ r => r = v5) ((gg_M_copy N M).1 u v1 v4 v5 v7)) ∧ ∀ (u : MS) (v1 v4 : Int32) (v5 : Int64) (v7 : Int32) (v8 : Int64) (v11 v12 v13 : Int32), PK (fun _ r => r = v5) ((gg_M_copy N M).2 u v1 v4 v5 v7 v8 v11 v12 v13) := by
  intro M
  induction M with
  | zero => exact ⟨fun _ _ _ _ _ => pk_none, fun _ _ _ _ _ _ _ _ _ => pk_none⟩
  | succ M ih =>
    obtain ⟨ih1, ih2⟩ := ih
    refine ⟨fun u v1 v4 v5 v7 => ?_, fun u v1 v4 v5 v7 v8 v11 v12 v13 => ?_⟩
    · show PK _ (fb_M_copy_42 N (gg_M_copy N M) u v1 v4 v5 v7)
      unfold fb_M_copy_42 fb_M_copy_128
      exact pk_br (fun _ => pk_some rfl) (fun _ => pk_ck (fun _ => pk_lt (pk_ck (fun _ => pk_lt (pk_bnd (fun _ _ _ => pk_ck (fun _ => pk_lt (pk_ck (fun _ => pk_ck (fun _ => pk_lt (pk_br (fun _ => ih2 _ _ _ _ _ _ _ _ _) (fun _ => pk_ck (fun _ => pk_lt (ih2 _ _ _ _ _ _ _ _ _))))))))))))))
    · show PK _ (fb_M_copy_131 N (gg_M_copy N M) u v1 v4 v5 v7 v8 v11 v12 v13)
      unfold fb_M_copy_131 fb_M_copy_214
      exact pk_br (fun _ => ih1 _ _ _ _ _) (fun _ => pk_bnd (fun _ _ _ => pk_bnd (fun _ _ _ => pk_ck (fun _ => pk_lt (pk_bnd (fun _ _ _ => pk_br (fun _ => ih2 _ _ _ _ _ _ _ _ _) (fun _ => pk_bnd (fun _ _ _ => pk_br (fun _ => ih2 _ _ _ _ _ _ _ _ _) (fun _ => pk_ck (fun _ => pk_lt (pk_ck (fun _ => pk_lt (ih2 _ _ _ _ _ _ _ _ _)))))))))))))
theorem copy_res (hq : q < 25) (zx : isH x) (hu : A w 89 q = ((s0' : Nat) : Int)) {y : Int32} : PK (fun _ r => r = rp x ((s0' : Nat) : Int)) (fm_M_copy N w y x (I q)) := by
  unfold fm_M_copy fb_M_copy_0
  rw [inHeap_e.1 zx, bnd_so]
  refine pk_br (fun c => absurd (of_decide_eq_true c) (by decide)) (fun _ => pk_ck (fun _ => pk_lt (pk_ck (fun _ => pk_lt (pk_ck (fun _ => pk_lt ?_))))))
  rw [tnI (n := q) rfl (by omega), I_A' hu]
  exact (cp_res N).1 _ _ _ _ _
theorem copyIn_0 (zt : ¬ isH t) (hu : F m (pq q 4) = ((s0 : Nat) : Int)) (hl : s0 ≤ 512) : PK (fun m2 r => m2 = m ∧ r = t) (hm_Pr_copyIn N m q v t) := by
  unfold hm_Pr_copyIn hb_Pr_copyIn_0
  cases N with
  | zero => exact pk_none
  | succ M =>
    show PK _ (hb_Pr_copyIn_15 (M + 1) (hg_Pr_copyIn (M + 1) M) m q v t t (m.1 (pq q 4)) (m.1 (pq q 4) - 1))
    unfold hb_Pr_copyIn_15 hb_Pr_copyIn_42 hb_Pr_copyIn_140
    rw [I_F' hu, lit1, I_sub]
    refine p_le ⟨by omega, by omega⟩ ⟨by omega, by omega⟩ (fun c => absurd c (by omega)) (fun _ => p_le ⟨by omega, by omega⟩ ⟨by omega, by omega⟩ (fun c => absurd c (by omega)) (fun _ => ?_))
    rw [cellsAt_n zt, bnd_so]
    refine pk_br (fun _ => ?_) (fun c => absurd rfl (of_decide_eq_false c))
    cases M with
    | zero => exact pk_none
    | succ M =>
      show PK _ (hb_Pr_copyIn_15 (M + 1 + 1) (hg_Pr_copyIn (M + 1 + 1) M) m q v t t (I ((s0 : Nat) : Int)) (I (((s0 : Nat) : Int) - 1) + I 1))
      unfold hb_Pr_copyIn_15
      rw [I_F' hu, I_add]
      refine p_le ⟨by omega, by omega⟩ ⟨by omega, by omega⟩ (fun _ => pk_some ⟨rfl, rfl⟩) (fun c => absurd (show ((s0 : Nat) : Int) ≤ ((s0 : Nat) : Int) - 1 + 1 by omega) c)
theorem hp_lt {w w2 : MS} {s0' : Nat} (hr : ∀ i, ¬ (500 * q + s0' ≤ i ∧ i < 500 * q + 500) → w2.2.2.2 88 i = w.2.2.2 88 i) : ∀ i, i < s0' → hp w2 q i = hp w q i := fun i hi => hr (500 * q + i) (by omega)
/-- both copies: what was there stays, what is new goes together -/
theorem copy_pp (gS : HPc h n ow kd Fv P) (hF : FVc Fv) (hh : m.2.2.2 v = h) (hn : n ≤ 512) (hv : v = pq q 2 → n ≤ s0) (gS' : HP (hp w o) n' ow' kd' Fv' P') (hn' : n' ≤ 500) (ho : o < 25) (hq : q < 24) (hoq : o = q → n' ≤ s0') (sS : ISw bS h ns (hp w o) ns') (rt : RTb bS t x) (z1 : SZc h n ow kd Fv P f t z) (z2 : SZ (hp w o) n' ow' kd' Fv' P' f' x z) (hu : F m (pq q 4) = ((s0 : Nat) : Int)) (hu' : A w 89 q = ((s0' : Nat) : Int)) (sD : ISb bD (m.2.2.2 (pq q 2)) s0 (hp w q) s0') (hl : s0 + z ≤ 512 ∧ s0' + z ≤ 500) (gd : HPc (m.2.2.2 (pq q 2)) s0 owd kdd Fv P) (hN : 3000 ≤ N) :
    PP (fun m2 r w2 r2 => (∃ b2, (∀ k a c, bD k a c → b2 k a c) ∧ (∀ k a e, b2 k a e → bD k a e ∨ (s0 ≤ a ∧ s0' ≤ e)) ∧ ISb b2 (m2.2.2.2 (pq q 2)) (s0 + z) (hp w2 q) (s0' + z) ∧ RTb b2 r r2) ∧ (FR [pq q 4] [] [] [pq q 2] m m2 ∧ F m2 (pq q 4) = ((s0 + z : Nat) : Int) ∧ ∀ k, k < s0 → m2.2.2.2 (pq q 2) k = m.2.2.2 (pq q 2) k) ∧ FR [] [] [89, 142] [88, 141] w w2 ∧ (∀ r, A w2 89 r = if r = q then ((s0' + z : Nat) : Int) else A w 89 r) ∧ ∀ i, ¬ (500 * q + s0' ≤ i ∧ i < 500 * q + 500) → w2.2.2.2 88 i = w.2.2.2 88 i) (hm_Pr_copyIn N m q v t) (fm_M_copy N w (I o) x (I q)) := by
  intro m2 r w2 r2 e1 e2
  obtain ⟨a1, a2, a3, -⟩ := pk_ok (copyIn_hd (N := N) gS hF hn (by omega) (fun c _ => by rw [hh]) hv z1 hu gd (by omega)) m2 r e1
  by_cases zt : isH t
  · have zx := (RTb_isH rt).mpr zt
    have c := pk_ok (copyIn_x (N := N) gS hF hn (by omega) (fun c _ => by rw [hh]) hv z1 hu (by omega) zt) m2 r e1
    obtain ⟨b1, b2, b3, cc, st, src, oo, b4, b5, b6, b7⟩ := pk_ok (copy_x (N := N) ho (by omega) hn' (by omega) hoq gS' z2 hu' (by omega) zx) w2 r2 e2
    have rr := copy_res (N := N) (by omega) zx hu' w2 r2 e2
    have er : so r2 = so x ∧ vn r2 = s0' ∧ 0 ≤ va r2 := by
      have v9 : va r2 = ((s0' : Nat) : Int) := by rw [rr, va_rp (by omega) (by omega)]
      exact ⟨by rw [rr, so_rp (by omega) (by omega)], by unfold vn; omega, by omega⟩
    exact ⟨copy_iso sS gS hF sD zt rt (by omega) c a3 b4 b5 b6 er (hp_lt b3), ⟨a1, a2, a3⟩, b1, b2, b3⟩
  · obtain ⟨rfl, rfl⟩ := copyIn_0 (N := N) zt hu (by omega) m2 r e1
    have ex := RTb_n rt zt
    have zx : ¬ isH x := by rw [ex]; exact zt
    have e0 : z = 0 := SZ_nhc z1 zt
    subst e0
    have eq : fm_M_copy N w (I o) x (I q) = some (w, x) := by
      unfold fm_M_copy fb_M_copy_0
      rw [inHeap_e.2 zx, bnd_so]
      rfl
    rw [eq] at e2
    injection e2 with e2
    injection e2 with e3 e4
    subst e3
    subst e4
    refine ⟨⟨bD, fun _ _ _ q => q, fun _ _ _ q => Or.inl q, sD, ?_⟩, ⟨a1, a2, a3⟩, FR.rf, fun r9 => ?_, fun _ _ => rfl⟩
    · rw [ex]
      exact RTb_lit zt (RTb_nil rt)
    · by_cases e : r9 = q
      · rw [if_pos e, e]; exact hu'
      · rw [if_neg e]
end
