/-! a term is copied, there to q, here to z, both from the beginning -/
set_option maxRecDepth 100000
section
variable {bS : Int → Nat → Nat → Prop} {h : Nat → Int64} {N q o v n n' ns ns' s zz f f' : Nat} {ow kd ow' kd' : Nat → Nat} {Fv Fv' : Int64 → Int64 → Prop} {P P' : Int64 → Prop} {m w : MS} {t x : Int64}
theorem HP_zr {g : Nat → Int64} : HP g 0 (fun _ => 0) (fun _ => 0) Fv P := by
  intro t ht gt
  rcases gt with ⟨c, -⟩ | ⟨-, -, c, -⟩
  · exact absurd ht c
  · exact absurd c (Nat.not_lt_zero _)
theorem copy_pz (gS : HPc h n ow kd Fv P) (hF : FVc Fv) (hh : m.2.2.2 v = h) (hn : n ≤ 512) (hv : v ≠ pq q 2) (gS' : HP (hp w o) n' ow' kd' Fv' P') (hn' : n' ≤ 500) (ho : o < 25) (hz : zz < 25) (hoz : o ≠ zz) (sS : ISw bS h ns (hp w o) ns') (rt : RTb bS t x) (z1 : SZc h n ow kd Fv P f t s) (z2 : SZ (hp w o) n' ow' kd' Fv' P' f' x s) (hu : F m (pq q 4) = 0) (hu' : A w 89 zz = 0) (hl : s ≤ 500) (hN : 3000 ≤ N) :
    PP (fun m2 r w2 r2 => (∃ b2, ISb b2 (m2.2.2.2 (pq q 2)) s (hp w2 zz) s ∧ RTb b2 r r2) ∧ (∃ ow2 kd2 f2, HPc (m2.2.2.2 (pq q 2)) s ow2 kd2 Fv P ∧ SZc (m2.2.2.2 (pq q 2)) s ow2 kd2 Fv P f2 r s) ∧ (∃ ow2 kd2 f2, HP (hp w2 zz) s ow2 kd2 Fv' P' ∧ SZ (hp w2 zz) s ow2 kd2 Fv' P' f2 r2 s) ∧ (FR [pq q 4] [] [] [pq q 2] m m2 ∧ F m2 (pq q 4) = ((s : Nat) : Int)) ∧ FR [] [] [89, 142] [88, 141] w w2 ∧ (∀ r, A w2 89 r = if r = zz then ((s : Nat) : Int) else A w 89 r) ∧ ∀ i, ¬ (500 * zz ≤ i ∧ i < 500 * zz + 500) → w2.2.2.2 88 i = w.2.2.2 88 i) (hm_Pr_copyIn N m q v t) (fm_M_copy N w (I ((o : Nat) : Int)) x (I ((zz : Nat) : Int))) := by
  intro m2 r w2 r2 e1 e2
  have hu0 : F m (pq q 4) = ((0 : Nat) : Int) := hu
  have hu1 : A w 89 zz = ((0 : Nat) : Int) := hu'
  obtain ⟨a1, a2, a3, ow2, kd2, g2, -, -, -, sz2, -⟩ := pk_ok (copyIn_hd (N := N) (s0 := 0) (owd := fun _ => 0) (kdd := fun _ => 0) gS hF hn (by omega) (fun c _ => by rw [hh]) (fun c => absurd c hv) z1 hu0 HP_0 (by omega)) m2 r e1
  rw [Nat.zero_add] at a2 g2 sz2
  obtain ⟨f2, sz2⟩ := sz2
  by_cases zt : isH t
  · have zx := (RTb_isH rt).mpr zt
    have c := pk_ok (copyIn_x (N := N) (s0 := 0) gS hF hn (by omega) (fun c _ => by rw [hh]) (fun c => absurd c hv) z1 hu0 (by omega) zt) m2 r e1
    obtain ⟨b1, b2, b3, cc, st, src, oo, b4, b5, b6, b7⟩ := pk_ok (copy_x (N := N) (n0 := 0) ho hz hn' (by omega) (fun c => absurd c hoz) gS' z2 hu1 (by omega) zx) w2 r2 e2
    have rr := copy_res (N := N) (s0' := 0) hz zx hu1 w2 r2 e2
    have er : so r2 = so x ∧ vn r2 = 0 ∧ 0 ≤ va r2 := by
      have v9 : va r2 = ((0 : Nat) : Int) := by rw [rr, va_rp (by omega) (by omega)]
      exact ⟨by rw [rr, so_rp (by omega) (by omega)], by unfold vn; omega, by omega⟩
    obtain ⟨bN, -, -, i2, r2'⟩ := copy_iso (s0 := 0) (s0' := 0) (bD := fun _ _ _ => False) (d0 := m.2.2.2 (pq q 2)) (d0' := hp w zz) sS gS hF ISb_no zt rt (by omega) c a3 b4 b5 b6 er (fun i hi => absurd hi (by omega))
    rw [Nat.zero_add] at i2
    obtain ⟨-, -, -, cc9, st9, src9, oo9, d4, d5⟩ := pk_ok (copy_ok (N := N) (fr := o) (to := zz) (n0 := 0) (s := s) ho hz hn' (by omega) (fun c => absurd c hoz) gS' z2 hu1 hN) w2 r2 e2
    obtain ⟨ow3, kd3, h1, h2, h3, h4, h5⟩ := CPI_end (hD := hp w zz) gS' (HP_zr (Fv := Fv') (P := P')) d4 (fun z hz => absurd hz (Nat.not_lt_zero z))
    have s3 := h4 f' r2 x s d5 z2
    rw [Nat.zero_add] at h1 s3 b2
    exact ⟨⟨bN, i2, r2'⟩, ⟨ow2, kd2, f2, g2, sz2⟩, ⟨ow3, kd3, _, h1, s3⟩, ⟨a1, a2⟩, b1, b2, fun i hi => b3 i (by omega)⟩
  · obtain ⟨rfl, rfl⟩ := copyIn_0 (N := N) zt hu0 (by omega) m2 r e1
    have ex := RTb_n rt zt
    have zx : ¬ isH x := by rw [ex]; exact zt
    have e0 : s = 0 := SZ_nhc z1 zt
    subst e0
    have eq : fm_M_copy N w (I ((o : Nat) : Int)) x (I ((zz : Nat) : Int)) = some (w, x) := by
      unfold fm_M_copy fb_M_copy_0
      rw [inHeap_e.2 zx, bnd_so]
      rfl
    rw [eq] at e2
    injection e2 with e2
    injection e2 with e3 e4
    subst e3
    subst e4
    have sx : ∃ f2, SZ (hp w zz) 0 (fun _ => 0) (fun _ => 0) Fv' P' f2 x 0 := by
      cases f' with
      | zero => exact z2.elim
      | succ f' =>
        rcases z2 with ⟨y1, y2, y3⟩ | ⟨y1, -⟩
        · exact ⟨1, Or.inl ⟨y1, y2, y3⟩⟩
        · exact absurd y1 zx
    obtain ⟨f3, sx⟩ := sx
    refine ⟨⟨fun _ _ _ => False, ISb_no, ?_⟩, ⟨ow2, kd2, f2, g2, sz2⟩, ⟨_, _, f3, HP_zr, sx⟩, ⟨a1, a2⟩, FR.rf, fun r9 => ?_, fun _ _ => rfl⟩
    · rw [ex]
      exact RTb_lit zt (RTb_nil rt)
    · by_cases e : r9 = zz
      · rw [if_pos e, e]; exact hu1
      · rw [if_neg e]
end
