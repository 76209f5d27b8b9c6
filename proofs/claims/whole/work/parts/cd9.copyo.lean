/-! a term is copied here alone -/
set_option maxRecDepth 100000
section
variable {bS : Int → Nat → Nat → Prop} {h hs' g : Nat → Int64} {N o n n' ns ns' s zz f s0' : Nat} {ow' kd' oo : Nat → Nat} {Fv' : Int64 → Int64 → Prop} {P' : Int64 → Prop} {w : MS} {t x : Int64} {src' : Nat → Int64} {st : Nat → Prop} {sk : Nat → Int64} {at' : Nat → Int} {cc : Nat → Nat}
/-- what goes together with the copy of x -/
def bnO (bS : Int → Nat → Nat → Prop) (st : Nat → Prop) (src' : Nat → Int64) (k : Int) (a e : Nat) : Prop := st e ∧ so (src' e) = k ∧ bS k a (vn (src' e))
theorem cpo_iso (sS : ISw bS h ns hs' ns') (hs : s ≤ 1000) (i : CPI hs' n' ow' kd' Fv' P' f 0 g s 0 s 0 sk at' cc st src' oo) : ISw (bnO bS st src') h ns g s := by
  have i' : CPI hs' n' ow' kd' Fv' P' f 0 g (0 + s) 0 (0 + s) 0 sk at' cc st src' oo := by rw [Nat.zero_add]; exact i
  have key : ∀ t x, isH t → RTb (bnO bS st src') t x → st (vn x) ∧ RTb bS t (src' (vn x)) := fun t x z r => by
    obtain ⟨⟨v1, v2⟩, b1, b2, b3⟩ := RTb_h r z
    have gt := (i.2.2.1 _ b1).2.2.2.1
    have zs := (i.2.2.1 _ b1).2.2.1
    refine ⟨b1, Or.inr ⟨z, b2, ⟨v1, ?_⟩, b3⟩⟩
    rcases gt with g | g
    · exact absurd zs g.1
    · exact g.2.1
  refine ⟨fun t x z r => ?_, trivial, fun k a e hb => ⟨(sS.2.2 k a _ hb.2.2).1, (sS.2.2 k a _ hb.2.2).2.1, by have := CPI_lt i hb.1; omega⟩⟩
  obtain ⟨q4, q6⟩ := key t x z r
  obtain ⟨⟨e1, e2, e3⟩, e4, e5⟩ := sS.1 _ _ z q6
  have g2 : blk g x = blk hs' (src' (vn x)) := cpi_blk i' q4 (by rw [RTb_so r, RTb_so q6]) rfl
  have hb := (i.2.2.1 _ q4).2.1
  have bp := blk_pos (h := h) z
  refine ⟨⟨by rw [g2, e1], e2, by omega⟩, fun j h1 h2 => ?_, fun e => ?_⟩
  · have rp := e4 j h1 h2
    have ds := (cpi_cell i' q4 (j := j) (by rw [e1]; exact h2)).2 (by rw [RTb_prt q6]; exact h1)
    by_cases zc : isH (h (vn t + j))
    · have zp := (RTb_isH rp).mpr zc
      rcases ds with ⟨w1, -⟩ | ⟨-, w2, w3, w4, w5⟩
      · exact absurd zp w1
      · refine Or.inr ⟨zc, by rw [w2, RTb_so rp], ⟨(RTb_h rp zc).1.1, w3⟩, w4, by rw [w5, RTb_so rp], ?_⟩
        rw [w5]
        exact (RTb_h rp zc).2
    · rcases ds with ⟨w1, w2⟩ | ⟨w1, -⟩
      · rw [w2, RTb_n rp zc]
        exact RTb_lit zc (RTb_nil rp)
      · exact absurd ((RTb_isH rp).mp w1) zc
  · have y2 : g (vn x) = hs' (vn (src' (vn x))) := (cpi_cell i' q4 (j := 0) (by rw [e1]; exact bp)).1 (by unfold prt; rw [RTb_so q6, e]; decide)
    rw [y2]
    exact e5 e
/-- a term there, its likeness copied here to zz -/
theorem copy_o1 (gS' : HP (hp w o) n' ow' kd' Fv' P') (hn' : n' ≤ 500) (ho : o < 25) (hz : zz < 25) (hoz : o ≠ zz) (sS : ISw bS h ns (hp w o) ns') (rt : RTb bS t x) (z2 : SZ (hp w o) n' ow' kd' Fv' P' f x s) (hu' : A w 89 zz = 0) (hl : s ≤ 500) (hN : 3000 ≤ N) : PK (fun w2 r2 => (∃ b2, ISw b2 h ns (hp w2 zz) s ∧ RTb b2 t r2) ∧ (∃ ow2 kd2 f2, HP (hp w2 zz) s ow2 kd2 Fv' P' ∧ SZ (hp w2 zz) s ow2 kd2 Fv' P' f2 r2 s) ∧ FR [] [] [89, 142] [88, 141] w w2 ∧ (∀ r, A w2 89 r = if r = zz then ((s : Nat) : Int) else A w 89 r) ∧ ∀ i, ¬ (500 * zz ≤ i ∧ i < 500 * zz + 500) → w2.2.2.2 88 i = w.2.2.2 88 i) (fm_M_copy N w (I ((o : Nat) : Int)) x (I ((zz : Nat) : Int))) := by
  intro w2 r2 e2
  have hu1 : A w 89 zz = ((0 : Nat) : Int) := hu'
  by_cases zt : isH t
  · have zx := (RTb_isH rt).mpr zt
    obtain ⟨b1, b2, b3, cc, st, src, oo, b4, b5, b6, b7⟩ := pk_ok (copy_x (N := N) (n0 := 0) ho hz hn' (by omega) (fun c => absurd c hoz) gS' z2 hu1 (by omega) zx) w2 r2 e2
    have rr := copy_res (N := N) (s0' := 0) hz zx hu1 w2 r2 e2
    have v9 : va r2 = ((0 : Nat) : Int) := by rw [rr, va_rp (by omega) (by omega)]
    have v8 : vn r2 = 0 := by unfold vn; omega
    have s9 : so r2 = so x := by rw [rr, so_rp (by omega) (by omega)]
    rw [Nat.zero_add] at b2 b4
    have iso := cpo_iso (g := hp w2 zz) sS (by omega) b4
    obtain ⟨ow3, kd3, h1, h2, h3, h4, h5⟩ := CPI_end (hD := hp w zz) gS' (HP_zr (Fv := Fv') (P := P')) b4 (fun z hz => absurd hz (Nat.not_lt_zero z))
    have s3 := h4 _ r2 x s b7 z2
    refine ⟨⟨_, iso, Or.inr ⟨zt, by rw [s9, RTb_so rt], ⟨(RTb_h rt zt).1.1, by omega⟩, by rw [v8]; exact b6.1, by rw [v8, b6.2, RTb_so rt], ?_⟩⟩, ⟨ow3, kd3, _, h1, s3⟩, b1, b2, fun i hi => b3 i (by omega)⟩
    rw [v8, b6.2]
    exact (RTb_h rt zt).2
  · have ex := RTb_n rt zt
    have zx : ¬ isH x := by rw [ex]; exact zt
    have eq : fm_M_copy N w (I ((o : Nat) : Int)) x (I ((zz : Nat) : Int)) = some (w, x) := by
      unfold fm_M_copy fb_M_copy_0
      rw [inHeap_e.2 zx, bnd_so]
      rfl
    rw [eq] at e2
    injection e2 with e2
    injection e2 with e3 e4
    subst e3
    subst e4
    have sx : s = 0 ∧ ∃ f2, SZ (hp w zz) 0 (fun _ => 0) (fun _ => 0) Fv' P' f2 x 0 := by
      cases f with
      | zero => exact z2.elim
      | succ f' =>
        rcases z2 with ⟨y1, y2, y3⟩ | ⟨y1, -⟩
        · exact ⟨y3, 1, Or.inl ⟨y1, y2, rfl⟩⟩
        · exact absurd y1 zx
    obtain ⟨e0, f3, sx⟩ := sx
    subst e0
    refine ⟨⟨fun _ _ _ => False, ⟨fun u y z q => (RTb_h q z).2.elim, trivial, fun _ _ _ q => q.elim⟩, ?_⟩, ⟨_, _, f3, HP_zr, sx⟩, FR.rf, fun r9 => ?_, fun _ _ => rfl⟩
    · rw [ex]
      exact RTb_lit zt (RTb_nil rt)
    · by_cases e : r9 = zz
      · rw [if_pos e, e]; exact hu1
      · rw [if_neg e]
end
