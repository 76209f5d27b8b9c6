/-! copies of terms that go together go together -/
set_option maxRecDepth 100000
/-- blocks of both copies that were met on the same way -/
def bnC (d g : Nat → Int64) (k0 : Int) (s0 s0' : Nat) (k : Int) (a c : Nat) : Prop := ∀ Q : Int → Nat → Nat → Prop, Q k0 s0 s0' → (∀ k a c j, Q k a c → prt (mk k ((a : Nat) : Int)) ≤ j → j < blk d (mk k ((a : Nat) : Int)) → isH (d (a + j)) → Q (so (d (a + j))) (vn (d (a + j))) (vn (g (c + j)))) → Q k a c
section
variable {d g : Nat → Int64} {k0 k l : Int} {s0 s0' a c a2 c2 j : Nat}
theorem bnC_0 : bnC d g k0 s0 s0' k0 s0 s0' := fun _ q _ => q
theorem bnC_s (b : bnC d g k0 s0 s0' k a c) (h1 : prt (mk k ((a : Nat) : Int)) ≤ j) (h2 : j < blk d (mk k ((a : Nat) : Int))) (z : isH (d (a + j))) : bnC d g k0 s0 s0' (so (d (a + j))) (vn (d (a + j))) (vn (g (c + j))) := fun Q q1 q2 => q2 k a c j (b Q q1 q2) h1 h2 z
theorem bnC_inv (b : bnC d g k0 s0 s0' k a c) : (k = k0 ∧ a = s0 ∧ c = s0') ∨ ∃ k2 a2 c2 j, bnC d g k0 s0 s0' k2 a2 c2 ∧ prt (mk k2 ((a2 : Nat) : Int)) ≤ j ∧ j < blk d (mk k2 ((a2 : Nat) : Int)) ∧ isH (d (a2 + j)) ∧ k = so (d (a2 + j)) ∧ a = vn (d (a2 + j)) ∧ c = vn (g (c2 + j)) := by
  have key := b (fun k a c => bnC d g k0 s0 s0' k a c ∧ ((k = k0 ∧ a = s0 ∧ c = s0') ∨ ∃ k2 a2 c2 j, bnC d g k0 s0 s0' k2 a2 c2 ∧ prt (mk k2 ((a2 : Nat) : Int)) ≤ j ∧ j < blk d (mk k2 ((a2 : Nat) : Int)) ∧ isH (d (a2 + j)) ∧ k = so (d (a2 + j)) ∧ a = vn (d (a2 + j)) ∧ c = vn (g (c2 + j)))) ⟨bnC_0, Or.inl ⟨rfl, rfl, rfl⟩⟩ (fun k a c j q h1 h2 z => ⟨bnC_s q.1 h1 h2 z, Or.inr ⟨k, a, c, j, q.1, h1, h2, z, rfl, rfl, rfl⟩⟩)
  exact key.2
end
section
variable {bS bD : Int → Nat → Nat → Prop} {hs hs' d g d0 d0' : Nat → Int64} {n ns ns' n' s0 s0' s N : Nat} {t x r r' : Int64} {ow kd ow' kd' oo : Nat → Nat} {Fv Fv' : Int64 → Int64 → Prop} {P P' : Int64 → Prop} {src src' : Nat → Int64} {bs : Nat → Nat} {st : Nat → Prop} {f : Nat} {sk : Nat → Int64} {at' : Nat → Int} {cc : Nat → Nat}
theorem mk_v {k : Int} {a : Nat} (ha : a < 1000) : va (mk k ((a : Nat) : Int)) = ((a : Nat) : Int) ∧ vn (mk k ((a : Nat) : Int)) = a := by
  have v : va (mk k ((a : Nat) : Int)) = ((a : Nat) : Int) := va_mk (by omega) (by omega)
  exact ⟨v, by unfold vn; rw [v]; omega⟩
/-- a copied block there -/
theorem cpc_blk (gS : HPc hs n ow kd Fv P) (hF : FVc Fv) (c : CPc hs n ow kd P d s0 (s0 + s) (s0 + s) src bs) {a : Nat} {y : Int64} (h1 : s0 ≤ a) (h2 : a < s0 + s) (h3 : bs a = a) (e1 : so y = so (src a)) (e2 : va y = ((a : Nat) : Int)) : blk d y = blk hs (src a) := by
  obtain ⟨-, -, -, z, gt, -⟩ := c.2.1 a h1 h2
  rw [h3] at z gt
  obtain ⟨f, sz, q⟩ := HP_szc gS gt
  exact (CPc_sz (owd := fun _ => 0) (kdd := fun _ => 0) gS hF c f a y sz h1 h2 h3 e1 e2 q).2.1
/-- a cell of a copied block there -/
theorem cpc_cell (c : CPc hs n ow kd P d s0 (s0 + s) (s0 + s) src bs) {a j : Nat} (h1 : s0 ≤ a) (h2 : a < s0 + s) (h3 : bs a = a) (hj : j < blk hs (src a)) : (¬ isH (hs (vn (src a) + j)) → d (a + j) = hs (vn (src a) + j)) ∧ (isH (hs (vn (src a) + j)) → so (d (a + j)) = so (hs (vn (src a) + j)) ∧ ∃ b, va (d (a + j)) = ((b : Nat) : Int) ∧ s0 ≤ b ∧ b < s0 + s ∧ bs b = b ∧ src b = hs (vn (src a) + j)) ∧ a + blk hs (src a) ≤ s0 + s ∧ bs (a + j) = a := by
  obtain ⟨-, c2, c3⟩ := c
  obtain ⟨-, -, -, -, -, -, k6, k7⟩ := c2 a h1 h2
  rw [h3] at k6 k7
  have kb := k7 j hj
  have ex : xcO hs src bs (a + j) = hs (vn (src a) + j) := by
    unfold xcO
    rw [kb, Nat.add_sub_cancel_left]
  obtain ⟨q1, q2⟩ := c3 (a + j) (by omega) (by omega)
  rw [ex] at q1 q2
  exact ⟨q1, fun z => (q2 z).2 (by omega), k6, kb⟩
/-- a copied block of the reference -/
theorem cpi_cell (i : CPI hs' n' ow' kd' Fv' P' f s0' g (s0' + s) 0 (s0' + s) 0 sk at' cc st src' oo) {c j : Nat} (hk : st c) (hj : j < blk hs' (src' c)) : (j < prt (src' c) → g (c + j) = hs' (vn (src' c) + j)) ∧ (prt (src' c) ≤ j → DST st src' (g (c + j)) (hs' (vn (src' c) + j))) := by
  obtain ⟨-, r2, r3, -, -, r6⟩ := i.2.2.1 c hk
  have bp := blk_pos (h := hs') r3
  obtain ⟨y1, y2⟩ := r6 j hj (fun z => by omega)
  refine ⟨y1, fun z => ?_⟩
  rcases y2 z with ⟨q, q1, -⟩ | y2
  · omega
  · exact y2
theorem cpi_blk (i : CPI hs' n' ow' kd' Fv' P' f s0' g (s0' + s) 0 (s0' + s) 0 sk at' cc st src' oo) {c : Nat} {y : Int64} (hk : st c) (e1 : so y = so (src' c)) (e2 : vn y = c) : blk g y = blk hs' (src' c) := by
  obtain ⟨-, -, r3, -⟩ := i.2.2.1 c hk
  have bp := blk_pos (h := hs') r3
  unfold blk
  rw [e1, e2]
  rcases r3 with e | e | e
  · have := (cpi_cell i hk (j := 1) (by unfold blk; rw [e]; simp; omega)).1 (by unfold prt; rw [e]; decide)
    rw [e]; simp
    rw [this]
  · have := (cpi_cell i hk (j := 0) bp).1 (by unfold prt; rw [e]; decide)
    rw [show c + 0 = c from rfl, show vn (src' c) + 0 = vn (src' c) from rfl] at this
    rw [e]; simp
    rw [this]
  · rw [e]; simp
theorem copy_iso (sS : ISw bS hs ns hs' ns') (gS : HPc hs n ow kd Fv P) (hF : FVc Fv) (sD : ISb bD d0 s0 d0' s0') (z : isH t) (rt : RTb bS t x) (hl : s0 + s ≤ 1000 ∧ s0' + s ≤ 1000) (c : CPXc hs n ow kd P d s0 s t r) (hd : ∀ i, i < s0 → d i = d0 i)
    (i : CPI hs' n' ow' kd' Fv' P' f s0' g (s0' + s) 0 (s0' + s) 0 sk at' cc st src' oo) (uq : UQI hs' s0' g (s0' + s) 0 (s0' + s) 0 at' st src') (ir : st s0' ∧ src' s0' = x) (er : so r' = so x ∧ vn r' = s0' ∧ 0 ≤ va r') (hg : ∀ i, i < s0' → g i = d0' i) : ∃ b2, (∀ k a c, bD k a c → b2 k a c) ∧ (∀ k a e, b2 k a e → bD k a e ∨ (s0 ≤ a ∧ s0' ≤ e)) ∧ ISb b2 d (s0 + s) g (s0' + s) ∧ RTb b2 r r' := by
  obtain ⟨src, bs, cp, pt, sp, c1, c2, c3, c4⟩ := c
  have zx := (RTb_isH rt).mpr z
  -- what holds of two that were met on the same way
  have inv : ∀ k a e, bnC d g (so t) s0 s0' k a e → (k = so (src a) ∧ (s0 ≤ a ∧ a < s0 + s ∧ bs a = a)) ∧ st e ∧ isH (src a) ∧ RTb bS (src a) (src' e) := by
    intro k a e b
    refine b (fun k a e => (k = so (src a) ∧ (s0 ≤ a ∧ a < s0 + s ∧ bs a = a)) ∧ st e ∧ isH (src a) ∧ RTb bS (src a) (src' e)) ⟨⟨by rw [c2], Nat.le_refl _, by omega, c1⟩, ir.1, by rw [c2]; exact z, by rw [c2, ir.2]; exact rt⟩ ?_
    intro k a e j ⟨⟨q0, q1, q2, q3⟩, q4, q5, q6⟩ h1 h2 zd
    have hm := mk_v (k := k) (a := a) (by omega)
    have hk : so (mk k ((a : Nat) : Int)) = so (src a) := by rw [so_mk (by unfold isH at q5; omega) (by unfold isH at q5; omega)]; exact q0
    rw [prt_so hk] at h1
    rw [cpc_blk gS hF cp q1 q2 q3 hk hm.1] at h2
    obtain ⟨y1, y2, y3, y4⟩ := cpc_cell cp q1 q2 q3 h2
    have zc : isH (hs (vn (src a) + j)) := by
      by_cases zz : isH (hs (vn (src a) + j))
      · exact zz
      · rw [y1 zz] at zd; exact zd
    obtain ⟨y5, b1, y6, y7, y8, y9, y10⟩ := y2 zc
    obtain ⟨⟨e1, -⟩, e2, -⟩ := sS.1 _ _ q5 q6
    have rp := e2 j h1 h2
    have ds := (cpi_cell i q4 (j := j) (by rw [e1]; exact h2)).2 (by rw [RTb_prt q6]; exact h1)
    have zp := (RTb_isH rp).mpr zc
    rcases ds with ⟨w1, -⟩ | ⟨-, w2, w3, w4, w5⟩
    · exact absurd zp w1
    have eb : vn (d (a + j)) = b1 := by unfold vn; rw [y6]; omega
    rw [eb]
    exact ⟨⟨by rw [y5, y10], y7, y8, y9⟩, w4, by rw [y10]; exact zc, by rw [y10, w5]; exact rp⟩
  have blkd : ∀ {k : Int} {a e : Nat} {y : Int64}, bnC d g (so t) s0 s0' k a e → so y = k → 0 ≤ va y → vn y = a → blk d y = blk hs (src a) := fun {k a e y} b e1 e2 e3 => by
    obtain ⟨⟨q0, q1, q2, q3⟩, -⟩ := inv k a e b
    exact cpc_blk gS hF cp q1 q2 q3 (by rw [e1, q0]) (by rw [vn_e e2, e3])
  have cell : ∀ {k : Int} {a e j : Nat}, bnC d g (so t) s0 s0' k a e → prt (mk k ((a : Nat) : Int)) ≤ j → j < blk d (mk k ((a : Nat) : Int)) → isH (d (a + j)) → (prt (src' e) ≤ j ∧ j < blk hs' (src' e) ∧ isH (hs' (vn (src' e) + j))) ∧ j < blk hs (src a) ∧ bs (a + j) = a ∧ s0 ≤ a ∧ a + j < s0 + s := fun {k a e j} b h1 h2 zd => by
    obtain ⟨⟨q0, q1, q2, q3⟩, q4, q5, q6⟩ := inv k a e b
    have hm := mk_v (k := k) (a := a) (by omega)
    have hk : so (mk k ((a : Nat) : Int)) = so (src a) := by rw [so_mk (by unfold isH at q5; omega) (by unfold isH at q5; omega)]; exact q0
    rw [prt_so hk] at h1
    rw [cpc_blk gS hF cp q1 q2 q3 hk hm.1] at h2
    obtain ⟨y1, y2, y3, y4⟩ := cpc_cell cp q1 q2 q3 h2
    obtain ⟨⟨e1, -⟩, e2, -⟩ := sS.1 _ _ q5 q6
    have zc : isH (hs (vn (src a) + j)) := by
      by_cases zz : isH (hs (vn (src a) + j))
      · exact zz
      · rw [y1 zz] at zd; exact zd
    exact ⟨⟨by rw [RTb_prt q6]; exact h1, by rw [e1]; exact h2, (RTb_isH (e2 j h1 h2)).mpr zc⟩, h2, y4, q1, by omega⟩
  have dne : ∀ {e j : Nat}, st e → prt (src' e) ≤ j → j < blk hs' (src' e) → isH (hs' (vn (src' e) + j)) → DNE hs' 0 (s0' + s) 0 at' st src' e j := fun {e j} h1 h2 h3 h4 => ⟨h1, h2, h3, fun w => by have := CPI_lt i h1; omega, h4, fun q hq => absurd hq (Nat.not_lt_zero _)⟩
  -- one place there, one here
  have jl : ∀ a k e l e2, bnC d g (so t) s0 s0' k a e → bnC d g (so t) s0 s0' l a e2 → e = e2 := by
    intro a
    induction a using Nat.strongRecOn with
    | ind a ih =>
      intro k e l e2 b1 b2
      rcases bnC_inv b1 with ⟨-, x1, x2⟩ | ⟨k3, a3, e3, j3, b3, p1, p2, p3, p4, p5, p6⟩
      · rcases bnC_inv b2 with ⟨-, y1, y2⟩ | ⟨k4, a4, e4, j4, b4, r1, r2, r3, r4, r5, r6⟩
        · rw [x2, y2]
        · obtain ⟨-, w2, w3, w4, w5⟩ := cell b4 r1 r2 r3
          have := pt.1 (a4 + j4) (by omega) w5 r3
          omega
      · obtain ⟨-, v2, v3, v4, v5⟩ := cell b3 p1 p2 p3
        have v6 := pt.1 (a3 + j3) (by omega) v5 p3
        rcases bnC_inv b2 with ⟨-, y1, y2⟩ | ⟨k4, a4, e4, j4, b4, r1, r2, r3, r4, r5, r6⟩
        · omega
        · obtain ⟨-, w2, w3, w4, w5⟩ := cell b4 r1 r2 r3
          have ec : a3 + j3 = a4 + j4 := by
            rcases Nat.lt_trichotomy (a3 + j3) (a4 + j4) with q | q | q
            · have := pt.2.1 (a3 + j3) (a4 + j4) (by omega) q w5 p3 r3
              omega
            · exact q
            · have := pt.2.1 (a4 + j4) (a3 + j3) (by omega) q v5 r3 p3
              omega
          have ea : a3 = a4 := by rw [← v3, ec, w3]
          subst ea
          have ej : j3 = j4 := by omega
          subst ej
          have := ih a3 (by omega) k3 e3 k4 e4 b3 b4
          subst this
          rw [p6, r6]
  have jr : ∀ e k a l a2, bnC d g (so t) s0 s0' k a e → bnC d g (so t) s0 s0' l a2 e → a = a2 := by
    intro e
    induction e using Nat.strongRecOn with
    | ind e ih =>
      intro k a l a2 b1 b2
      rcases bnC_inv b1 with ⟨-, x1, x2⟩ | ⟨k3, a3, e3, j3, b3, p1, p2, p3, p4, p5, p6⟩
      · rcases bnC_inv b2 with ⟨-, y1, y2⟩ | ⟨k4, a4, e4, j4, b4, r1, r2, r3, r4, r5, r6⟩
        · rw [x1, y1]
        · obtain ⟨⟨w1, w2, w3⟩, -⟩ := cell b4 r1 r2 r3
          have s4 := (inv k4 a4 e4 b4).2.1
          have := uq.1 e4 j4 (dne s4 w1 w2 w3)
          have := (i.2.2.1 e4 s4).1
          omega
      · obtain ⟨⟨v1, v2, v3⟩, -⟩ := cell b3 p1 p2 p3
        have s3 := (inv k3 a3 e3 b3).2.1
        have v6 := uq.1 e3 j3 (dne s3 v1 v2 v3)
        have v7 := (i.2.2.1 e3 s3).1
        rcases bnC_inv b2 with ⟨-, y1, y2⟩ | ⟨k4, a4, e4, j4, b4, r1, r2, r3, r4, r5, r6⟩
        · omega
        · obtain ⟨⟨w1, w2, w3⟩, -⟩ := cell b4 r1 r2 r3
          have s4 := (inv k4 a4 e4 b4).2.1
          obtain ⟨ee, ej⟩ := uq.2.1 e3 j3 e4 j4 (dne s3 v1 v2 v3) (dne s4 w1 w2 w3) (by rw [← p6, ← r6])
          subst ee
          subst ej
          have := ih e3 (by omega) k3 a3 k4 a4 b3 b4
          subst this
          rw [p5, r5]
  refine ⟨fun k a e => bD k a e ∨ bnC d g (so t) s0 s0' k a e, fun _ _ _ => Or.inl, fun k a e q => q.imp id (fun b => by
    obtain ⟨⟨-, q1, -⟩, q4, -⟩ := inv k a e b
    exact ⟨q1, (i.2.2.1 e q4).1⟩), ISb_ext sD (by omega) (by omega) hd hg (fun k a e b => ?_) (fun k l a e a2 e2 b1 b2 => ⟨fun q => ?_, fun q => ?_⟩) (fun y y' zy es v1 v2 b => ?_), ?_⟩
  · obtain ⟨⟨q0, q1, q2, q3⟩, q4, q5, q6⟩ := inv k a e b
    have := CPI_lt i q4
    have := (i.2.2.1 e q4).1
    exact ⟨by rw [q0]; exact q5, by omega, by omega⟩
  · subst q; exact jl a k e l e2 b1 b2
  · subst q; exact jr e k a l a2 b1 b2
  · obtain ⟨⟨q0, q1, q2, q3⟩, q4, q5, q6⟩ := inv _ _ _ b
    have g1 := blkd b rfl v1 rfl
    have g2 := cpi_blk i (y := y') q4 (by rw [es, q0, RTb_so q6]) rfl
    obtain ⟨⟨e1, -⟩, e2, e3⟩ := sS.1 _ _ q5 q6
    have hb := (i.2.2.1 _ q4).2.1
    have py : prt y = prt (src (vn y)) := prt_so q0
    have bp := blk_pos (h := hs) q5
    have kb := (cpc_cell cp q1 q2 q3 (j := 0) bp).2.2.1
    refine ⟨⟨by rw [g1, g2, e1], by omega, by omega⟩, fun j h1 h2 => ?_, fun e => ?_⟩
    · rw [py] at h1
      rw [g1] at h2
      obtain ⟨y1, y2, y3, y4⟩ := cpc_cell cp q1 q2 q3 h2
      have rp := e2 j h1 h2
      have ds := (cpi_cell i q4 (j := j) (by rw [e1]; exact h2)).2 (by rw [RTb_prt q6]; exact h1)
      by_cases zc : isH (hs (vn (src (vn y)) + j))
      · obtain ⟨y5, b1, y6, y7, y8, y9, y10⟩ := y2 zc
        have zp := (RTb_isH rp).mpr zc
        rcases ds with ⟨w1, -⟩ | ⟨-, w2, w3, w4, w5⟩
        · exact absurd zp w1
        have zd : isH (d (vn y + j)) := by unfold isH; rw [y5]; exact zc
        have hm := mk_v (k := so y) (a := vn y) (by omega)
        have hk : so (mk (so y) ((vn y : Nat) : Int)) = so y := so_mk (so_r y).1 (so_r y).2
        refine Or.inr ⟨zd, by rw [w2, RTb_so rp, y5], ⟨by omega, w3⟩, Or.inr (bnC_s b ?_ ?_ zd)⟩
        · rw [prt_so hk, py]; exact h1
        · rw [blkd b hk (by omega) hm.2]; exact h2
      · rw [y1 zc]
        have ez := RTb_n rp zc
        rcases ds with ⟨w1, w2⟩ | ⟨w1, -⟩
        · rw [w2, ez]
          exact RTb_lit zc (RTb_nil rp)
        · exact absurd ((RTb_isH rp).mp w1) zc
    · have e30 : so (src (vn y)) = 3 := by rw [← q0]; exact e
      obtain ⟨-, -, -, -, gt, -⟩ := cp.2.1 (vn y) q1 q2
      rw [q3] at gt
      have bk := (HP_bkc gS q5 gt).1
      have nh : ¬ isH (hs (vn (src (vn y)) + 0)) := head_nh bk q5 hF.1 (by unfold prt; rw [e30]; decide)
      have y1 : d (vn y) = hs (vn (src (vn y))) := (cpc_cell cp q1 q2 q3 (j := 0) bp).1 nh
      have y2 : g (vn y') = hs' (vn (src' (vn y'))) := (cpi_cell i q4 (j := 0) (by rw [e1]; exact bp)).1 (by unfold prt; rw [RTb_so q6, e30]; decide)
      rw [y1, y2]
      exact e3 e30
  · have er2 : vn r = s0 := by unfold vn; rw [c4]; omega
    refine Or.inr ⟨by unfold isH; rw [c3]; exact z, by rw [er.1, c3, RTb_so rt], ⟨by omega, er.2.2⟩, Or.inr ?_⟩
    rw [c3, er2, er.2.1]
    exact bnC_0
end
