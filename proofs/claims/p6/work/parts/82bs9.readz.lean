set_option maxRecDepth 100000
section
variable {u : CS} {m w m2 w2 : MS} {N : Nat} {c : Nat → Nat} {r s : Int32}
theorem nrB_id {x : Int32} (h : -128 ≤ x.toInt ∧ x.toInt ≤ 127) : nrB x = x := by
  rw [nrB_eq]
  apply Int32.toInt_inj.mp
  rw [Int8.toInt_toInt32, Int32.toInt_toInt8]
  exact Int.bmod_eq_of_le (by omega) (by omega)
theorem nrB_fit {x : Int32} (h : fits .byte (.int x) = true) : nrB x = x := by
  have e : (decide (-128 ≤ x) && decide (x ≤ 127)) = true := h
  rw [Bool.and_eq_true] at e
  have a1 : -128 ≤ x.toInt := Int32.le_iff_toInt_le.mp (of_decide_eq_true e.1)
  have a2 : x.toInt ≤ 127 := Int32.le_iff_toInt_le.mp (of_decide_eq_true e.2)
  exact nrB_id ⟨a1, a2⟩
theorem read_e1 {m9 : MS} (e : hm_To_scanAll N m = some (m9, ())) : hm_H_read N m = bnd (hm_Pa_parse N m9) (fun u12 r12 => rdC N u12 r12) := by
  unfold hm_H_read hb_H_read_0
  rw [e, bnd_s]
  rfl
theorem read_e2 {w13 : MS} (e : fm_M_readTokens N (rdS w) = some (w13, ())) : fm_M_read N w = bnd (fm_M_program N w13) (fun u14 _ => rdE N u14) := by
  have h : fm_M_read N w = bnd (fm_M_readTokens N (rdS w)) (fun u13 _ => bnd (fm_M_program N u13) (fun u14 _ => rdE N u14)) := rfl
  rw [h, e, bnd_s]
theorem read_z (hN : 1000000000000000 ≤ N) (R : RP none c m u) (i1 : INVc m) (i2 : INV w) (z : RZf m w) (ec : hm_H_read N m = some (m2, r)) (ew : fm_M_read N w = some (w2, s)) : RZf m2 w2 := by
  obtain ⟨z1, z2, z3, z4, z5⟩ := z
  have h5 := i2.1
  obtain ⟨byt, tbs, tb0, k44, k49⟩ := i2.2.1
  have sta := i1.1
  have f0 := rdS_FR (u := w)
  have s0 : ∀ k, k ∈ [3, 86, 87, 67, 72, 71, 83, 75, 77, 65] → F (rdS w) k = 0 := fun k hk => rdS_0 hk
  have v5 : F (rdS w) 5 = F w 5 := f0.F (by decide)
  have vA : ∀ k, k ∉ [60, 63] → (rdS w).2.2.1 k = w.2.2.1 k := fun k hk => f0.2.2.1 k hk
  obtain ⟨k, hk⟩ : ∃ k : Nat, F m 81 = ((k : Nat) : Int) := ⟨(F m 81).toNat, by omega⟩
  have k4 : k ≤ 4000 := by omega
  have tt : TT u (rdS w) k := by
    refine ⟨?_, ?_, fun j hj => ?_⟩
    · rw [R.1.2.1 4 1 (by decide) (by decide), I_F' (k := 81) hk]; exact oI.symm
    · rw [I_F' (k := 5) (v5.trans (z1.symm.trans hk))]; exact oI.symm
    · rw [R.1.2.2.2.1 5 (by decide), vA 4 (by decide)]
      exact z2 j (by omega)
  have tp : TP u (rdS w) := TP_RS R.1 (TPf_k z3 rfl (fun _ _ => rfl) (fun j hj => vA j (by revert hj; simp only [List.mem_cons, List.not_mem_nil, or_false]; omega)))
  have bu : bytB (AI u 5) := fun j hj => by rw [R.1.2.2.2.1 5 (by decide)]; exact nrB_fit (sta.1.2.1 j hj)
  have bw : bytB ((rdS w).2.2.1 4) := fun j _ => by rw [vA 4 (by decide)]; exact nrB_id (byt j)
  obtain ⟨u2, w13, n, bad, e1, e2, toks, nk, frC, frM⟩ := tokens_both (N := N) R.1.1 tt k4 bu bw tp (by omega)
  obtain ⟨m9, x9, e9, f9, c9, r9, cc, ps, tks⟩ := scanAll_ok (N := N) sta.1 sta.2.1 (by omega)
  cases x9
  obtain ⟨c2, u2', a9, e9', R9, -, -⟩ := ym_To_scanAll (N := N) R m9 () e9
  have eu : u2' = u2 := by
    rw [e1] at e9'
    injection e9' with e9'
    injection e9' with e9' _
    exact e9'.symm
  subst eu
  have ts1 : TBS (rdS w) := ⟨fun i hi => by rw [f0.A (by decide)]; exact tbs.1 i hi, fun k hk => by rw [f0.A (by decide)]; exact tbs.2.1 k hk, ⟨fun k hk => by rw [f0.A (by decide)]; exact tbs.2.2.1.1 k hk, fun k hk => by rw [f0.A (by decide)]; exact tbs.2.2.1.2 k hk⟩, fun k hk => by rw [f0.A (k := 2) (by decide), f0.A (k := 2) (by decide)]; exact tbs.2.2.2 k hk⟩
  have z01 : TB0 (rdS w) := ⟨by rw [f0.A (by decide)]; exact tb0.1, by rw [f0.A (by decide)]; exact tb0.2.1, by rw [f0.A (by decide)]; exact tb0.2.2⟩
  have rt : RTQ (rdS w) w13 := by
    obtain ⟨w', r', e', q⟩ := readTokens_ok (N := N) (by omega) (by omega) (fun i => by rw [f0.A (by decide)]; exact byt i) ts1 z01
    rw [e2] at e'
    injection e' with e'
    injection e' with e' _
    rw [e']
    exact q
  obtain ⟨f1, zw, aw, w22, TN, SN, bwf, tk, w9, stw⟩ := rt
  have wF : ∀ k, k ∈ [3, 86, 87, 67, 72, 71, 83, 75, 77, 65] → F w13 k = 0 := fun k hk => by
    have : ∀ k, k ∈ [3, 86, 87, 67, 72, 71, 83, 75, 77, 65] → k ∉ [9, 10, 11, 14, 17, 20] := by decide
    rw [f1.F (this k hk)]; exact s0 k hk
  have w0 : ∀ k, k ∈ [3, 86, 87, 67, 72, 71, 83, 75, 77, 65] → w13.1 k = 0 := fun k hk => I_F' (wF k hk)
  have tbw : TBL w13 := fun k hk => by rw [f1.A (k := 2) (by decide), f1.A (k := 2) (by decide)]; exact ts1.2.2.2 k hk
  have k44w : K44 w13 := fun i => by rw [f1.A (by decide), f0.A (by decide)]; exact k44 i
  have k49w : K49 w13 := fun i => by rw [f1.A (by decide), f0.A (by decide)]; exact k49 i
  obtain ⟨cz, ca, kT, k2, hln⟩ := tk_of R9.1 toks tk.2.2.1.2.1
  have at9 : ATf m9 w13 n.fa n.na := by
    obtain ⟨⟨a1, a2, a3, a4, a5⟩, ⟨b1, b2, b3, b4, b5⟩, b6, b7⟩ := toks.atm
    refine ⟨⟨?_, fun j hj => ?_, a3, a4, a5⟩, ⟨b6.trans oI, fun j hj => (b4 j hj).trans oI⟩, fun j hj => ?_⟩
    · have := R9.1.2.1 1 2 (by decide) (by decide)
      rw [a1] at this
      exact this.symm.trans oI
    · rw [← R9.1.2.2.2.1 3 (by decide)]; exact (a2 j hj).trans oI
    · rw [← R9.1.2.2.2.1 2 (by decide)]; exact b7 j hj
  have c36 : CW36 m9 := CW36_k z4 (f9.1 722 (by decide)) (f9.2.2.1 37 (by decide)) (f9.2.2.1 38 (by decide))
  have s9 : STA m9 := STA_fr sta f9 c9 (WR0_of r9) (fun j hj => by rw [FRc_A f9 (by simp), FRc_A f9 (by simp)]; exact sta.2.2.2.1 j hj) (by simp) (by simp)
  have F14 : F w13 14 = ((n.na : Nat) : Int) := by
    have := at9.1.2.2.2.2
    unfold F
    rw [at9.2.1.1]
    exact I_ti (by omega) (by omega)
  have m85 : m9.1 85 = I (n.i : Nat) := by
    have := R9.1.2.1 4 5 (by decide) (by decide)
    rw [toks.iu] at this
    exact this.symm.trans oI
  have na21 := at9.1.2.2.2.2
  have th : TKH N m9 w13 (fun p => (m9.2.2.1 6 p).toNatClampNeg) n.i (nmQ n.q) (fun p => (w13.2.2.1 7 p).toNatClampNeg) (fun x y => cl36 (ix36 m9 n.fa x.toNatClampNeg) y) := by
    have pdf : ∀ a : Nat, a < n.na → ∀ y, PDF N m9 w13 (I (a : Nat)) y (cl36 (ix36 m9 n.fa (I (a : Nat)).toNatClampNeg) y) := fun a ha y => by
      rw [tnI (n := a) rfl (by omega)]
      exact pdf_all (by omega) c36 at9 s9.2.2.1 r9.1.1 toks.co.2.2.2.2.2.2.2 ha
    refine ⟨cz, ca, fun j hj h2 a ha => ?_, fun a ha y => pdf a (by omega) y, at9.1.1.trans at9.2.1.1.symm, fun h0 => ?_, m85⟩
    · obtain ⟨r, hr, e⟩ := k2 j hj h2
      rw [e]
      exact pdf r hr _
    · have h0 : (m9.2.2.1 6 n.i).toNatClampNeg = 0 := h0
      rw [h0] at kT
      have bf : bad = false := by
        cases bad
        · rfl
        · exact absurd kT (by decide)
      have e9w : w13.1 9 = I (n.i : Nat) := by rw [toks.m9, bf]; exact oI
      rw [m85, e9w]
  have ccE : cc = n.i := by
    have a := tks.1.1
    have b : F m9 85 = ((n.i : Nat) : Int) := by
      have := toks.ik
      have := toks.k4
      unfold F
      rw [m85]
      exact I_ti (by omega) (by omega)
    omega
  subst ccE
  have tkk : TKKc m9 n.i := ⟨tks.1.2, tks.2.1, fun t ht => by
    obtain ⟨k, k1, k2⟩ := tks.2.2.2.2 t ht
    have := k2.1
    omega⟩
  have pkC := pk_ok (parse_okc (N := N) tkk (by omega))
  have fr12 : ∀ {m12 : MS}, KPH (wi m9 441 1) m12 → FR [441, 306, 442, 449, 664, 665, 666, 667] [] [16, 17, 18, 19, 20, 21, 24, 25, 26, 27, 28, 34] [] m9 m12 := fun kp => FR.tr (FR.wi FR.rf (by simp)) (FR.mo kp (by simp) (by simp) (by simp) (by simp))
  have k1 : ∀ {m12 : MS}, KPH (wi m9 441 1) m12 → (∀ k, k < 300 → m12.1 k = m9.1 k) ∧ (∀ k, k < 15 ∨ (36 ≤ k ∧ k ≤ 38) → m12.2.2.1 k = m9.2.2.1 k) ∧ ∀ k, 720 ≤ k → k < 740 → m12.1 k = m9.1 k := fun kp => by
    have f := fr12 kp
    exact ⟨fun k hk => f.1 k (by simp only [List.mem_cons, List.not_mem_nil, or_false]; omega), fun k hk => f.2.2.1 k (by simp only [List.mem_cons, List.not_mem_nil, or_false]; omega), fun k h1 h2 => f.1 k (by simp only [List.mem_cons, List.not_mem_nil, or_false]; omega)⟩
  have k2w : ∀ {w14 : MS}, PRO w13 w14 → ((∀ k, k ∈ [9, 10, 11, 14, 17, 20] → w14.1 k = w13.1 k) ∧ ∀ k, k ∈ TRW → w14.2.2.1 k = w13.2.2.1 k) ∧ w14.1 86 = 0 := fun f => by
    have h1 : ∀ k, k ∈ [9, 10, 11, 14, 17, 20] → k ∉ PfJ := by decide
    have h2 : ∀ k, k ∈ TRW → k ∉ PfB := by decide
    exact ⟨⟨fun k hk => f.1 k (h1 k hk), fun k hk => f.2.2.1 k (h2 k hk)⟩, by rw [f.1 86 (by decide)]; exact w0 86 (by decide)⟩
  have main : PP (RDZ m9 w13) (hm_H_read N m) (fm_M_read N w) := by
    rw [read_e1 e9, read_e2 e2]
    by_cases hb : bad = true
    · 
      rw [if_pos hb] at kT
      have a7 : A w13 6 n.i = 7 := by
        show (w13.2.2.1 6 n.i).toInt = 7
        rw [toks.m6, if_pos hb]; rfl
      have hTN : n.i < TN := by
        have e : w13.1 9 = I ((n.i + 1 : Nat) : Int) := by rw [toks.m9, if_pos hb]; exact oI
        have e3 : F w13 9 = ((n.i + 1 : Nat) : Int) := by
          have := toks.ik
          have := toks.k4
          unfold F
          rw [e]
          exact I_ti (by omega) (by omega)
        omega
      have pw := pk_ok (prog_bad (N := N) (by omega) tk hTN a7 (wF 67 (by decide)) tbw aw ⟨wF 75 (by decide), wF 77 (by decide), wF 83 (by decide)⟩ (by rw [wF 71 (by decide)]; omega) k44w k49w)
      refine pp_bb (fun m12 r12 w14 r14 x1 x2 => ?_)
      obtain ⟨kp, hp⟩ := pkC m12 r12 x1
      obtain ⟨pr, f67⟩ := pw w14 r14 x2
      refine rd_flt (fun e => ?_) (fun e => f67 (by show (w14.1 67).toInt = 0; rw [e]; rfl)) (k1 kp) (k2w pr).1 (k2w pr).2
      have := (hp e).1
      have e6 : A m12 6 n.i = A m9 6 n.i := FRc_A (fr12 kp) (by simp)
      have : (m9.2.2.1 6 n.i).toInt = 0 := by rw [e6] at this; exact this
      rw [show m9.2.2.1 6 n.i = I ((45 : Nat) : Int) from by have := cz.1.2 n.i (Nat.le_refl _); rw [show ((fun p => (m9.2.2.1 6 p).toNatClampNeg) n.i) = 45 from kT] at this; exact this] at this
      exact absurd this (by decide)
    · have hb : bad = false := by
        cases bad
        · rfl
        · exact absurd rfl hb
      rw [if_neg (by rw [hb]; decide)] at kT
      have pw := pk_ok (program_ok (N := N) (bw := bwf) (by omega) tk.1.1 (fun _ => tk) tbw aw ⟨wF 75 (by decide), wF 77 (by decide), wF 83 (by decide)⟩ (by rw [wF 71 (by decide)]; omega) k44w k49w)
      have base := prs_pp th kT (w0 67 (by decide)) (w0 72 (by decide)) (w0 75 (by decide))
      refine pp_bb (fun m12 r12 w14 r14 x1 x2 => ?_)
      obtain ⟨kp, hp⟩ := pkC m12 r12 x1
      have hy := pw w14 r14 x2
      have pr : PRO w13 w14 := by
        rcases hy with ⟨G, hG, h, -⟩ | h
        · exact h.1
        · exact h.1
      rcases base m12 r12 w14 r14 x1 x2 with ⟨b1, b2⟩ | ⟨b1, b2, g, p, n', D, b3⟩
      · exact rd_flt b1 b2 (k1 kp) (k2w pr).1 (k2w pr).2
      · subst b1
        have p4 := b3.1.1.2.2.2.2.1
        have i4 := cz.1.1.1
        obtain ⟨A6, G, n3, q, hG, pfi⟩ := hp rfl
        have f12 := fr12 kp
        have c12 : CST m12 := CST_fr f12 c9 (by simp) (by simp) (by simp) (by simp)
        have r12w : WRS m12 := WRS_fr f12 r9 (by simp) (by simp) (by simp) (by simp)
        have s12 : STA m12 := STA_fr s9 f12 c12 (WR0_of r12w) (fun j hj => by rw [FRc_A f12 (by simp), FRc_A f12 (by simp)]; exact s9.2.2.2.1 j hj) (by simp) (by simp)
        have tk12 : TKS m12 n.i ps := TKS_fr f12 tks (by simp) (by simp)
        have e441 : F m12 441 = 1 := by
          rw [show F m12 441 = F (wi m9 441 1) 441 from congrArg _ (kp.1 441 (by simp)), F_wi (by decide) (by decide), if_pos rfl]
        have cac := pk_mo (pk_ok (cmpC_ok (N := N) (by omega) s12 c12 r12w tk12 e441 pfi)) (fun v r q => CAC_of q)
        refine rd_ok (by omega) th kT b3 (by have := b3.1.2.1; omega) b2 (k2w pr).2 (w0 72 (by decide)) hln (fun i hi h12 => ?_) cac
        rcases hy with ⟨G2, hG2, h, -⟩ | h
        · obtain ⟨g1, g2, ⟨p', n'', q', c', f', h', g3, g4, g5⟩, g6, g7⟩ := h
          have ngd := g3.2.2.2.1 i hi
          have e14 : F w14 14 = F w13 14 := pr.F (by decide)
          have := ngd.2.2 h12
          rw [e14] at this
          exact this
        · exact absurd (show F w14 67 = 0 by unfold F; rw [b2]; rfl) h.2.1
  obtain ⟨d1, ⟨d2, d3, d4⟩, d5, d6⟩ := main m2 r w2 s ec ew
  have tp9 : TPf m9 w13 := TPf_of R9.1 (TP_of toks.toTB)
  have m81 : m2.1 81 = 0 := read_c m2 r ec
  have w5 : w2.1 5 = 0 := read_m w2 s ew
  have F81 : F m2 81 = 0 := by unfold F; rw [m81]; rfl
  refine ⟨?_, fun j hj => absurd hj (by omega), TPf_k tp9 (d2 182 (by decide) (by decide) (by decide)) (fun k hk => d3 k (by revert hk; simp only [List.mem_cons, List.not_mem_nil, or_false]; omega)) (fun k hk => d6 k (by revert hk; simp only [List.mem_cons, List.not_mem_nil, or_false]; rintro (rfl | rfl | rfl | rfl | rfl | rfl | rfl | rfl) <;> decide)), CW36_k c36 (d4 722 (by decide) (by decide)) (d3 37 (by omega)) (d3 38 (by omega)), ?_⟩
  · rw [F81]
    unfold F
    rw [w5]
    rfl
  · rcases d1 with d1 | ⟨g1, g2, g3⟩
    · exact Or.inl d1
    · exact Or.inr ⟨g1, g2, g3, n.fa, n.na, ATf_k at9 (d2 22 (by decide) (by decide) (by decide)) (d3 2 (by omega)) (d3 3 (by omega)) (d5 14 (by decide)) (d6 12 (by decide)) (d6 13 (by decide))⟩
end
