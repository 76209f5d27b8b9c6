/-! read(): the tables, where a text is taken -/
set_option maxRecDepth 100000
section
variable {u : CS} {m w m2 w2 : MS} {N : Nat} {c : Nat → Nat} {r s : Int32}
theorem bnd_sm {α β : Type} {x : Option (MS × α)} {f : MS → α → Option β} {r : β} (h : bnd x f = some r) : ∃ u v, x = some (u, v) ∧ f u v = some r := by
  cases x with
  | none => cases h
  | some x => exact ⟨x.1, x.2, rfl, h⟩
theorem cvX_r {m : MS} {fa : Nat → Nat} {na g : Nat} {x y : Int} (hg : g ≤ 666) : (-1 ≤ cvX m fa na g x y ∧ cvX m fa na g x y < 2030) ∧ (-1 ≤ fofX m g x y ∧ fofX m g x y < 2000) := by
  have f1 : -1 ≤ fofX m g x y ∧ fofX m g x y < 2000 := by
    have := fix_r (p := m.2.2.1 24) (q := m.2.2.1 25) (x := I x) (y := I y) (d := g) (j := 0)
    unfold fofX
    rcases this with e | ⟨i, e, -, hi⟩
    · rw [e]; omega
    · rw [e]; omega
  refine ⟨?_, f1⟩
  unfold cvX
  by_cases z : idX m fa na x y = -1
  · rw [if_pos z]; omega
  · rw [if_neg z]
    have i1 := id36_r (y := I y) (o := ixI m fa na (I x)) (fun i e => ixI_lt e)
    have i2 : 0 ≤ idX m fa na x y ∧ idX m fa na x y < 30 := i1.resolve_left z
    have := p36_r i2
    omega
/-- read() -/
theorem read_t (hN : 1000000000000000 ≤ N) (R : RP none c m u) (i1 : INVc m) (i2 : INV w) (z : RZf m w) (ec : hm_H_read N m = some (m2, r)) (ew : fm_M_read N w = some (w2, s)) (h10 : m2.1 10 = 1) : (FTs m2 w2 ∧ FAr m2 w2 ∧ FUs m2 w2) ∧ F m2 442 = F w2 52 ∧ (ATM w2 ∧ 22 ≤ F w2 14 ∧ ∀ j, j ≤ 22 → A w2 13 j = ((fa0 j : Nat) : Int)) ∧ m2.1 85 = w2.1 9 := by
  have z86 : w2.1 86 = 1 := by
    rcases (read_z hN R i1 i2 z ec ew).2.2.2.2 with q | q
    · rw [q.1] at h10; exact absurd h10 (by decide)
    · exact q.2.1
  obtain ⟨z1, z2, z3, z4, z5⟩ := z
  have h5 := i2.1
  obtain ⟨byt, tbs, tb0, k44, k49⟩ := i2.2.1
  have sta := i1.1
  -- the tape
  have f0 := rdS_FR (u := w)
  have s0 : ∀ k, k ∈ [3, 86, 87, 67, 72, 71, 83, 75, 77, 65] → F (rdS w) k = 0 := fun k hk => rdS_0 hk
  have v5 : F (rdS w) 5 = F w 5 := f0.F (by decide)
  have vA : ∀ k, k ∉ [60, 63] → (rdS w).2.2.1 k = w.2.2.1 k := fun k hk => f0.2.2.1 k hk
  obtain ⟨k, hk⟩ : ∃ k : Nat, F m 81 = ((k : Nat) : Int) := ⟨(F m 81).toNat, by omega⟩
  have k4 : k ≤ 4000 := by omega
  have tt : TT u (rdS w) k := by
    refine ⟨?_, ?_, fun j hj => ?_⟩
    · rw [R.1.2.1 4 1 (by decide) (by decide), I_F' (k := 81) hk]; exact oI.symm
    · rw [I_F' (k := 5) (v5.trans (z1.symm.trans hk))]; exact oI.symm
    · rw [R.1.2.2.2.1 5 (by decide), vA 4 (by decide)]
      exact z2 j (by omega)
  have tp : TP u (rdS w) := TP_RS R.1 (TPf_k z3 rfl (fun _ _ => rfl) (fun j hj => vA j (by revert hj; simp only [List.mem_cons, List.not_mem_nil, or_false]; omega)))
  have bu : bytB (AI u 5) := fun j hj => by rw [R.1.2.2.2.1 5 (by decide)]; exact nrB_fit (sta.1.2.1 j hj)
  have bw : bytB ((rdS w).2.2.1 4) := fun j _ => by rw [vA 4 (by decide)]; exact nrB_id (byt j)
  obtain ⟨u2, w13, n, bad, e1, e2, toks, nk, frC, frM, hfs⟩ := tokens_both (N := N) R.1.1 tt k4 bu bw tp (by omega)
  -- the class's tokens
  obtain ⟨m9, x9, e9, f9, c9, r9, cc, ps, tks⟩ := scanAll_ok (N := N) sta.1 sta.2.1 (by omega)
  cases x9
  obtain ⟨c2, u2', a9, e9', R9, -, -⟩ := ym_To_scanAll (N := N) R m9 () e9
  have eu : u2' = u2 := by
    rw [e1] at e9'
    injection e9' with e9'
    injection e9' with e9' _
    exact e9'.symm
  subst eu
  -- the reference's tokens
  have ts1 : TBS (rdS w) := ⟨fun i hi => by rw [f0.A (by decide)]; exact tbs.1 i hi, fun k hk => by rw [f0.A (by decide)]; exact tbs.2.1 k hk, ⟨fun k hk => by rw [f0.A (by decide)]; exact tbs.2.2.1.1 k hk, fun k hk => by rw [f0.A (by decide)]; exact tbs.2.2.1.2 k hk⟩, fun k hk => by rw [f0.A (k := 2) (by decide), f0.A (k := 2) (by decide)]; exact tbs.2.2.2 k hk⟩
  have z01 : TB0 (rdS w) := ⟨by rw [f0.A (by decide)]; exact tb0.1, by rw [f0.A (by decide)]; exact tb0.2.1, by rw [f0.A (by decide)]; exact tb0.2.2⟩
  have rt : RTQ (rdS w) w13 := by
    obtain ⟨w', r', e', q⟩ := readTokens_ok (N := N) (by omega) (by omega) (fun i => by rw [f0.A (by decide)]; exact byt i) ts1 z01
    rw [e2] at e'
    injection e' with e'
    injection e' with e' _
    rw [e']
    exact q
  obtain ⟨f1, zw, aw, w22, TN, SN, bwf, tk, w9, stw⟩ := rt
  have wF : ∀ k, k ∈ [3, 86, 87, 67, 72, 71, 83, 75, 77, 65] → F w13 k = 0 := fun k hk => by
    have : ∀ k, k ∈ [3, 86, 87, 67, 72, 71, 83, 75, 77, 65] → k ∉ [9, 10, 11, 14, 17, 20] := by decide
    rw [f1.F (this k hk)]; exact s0 k hk
  have w0 : ∀ k, k ∈ [3, 86, 87, 67, 72, 71, 83, 75, 77, 65] → w13.1 k = 0 := fun k hk => I_F' (wF k hk)
  have tbw : TBL w13 := fun k hk => by rw [f1.A (k := 2) (by decide), f1.A (k := 2) (by decide)]; exact ts1.2.2.2 k hk
  have k44w : K44 w13 := fun i => by rw [f1.A (by decide), f0.A (by decide)]; exact k44 i
  have k49w : K49 w13 := fun i => by rw [f1.A (by decide), f0.A (by decide)]; exact k49 i
  -- tokens alike
  obtain ⟨cz, ca, kT, k2, hln⟩ := tk_of R9.1 toks tk.2.2.1.2.1
  have at9 : ATf m9 w13 n.fa n.na := by
    obtain ⟨⟨a1, a2, a3, a4, a5⟩, ⟨b1, b2, b3, b4, b5⟩, b6, b7⟩ := toks.atm
    refine ⟨⟨?_, fun j hj => ?_, a3, a4, a5⟩, ⟨b6.trans oI, fun j hj => (b4 j hj).trans oI⟩, fun j hj => ?_⟩
    · have := R9.1.2.1 1 2 (by decide) (by decide)
      rw [a1] at this
      exact this.symm.trans oI
    · rw [← R9.1.2.2.2.1 3 (by decide)]; exact (a2 j hj).trans oI
    · rw [← R9.1.2.2.2.1 2 (by decide)]; exact b7 j hj
  have c36 : CW36 m9 := CW36_k z4 (f9.1 722 (by decide)) (f9.2.2.1 37 (by decide)) (f9.2.2.1 38 (by decide))
  have s9 : STA m9 := STA_fr sta f9 c9 (WR0_of r9) (fun j hj => by rw [FRc_A f9 (by simp), FRc_A f9 (by simp)]; exact sta.2.2.2.1 j hj) (by simp) (by simp)
  have F14 : F w13 14 = ((n.na : Nat) : Int) := by
    have := at9.1.2.2.2.2
    unfold F
    rw [at9.2.1.1]
    exact I_ti (by omega) (by omega)
  have m85 : m9.1 85 = I (n.i : Nat) := by
    have := R9.1.2.1 4 5 (by decide) (by decide)
    rw [toks.iu] at this
    exact this.symm.trans oI
  have na21 := at9.1.2.2.2.2
  have th : TKH N m9 w13 (fun p => (m9.2.2.1 6 p).toNatClampNeg) n.i (nmQ n.q) (fun p => (w13.2.2.1 7 p).toNatClampNeg) (fun x y => cl36 (ix36 m9 n.fa x.toNatClampNeg) y) := by
    have pdf : ∀ a : Nat, a < n.na → ∀ y, PDF N m9 w13 (I (a : Nat)) y (cl36 (ix36 m9 n.fa (I (a : Nat)).toNatClampNeg) y) := fun a ha y => by
      rw [tnI (n := a) rfl (by omega)]
      exact pdf_all (by omega) c36 at9 s9.2.2.1 r9.1.1 toks.co.2.2.2.2.2.2.2 ha
    refine ⟨cz, ca, fun j hj h2 a ha => ?_, fun a ha y => pdf a (by omega) y, at9.1.1.trans at9.2.1.1.symm, fun h0 => ?_, m85⟩
    · obtain ⟨r, hr, e⟩ := k2 j hj h2
      rw [e]
      exact pdf r hr _
    · have h0 : (m9.2.2.1 6 n.i).toNatClampNeg = 0 := h0
      rw [h0] at kT
      have bf : bad = false := by
        cases bad
        · rfl
        · exact absurd kT (by decide)
      have e9w : w13.1 9 = I (n.i : Nat) := by rw [toks.m9, bf]; exact oI
      rw [m85, e9w]
  -- the class's parse()
  have ccE : cc = n.i := by
    have a := tks.1.1
    have b : F m9 85 = ((n.i : Nat) : Int) := by
      have := toks.ik
      have := toks.k4
      unfold F
      rw [m85]
      exact I_ti (by omega) (by omega)
    omega
  subst ccE
  have tkk : TKKc m9 n.i := ⟨tks.1.2, tks.2.1, fun t ht => by
    obtain ⟨k, k1, k2⟩ := tks.2.2.2.2 t ht
    have := k2.1
    omega⟩
  have pkC := pk_ok (parse_okc (N := N) tkk (by omega))
  have fr12 : ∀ {m12 : MS}, KPH (wi m9 441 1) m12 → FR [441, 306, 442, 449, 664, 665, 666, 667] [] [16, 17, 18, 19, 20, 21, 24, 25, 26, 27, 28, 34] [] m9 m12 := fun kp => FR.tr (FR.wi FR.rf (by simp)) (FR.mo kp (by simp) (by simp) (by simp) (by simp))
  have k1 : ∀ {m12 : MS}, KPH (wi m9 441 1) m12 → (∀ k, k < 300 → m12.1 k = m9.1 k) ∧ (∀ k, k < 15 ∨ (36 ≤ k ∧ k ≤ 38) → m12.2.2.1 k = m9.2.2.1 k) ∧ ∀ k, 720 ≤ k → k < 740 → m12.1 k = m9.1 k := fun kp => by
    have f := fr12 kp
    exact ⟨fun k hk => f.1 k (by simp only [List.mem_cons, List.not_mem_nil, or_false]; omega), fun k hk => f.2.2.1 k (by simp only [List.mem_cons, List.not_mem_nil, or_false]; omega), fun k h1 h2 => f.1 k (by simp only [List.mem_cons, List.not_mem_nil, or_false]; omega)⟩
  have k2w : ∀ {w14 : MS}, PRO w13 w14 → ((∀ k, k ∈ [9, 10, 11, 14, 17, 20] → w14.1 k = w13.1 k) ∧ ∀ k, k ∈ TRW → w14.2.2.1 k = w13.2.2.1 k) ∧ w14.1 86 = 0 := fun f => by
    have h1 : ∀ k, k ∈ [9, 10, 11, 14, 17, 20] → k ∉ PfJ := by decide
    have h2 : ∀ k, k ∈ TRW → k ∉ PfB := by decide
    exact ⟨⟨fun k hk => f.1 k (h1 k hk), fun k hk => f.2.2.1 k (h2 k hk)⟩, by rw [f.1 86 (by decide)]; exact w0 86 (by decide)⟩
  -- the class's way
  rw [read_e1 e9] at ec
  obtain ⟨m12, r12, x1, ec⟩ := bnd_sm ec
  have r0 : r12 = 0 := by
    by_cases q : r12 = 0
    · exact q
    · exfalso
      unfold rdC at ec
      rw [decide_eq_false q, br_f] at ec
      have := (rd27_p m2 r ec).2.1
      rw [if_neg q, h10] at this
      exact absurd this (by decide)
  subst r0
  unfold rdC at ec
  rw [show decide ((0 : Int32) = 0) = true from rfl, br_t] at ec
  obtain ⟨v, rc, xc, ec⟩ := bnd_sm ec
  obtain ⟨-, c10, -, cI, cR⟩ := rd27_p m2 r ec
  have rc0 : rc = 0 := by
    by_cases q : rc = 0
    · exact q
    · rw [if_neg q, h10] at c10
      exact absurd c10 (by decide)
  subst rc0
  -- the reference's way
  rw [read_e2 e2] at ew
  obtain ⟨w14, z14, x2, ew⟩ := bnd_sm ew
  cases z14
  unfold rdE at ew
  have ew : br (decide ((upI w14 5 0).1 67 = 0)) _ _ = some (w2, s) := ew
  obtain ⟨kp, hp⟩ := pkC m12 0 x1
  have kT0 : (m9.2.2.1 6 n.i).toNatClampNeg = 0 := by
    have := (hp rfl).1
    have e6 : A m12 6 n.i = A m9 6 n.i := FRc_A (fr12 kp) (by simp)
    have this : (m9.2.2.1 6 n.i).toInt = 0 := by rw [e6] at this; exact this
    have k0 : m9.2.2.1 6 n.i = 0 := (I_of _).trans (by rw [this]; rfl)
    rw [k0]; rfl
  have hb : bad = false := by
    cases bad
    · rfl
    · rw [kT0] at kT; exact absurd kT (by decide)
  have pw := pk_ok (program_ok (N := N) (bw := bwf) (by omega) tk.1.1 (fun _ => tk) tbw aw ⟨wF 75 (by decide), wF 77 (by decide), wF 83 (by decide)⟩ (by rw [wF 71 (by decide)]; omega) k44w k49w)
  have hy := pw w14 () x2
  have pr : PRO w13 w14 := by
    rcases hy with ⟨G, hG, h, -⟩ | h
    · exact h.1
    · exact h.1
  have y86 : w14.1 86 = 0 := (k2w pr).2
  have w67 : w14.1 67 = 0 := by
    by_cases q : w14.1 67 = 0
    · exact q
    · exfalso
      rw [decide_eq_false (by rw [upI_ne (by decide)]; exact q), br_f] at ew
      injection ew with ew
      injection ew with ew _
      rw [← ew, upI_ne (by decide), y86] at z86
      exact absurd z86 (by decide)
  rw [decide_eq_true (by rw [upI_ne (by decide)]; exact w67), br_t] at ew
  obtain ⟨Y, zY, xY, ew⟩ := bnd_sm ew
  cases zY
  have hw : w2 = upI Y 86 1 ∨ w2 = Y := by
    revert ew
    refine (show PK (fun v (_ : Int32) => v = upI Y 86 1 ∨ v = Y) _ from ?_) w2 s
    have p162 : PK (fun v (_ : Int32) => v = upI Y 86 1 ∨ v = Y) (fb_M_read_162 N () Y) := pk_some (Or.inr rfl)
    exact pk_br (fun _ => pk_br (fun _ => pk_br (fun _ => p162) (fun _ => pk_br (fun _ => p162) (fun _ => pk_br (fun _ => pk_lt (pk_some (Or.inl rfl))) (fun _ => p162)))) (fun _ => p162)) (fun _ => pk_ck (fun _ => pk_some (Or.inr rfl)))
  -- both readers
  have kc12 : Kcc m12 v := yc_hm_Cm_compile Kc_rf v 0 xc
  have ki := k1 kp
  have f12 := fr12 kp
  have c12 : CST m12 := CST_fr f12 c9 (by simp) (by simp) (by simp) (by simp)
  have r12w : WRS m12 := WRS_fr f12 r9 (by simp) (by simp) (by simp) (by simp)
  have s12 : STA m12 := STA_fr s9 f12 c12 (WR0_of r12w) (fun j hj => by rw [FRc_A f12 (by simp), FRc_A f12 (by simp)]; exact s9.2.2.2.1 j hj) (by simp) (by simp)
  have tk12 : TKS m12 n.i ps := TKS_fr f12 tks (by simp) (by simp)
  have e441 : F m12 441 = 1 := by
    rw [show F m12 441 = F (wi m9 441 1) 441 from congrArg _ (kp.1 441 (by simp)), F_wi (by decide) (by decide), if_pos rfl]
  obtain ⟨A6, G0, n3, q0, hG0, pfi⟩ := hp rfl
  have cac := pk_mo (pk_ok (cmpC_ok (N := N) (by omega) s12 c12 r12w tk12 e441 pfi)) (fun v r q => CAC_of q)
  have cwr := pk_ok (cmpW_ok (N := N) (by omega) s12 c12 r12w tk12 e441 pfi)
  have jm := jm_of (by omega) cac cwr xc
  have t4 := cz.1.1.1
  have hT : n.i ≤ 1500 := by
    have a := (cac v 0 xc rfl).2.2.2.2.1
    rw [kc12.1 85 (by decide), ki.1 85 (by decide), m85] at a
    have := (I_le (x := ((n.i : Nat) : Int)) (y := (1500 : Int)) (by omega) (by omega) (by omega) (by omega)).mp a
    omega
  have km := (yk_fm_M_program (N := N) (u0 := w13) (u := w13) (fun h => h)) w14 () x2 w67
  have base := prs_pp th kT0 (w0 67 (by decide)) (w0 72 (by decide)) (w0 75 (by decide))
  obtain ⟨b1, b2, g, p, n', D, b3⟩ := (base m12 0 w14 () x1 x2).resolve_left (fun q => q.1 rfl)
  have p4 := b3.1.1.2.2.2.2.1
  have g66 : g ≤ 666 := by have := b3.1.2.1; omega
  have hh : m12.1 442 = I (g : Nat) := b3.2.1.2.1
  obtain ⟨-, pk2⟩ := (pk_ok (parse_okcK (N := N) tkk (by omega))) m12 0 x1
  obtain ⟨-, G, n4, q, hG, -, psi, f442, h6, fns⟩ := pk2 rfl
  have gG : g = G := by
    have := (I_eq (x := ((g : Nat) : Int)) (y := ((G : Nat) : Int)) (by omega) (by omega) (by omega) (by omega)).mp (hh.symm.trans (I_F' f442))
    omega
  subst gG
  have q5 : 5 * q ≤ n.i := by
    obtain ⟨pp, nn, qq, -, ⟨d1, d2, d3⟩, c1, -⟩ := FN_fn fns
    have := c1 g (Nat.le_refl _)
    rw [d1, d3] at this
    omega
  have e449 : m12.1 449 = I (q : Nat) := by
    have := psi.2.2.2.1
    rw [if_pos (by omega)] at this
    exact I_F' this
  have tn : TN = n.i := by
    have e : w13.1 9 = I (n.i : Nat) := by rw [toks.m9, hb]; exact oI
    have e3 : F w13 9 = ((n.i : Nat) : Int) := by unfold F; rw [e]; exact I_ti (by omega) (by omega)
    omega
  have cz12 : CTZ m12 w13 (fun p => (m9.2.2.1 6 p).toNatClampNeg) n.i (nmQ n.q) (fun p => (w13.2.2.1 7 p).toNatClampNeg) := ⟨⟨cz.1.1, fun p hp => by rw [ki.2.1 6 (by omega)]; exact cz.1.2 p hp⟩, cz.2.1, cz.2.2.1, fun j hj k3 => by rw [ki.2.1 7 (by omega)]; exact cz.2.2.2 j hj k3⟩
  have cv12 : CTV m12 w13 (fun p => (m9.2.2.1 6 p).toNatClampNeg) n.i := tk_cv R9.1 toks (hfs hb) stw (fun p hp a => (tk.2.1 p (by omega)).2.2.2.2.2 a) ca (fun _ _ => rfl) hln ⟨ki.2.1 7 (by omega), ki.2.1 8 (by omega), ki.2.1 5 (by omega)⟩ (ki.1 81 (by decide))
  have c36' : CW36 m12 := CW36_k c36 (ki.2.2 722 (by decide) (by decide)) (ki.2.1 37 (by omega)) (ki.2.1 38 (by omega))
  have at12 : ATf m12 w13 n.fa n.na := ATf_k at9 (ki.1 22 (by decide)) (ki.2.1 2 (by omega)) (ki.2.1 3 (by omega)) rfl rfl rfl
  have cx := CVX_mk (N := N) (w0 := w13) (K := fun p => (m9.2.2.1 6 p).toNatClampNeg) (T := n.i) hh g66 c36' at12
  have pz := cmp_prg (N := N) cz12 cv12 cx hT kT0 hh ⟨hG, g66⟩ (by rw [I_F' e441]; rfl) fns (w0 67 (by decide)) ⟨w0 75 (by decide), w0 77 (by decide), w0 83 (by decide)⟩ v 0 w14 () jm km.2
  obtain ⟨a5, Q5, fr5, -, -, -, ⟨hR5, -⟩, h52, -⟩ := id pz
  have kt : Ktc w13 w14 := hR5.1
  obtain ⟨h32, q24⟩ := hR5.2.2.2.2 32 (by decide)
  have f32 : F w14 32 = ((Q5 32 : Nat) : Int) := by
    unfold F
    rw [h32]
    exact I_ti (by omega) (by omega)
  have cl := calls_x (N := N) (w := upI w14 5 0) (m := m12) (g := g) (n := Q5 32) (fa := n.fa) (na := n.na) (by rw [upI_ne (by decide)]; exact h52) g66 (by rw [upI_ne (by decide)]; exact h32) (by omega) (by
    show w14.2.2.1 2 = _
    rw [kt.2 2 (by decide)]
    exact toks.co.2.2.2.2.2.2.2) (ATf_k at12 rfl rfl rfl (by rw [upI_ne (by decide)]; exact kt.1 14 (by decide)) (kt.2 12 (by decide)) (kt.2 13 (by decide))) (fun i hi h12 => by
    have h12 : A w14 23 i = 12 := by
      show (w14.2.2.1 23 i).toInt = 12
      rw [show w14.2.2.1 23 i = 12 from h12]; rfl
    rcases hy with ⟨G2, hG2, h, -⟩ | h
    · obtain ⟨g1, g2, ⟨p', n'', q', c', f', h', g3, g4, g5⟩, g6, g7⟩ := h
      have ngd := (g3.2.2.2.1 i (by omega)).2.2 h12
      rw [show F w14 14 = F w13 14 from pr.F (by decide), F14] at ngd
      exact ngd
    · exact absurd (show F w14 67 = 0 by unfold F; rw [w67]; rfl) h.2.1) (fun f hf => ⟨(PGI_t ca b3 f hf).1, (PGI_t ca b3 f hf).2.1⟩) Y () xY
  have y86' : Y.1 86 = 0 := (cl.1.1 86 (by decide) (by decide)).trans ((upI_ne (by decide)).trans y86)
  have hw2 : w2 = upI Y 86 1 := by
    rcases hw with e | e
    · exact e
    · exfalso
      rw [e, y86'] at z86
      exact absurd z86 (by decide)
  subst hw2
  have tab := tabs_x pz (CLRz_of cl rfl (upI_ne (by decide))) h32 (by omega) (fun x y => by have := (cvX_r (m := m12) (fa := n.fa) (na := n.na) (g := g) (x := x) (y := y) g66).1; omega) (fun x y => by have := (cvX_r (m := m12) (fa := n.fa) (na := n.na) (g := g) (x := x) (y := y) g66).2; omega) hh g66 e449 (by omega)
  have y14 : F (upI Y 86 1) 14 = F w13 14 := by
    unfold F
    rw [upI_ne (by decide), cl.1.1 14 (by decide) (by decide), upI_ne (by decide), kt.1 14 (by decide)]
  have y13 : ∀ j, A (upI Y 86 1) 13 j = A w13 13 j := fun j => by
    show (Y.2.2.1 13 j).toInt = _
    rw [cl.1.2.1 13 (by decide)]
    show (w14.2.2.1 13 j).toInt = _
    rw [kt.2 13 (by decide)]
    rfl
  refine ⟨TB_tab tab.1 ⟨cI 442 (by decide) (by decide) (by decide), cI 449 (by decide) (by decide) (by decide)⟩ (fun K hK => cR K (by omega)) (fun K _ => rfl) rfl, ?_, ⟨?_, ?_, fun j hj => ?_⟩, ?_⟩
  · have e1 : F m2 442 = F v 442 := congrArg Int32.toInt (cI 442 (by decide) (by decide) (by decide))
    have e2 : F (upI Y 86 1) 52 = F Y 52 := congrArg Int32.toInt (upI_ne (by decide))
    rw [e1, e2]
    exact tab.2
  · unfold ATM at aw ⊢
    rw [y14]
    exact ⟨aw.1, aw.2.1, fun k hk => by rw [y13, y13]; exact aw.2.2 k hk⟩
  · rw [y14]; exact w22
  · have h22 := toks.a22
    have f4 : ∀ j, j ≤ 22 → fa0 j ≤ 200 := by decide
    rw [y13]
    show (w13.2.2.1 13 j).toInt = _
    rw [at9.2.1.2 j (by omega), toks.f22 j hj]
    exact I_ti (by have := f4 j hj; omega) (by have := f4 j hj; omega)
  · have e1 : m2.1 85 = m12.1 85 := (cI 85 (by decide) (by decide) (by decide)).trans (kc12.1 85 (by decide))
    have e2 : (upI Y 86 1).1 9 = w13.1 9 := by
      rw [upI_ne (by decide), cl.1.1 9 (by decide) (by decide), upI_ne (by decide), kt.1 9 (by decide)]
    rw [e1, ki.1 85 (by decide), m85, e2, toks.m9, hb]
    exact oI.symm
end
