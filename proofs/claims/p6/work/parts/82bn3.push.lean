set_option maxRecDepth 100000
section
variable {m0 w0 m w v u mB wB m2 w2 m3 w3 mi w' : MS} {K nm Nk W W2 : Nat → Nat} {T p n N q X Y n2 p0 n0 n3 p2 ν μ κ o s L d D k q1 q2 lo li ni t0 b c0 b0 tt e0 cur lv : Nat} {sc sc1 sc2 sc3 t t2 : SCT} {e e2 : List Nat × List Nat × Nat} {gd Rf Zf Rg Zg : Bool} {l : List Nat} {σ : List (Nat × Nat)} {r v1 v2 v3 v4 v5 x y am om am2 om2 : Int32} {CL CM : Int32 × Int32 × Int32 → Prop} {NC : Nat → Prop} {B1 B2 BC : MS → Prop}
theorem SGS_le : ∀ {σ : List (Nat × Nat)} {cur : Nat}, SGS m w K T c0 b0 tt am om e0 cur σ → ∀ x y, σ.head? = some x → y ∈ σ → rkK (K y.1) ≤ rkK (K x.1)
  | [], _, _, x, y, hx, _ => by cases hx
  | (q, b) :: σ, cur, ⟨h1, h2, h3, h4⟩, x, y, hx, hy => by
    cases hx
    rcases List.mem_cons.mp hy with rfl | hy
    · exact Nat.le_refl _
    · cases hh : σ.head? with
      | none =>
        cases σ with
        | nil => cases hy
        | cons a b => cases hh
      | some z => exact Nat.le_trans (SGS_le h4 z y hh hy) (h3 z hh).1
theorem SGS_am : ∀ {σ : List (Nat × Nat)} {cur : Nat}, (∀ x, x ∈ σ → (rkK (K x.1) = 2 → am2 = am) ∧ (rkK (K x.1) = 1 → om2 = om)) → SGS m w K T c0 b0 tt am om e0 cur σ → SGS m w K T c0 b0 tt am2 om2 e0 cur σ
  | [], _, _, _ => trivial
  | (q, b) :: σ, cur, hx, ⟨h1, h2, h3, h4⟩ => by
    have hq := hx (q, b) List.mem_cons_self
    refine ⟨h1, fun z => ?_, h3, SGS_am (fun x hh => hx x (List.mem_cons_of_mem _ hh)) h4⟩
    obtain ⟨g1, g2, g3, g4, g5⟩ := h2 z
    exact ⟨g1, g2, g3, fun y => by rw [hq.1 y]; exact g4 y, fun y => by rw [hq.2 y]; exact g5 y⟩
theorem STQ_low (h : STQ m0 w0 K T Nk gd m w p n sc s m2 w2 q n2 sc2 X W Rf Zf CL) {a b : Nat} (ha : x = I (a : Nat)) (hb : y = I (b : Nat)) (ha2 : a ≤ (m.1 664).toNatClampNeg) (hb2 : b ≤ (w.1 83).toNatClampNeg) (ha3 : a ≤ 4002) (hb3 : b ≤ 3000) : STQ m0 w0 K T Nk gd (upI m 664 x) (upI w 83 y) p n sc s (upI m2 664 x) (upI w2 83 y) q n2 sc2 X W Rf Zf CL := by
  obtain ⟨a1, a2, a3, a4, a5, a6, a7⟩ := h
  have ea : ((upI m 664 x).1 664).toNatClampNeg = a := by rw [upI_at, ha]; exact tnI rfl (by omega)
  have eb : ((upI w 83 y).1 83).toNatClampNeg = b := by rw [upI_at, hb]; exact tnI rfl (by omega)
  refine ⟨?_, ⟨a2.1, by rw [upI_ne (by decide)]; exact a2.2.1, a2.2.2⟩, a3, ⟨fun k hk => ?_, a4.2.1, fun j hj => a4.2.2 j (by rw [ea] at hj; omega)⟩, ?_, a6, a7⟩
  · obtain ⟨h1, h2, h3, h4, h5, h6, h7⟩ := a1
    exact ⟨⟨fun k hk => by rw [upI_ne (by omega)]; exact h1.1 k hk, h1.2⟩, ⟨fun k hk => by rw [upI_ne (by rintro rfl; revert hk; decide)]; exact h2.1 k hk, h2.2⟩, by rw [upI_ne (by decide)]; exact h3, by rw [upI_ne (by decide)]; exact h4, h5, by rw [upI_ne (by decide), upI_ne (by decide)]; exact h6, by rw [upI_ne (by decide)]; exact h7⟩
  · by_cases z : k = 664
    · subst z; rw [upI_at, upI_at]
    · rw [upI_ne z, upI_ne z]; exact a4.1 k hk
  · obtain ⟨b1, b2, b3, b4, b5, b6, b7, f, g, b8, b9, b10⟩ := a5
    refine ⟨WFP_rn b1 (upI_ne (by decide)) rfl, b2, b3, b4, by rw [upI_ne (by decide), upI_ne (by decide)]; exact b5, by rw [upI_ne (by decide), upI_ne (by decide)]; exact b6, ⟨fun k hk => ?_, b7.2.1, fun j hj => b7.2.2.1 j (by rw [upI_ne (by decide)] at hj; exact hj), fun j hj => b7.2.2.2.1 j (by rw [upI_ne (by decide)] at hj; exact hj), fun i i1 i2 j hj => b7.2.2.2.2 i i1 i2 j (by rw [eb] at hj; omega)⟩, f, g, ⟨by rw [upI_ne (by decide)]; exact b8.1, by rw [upI_ne (by decide)]; exact b8.2.1, b8.2.2⟩, b9, b10⟩
    by_cases z : k = 83
    · subst z; rw [upI_at, upI_at]
    · rw [upI_ne z, upI_ne z]; exact b7.1 k hk
theorem SLI_unit (c : CTZ m0 w0 K T nm Nk) (hn0 : n0 ≤ 2 * p) (h : SLI N m0 w0 K T nm Nk gd mB wB p n0 e t c0 b0 s m w q n e2 t2 am om l σ) {ε : Int32} (hE : EXZ N m0 w0 K T nm Nk q n gd (e2 :: t2) o NC0 m w m2 (.inl ε) w2 r) (sm : SMS w2 u) (h69 : u.1 69 = w2.1 69) (hs : 1 ≤ s) : ∃ (μ q2 n2 : Nat) (e3 : List Nat × List Nat × Nat) (t3 : SCT), ε = I (μ : Nat) ∧ l.getLastD 0 ≤ 8015 ∧ q < q2 ∧ SLI N m0 w0 K T nm Nk gd mB wB p n0 e t c0 b0 (s + 1) (upA m2 21 (upd (m2.2.2.1 21) (l.getLastD 0) (I (μ : Nat)))) u q2 n2 e3 t3 am om (l ++ [μ]) σ := by
  obtain ⟨X1, W1, Rf1, Rs1, Zf1, CL1, q0, a1, a2, a3, a4, a5, a6⟩ := h
  obtain ⟨q2, n2, μ, sc3, X, W, Rf, Zf, CL, b1, b2, b3, b4, b5, b6, b7, kk, k1, k2, k3, k4⟩ := hE
  have b4u := STQ_s b4 sm h69
  have na := a1.2.1
  have nb := b4.2.1
  have q2T := b4.1.2.2.2.2.1
  have t4 := c.1.1.1
  obtain ⟨d1, d2, d3⟩ := SGE_hd a2 a4.1
  have m664 : (m.1 664).toNatClampNeg = c0 + σ.length := by rw [a5.2.2.2.1]; exact tnI rfl (by omega)
  have w83 : (w.1 83).toNatClampNeg = b0 + σ.length := by rw [a5.2.2.2.2.1]; exact tnI rfl (by omega)
  have lo := STQ_low (a := c0) (b := b0) b4u a5.1 a5.2.1 (by omega) (by omega) (by omega) (by omega)
  have st := STQ_tr a1 lo
  have s3 := STQ_A (L := l.getLastD 0) (k := 21) (y := I (μ : Nat)) st (by omega) (by decide)
  cases sc3 with
  | nil =>
    have := SCX_len b4.2.2.2.2.1.2.1
    cases this
  | cons e3 t3 =>
    have sx := b4.2.2.2.2.1
    have tt : tot t3 = tot t2 := (BDs_len sx.2.1.2.2).2
    have len3 : e2.1.length ≤ e3.1.length := sx.2.1.1.length_le
    refine ⟨μ, q2, n2, e3, t3, b1, by omega, b3, max X1 X, mrg q W1 W, Rf1 || Rf, Rs1 || Rf, Zf1 || Zf, (fun x => CL1 x ∨ CL x), q2, ?_, ?_, ?_, ⟨by simp, ?_⟩, ⟨a5.1, a5.2.1, a5.2.2.1, ?_, ?_, a5.2.2.2.2.2.1, Nat.le_refl _, fun j h1 h2 => absurd h2 (by omega)⟩, ?_⟩
    · exact STQ_s2 (s := s + σ.length + 1) s3 (by omega)
    · generalize hB : upA m2 21 (upd (m2.2.2.1 21) (l.getLastD 0) (I (μ : Nat))) = B
      have r21 : B.2.2.1 21 = upd (m2.2.2.1 21) (l.getLastD 0) (I (μ : Nat)) := by rw [← hB]; exact upA_at
      have ro : ∀ k, k ≠ 21 → B.2.2.1 k = m2.2.2.1 k := fun k hk => by rw [← hB]; exact upA_no hk
      have ri : ∀ k, B.1 k = m2.1 k := fun k => by rw [← hB]; rfl
      have ndB : ∀ j, nod B j = nod m2 j := fun j => by
        unfold nod
        rw [ro 16 (by decide), ro 17 (by decide), ro 18 (by decide), ro 19 (by decide), ro 20 (by decide)]
      have ko := b4.2.2.1
      have kc : Kcc m B := Kc_tr (PCG_k b4.2.2.2.1) ⟨fun k _ => ri k, fun k hk => ro k (by omega)⟩
      have e21 : B.2.2.1 21 μ = 0 := by rw [r21, upd_no (by omega)]; exact b5
      have := SGE_app (l2 := [μ]) (n3 := n2) (W := mrg q W1 W) (m3 := B) (by omega) kc (fun _ => by show n < μ; omega) (BCo_st (N := N) (CL := CL)) (by omega) (fun _ j j1 j2 => ⟨(ndB j).trans (ko j j2).1, fun z => by rw [r21, upd_no z]; exact (ko j j2).2⟩) (fun _ => by rw [r21, upd_at]; rfl) (SGE_w (fun j _ h => mrg_l (by omega)) a2) (q := q2) (sc3 := e3 :: t3) (Y := X) (Rg := Rf) (Zg := Zf) (am3 := am) (om3 := om) ?_
      · exact SGE_bc (fun m => BCo_or) this
      · refine ⟨⟨by omega, b2.2⟩, e21, Or.inl ⟨q, q2, e3 :: t3, X, 0, Rf, false, Zf, false, BCo N CL, (fun _ => False), ⟨a5.2.2.2.2.2.2.1, by omega, Nat.le_refl _⟩, a5.2.2.2.2.2.2.2, ⟨m2, n, n2, kk, EXN_w (fun j h _ => mrg_r h) b6, ⟨fun j j1 j2 => ⟨ndB j, fun z => by rw [r21, upd_no (by omega)]⟩, ⟨fun k _ => ri k, fun k hk => ro k (by omega)⟩⟩, ⟨by omega, Nat.le_refl _⟩, ⟨by rw [ro 16 (by decide)]; exact k1, k2⟩, b2, fun z => absurd rfl z⟩, ⟨sx.2.2.2.1.1, SCX_len sx.2.1, sx.2.2.2.1.2⟩, ⟨⟨rfl, rfl, rfl, rfl, rfl, fun _ z => z⟩, rfl, rfl⟩, by omega, (Bool.or_false _).symm, (Bool.or_false _).symm, fun m => (iff_of_eq (or_false _)).symm, fun _ _ _ => Iff.rfl⟩⟩
    · rw [a3]
      cases Rs1 <;> cases Rf <;> cases gd <;> cases pd4 K σ <;> rfl
    · rw [getLastD_snoc, upA_at, upd_no (by omega)]; exact b5
    · show m2.1 664 = _
      rw [b4.2.2.2.1.1 664 (by decide)]; exact a5.2.2.2.1
    · rw [b4u.2.2.2.2.1.2.2.2.2.2.2.1.1 83 (by decide)]; exact a5.2.2.2.2.1
    · rw [tt]
      refine SGS_k (σ := σ) (fun j hj => ?_) (fun k k1 k2 j hj => ?_) (fun a f1 f2 => ?_) (Nat.le_refl _) len3 a6
      · rw [upA_no (by decide)]; exact b4.2.2.2.1.2.2 j (by omega)
      · exact b4u.2.2.2.2.1.2.2.2.2.2.2.1.2.2.2.2 k k1 k2 j (by omega)
      · obtain ⟨-, -, -, -, -, -, -, a', b', g1, -, g3⟩ := b4u.2.2.2.2.1
        have ea : a' = a := by
          have := g1.1.symm.trans f1
          have := (I_eq (x := (a' : Nat)) (y := (a : Nat)) (by omega) (by omega) (by omega) (by omega)).mp this
          omega
        subst ea
        exact ⟨b', ⟨g1.2.1, g1.2.2.1, g1.2.2.2⟩, g3⟩
end
