set_option maxRecDepth 100000
def SMT (w v : MS) : Prop := (∀ k, k ∈ SMI → v.1 k = w.1 k) ∧ (∀ k, SMX k → k < 79 → v.2.2.1 k = w.2.2.1 k) ∧ (∀ k, 79 ≤ k → k ≤ 82 → ∀ j, j < (w.1 83).toNatClampNeg → v.2.2.1 k j = w.2.2.1 k j) ∧ ∀ a : Nat, w.1 32 = I (a : Nat) → a ≤ 100000 → ∃ b : Nat, (v.1 32 = I (b : Nat) ∧ a ≤ b ∧ b ≤ 100000) ∧ NKP a w v ∧ ∀ j, a ≤ j → j < b → v.2.2.1 23 j ≠ 12 ∧ v.2.2.1 23 j ≠ 15
section
variable {m0 w0 m w v u mB wB m2 w2 m3 w3 mi w' w1 mX : MS} {K nm Nk W W2 : Nat → Nat} {T p n N q X Y n2 n' p0 n0 n3 p2 ν μ κ o s L d D k q1 q2 lo li ni t0 b c0 b0 tt e0 cur lv : Nat} {sc sc1 sc2 sc3 t t2 : SCT} {e e2 : List Nat × List Nat × Nat} {gd Rf Zf Rg Zg : Bool} {l l' : List Nat} {σ : List (Nat × Nat)} {r v1 v2 v3 v4 v5 x y am om am2 om2 : Int32} {CL CM : Int32 × Int32 × Int32 → Prop} {NC : Nat → Prop} {B1 B2 BC : MS → Prop}
theorem STW_t (h : STW Nk K p p2 sc sc2 X W Rf Zf CL w v) (k : SMT v u) : STW Nk K p p2 sc sc2 X W Rf Zf CL w u := by
  obtain ⟨a1, a2, a3, a4, a5, a6, a7, a, b, a8, a9, a10⟩ := h
  obtain ⟨c, k3, k4, k5⟩ := k.2.2.2 b a8.2.1 a8.2.2.2
  refine ⟨RNs_e a1 (k.1 65 (by decide)) (fun j j1 j2 => k.2.1 j (by unfold SMX; omega) (by omega)), a2, a3, a4, by rw [k.1 66 (by decide)]; exact a5, by rw [k.1 72 (by decide)]; exact a6, ?_, a, c, ⟨a8.1, k3.1, by omega, k3.2.2⟩, fun x => ?_, NKP_tr a10 k4 a8.2.2.1⟩
  · refine WFE_tr a7 ⟨fun j hj => k.1 j ?_, fun j hj => k.2.1 j (Or.inl hj) (by omega), fun j _ => by rw [k.2.1 74 (by unfold SMX; omega) (by decide)], fun j _ => by rw [k.2.1 76 (by unfold SMX; omega) (by decide)], fun i i1 i2 j hj => k.2.2.1 i i1 i2 j hj⟩
    unfold SMI; simp only [List.mem_cons, List.not_mem_nil, or_false] at hj ⊢; omega
  · rw [CSY_split a8.2.2.1 k3.2.1, CSY_k k4, a9]
    constructor
    · rintro (z | ⟨j, j1, j2, -⟩)
      · exact z
      · exfalso
        rcases j2 with j2 | j2
        · exact (k5 j j1.1 j1.2).1 j2.1
        · exact (k5 j j1.1 j1.2).2 j2.1
    · exact Or.inl
theorem adN_cm {a b' c d' f : Int32} : adN (advc m q) n a b' c d' f = advc (adN m n a b' c d' f) q := by
  unfold advc
  exact adN_up (by decide)
theorem SGE_k (hn : n2 ≤ n3) (hk : Kcc m2 m3) (hs : ∀ j, lo < j → j ≤ n2 → nod m3 j = nod m2 j ∧ m3.2.2.1 21 j = m2.2.2.1 21 j) (h : SGE N K nm gd m2 lo n2 W l am om p p2 sc sc2 X Rf Zf BC am2 om2) (hlo : lo ≤ n2 := by omega) (h21 : l ≠ [] → m2.2.2.1 21 (l.getLastD 0) = 0) (hl : l ≠ [] → lo < l.getLastD 0 ∧ l.getLastD 0 ≤ n2) : SGE N K nm gd m3 lo n3 W l am om p p2 sc sc2 X Rf Zf BC am2 om2 := by
  have := SGE_app (l2 := []) (sc3 := sc2) (Y := 0) (Rg := false) (Zg := false) (BD := fun _ => False) (q := p2) (am3 := am2) (om3 := om2) hn hk (fun z => absurd rfl z) (fun _ _ _ => Iff.rfl) hlo (fun _ j j1 j2 => ⟨(hs j j1 j2).1, fun _ => (hs j j1 j2).2⟩) (fun z => by rw [(hs _ (hl z).1 (hl z).2).2, h21 z]; rfl) h ⟨⟨rfl, rfl, rfl, rfl, rfl, fun _ z => z⟩, rfl, rfl⟩
  rw [show max X 0 = X by omega, Bool.or_false, Bool.or_false, List.append_nil] at this
  exact SGE_bc (fun m => ⟨Or.inl, fun z => z.elim id False.elim⟩) this
theorem STQ_t (h : STQ m0 w0 K T Nk gd mB wB p n sc s m w q n2 sc2 X W Rf Zf CL) (k : SMT w v) (hv : v.1 69 = w.1 69) : STQ m0 w0 K T Nk gd mB wB p n sc s m v q n2 sc2 X W Rf Zf CL := by
  obtain ⟨a1, a2, a3, a4, a5, a6⟩ := h
  obtain ⟨h1, h2, h3, h4, h5, h6, h7⟩ := a1
  exact ⟨⟨h1, Kt_tr h2 ⟨fun j hj => k.1 j (by unfold TIN at hj; unfold SMI; simp only [List.mem_cons, List.not_mem_nil, or_false] at hj ⊢; omega), fun j hj => k.2.1 j (by unfold TRW at hj; unfold SMX; simp only [List.mem_cons, List.not_mem_nil, or_false] at hj; omega) (by unfold TRW at hj; simp only [List.mem_cons, List.not_mem_nil, or_false] at hj; omega)⟩, h3, by rw [hv]; exact h4, h5, by rw [k.1 70 (by decide)]; exact h6, by rw [k.1 67 (by decide)]; exact h7⟩, a2, a3, a4, STW_t a5 k, a6⟩
def PSS (K : Nat → Nat) (q b0 len eb : Nat) (w w1 : MS) : Prop := (∀ k, k ≠ 32 → w1.1 k = w.1 k) ∧ (∀ k, SMX k → k < 79 → w1.2.2.1 k = w.2.2.1 k) ∧ (∀ k, 79 ≤ k → k ≤ 82 → ∀ j, j ≠ b0 + len → w1.2.2.1 k j = w.2.2.1 k j) ∧ (w1.2.2.1 79 (b0 + len) = I (rkK (K q) : Nat) ∧ w1.2.2.1 80 (b0 + len) = I (q : Nat)) ∧ (rkK (K q) ≤ 2 → w1.2.2.1 82 (b0 + len) = I (eb : Nat) ∧ ∃ h a : Nat, w1.2.2.1 81 (b0 + len) = I (h : Nat) ∧ w1.1 32 = I (a : Nat) ∧ a ≤ 100000 ∧ h < a ∧ w1.2.2.1 23 h ≠ 12 ∧ w1.2.2.1 23 h ≠ 15) ∧ ∀ a : Nat, w.1 32 = I (a : Nat) → a ≤ 100000 → ∃ b : Nat, (w1.1 32 = I (b : Nat) ∧ a ≤ b ∧ b ≤ 100000) ∧ NKP a w w1 ∧ ∀ j, a ≤ j → j < b → w1.2.2.1 23 j ≠ 12 ∧ w1.2.2.1 23 j ≠ 15
theorem SLI_push (c : CTZ m0 w0 K T nm Nk) (hn0 : n0 ≤ 2 * p) (h : SLI N m0 w0 K T nm Nk gd mB wB p n0 e t c0 b0 s m w q n e2 t2 am om l σ) (htop : ∀ x, σ.head? = some x → rkK (K x.1) < rkK (K q) ∨ (rkK (K x.1) = rkK (K q) ∧ rkK (K q) = 4)) (h1 : 1 ≤ rkK (K q)) (hq : q < T) (hlen : b0 + σ.length < 3000) (hlen2 : c0 + σ.length < 4002) (hw1 : PSS K q b0 σ.length e2.1.length w w1) (hw2 : ((gd && decide (rkK (K q) = 4)) = false ∧ w2 = w1) ∨ ((gd && decide (rkK (K q) = 4)) = true ∧ w2.1 72 ≠ 0 ∧ (∀ k, k ≠ 71 → k ≠ 72 → w2.1 k = w1.1 k) ∧ w2.2.2.1 = w1.2.2.1)) (hm : (3 ≤ rkK (K q) ∧ mX = upI (upA m 34 (upd (m.2.2.1 34) (c0 + σ.length) (I (q : Nat)))) 664 (I ((c0 + σ.length + 1 : Nat) : Int)) ∧ n' = n ∧ l' = l ∧ am2 = am ∧ om2 = om) ∨ (rkK (K q) ≤ 2 ∧ mX = upA (adN (upI (upA m 34 (upd (m.2.2.1 34) (c0 + σ.length) (I (q : Nat)))) 664 (I ((c0 + σ.length + 1 : Nat) : Int))) n 24 (I (q : Nat)) (I (K q : Nat)) 0 0) 21 (upd ((adN (upI (upA m 34 (upd (m.2.2.1 34) (c0 + σ.length) (I (q : Nat)))) 664 (I ((c0 + σ.length + 1 : Nat) : Int))) n 24 (I (q : Nat)) (I (K q : Nat)) 0 0).2.2.1 21) (l.getLastD 0) (I ((n + 1 : Nat) : Int))) ∧ n' = n + 1 ∧ l' = l ++ [n + 1] ∧ ((K q = 6 ∧ am2 = I (tot (e2 :: t2) : Nat) ∧ om2 = om) ∨ (K q = 16 ∧ am2 = am ∧ om2 = I (tot (e2 :: t2) : Nat))))) : SLI N m0 w0 K T nm Nk gd mB wB p n0 e t c0 b0 s (advc mX q) (upI (upI w2 83 (I ((b0 + σ.length + 1 : Nat) : Int))) 69 (I ((q + 1 : Nat) : Int))) (q + 1) n' e2 t2 am2 om2 l' ((q, e2.1.length) :: σ) := by
  obtain ⟨X, W, Rf, Rs, Zf, CL, q0, a1, a2, a3, a4, a5, a6⟩ := h
  obtain ⟨p1, p2, p3, p4, p5, p6⟩ := hw1
  have t4 := c.1.1.1
  have k46 : K q < 46 := c.1.1.k46 (by omega)
  have rk := rk_k k46 h1
  have kq3 : K q ≠ 3 := fun z => by rw [z] at h1; exact absurd h1 (by decide)
  obtain ⟨d1, d2, d3⟩ := SGE_hd a2 a4.1
  have na := a1.2.1
  have bB : (upI w 83 (wB.1 83)).1 83 = wB.1 83 := upI_at
  have bN : (wB.1 83).toNatClampNeg = b0 := by rw [a5.2.1]; exact tnI rfl (by omega)
  have sm : SMT (upI w 83 (wB.1 83)) (upI w1 83 (wB.1 83)) := by
    refine ⟨fun k hk => ?_, p2, fun k k1 k2 j hj => ?_, fun a f1 f2 => ?_⟩
    · by_cases z : k = 83
      · subst z; rw [upI_at, upI_at]
      · rw [upI_ne z, upI_ne z]; exact p1 k (by rintro rfl; revert hk; decide)
    · rw [bB, bN] at hj
      exact p3 k k1 k2 j (by omega)
    · rw [upI_ne (by decide)] at f1
      obtain ⟨b', g1, g2, g3⟩ := p6 a f1 f2
      exact ⟨b', ⟨by rw [upI_ne (by decide)]; exact g1.1, g1.2⟩, g2, g3⟩
  have s1 := STQ_t a1 sm (by rw [upI_ne (by decide), upI_ne (by decide)]; exact p1 69 (by decide))
  have w2f : (∀ k, k ≠ 71 → k ≠ 72 → w2.1 k = w1.1 k) ∧ w2.2.2.1 = w1.2.2.1 := by
    rcases hw2 with ⟨-, rfl⟩ | ⟨-, -, z⟩
    · exact ⟨fun _ _ _ => rfl, rfl⟩
    · exact z
  have s2 : STQ m0 w0 K T Nk gd mB wB p n0 (e :: t) (s + σ.length) (upI m 664 (mB.1 664)) (upI w2 83 (wB.1 83)) q n (e2 :: t2) X W (Rf || (gd && decide (rkK (K q) = 4))) Zf CL := by
    rcases hw2 with ⟨z, rfl⟩ | ⟨z, z1, z2, z3⟩
    · rw [z, Bool.or_false]; exact s1
    · rw [z, Bool.or_true]
      refine STQ_rule s1 (by rw [upI_ne (by decide)]; exact z1) (fun k k1 k2 => ?_) z3
      by_cases y : k = 83
      · subst y; rw [upI_at, upI_at]
      · rw [upI_ne y, upI_ne y]; exact z2 k k1 k2
  have e69 : upI (upI (upI w2 83 (I ((b0 + σ.length + 1 : Nat) : Int))) 69 (I ((q + 1 : Nat) : Int))) 83 (wB.1 83) = adv (upI w2 83 (wB.1 83)) q := by
    unfold adv
    rw [upI_cm (a := 69) (c := 83) (by decide), upI_2]
  have s3 : STQ m0 w0 K T Nk gd mB wB p n0 (e :: t) (s + σ.length) (upI (upA m 34 (upd (m.2.2.1 34) (c0 + σ.length) (I (q : Nat)))) 664 (mB.1 664)) (upI w2 83 (wB.1 83)) q n (e2 :: t2) X W (Rf || (gd && decide (rkK (K q) = 4))) Zf CL := by
    obtain ⟨b1, b2, b3, b4, b5⟩ := s2
    obtain ⟨f1, f2, f3⟩ := b4
    refine ⟨⟨⟨b1.1.1, fun k hk => by show (upA m 34 _).2.2.1 k = _; rw [upA_no (by omega)]; exact b1.1.2 k hk⟩, b1.2⟩, b2, fun j hj => ?_, ⟨f1, fun k hk => by show (upA m 34 _).2.2.1 k = _; rw [upA_no (by omega)]; exact f2 k hk, fun j hj => ?_⟩, b5⟩
    · have := b3 j hj
      unfold nod at this ⊢
      show ((upA m 34 _).2.2.1 16 j, (upA m 34 _).2.2.1 17 j, (upA m 34 _).2.2.1 18 j, (upA m 34 _).2.2.1 19 j, (upA m 34 _).2.2.1 20 j) = _ ∧ (upA m 34 _).2.2.1 21 j = _
      rw [upA_no (by decide), upA_no (by decide), upA_no (by decide), upA_no (by decide), upA_no (by decide), upA_no (by decide)]
      exact this
    · show (upA m 34 _).2.2.1 34 j = _
      rw [upA_at, upd_no (by rw [a5.1, tnI (n := c0) rfl (by omega)] at hj; omega)]
      exact f3 j hj
  generalize hm1 : upA m 34 (upd (m.2.2.1 34) (c0 + σ.length) (I (q : Nat))) = m1 at hm s3
  have i1 : ∀ k, m1.1 k = m.1 k := fun k => by rw [← hm1]; rfl
  have r1 : ∀ k, k ≠ 34 → m1.2.2.1 k = m.2.2.1 k := fun k hk => by rw [← hm1]; exact upA_no hk
  have r34 : m1.2.2.1 34 = upd (m.2.2.1 34) (c0 + σ.length) (I (q : Nat)) := by rw [← hm1]; exact upA_at
  have nd1 : ∀ j, nod m1 j = nod m j := fun j => by
    unfold nod
    rw [r1 16 (by decide), r1 17 (by decide), r1 18 (by decide), r1 19 (by decide), r1 20 (by decide)]
  have ll : ((q, e2.1.length) :: σ).length = σ.length + 1 := rfl
  have pdn : pd4 K ((q, e2.1.length) :: σ) = (decide (rkK (K q) = 4) || pd4 K σ) := rfl
  have stk : ∀ (mX : MS), (mX.2.2.1 34 = m1.2.2.1 34) → ((rkK (K q) = 2 → am2 = I ((tot t2 + e2.1.length : Nat) : Int)) ∧ (rkK (K q) = 1 → om2 = I ((tot t2 + e2.1.length : Nat) : Int))) → (∀ x, x ∈ σ → (rkK (K x.1) = 2 → am2 = am) ∧ (rkK (K x.1) = 1 → om2 = om)) → SGS (advc mX q) (upI (upI w2 83 (I ((b0 + σ.length + 1 : Nat) : Int))) 69 (I ((q + 1 : Nat) : Int))) K T c0 b0 (tot t2) am2 om2 e.1.length e2.1.length ((q, e2.1.length) :: σ) := fun mX x34 xam xo => by
    have r2 : (upI (upI w2 83 (I ((b0 + σ.length + 1 : Nat) : Int))) 69 (I ((q + 1 : Nat) : Int))).2.2.1 = w1.2.2.1 := w2f.2
    have i2 : (upI (upI w2 83 (I ((b0 + σ.length + 1 : Nat) : Int))) 69 (I ((q + 1 : Nat) : Int))).1 32 = w1.1 32 := by
      rw [upI_ne (by decide), upI_ne (by decide)]; exact w2f.1 32 (by decide) (by decide)
    refine ⟨⟨?_, by rw [r2]; exact p4.1, by rw [r2]; exact p4.2, h1, hq⟩, fun z => ?_, fun x hx => ?_, ?_⟩
    · show mX.2.2.1 34 _ = _
      rw [x34, r34, upd_at]
    · obtain ⟨y1, h', a', y2, y3, y4⟩ := p5 z
      refine ⟨⟨a1.2.2.2.2.1.2.1.1.length_le, Nat.le_refl _⟩, by rw [r2]; exact y1, ⟨h', a', by rw [r2]; exact y2, by rw [i2]; exact y3, by rw [r2]; exact y4⟩, xam.1, xam.2⟩
    · rcases htop x hx with z | z
      · exact ⟨by omega, fun y => by omega⟩
      · exact ⟨by omega, fun _ => z.2⟩
    · have base : SGS (advc mX q) (upI (upI w2 83 (I ((b0 + σ.length + 1 : Nat) : Int))) 69 (I ((q + 1 : Nat) : Int))) K T c0 b0 (tot t2) am om e.1.length e2.1.length σ := by
        refine SGS_k (σ := σ) (fun j hj => ?_) (fun k k1 k2 j hj => ?_) (fun a f1 f2 => ?_) (Nat.le_refl _) (Nat.le_refl _) a6
        · show mX.2.2.1 34 j = _
          rw [x34, r34, upd_no (by omega)]
        · rw [r2]; exact p3 k k1 k2 j (by omega)
        · obtain ⟨b', g1, g2, -⟩ := p6 a f1 f2
          refine ⟨b', ⟨by rw [i2]; exact g1.1, g1.2⟩, ?_⟩
          unfold NKP
          rw [r2]
          exact g2
      rw [show (if rkK (K q) ≤ 2 then e2.1.length else e2.1.length) = e2.1.length by split <;> rfl]
      exact SGS_am xo base
  have a3n : (Rf || (gd && decide (rkK (K q) = 4))) = (Rs || (gd && pd4 K ((q, e2.1.length) :: σ))) := by
    rw [a3, pdn]
    cases Rs <;> cases gd <;> cases pd4 K σ <;> cases decide (rkK (K q) = 4) <;> rfl
  have gp : ∀ j, q ≤ j → j < q + 1 → K j ≠ 3 := fun j h1 h2 => by rw [show j = q by omega]; exact kq3
  have gq : q0 ≤ q + 1 ∧ ∀ j, q0 ≤ j → j < q + 1 → K j ≠ 3 := ⟨by have := a5.2.2.2.2.2.2.1; omega, fun j j1 j2 => by
      by_cases z : j = q
      · rw [z]; exact kq3
      · exact a5.2.2.2.2.2.2.2 j j1 (by omega)⟩
  rcases hm with ⟨hk3, rfl, rfl, rfl, rfl, rfl⟩ | ⟨hk2, rfl, rfl, rfl, hao⟩
  · have s4 := STQ_ad s3 hq kq3
    have em : upI (advc (upI m1 664 (I ((c0 + σ.length + 1 : Nat) : Int))) q) 664 (mB.1 664) = advc (upI m1 664 (mB.1 664)) q := by
      unfold advc
      rw [upI_cm (a := 665) (c := 664) (by decide), upI_2]
    refine ⟨X, W, _, Rs, Zf, CL, q0, ?_, ?_, a3n, ⟨a4.1, ?_⟩, ⟨a5.1, a5.2.1, by rw [ll]; omega, ?_, ?_, by rw [ll]; omega, gq⟩, stk _ rfl ⟨fun z => by omega, fun z => by omega⟩ (fun x hx => ⟨fun _ => rfl, fun _ => rfl⟩)⟩
    · rw [e69, em, ll]
      exact STQ_s2 s4 (by omega)
    · have kc : Kcc m (advc (upI m1 664 (I ((c0 + σ.length + 1 : Nat) : Int))) q) := ⟨fun k hk => by unfold advc; rw [upI_ne (by omega), upI_ne (by omega)]; exact i1 k, fun k hk => r1 k (by omega)⟩
      exact SGE_k (Nat.le_refl _) kc (fun j _ _ => ⟨nd1 j, by show m1.2.2.1 21 j = _; rw [r1 21 (by decide)]⟩) a2 (by omega) (fun _ => a4.2) (fun _ => ⟨by omega, d3⟩)
    · show m1.2.2.1 21 _ = 0
      rw [r1 21 (by decide)]; exact a4.2
    · unfold advc
      rw [upI_ne (by decide), upI_at, ll]; congr 2
    · rw [upI_ne (by decide), upI_at, ll]; congr 2
  · have tl : tot (e2 :: t2) = tot t2 + e2.1.length := rfl
    have s4 := STQ_ad s3 hq kq3
    have s5 := STQ_add (s := s + σ.length + 1) (a := 24) (b := I (q : Nat)) (c := I (K q : Nat)) (d := 0) (f := 0) s4
    have s6 := STQ_A (L := l.getLastD 0) (k := 21) (y := I ((n + 1 : Nat) : Int)) s5 (by omega) (by decide)
    rw [adN_cm, adN_up (by decide)] at s6
    rw [adN_up (by decide)]
    have Ao := adN_o (m := m1) (n := n) (a := 24) (b := I (q : Nat)) (c := I (K q : Nat)) (d := 0) (f := 0)
    have An := adN_nod (m := m1) (n := n) (a := 24) (b := I (q : Nat)) (c := I (K q : Nat)) (d := 0) (f := 0)
    have Ai : ∀ k, k ≠ 306 → (adN m1 n 24 (I (q : Nat)) (I (K q : Nat)) 0 0).1 k = m1.1 k := fun k hk => adN_i hk
    have Ar : ∀ k, k < 16 ∨ 21 < k → (adN m1 n 24 (I (q : Nat)) (I (K q : Nat)) 0 0).2.2.1 k = m1.2.2.1 k := fun k hk => adN_r hk
    generalize hA : adN m1 n 24 (I (q : Nat)) (I (K q : Nat)) 0 0 = A at s6 Ao An Ai Ar
    have e0 : upA (upI A 664 (I ((c0 + σ.length + 1 : Nat) : Int))) 21 (upd ((upI A 664 (I ((c0 + σ.length + 1 : Nat) : Int))).2.2.1 21) (l.getLastD 0) (I ((n + 1 : Nat) : Int))) = upI (upA A 21 (upd (A.2.2.1 21) (l.getLastD 0) (I ((n + 1 : Nat) : Int)))) 664 (I ((c0 + σ.length + 1 : Nat) : Int)) := rfl
    rw [e0]
    have r21 : (upA A 21 (upd (A.2.2.1 21) (l.getLastD 0) (I ((n + 1 : Nat) : Int)))).2.2.1 21 = upd (A.2.2.1 21) (l.getLastD 0) (I ((n + 1 : Nat) : Int)) := upA_at
    have ro : ∀ k, k ≠ 21 → (upA A 21 (upd (A.2.2.1 21) (l.getLastD 0) (I ((n + 1 : Nat) : Int)))).2.2.1 k = A.2.2.1 k := fun k hk => upA_no hk
    have Bi : ∀ k, (upA A 21 (upd (A.2.2.1 21) (l.getLastD 0) (I ((n + 1 : Nat) : Int)))).1 k = A.1 k := fun _ => rfl
    have s7 : STQ m0 w0 K T Nk gd mB wB p n0 (e :: t) (s + σ.length + 1) (advc (upI (upA A 21 (upd (A.2.2.1 21) (l.getLastD 0) (I ((n + 1 : Nat) : Int)))) 664 (mB.1 664)) q) (adv (upI w2 83 (wB.1 83)) q) (q + 1) (n + 1) (e2 :: t2) X W (Rf || (gd && decide (rkK (K q) = 4))) Zf CL := s6
    generalize hB : upA A 21 (upd (A.2.2.1 21) (l.getLastD 0) (I ((n + 1 : Nat) : Int))) = B at s7 r21 ro Bi
    have ndB : ∀ j, nod B j = nod A j := fun j => by
      unfold nod
      rw [ro 16 (by decide), ro 17 (by decide), ro 18 (by decide), ro 19 (by decide), ro 20 (by decide)]
    have em : upI (advc (upI B 664 (I ((c0 + σ.length + 1 : Nat) : Int))) q) 664 (mB.1 664) = advc (upI B 664 (mB.1 664)) q := by
      unfold advc
      rw [upI_cm (a := 665) (c := 664) (by decide), upI_2]
    have nκ : nod (advc (upI B 664 (I ((c0 + σ.length + 1 : Nat) : Int))) q) (n + 1) = (24, I (q : Nat), I (K q : Nat), 0, 0) := (ndB (n + 1)).trans An.1
    have e21 : B.2.2.1 21 (n + 1) = 0 := by rw [r21, upd_no (by omega)]; exact An.2
    have kc : Kcc m (advc (upI B 664 (I ((c0 + σ.length + 1 : Nat) : Int))) q) := ⟨fun k hk => by unfold advc; rw [upI_ne (by omega), upI_ne (by omega), Bi, Ai k (by omega)]; exact i1 k, fun k hk => by show B.2.2.1 k = _; rw [ro k (by omega), Ar k (by omega)]; exact r1 k (by omega)⟩
    refine ⟨X, W, _, Rs, Zf, CL, q0, ?_, ?_, a3n, ⟨by simp, ?_⟩, ⟨a5.1, a5.2.1, by rw [ll]; omega, ?_, ?_, by rw [ll]; omega, gq⟩, stk _ ?_ ⟨fun z => ?_, fun z => ?_⟩ (fun x hx => ?_)⟩
    · rw [e69, em, ll]
      exact STQ_s2 s7 (by omega)
    · have := SGE_app (l2 := [n + 1]) (sc3 := e2 :: t2) (Y := 0) (Rg := false) (Zg := false) (BD := fun _ => False) (q := q0) (am3 := am2) (om3 := om2) (m3 := advc (upI B 664 (I ((c0 + σ.length + 1 : Nat) : Int))) q) (n3 := n + 1) (by omega) kc (fun _ => by show n < n + 1; omega) (fun _ _ _ => Iff.rfl) (by omega) (fun _ j j1 j2 => ⟨(ndB j).trans ((Ao j j2).1.trans (nd1 j)), fun z => by show B.2.2.1 21 j = _; rw [r21, upd_no z, (Ao j j2).2, r1 21 (by decide)]⟩) (fun _ => by show B.2.2.1 21 _ = _; rw [r21, upd_at]; rfl) a2 ?_
      · rw [show max X 0 = X by omega, Bool.or_false, Bool.or_false] at this
        exact SGE_bc (fun m => ⟨Or.inl, fun z => z.elim id False.elim⟩) this
      · refine ⟨⟨by omega, Nat.le_refl _⟩, e21, Or.inr (Or.inl ⟨congrArg (fun z => z.1) nκ, fun z => absurd rfl z, ?_⟩)⟩
        rcases hao with ⟨kq, rfl, rfl⟩ | ⟨kq, rfl, rfl⟩
        · exact Or.inl ⟨(congrArg (fun z => z.2.2.1) nκ).trans (by rw [kq]), ⟨⟨rfl, rfl, rfl, rfl, rfl, fun _ z => z⟩, rfl, rfl⟩⟩
        · exact Or.inr ⟨(congrArg (fun z => z.2.2.1) nκ).trans (by rw [kq]), ⟨⟨rfl, rfl, rfl, rfl, rfl, fun _ z => z⟩, rfl, rfl⟩⟩
    · rw [getLastD_snoc]; exact e21
    · unfold advc
      rw [upI_ne (by decide), upI_at, ll]; congr 2
    · rw [upI_ne (by decide), upI_at, ll]; congr 2
    · show B.2.2.1 34 = _
      rw [ro 34 (by decide), Ar 34 (by omega)]
    · rcases hao with ⟨kq, x1, x2⟩ | ⟨kq, x1, x2⟩
      · rw [x1, tl]
      · have := rk.2.1.mp z; omega
    · rcases hao with ⟨kq, x1, x2⟩ | ⟨kq, x1, x2⟩
      · have := rk.2.2.1.mp z; omega
      · rw [x2, tl]
    · 
      have low : rkK (K x.1) < rkK (K q) := by
        cases hh : σ.head? with
        | none =>
          cases σ with
          | nil => cases hx
          | cons a b => cases hh
        | some z =>
          have h1 := SGS_le a6 z x hh hx
          rcases htop z hh with h2 | h2 <;> omega
      rcases hao with ⟨kq, x1, x2⟩ | ⟨kq, x1, x2⟩
      · have := rk.2.1.mpr kq
        exact ⟨fun z => by omega, fun _ => x2⟩
      · have := rk.2.2.1.mpr kq
        exact ⟨fun z => by omega, fun z => by omega⟩
end
