set_option maxRecDepth 100000
def ERW (N : Nat) (K nm : Nat → Nat) (gd : Bool) (m2 : MS) (lo n2 : Nat) (W : Nat → Nat) : List Nat → Nat → Nat → SCT → SCT → Nat → Bool → Bool → (MS → Prop) → Prop
  | [], p, p2, sc, sc2, X, Rf, Zf, BC => p = p2 ∧ sc2 = sc ∧ X = 0 ∧ Rf = false ∧ Zf = false ∧ ∀ m, ¬ BC m
  | ν :: l, p, p2, sc, sc2, X, Rf, Zf, BC => ∃ q q2 sc1 X1 X2 R1 R2 Z1 Z2 B1 B2, (p ≤ q ∧ q ≤ q2 ∧ q2 ≤ p2) ∧ (∀ j, p ≤ j → j < q → K j ≠ 3) ∧ (∃ mi li ni, EXN N K nm gd mi li ni ν q q2 sc sc1 X1 W R1 Z1 B1 ∧ KPX li ni ν mi m2 ∧ (lo ≤ li ∧ ni ≤ n2) ∧ (li < ν ∧ ν ≤ ni) ∧ (l ≠ [] → ni < l.headD 0)) ∧ (1 ≤ ν ∧ ν ≤ n2) ∧ m2.2.2.1 21 ν = I ((l.headD 0 : Nat) : Int) ∧ (tot sc1 ≤ tot sc + (q2 - q) ∧ sc1.length = sc.length ∧ X1 ≤ 1400) ∧ ERW N K nm gd m2 lo n2 W l q2 p2 sc1 sc2 X2 R2 Z2 B2 ∧ X = max X1 X2 ∧ Rf = (R1 || R2) ∧ Zf = (Z1 || Z2) ∧ (∀ m, BC m ↔ B1 m ∨ B2 m) ∧ ∀ m v, FRC m v → (B2 v ↔ B2 m)
section
variable {m v u m2 m3 : MS} {K nm W : Nat → Nat} {sc sc1 sc2 t : SCT} {s x y N i f tok cm cm2 p p2 q q2 n2 ν lo X X1 X2 : Nat} {gd Zf Rf R1 R2 Z1 Z2 : Bool} {g : Nat → Int32} {B1 B2 BC : MS → Prop}
theorem NPE_tr {sc3 : SCT} {c2 c3 : Nat} {g g2 : Nat → Int32} (a : NPE nm s sc2 c2 g Z1 m v) (b : NPE nm s sc3 c3 g2 Z2 v u) : NPE nm s sc3 c3 g2 (Z1 || Z2) m u := by
  obtain ⟨a1, a2, a3, a4, a5, a6, a7, a8, a9⟩ := a
  obtain ⟨b1, b2, b3, b4, b5, b6, b7, b8, b9⟩ := b
  refine ⟨b1, b2, fun j hj => (b3 j hj).trans (a3 j hj), b4, C11_tr a5 b5, b6.trans a6, b7.trans a7, b8.trans a8, FRC_tr a9 b9⟩
theorem CPR_2 (c : CPR nm gd p p2 sc cm m) (h : NPE nm (sc.length - 1) sc1 (max cm X) g Z1 m v) (hl : sc1.length = sc.length) (hX : X ≤ 1400) (ht : tot sc1 + (p2 - q) ≤ 4000) : CPR nm gd q p2 sc1 (max cm X) v := by
  obtain ⟨c1, c2, c3, c4, c5, c6, c7⟩ := c
  obtain ⟨a1, a2, a3, a4, a5, a6, a7, a8, a9⟩ := h
  exact ⟨by rw [a6]; exact c1, a1, by rw [hl]; exact a2, by omega, by rw [a8]; exact c5, by rw [a7]; exact c6, ht⟩
theorem KPX_f (h : KPX lo n2 ν m2 m3) (f : FRC m3 v) : KPX lo n2 ν m2 v := by
  refine ⟨fun j h0 hj => ?_, ⟨fun k hk => ?_, fun k hk => ?_⟩⟩
  · have a := h.1 j h0 hj
    have r : ∀ k, 16 ≤ k → k ≤ 21 → v.2.2.1 k = m3.2.2.1 k := fun k h1 h2 => f.2 k (by omega)
    unfold nod at a ⊢
    rw [r 16 (by decide) (by decide), r 17 (by decide) (by decide), r 18 (by decide) (by decide), r 19 (by decide) (by decide), r 20 (by decide) (by decide), r 21 (by decide) (by decide)]
    exact a
  · rw [f.1 k (by omega)]; exact h.2.1 k hk
  · rw [f.2 k (by omega)]; exact h.2.2 k hk
theorem zrow {u0 : MS} {d M : Nat} {a : Int32} (h : Kzc u0 u) : KzE u0 (hg_Cm_row N (hrc_Cm_fun N d) M u a) := by
  obtain ⟨a0, a1, a2, a3, a4, a5, a6, a7, a8, a9, a10, a11, a12⟩ := yz_hrc_Cm_fun (u0 := u0) (N := N) d
  exact yz_hg_Cm_row a0 a1 a2 a3 a4 a5 a6 a7 a8 a9 a10 a11 a12 M _ _ h
theorem ERW_len : ∀ {l : List Nat} {p p2 : Nat} {sc sc2 : SCT} {X : Nat} {Rf Zf : Bool} {BC : MS → Prop}, ERW N K nm gd m2 lo n2 W l p p2 sc sc2 X Rf Zf BC → p ≤ p2 ∧ tot sc2 ≤ tot sc + (p2 - p) ∧ sc2.length = sc.length
  | [], _, _, _, _, _, _, _, _, ⟨h1, h2, _⟩ => by
    subst h1
    subst h2
    exact ⟨Nat.le_refl _, by omega, rfl⟩
  | ν :: l, p, p2, sc, sc2, X, Rf, Zf, BC, ⟨q, q2, sc1, X1, X2, R1, R2, Z1, Z2, B1, B2, h1, _, _, _, _, h2, h3, _⟩ => by
    obtain ⟨a, b, c⟩ := ERW_len h3
    exact ⟨by omega, by omega, by rw [c, h2.2.1]⟩
theorem erw_row (hl : n2 ≤ 8015) : ∀ {l : List Nat} {p p2 : Nat} {sc sc2 : SCT} {X : Nat} {Rf Zf : Bool} {BC : MS → Prop}, ERW N K nm gd m2 lo n2 W l p p2 sc sc2 X Rf Zf BC → ∀ (d M : Nat) (m3 : MS) (cm : Nat), (∀ j, lo < j → j ≤ n2 → nod m3 j = nod m2 j ∧ m3.2.2.1 21 j = m2.2.2.1 21 j) → Kcc m2 m3 → CPR nm gd p p2 sc cm m3 → PK (fun m4 _ => CPO K nm p p2 sc sc2 X W Rf Zf BC cm m3 m4) (hg_Cm_row N (hrc_Cm_fun N d) M m3 (I ((l.headD 0 : Nat) : Int)))
  | _, _, _, _, _, _, _, _, _, _, _, 0, _, _, _, _, _ => pk_none
  | [], p, p2, sc, sc2, X, Rf, Zf, BC, ⟨h1, h2, h3, h4, h5, h6⟩, d, M + 1, m3, cm, _, _, cp => by
    subst h1
    subst h2
    subst h3
    subst h4
    subst h5
    show PK _ (hb_Cm_row_2 N (hrc_Cm_fun N d) (hg_Cm_row N (hrc_Cm_fun N d) M) m3 0)
    unfold hb_Cm_row_2
    rw [show decide ((0 : Int32) = 0) = true from rfl, br_tq]
    refine pk_some (CPO_ok ⟨rfl, h6 m3⟩ ?_)
    rw [Nat.max_eq_left (Nat.zero_le cm), wup_0 (fun j h1 h2 => absurd h2 (by omega))]
    exact CPR_0 cp
  | ν :: l, p, p2, sc, sc2, X, Rf, Zf, BC, ⟨q, q2, sc1, X1, X2, R1, R2, Z1, Z2, B1, B2, h1, g1, ⟨mi, li, ni, h2, hx, hni, hli, _⟩, h3, h4, h5, h6, h7, h8, h9, h10, h11⟩, d, M + 1, m3, cm, k1, k2, cp => by
    subst h7
    subst h8
    subst h9
    obtain ⟨a1, a2, a3⟩ := ERW_len h6
    show PK _ (hb_Cm_row_2 N (hrc_Cm_fun N d) (hg_Cm_row N (hrc_Cm_fun N d) M) m3 (I (ν : Nat)))
    unfold hb_Cm_row_2
    rw [decide_eq_false (p := I (ν : Nat) = 0) (fun z => by have := (I_eq (x := (ν : Nat)) (y := 0) (by omega) (by omega) (by omega) (by omega)).mp z; omega), br_fq]
    have kx : KPX lo n2 ν m2 m3 := ⟨fun j h0 hj => ⟨(k1 j h0 hj).1, fun _ => (k1 j h0 hj).2⟩, k2⟩
    have cp1 : CPR nm gd q q2 sc cm m3 := ⟨cp.1, cp.2.1, cp.2.2.1, cp.2.2.2.1, cp.2.2.2.2.1, cp.2.2.2.2.2.1, by have := cp.2.2.2.2.2.2; omega⟩
    refine pk_bnd (pk_mo (h2 d m3 cm 0 (KPX_tr hx kx hni.2 hni.1) cp1) (fun v _ qv => pk_ck (fun _ => ?_)))
    rcases qv with ⟨qf, qs, qr⟩ | ⟨⟨qf, qb⟩, qn⟩
    · refine pk_mo (Q := fun u _ => Kzc v u) (fun u r e => zrow (u0 := v) ⟨qs, FRC_rf⟩ u r e) (fun u _ z => Or.inl ⟨?_, z.1, FRC_tr qr z.2⟩)
      rcases qf with qf | qf
      · exact Or.inl (by rw [qf]; rfl)
      · exact Or.inr ((h10 m3).mpr (Or.inl qf))
    · have fr := qn.2.2.2.2.2.2.2.2
      have k1v : ∀ j, lo < j → j ≤ n2 → nod v j = nod m2 j ∧ v.2.2.1 21 j = m2.2.2.1 21 j := fun j h0 hj => by
        have r : ∀ k, 16 ≤ k → k ≤ 21 → v.2.2.1 k = m3.2.2.1 k := fun k h1 h2 => fr.2 k (by omega)
        have a := k1 j h0 hj
        unfold nod at a ⊢
        rw [r 16 (by decide) (by decide), r 17 (by decide) (by decide), r 18 (by decide) (by decide), r 19 (by decide) (by decide), r 20 (by decide) (by decide), r 21 (by decide) (by decide)]
        exact a
      have e21 : v.2.2.1 21 ν = I ((l.headD 0 : Nat) : Int) := by
        rw [(k1v ν (by omega) h3.2).2]
        exact h4
      rw [tnI (n := ν) rfl (by omega), e21]
      have cp2 : CPR nm gd q2 p2 sc1 (max cm X1) v := CPR_2 (p := q) (p2 := p2) (q := q2) ⟨cp1.1, cp1.2.1, cp1.2.2.1, cp1.2.2.2.1, cp1.2.2.2.2.1, cp1.2.2.2.2.2.1, by have := cp.2.2.2.2.2.2; omega⟩ qn h5.2.1 h5.2.2 (by have := cp.2.2.2.2.2.2; omega)
      refine pk_mo (erw_row hl h6 d M v (max cm X1) k1v (KPX_f kx fr).2 cp2) (fun u _ qu => ?_)
      rcases qu with ⟨qf2, qs2, qr2⟩ | ⟨⟨qf2, qb2⟩, qn2⟩
      · refine Or.inl ⟨?_, qs2, FRC_tr fr qr2⟩
        rcases qf2 with z | z
        · exact Or.inl (by rw [z]; simp)
        · exact Or.inr ((h10 m3).mpr (Or.inr ((h11 m3 v fr).mp z)))
      · refine CPO_ok ⟨by rw [qf, qf2]; rfl, fun z => ?_⟩ ?_
        · rcases (h10 m3).mp z with z | z
          · exact qb z
          · exact qb2 ((h11 m3 v fr).mpr z)
        · rw [h5.2.1, qn.2.2.2.1] at qn2
          rw [← wup_tr (g := m3.2.2.1 42) (K := K) (W := W) (q := q) h1.1 (by omega), wup_0 (p := p) (p2 := q) g1, ← wup_tr (g := m3.2.2.1 42) (K := K) (W := W) (p := q) (q := q2) h1.2.1 h1.2.2, show max cm (max X1 X2) = max (max cm X1) X2 by omega]
          exact NPE_tr qn qn2
end
