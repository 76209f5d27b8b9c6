set_option maxRecDepth 100000
def CTA (m0 w0 : MS) (K : Nat → Nat) (T : Nat) : Prop := ∀ j, j < T → K j = 1 ∨ K j = 2 → m0.2.2.1 7 j = w0.2.2.1 7 j
def HAl (N : Nat) (m0 w0 : MS) (K : Nat → Nat) (T : Nat) (nm Nk : Nat → Nat) (d : Nat) : Prop := ∀ (D : Nat) (m w : MS) (p n : Nat) (sc : SCT) (gd : Bool) (o : Nat), RLP m0 w0 T p m w → m.1 306 = I (n : Nat) → n ≤ 2 * p → RNs w sc → ND w → w.1 70 = I ((o + 1 : Nat) : Int) → o + 1 ≤ 25 → decide (w.1 73 = 0) = !gd → ¬ (K p = 2 ∧ K (p + 1) = 20) → PP (EXZ N m0 w0 K T nm Nk p n gd sc o NC0 m w) (hm_Pa_primary N (hrc_Pa_matched N D) m) ((rc_M_behind N d).2.2.2.2.2.2.2.2.1 w (I (p : Nat)))
def HRo (N : Nat) (m0 w0 : MS) (K : Nat → Nat) (T : Nat) (nm Nk : Nat → Nat) (d : Nat) : Prop := ∀ (D : Nat) (m w : MS) (p n : Nat) (sc : SCT) (gd : Bool) (o : Nat), RLP m0 w0 T p m w → m.1 306 = I (n : Nat) → n ≤ 2 * p → RNs w sc → ND w → w.1 70 = I ((o + 1 : Nat) : Int) → o + 1 ≤ 25 → decide (w.1 73 = 0) = !gd → (K p = 22 → PP (EXZ N m0 w0 K T nm Nk p n gd sc o NC0 m w) (hm_Pa_tuple N (hrc_Pa_matched N D) m 0) ((rc_M_behind N d).2.2.2.2.2.2.2.1 w (I (p : Nat)))) ∧ (K p = 24 → PP (EXZ N m0 w0 K T nm Nk p n gd sc o NC0 m w) (hm_Pa_list N (hrc_Pa_matched N D) m 0) ((rc_M_behind N d).2.2.2.2.2.2.2.1 w (I (p : Nat))))
def HPr (N : Nat) (m0 w0 : MS) (K : Nat → Nat) (T : Nat) (nm Nk : Nat → Nat) (d : Nat) : Prop := ∀ D, EXS N m0 w0 K T nm Nk 1 NC0 (fun m => bTm (hm_Pa_primary N (hrc_Pa_matched N D) m) (fun u r => hm_Pa_applied N (hrc_Pa_matched N D) u r)) ((rc_M_behind N d).2.2.2.2.2.2.2.2.2.2.1)
section
variable {m0 w0 m w v u mB wB m2 w2 m3 w3 mi : MS} {K nm Nk W W2 : Nat → Nat} {T p n N q X Y n2 p0 n0 n3 p2 ν μ κ o s L d D k q1 q2 lo li ni : Nat} {sc sc1 sc2 sc3 t : SCT} {gd Rf Zf Rg Zg : Bool} {l : List Nat} {r v1 v2 v3 v4 v5 x y : Int32} {CL CM : Int32 × Int32 × Int32 → Prop} {NC : Nat → Prop} {B1 B2 BC : MS → Prop}
theorem HRo_s (c : CTZ m0 w0 K T nm Nk) (c45 : ∀ p, p ≤ T → K p ≠ 45) (hE : HE N m0 w0 K T nm Nk d) : HRo N m0 w0 K T nm Nk (d + 1) := fun D m w p n sc gd o a1 a2 a3 a4 a5 a6 a7 a8 => ⟨fun z => tup_ex c c45 hE a1 a2 a3 a4 a5 a6 a7 a8 z, fun z => lst_ex c c45 hE a1 a2 a3 a4 a5 a6 a7 a8 z⟩
theorem bTm_id {β : Type} {o : Option (MS × (β ⊕ Nat))} : bTm o (fun u r => some (u, .inl r)) = o := by
  cases o with
  | none => rfl
  | some x => obtain ⟨a, b⟩ := x; cases b <;> rfl
theorem ERW_lo (hl : n ≤ lo) : ∀ {l : List Nat} {p p2 : Nat} {sc sc2 : SCT} {X : Nat} {Rf Zf : Bool} {BC : MS → Prop}, ERW N K nm gd m2 lo n2 W l p p2 sc sc2 X Rf Zf BC → ERW N K nm gd m2 n n2 W l p p2 sc sc2 X Rf Zf BC
  | [], _, _, _, _, _, _, _, _, h => h
  | ν :: l, p, p2, sc, sc2, X, Rf, Zf, BC, ⟨q, q2, sc1, X1, X2, R1, R2, Z1, Z2, B1, B2, h1, g1, ⟨mi, li, ni, h2, hx, a, b⟩, h3, h4, h5, h6, h7⟩ => ⟨q, q2, sc1, X1, X2, R1, R2, Z1, Z2, B1, B2, h1, g1, ⟨mi, li, ni, h2, hx, ⟨by omega, a.2⟩, b⟩, h3, h4, h5, ERW_lo hl h6, h7⟩
theorem call_r {R : MS → Int32 ⊕ Nat → MS → Int32 → Prop} {a : Option (MS × (Int32 ⊕ Nat))} {M : Nat} {S : SG_M_behind} (h : STW Nk K p p2 sc sc2 X W Rf Zf CL w v) (h7 : v.2.2.1 7 q = x) (h84 : v.1 84 = y) (hq : q ≤ 4001) (hg : decide (v.1 73 = 0) = !gd) (hG : ∀ u r, STW Nk K p p2 sc sc2 X W Rf Zf (fun z => CL z ∨ z = (x, y, b2c gd)) w u → (∀ k, k ≠ 32 → u.1 k = v.1 k) → (∀ k, k < 23 ∨ 30 < k → u.2.2.1 k = v.2.2.1 k) → PP R a (gg_M_primary N S M u (I (q : Nat)) r)) : PP R a (bnd (fm_M_node N v 12 (I (q : Nat))) (fun u10 r10 => ck (inb (I (q : Nat)) (ln 7)) (ck (inb r10 (ln 25)) (lt (upA u10 25 (upd (u10.2.2.1 25) r10.toNatClampNeg (u10.2.2.1 7 q))) (fun w11 => ck (inb r10 (ln 26)) (lt (upA w11 26 (upd (w11.2.2.1 26) r10.toNatClampNeg (w11.1 84))) (fun w12 => br (decide ((w12.1 73) = 0)) (fb_M_primary_118 N S (gg_M_primary N S M) w12 (I (q : Nat)) (r10) (27) (r10) (0)) (fb_M_primary_118 N S (gg_M_primary N S M) w12 (I (q : Nat)) (r10) (27) (r10) (1))))))))) := by
  refine r_bnd (pk_mo (node_p (w := v)) (fun u10 r10 q0 => ?_))
  obtain ⟨b, ⟨e1, e2, e3, e4⟩, e5, e6, e7, e8⟩ := q0
  have hra : r10.toNatClampNeg = b := by rw [e3]; exact tnI rfl (by omega)
  refine r_ck (fun _ => r_ck (fun _ => r_lt (r_ck (fun _ => r_lt ?_))))
  rw [hra, e8 7 (by omega), h7]
  generalize hw11 : upA u10 25 (upd (u10.2.2.1 25) b x) = w11
  have f84 : w11.1 84 = y := by rw [← hw11]; show u10.1 84 = y; rw [e7 84 (by decide)]; exact h84
  rw [f84]
  generalize hw12 : upA w11 26 (upd (w11.2.2.1 26) b y) = w12
  have f73 : w12.1 73 = v.1 73 := by rw [← hw12, ← hw11]; exact e7 73 (by decide)
  have fin : ∀ t : Int32, t = b2c gd → PP R a (fb_M_primary_118 N S (gg_M_primary N S M) w12 (I (q : Nat)) (r10) (27) (r10) t) := fun t ht => by
    unfold fb_M_primary_118
    refine r_ck (fun _ => r_ck (fun _ => r_lt ?_))
    rw [hra]
    generalize hu : upA w12 27 (upd (w12.2.2.1 27) b t) = u2
    have ui : ∀ k, k ≠ 32 → u2.1 k = v.1 k := fun k hk => by rw [← hu, ← hw12, ← hw11]; exact e7 k hk
    have ur : ∀ k, k < 23 ∨ 30 < k → u2.2.2.1 k = v.2.2.1 k := fun k hk => by
      rw [← hu, upA_no (by omega), ← hw12, upA_no (by omega), ← hw11, upA_no (by omega)]; exact e8 k hk
    have uj : ∀ k j, j ≠ b → u2.2.2.1 k j = v.2.2.1 k j := fun k j hj => by
      have one : ∀ (s : MS) (i : Nat) (y : Int32), (upA s i (upd (s.2.2.1 i) b y)).2.2.1 k j = s.2.2.1 k j := fun s i y => by
        by_cases e : k = i
        · subst e; rw [upA_at, upd_no hj]
        · rw [upA_no e]
      rw [← hu, one, ← hw12, one, ← hw11, one]
      exact e6 k j hj
    have u23 : u2.2.2.1 23 b = 12 := by
      rw [← hu, upA_no (by decide), ← hw12, upA_no (by decide), ← hw11, upA_no (by decide), e5]
      decide
    have u25 : u2.2.2.1 25 b = x := by rw [← hu, upA_no (by decide), ← hw12, upA_no (by decide), ← hw11, upA_at, upd_at]
    have u26 : u2.2.2.1 26 b = y := by rw [← hu, upA_no (by decide), ← hw12, upA_at, upd_at]
    have u27 : u2.2.2.1 27 b = b2c gd := by rw [← hu, upA_at, upd_at]; exact ht
    have u32 : u2.1 32 = I ((b + 1 : Nat) : Int) := by rw [← hu, ← hw12, ← hw11]; exact e4
    obtain ⟨a1, a2, a3, a4, a5, a6, a7, b0, b1, a8, a9, a10⟩ := h
    have eb : b1 = b := by
      have := a8.2.1.symm.trans e1
      have := (I_eq (x := (b1 : Nat)) (y := (b : Nat)) (by omega) (by omega) (by omega) (by omega)).mp this
      omega
    subst eb
    have nk : NKP b1 v u2 := fun j hj => ⟨uj 23 j (by omega), fun _ => ⟨uj 25 j (by omega), uj 26 j (by omega), uj 27 j (by omega)⟩⟩
    refine hG u2 r10 ⟨RNs_e a1 (ui 65 (by decide)) (fun k h1 h2 => ur k (by omega)), a2, a3, a4, by rw [ui 66 (by decide)]; exact a5, by rw [ui 72 (by decide)]; exact a6, WFE_tr a7 ⟨fun k hk => ui k (by rintro rfl; revert hk; decide), fun k hk => ur k (by omega), fun j _ => by rw [ur 74 (by omega)], fun j _ => by rw [ur 76 (by omega)], fun i i1 i2 j _ => by rw [ur i (by omega)]⟩, b0, b1 + 1, ⟨a8.1, u32, by omega, by omega⟩, fun z => ?_, NKP_tr a10 nk a8.2.2.1⟩ ui ur
    rw [CSY_split a8.2.2.1 (Nat.le_succ _), CSY_k nk, a9]
    constructor
    · rintro (z1 | ⟨j, j1, j2, j3, j4⟩)
      · exact Or.inl z1
      · have : j = b1 := by omega
        subst this
        refine Or.inr ?_
        rcases j2 with ⟨-, k2⟩ | ⟨k1, -⟩
        · obtain ⟨z1, z2, z3⟩ := z
          have j3 : _ = z1 := j3
          have j4 : _ = z2 := j4
          have k2 : z3 = _ := k2
          rw [← j3, ← j4, k2, u25, u26, u27]
          cases gd <;> rfl
        · rw [u23] at k1; exact absurd k1 (by decide)
    · rintro (z1 | rfl)
      · exact Or.inl z1
      · refine Or.inr ⟨b1, ⟨Nat.le_refl _, Nat.lt_succ_self _⟩, Or.inl ⟨u23, ?_⟩, u25, u26⟩
        rw [u27]
        cases gd <;> rfl
  refine r_br (fun z => fin 0 ?_) (fun z => fin 1 ?_)
  · rw [f73, hg] at z
    cases gd
    · rfl
    · cases z
  · rw [f73, hg] at z
    cases gd
    · cases z
    · rfl
end
