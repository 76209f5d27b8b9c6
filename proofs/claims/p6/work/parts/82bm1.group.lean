set_option maxRecDepth 100000
def alB (N : Nat) (S : SG_M_behind) (v1 : Int32) (u17 : MS) (r17 : Int32) : Option (MS × Int32) := br (decide (r17 = 0)) (bnd (fm_M_isSign N u17 2) (fun u18 r18 => br (decide (r18 = 0)) (bnd (fm_M_isSign N u18 4) (fun u19 r19 => br (decide (r19 = 0)) (ck (inb (u19.1 69) (ln 6)) (br (decide ((u19.2.2.1 6 (u19.1 69).toNatClampNeg) = 3)) (br (decide ((u19.1 73) = 0)) (fb_M_alone_315 N S () u19 v1) (bnd (fm_M_isWord N u19 9) (fun u21 r21 => br (decide (r21 = 0)) (bnd (fm_M_rule N u21 7 v1) (fun u22 _ => fb_M_alone_315 N S () u22 v1)) (fb_M_alone_315 N S () u21 v1)))) (bnd (fm_M_wrong N u19 2) (fun u20 _ => fb_M_alone_361 N S () u20 (-1))))) (fb_M_alone_270 N S () u19 v1))) (fb_M_alone_270 N S () u18 v1))) (bnd (S.2.2.2.2.2.2.2.2.2.2.2.2.2.1 u17) (fun u23 r23 => bnd (fm_M_needSign N u23 1) (fun u24 _ => fb_M_alone_361 N S () u24 r23)))
def AR2 (N : Nat) (K nm : Nat → Nat) (gd : Bool) (m2 : MS) (lo n2 : Nat) (W : Nat → Nat) : List (Nat × List Nat) → Nat → Nat → SCT → SCT → Nat → Bool → Bool → (MS → Prop) → Prop
  | [], p, p2, sc, sc2, X, Rf, Zf, BC => p = p2 ∧ sc2 = sc ∧ X = 0 ∧ Rf = false ∧ Zf = false ∧ ∀ m, ¬ BC m
  | (ν, l) :: r, p, p2, sc, sc2, X, Rf, Zf, BC => ∃ q q2 sc1 X1 X2 R1 R2 Z1 Z2 B1 B2, (p ≤ q ∧ q ≤ q2 ∧ q2 ≤ p2) ∧ (∀ j, p ≤ j → j < q → K j ≠ 3) ∧ (∃ mi li ni, ERW N K nm gd mi li ni W l q q2 sc sc1 X1 R1 Z1 B1 ∧ ((∀ j, li < j → j ≤ ni → nod m2 j = nod mi j ∧ m2.2.2.1 21 j = mi.2.2.1 21 j) ∧ Kcc mi m2) ∧ (lo ≤ li ∧ ni < ν)) ∧ (lo < ν ∧ ν ≤ n2) ∧ m2.2.2.1 18 ν = I ((l.headD 0 : Nat) : Int) ∧ m2.2.2.1 21 ν = I (((r.headD (0, [])).1 : Nat) : Int) ∧ (tot sc1 ≤ tot sc + (q2 - q) ∧ sc1.length = sc.length ∧ X1 ≤ 1400) ∧ AR2 N K nm gd m2 lo n2 W r q2 p2 sc1 sc2 X2 R2 Z2 B2 ∧ X = max X1 X2 ∧ Rf = (R1 || R2) ∧ Zf = (Z1 || Z2) ∧ (∀ m, BC m ↔ B1 m ∨ B2 m) ∧ STB B2 ∧ (r ≠ [] → ν < (r.headD (0, [])).1)
section
variable {m0 w0 m w v u mB wB m2 w2 m3 w3 mi : MS} {K nm Nk W W2 : Nat → Nat} {T p n N q X Y n2 p0 n0 n3 p2 ν μ κ o s L d D k q1 q2 lo li ni : Nat} {sc sc1 sc2 sc3 t : SCT} {gd Rf Zf Rg Zg : Bool} {l : List Nat} {la : List (Nat × List Nat)} {r v1 v2 v3 v4 v5 : Int32} {CL CM : Int32 × Int32 × Int32 → Prop} {NC : Nat → Prop} {B1 B2 BC : MS → Prop}
theorem AR2_1 : ∀ {la : List (Nat × List Nat)} {p p2 : Nat} {sc sc2 : SCT} {X : Nat} {Rf Zf : Bool} {BC : MS → Prop}, AR2 N K nm gd m2 lo n2 W la p p2 sc sc2 X Rf Zf BC → ARW N K nm gd m2 lo n2 W la p p2 sc sc2 X Rf Zf BC
  | [], _, _, _, _, _, _, _, _, h => h
  | (ν, l) :: r, _, _, _, _, _, _, _, _, ⟨q, q2, sc1, X1, X2, R1, R2, Z1, Z2, B1, B2, h1, g1, ⟨mi, li, ni, a, b, c⟩, h3, h4, h5, h6, h7, h8, h9, h10, h11, h12, _⟩ => ⟨q, q2, sc1, X1, X2, R1, R2, Z1, Z2, B1, B2, h1, g1, ⟨mi, li, ni, a, b, ⟨c.1, by omega⟩⟩, h3, h4, h5, h6, AR2_1 h7, h8, h9, h10, h11, h12⟩
theorem AR2_len (h : AR2 N K nm gd m2 lo n2 W la p p2 sc sc2 X Rf Zf BC) : p ≤ p2 ∧ tot sc2 ≤ tot sc + (p2 - p) ∧ sc2.length = sc.length := ARW_len (AR2_1 h)
theorem AR2_w : ∀ {la : List (Nat × List Nat)} {p p2 : Nat} {sc sc2 : SCT} {X : Nat} {Rf Zf : Bool} {BC : MS → Prop}, (∀ j, p ≤ j → j < p2 → W2 j = W j) → AR2 N K nm gd m2 lo n2 W la p p2 sc sc2 X Rf Zf BC → AR2 N K nm gd m2 lo n2 W2 la p p2 sc sc2 X Rf Zf BC
  | [], _, _, _, _, _, _, _, _, _, h => h
  | (ν, l) :: r, p, p2, _, _, _, _, _, _, hw, ⟨q, q2, sc1, X1, X2, R1, R2, Z1, Z2, B1, B2, h1, g1, ⟨mi, li, ni, a, b, c⟩, h3, h4, h5, h6, h7, h8⟩ => by
    have := (AR2_len h7).1
    exact ⟨q, q2, sc1, X1, X2, R1, R2, Z1, Z2, B1, B2, h1, g1, ⟨mi, li, ni, ERW_w (fun j x y => hw j (by omega) (by omega)) a, b, c⟩, h3, h4, h5, h6, AR2_w (fun j x y => hw j (by omega) y) h7, h8⟩
theorem AR2_hd : ∀ {la : List (Nat × List Nat)} {p p2 : Nat} {sc sc2 : SCT} {X : Nat} {Rf Zf : Bool} {BC : MS → Prop}, AR2 N K nm gd m2 lo n2 W la p p2 sc sc2 X Rf Zf BC → la ≠ [] → (la.headD (0, [])).1 ≤ (la.getLastD (0, [])).1 ∧ lo < (la.headD (0, [])).1 ∧ (la.getLastD (0, [])).1 ≤ n2
  | [], _, _, _, _, _, _, _, _, _, h => absurd rfl h
  | [(ν, l)], _, _, _, _, _, _, _, _, ⟨_, _, _, _, _, _, _, _, _, _, _, _, _, _, h3, _⟩, _ => ⟨Nat.le_refl _, h3.1, h3.2⟩
  | (ν, l) :: (μ, l2) :: r, _, _, _, _, _, _, _, _, ⟨q, q2, sc1, X1, X2, R1, R2, Z1, Z2, B1, B2, h1, g1, _, h3, h4, h5, h6, h7, h8, h9, h10, h11, h12, h13⟩, _ => by
    obtain ⟨r1, r2, r3⟩ := AR2_hd h7 (fun z => by cases z)
    have c : ν < μ := h13 (fun z => by cases z)
    have r1 : μ ≤ (((μ, l2) :: r).getLastD (0, [])).1 := r1
    refine ⟨?_, h3.1, r3⟩
    show ν ≤ (((μ, l2) :: r).getLastD (0, [])).1
    omega
theorem AR2_snoc (hn : n2 ≤ n3) (hk : Kcc m2 m3) (hκ : n2 < κ ∧ κ ≤ n3) (hE : ERW N K nm gd mi li ni W l q q2 sc2 sc3 Y Rg Zg B2) (hx : (∀ j, li < j → j ≤ ni → nod m3 j = nod mi j ∧ m3.2.2.1 21 j = mi.2.2.1 21 j) ∧ Kcc mi m3) (hli : lo ≤ li ∧ ni < κ) (h18 : m3.2.2.1 18 κ = I ((l.headD 0 : Nat) : Int)) (h21 : m3.2.2.1 21 κ = 0) (hq : p2 ≤ q ∧ q ≤ q2 ∧ q2 ≤ q1) (hg : ∀ j, p2 ≤ j → j < q → K j ≠ 3) (hg2 : ∀ j, q2 ≤ j → j < q1 → K j ≠ 3) (ht : tot sc3 ≤ tot sc2 + (q2 - q) ∧ sc3.length = sc2.length ∧ Y ≤ 1400) (sB : STB B2) : ∀ {la : List (Nat × List Nat)} {p : Nat} {sc : SCT} {X : Nat} {Rf Zf : Bool} {BC : MS → Prop}, (∀ j, lo < j → j ≤ n2 → nod m3 j = nod m2 j ∧ (j ≠ (la.getLastD (0, [])).1 → m3.2.2.1 21 j = m2.2.2.1 21 j)) → (la ≠ [] → m3.2.2.1 21 (la.getLastD (0, [])).1 = I (κ : Nat)) → lo ≤ n2 → AR2 N K nm gd m2 lo n2 W la p p2 sc sc2 X Rf Zf BC → AR2 N K nm gd m3 lo n3 W (la ++ [(κ, l)]) p q2 sc sc3 (max X Y) (Rf || Rg) (Zf || Zg) (fun m => BC m ∨ B2 m)
  | [], p, sc, X, Rf, Zf, BC, hs, hy, hlo, ⟨z1, z2, z3, z4, z5, z6⟩ => by
    subst z1
    subst z2
    subst z3
    subst z4
    subst z5
    exact ⟨q, q2, sc3, Y, 0, Rg, false, Zg, false, B2, (fun _ => False), ⟨hq.1, hq.2.1, Nat.le_refl _⟩, hg, ⟨mi, li, ni, hE, hx, hli⟩, ⟨by omega, hκ.2⟩, h18, h21, ht, ⟨rfl, rfl, rfl, rfl, rfl, fun _ z => z⟩, by omega, by rw [Bool.false_or, Bool.or_false], by rw [Bool.false_or, Bool.or_false], fun m => ⟨fun z => z.elim (fun y => absurd y (z6 m)) Or.inl, fun z => z.elim Or.inr False.elim⟩, fun _ _ _ => Iff.rfl, fun z => absurd rfl z⟩
  | [(ν, l1)], p, sc, X, Rf, Zf, BC, hs, hy, hlo, ⟨a, a2, sc1, X1, X2, R1, R2, Z1, Z2, D1, D2, h1, g1, ⟨mj, lj, nj, c1, c2, c3⟩, h3, h4, h5, h6, h7, h8, h9, h10, h11, h12, h13⟩ => by
    obtain ⟨z1, z2, z3, z4, z5, z6⟩ := h7
    subst z1
    subst z2
    subst z3
    subst z4
    subst z5
    have hs : ∀ j, lo < j → j ≤ n2 → nod m3 j = nod m2 j ∧ (j ≠ ν → m3.2.2.1 21 j = m2.2.2.1 21 j) := hs
    have hy : m3.2.2.1 21 ν = I (κ : Nat) := hy (fun z => by cases z)
    have e18 : m3.2.2.1 18 ν = m2.2.2.1 18 ν := congrArg (fun z => z.2.2.1) (hs ν (by omega) h3.2).1
    refine ⟨a, a2, sc2, X1, max Y 0, R1, (Rg || false), Z1, (Zg || false), D1, (fun m => B2 m ∨ False), ⟨h1.1, h1.2.1, by omega⟩, g1, ⟨mj, lj, nj, c1, ⟨fun j j1 j2 => ⟨(hs j (by omega) (by omega)).1.trans (c2.1 j j1 j2).1, ((hs j (by omega) (by omega)).2 (by omega)).trans (c2.1 j j1 j2).2⟩, Kc_tr c2.2 hk⟩, c3⟩, ⟨h3.1, by omega⟩, e18.trans h4, hy, h6, ⟨q, q2, sc3, Y, 0, Rg, false, Zg, false, B2, (fun _ => False), ⟨hq.1, hq.2.1, Nat.le_refl _⟩, hg, ⟨mi, li, ni, hE, hx, hli⟩, ⟨by omega, hκ.2⟩, h18, h21, ht, ⟨rfl, rfl, rfl, rfl, rfl, fun _ z => z⟩, by omega, rfl, rfl, fun m => Iff.rfl, fun _ _ _ => Iff.rfl, fun z => absurd rfl z⟩, by rw [h8]; omega, by rw [h9, Bool.or_false, Bool.or_false], by rw [h10, Bool.or_false, Bool.or_false], fun m => ?_, STB_or sB (fun _ _ _ => Iff.rfl), fun _ => by show ν < κ; omega⟩
    show (BC m ∨ B2 m) ↔ D1 m ∨ (B2 m ∨ False)
    rw [h11]
    constructor
    · rintro ((z | z) | z)
      · exact Or.inl z
      · exact absurd z (z6 m)
      · exact Or.inr (Or.inl z)
    · rintro (z | z | z)
      · exact Or.inl (Or.inl z)
      · exact Or.inr z
      · exact z.elim
  | (ν, l1) :: (μ, l2) :: r, p, sc, X, Rf, Zf, BC, hs, hy, hlo, ⟨a, a2, sc1, X1, X2, R1, R2, Z1, Z2, D1, D2, h1, g1, ⟨mj, lj, nj, c1, c2, c3⟩, h3, h4, h5, h6, h7, h8, h9, h10, h11, h12, h13⟩ => by
    obtain ⟨d1, d2, d3⟩ := AR2_hd h7 (fun z => by cases z)
    have c : ν < μ := h13 (fun z => by cases z)
    have d1 : μ ≤ (((μ, l2) :: r).getLastD (0, [])).1 := d1
    have hs : ∀ j, lo < j → j ≤ n2 → nod m3 j = nod m2 j ∧ (j ≠ (((μ, l2) :: r).getLastD (0, [])).1 → m3.2.2.1 21 j = m2.2.2.1 21 j) := hs
    have hy : m3.2.2.1 21 (((μ, l2) :: r).getLastD (0, [])).1 = I (κ : Nat) := hy (fun z => by cases z)
    have ih := AR2_snoc hn hk hκ hE hx hli h18 h21 hq hg hg2 ht sB hs (fun _ => hy) hlo h7
    have e18 : m3.2.2.1 18 ν = m2.2.2.1 18 ν := congrArg (fun z => z.2.2.1) (hs ν (by omega) h3.2).1
    refine ⟨a, a2, sc1, X1, max X2 Y, R1, (R2 || Rg), Z1, (Z2 || Zg), D1, (fun m => D2 m ∨ B2 m), ⟨h1.1, h1.2.1, by omega⟩, g1, ⟨mj, lj, nj, c1, ⟨fun j j1 j2 => ⟨(hs j (by omega) (by omega)).1.trans (c2.1 j j1 j2).1, ((hs j (by omega) (by omega)).2 (by omega)).trans (c2.1 j j1 j2).2⟩, Kc_tr c2.2 hk⟩, c3⟩, ⟨h3.1, by omega⟩, e18.trans h4, ?_, h6, ih, by rw [h8]; omega, by rw [h9, Bool.or_assoc], by rw [h10, Bool.or_assoc], fun m => ?_, STB_or h12 sB, fun _ => c⟩
    · show m3.2.2.1 21 ν = I (μ : Nat)
      rw [(hs ν (by omega) h3.2).2 (by omega)]
      exact h5
    · show (BC m ∨ B2 m) ↔ D1 m ∨ (D2 m ∨ B2 m)
      rw [h11, or_assoc]
theorem alone_r {R : MS → Int32 ⊕ Nat → MS → Int32 → Prop} {S : SG_M_behind} {a : Option (MS × (Int32 ⊕ Nat))} (hw : WP w K T p) (h67 : w.1 67 = 0) (hk : K p ≠ 1 ∧ K p ≠ 2 ∧ K p ≠ 3 ∧ K p ≠ 4) (h : PP R a (alB N S v1 (if K p = 20 then adv w p else w) (if K p = 20 then 1 else 0))) : PP R a (fm_M_alone N S w v1) := by
  show PP R a (fb_M_alone_0 N S () w v1)
  unfold fb_M_alone_0
  refine r_ck (fun _ => ?_)
  rw [(WP_i hw).2.1, srt_dc hw srK_4, srt_dc hw srK_1, srt_dc hw srK_5, srt_dc hw srK_2, decide_eq_false hk.1, br_fq]
  refine r_ck (fun _ => ?_)
  rw [decide_eq_false hk.2.1, br_fq]
  refine r_ck (fun _ => ?_)
  rw [decide_eq_false hk.2.2.2, br_fq]
  refine r_ck (fun _ => ?_)
  rw [decide_eq_false hk.2.2.1, br_fq, tkS_e (k := 20) (s := 0) hw h67 (by decide) rfl]
  by_cases z : K p = 20
  · rw [if_pos z, bnd_s]
    rw [if_pos z, if_pos z] at h
    exact h
  · rw [if_neg z, bnd_s]
    rw [if_neg z, if_neg z] at h
    exact h
theorem grp_ex (c : CTZ m0 w0 K T nm Nk) (c45 : ∀ p, p ≤ T → K p ≠ 45) (hE : HE N m0 w0 K T nm Nk d) (h : RLP m0 w0 T p m w) (hn : m.1 306 = I (n : Nat)) (hn2 : n ≤ 2 * p) (hR : RNs w sc) (nd : ND w) (h70 : w.1 70 = I ((o + 1 : Nat) : Int)) (ho : o + 1 ≤ 25) (hg : decide (w.1 73 = 0) = !gd) (hk : K p = 20) : PP (EXZ N m0 w0 K T nm Nk p n gd sc o NC m w) (hm_Pa_primary N (hrc_Pa_matched N D) m) (fm_M_alone N (rc_M_behind N d) w (I (p : Nat))) := by
  have hc := RLP_c c h
  have hw := RLP_w c h
  have t4 := c.1.1.1
  have hl : p < T := TWK_lt c h.2.2.2.2.1 (by omega) (by omega)
  have h0 := h.2.2.2.2.2.2
  have st : STQ m0 w0 K T Nk gd m w p n sc 2 (advc m p) (adv w p) (p + 1) n sc 0 (fun _ => 32) false false (fun _ => False) := STQ_ad (STQ_0 (Nk := Nk) (K := K) (W := fun _ => 32) (gd := gd) h hn hR nd) hl (by omega)
  have rl := st.1
  have e7 : ∀ k, k ≠ 69 → (adv w p).1 k = w.1 k := fun k hk => by unfold adv; exact upI_ne hk
  have gp : ∀ j, p ≤ j → j < p + 1 → K j ≠ 3 := fun j h1 h2 => by rw [show j = p by omega]; omega
  refine alone_r hw h0 (by omega) ?_
  rw [if_pos hk, if_pos hk]
  unfold hm_Pa_primary hb_Pa_primary_0 alB
  rw [look_e hc (by omega), bTm_l, hk, show decide ((1 : Int32) = 0) = false from rfl, br_fq]
  rw [show decide (I ((20 : Nat) : Int) = 1) = false from rfl, br_fq, show decide (I ((20 : Nat) : Int) = 2) = false from rfl, br_fq, show decide (I ((20 : Nat) : Int) = 3) = false from rfl, br_fq, show decide (I ((20 : Nat) : Int) = 4) = false from rfl, br_fq, show decide (I ((20 : Nat) : Int) = 5) = false from rfl, br_fq, show decide (I ((20 : Nat) : Int) = 6) = false from rfl, br_fq, show decide (I ((20 : Nat) : Int) = 7) = false from rfl, br_fq, show decide (I ((20 : Nat) : Int) = 8) = false from rfl, br_fq, show decide (I ((20 : Nat) : Int) = 9) = false from rfl, br_fq, show decide (I ((20 : Nat) : Int) = 10) = false from rfl, br_fq, show decide (I ((20 : Nat) : Int) = 11) = false from rfl, br_fq, show decide (I ((20 : Nat) : Int) = 12) = false from rfl, br_fq, show decide (I ((20 : Nat) : Int) = 13) = false from rfl, br_fq, show decide (I ((20 : Nat) : Int) = 14) = false from rfl, br_fq, show decide (I ((20 : Nat) : Int) = 15) = false from rfl, br_fq, show decide (I ((20 : Nat) : Int) = 16) = false from rfl, br_fq, show decide (I ((20 : Nat) : Int) = 17) = false from rfl, br_fq, show decide (I ((20 : Nat) : Int) = 18) = false from rfl, br_fq, show decide (I ((20 : Nat) : Int) = 19) = false from rfl, br_fq, show decide (I ((20 : Nat) : Int) = 20) = true from rfl, br_tq]
  refine l_lt ?_
  rw [hc.2.1, i_suc]
  show PP _ (bTm ((hrc_Pa_matched N D).2.2.2.2.2.2.2.2.2.2.2.2.2.2.1 (advc m p) 1) _) _
  refine pp_bTn (hE D (advc m p) (adv w p) (p + 1) n sc gd (o + 1) rl st.2.1.2.1 (by omega) (STQ_rn st) (STQ_nd st) (by rw [e7 70 (by decide)]; exact h70) ho (by rw [e7 73 (by decide)]; exact hg)) (fun m2 ε w2 r2 q2 => ?_) (fun m2 kk w2 r2 q2 => ?_)
  · obtain ⟨q1, n2, μ, sc2, X, W, Rf, Zf, CL, a1, a2, a3, a4, a5, a6, a7, a8⟩ := q2
    have nn := a4.2.1
    have hc2 := RLP_c c a4.1
    have hw2 := RLP_w c a4.1
    have h2 := a4.1.2.2.2.2.2.2
    have s2 := STQ_s2 (s2 := 2) (STQ_tr st a4) (by omega)
    rw [show max 0 X = X by omega, Bool.false_or, Bool.false_or] at s2
    have s2 := STQ_cl (CM := CL) (fun x => ⟨fun z => z.elim False.elim id, Or.inr⟩) s2
    have a6 := EXN_w (W2 := mrg (p + 1) (fun _ => 32) W) (fun j h _ => mrg_r h) a6
    by_cases k21 : K q1 = 21
    · have hl2 : q1 < T := TWK_lt c a4.1.2.2.2.2.1 (by omega) (by omega)
      rw [need_e (s := 21) hc2 k21 (by decide) rfl, bTm_l, ndS_1 (s := 1) hw2 h2 (by decide) rfl k21, bnd_s]
      unfold fb_M_alone_361
      refine l_bnd ?_
      intro m4 z4 e4
      refine pp_end ?_
      rw [a1] at e4
      exact row_fin (kd := 5) c hn2 (by omega) hl2 (by omega) s2 SMS_rf rfl (by decide) (by omega) (fun mf hx2 ko kc => ⟨exn_grp (μ := μ) (q := p + 1) (q2 := q1) hx2 (by omega) (Nat.le_refl _) (by omega) ⟨by omega, by omega, by omega⟩ gp (fun j h1 h2 => by rw [show j = q1 by omega]; omega) a6 (Nat.le_refl _) ko kc (by omega), PTX_grp (μ := μ) (q := q1) hx2 (by omega) (Nat.le_refl _) (by omega) a7 (Nat.le_refl _) ko kc (by omega) a2.2 hk (by omega) k21 hl2 (by omega)⟩) m4 z4 e4
    · refine pp_rf (RFS_T (need_x (s := 21) hc2 k21 (by decide) rfl)) (fun mm => ?_)
      unfold fb_M_alone_361
      exact pk_bnd (pk_mo (ndS_0 (N := N) (s := 1) hw2 h2 (by decide) rfl k21) (fun v r2 z => pk_some z))
  · have q2 : Kfc w2 w2 := q2
    unfold fb_M_alone_361
    refine Kf_pk (u0 := w2) ?_
    repeat' (first | with_reducible assumption | with_reducible refine Kf_br ?_ ?_ | with_reducible refine Kf_bnd ?_ (fun _ _ _ => ?_) | with_reducible refine Kf_ck ?_ | with_reducible refine Kf_ltm ?_ (fun _ _ => ?_) | with_reducible refine Kf_some ?_ | with_reducible refine Kf_bo (fun _ => ?_) | with_reducible exact yf_fm_M_node (by assumption) | with_reducible exact yf_fm_M_pattern (by assumption) | with_reducible exact yf_fm_M_wrong (by assumption) | with_reducible exact yf_fm_M_rule (by assumption) | with_reducible exact yf_fm_M_isSign (by assumption) | with_reducible exact yf_fm_M_isWord (by assumption) | with_reducible exact yf_fm_M_takeSign (by assumption) | with_reducible exact yf_fm_M_takeWord (by assumption) | with_reducible exact yf_fm_M_needSign (by assumption) | with_reducible exact yf_fm_M_needWord (by assumption) | with_reducible exact yf_fm_M_opens (by assumption) | with_reducible exact yf_fm_M_boundIn (by assumption) | with_reducible exact yf_fr_M_found (by assumption) | with_reducible exact yf_fm_M_bind (by assumption) | with_reducible exact yf_fm_M_isUnderscore (by assumption) | with_reducible exact yf_fm_M_unbind (by assumption) | with_reducible exact yf_fm_M_term (by assumption) | with_reducible exact yf_fm_M_namePattern (by assumption) | with_reducible exact yf_fr_M_patternAt (by assumption) | with_reducible exact yf_fm_M_beginsUnit (by assumption) | with_reducible exact yf_fm_M_save (by assumption) | with_reducible exact yf_fm_M_addRoot (by assumption) | with_reducible exact yf_fm_M_level (by assumption) | with_reducible exact yf_fm_M_reduce (by assumption) | with_reducible exact yf_fm_M_takeBack (by assumption) | with_reducible exact yf_fm_M_forgetSaved (by assumption) | with_reducible exact yf_fr_M_last (by assumption) | with_reducible exact yf_fr_M_clause (by assumption) | with_reducible exact yf_fm_M_predefinedOf (by assumption) | with_reducible exact yf_fm_M_function0 (by assumption) | with_reducible exact yf_fm_M_program (by assumption) | with_reducible exact hF0 _ (by assumption) | with_reducible exact hF1 _ _ (by assumption) | with_reducible exact hF2 _ _ _ (by assumption) | with_reducible exact hF3 _ _ _ (by assumption) | with_reducible exact hF4 _ (by assumption) | with_reducible exact hF5 _ _ (by assumption) | with_reducible exact hF6 _ _ (by assumption) | with_reducible exact hF7 _ _ (by assumption) | with_reducible exact hF8 _ _ (by assumption) | with_reducible exact hF9 _ (by assumption) | with_reducible exact hF10 _ (by assumption) | with_reducible exact hF11 _ (by assumption) | with_reducible exact hF12 _ (by assumption) | with_reducible exact hF13 _ (by assumption) | with_reducible exact hF14 _ (by assumption) | with_reducible exact hF15 _ (by assumption) | with_reducible exact hF16 _ _ (by assumption) | with_reducible refine Kf_ltv (fun _ => ?_) | with_reducible refine Kf_I ?_ (by decide) | with_reducible refine Kf_A ?_ | with_reducible refine Kf_J ?_ | with_reducible refine Kf_L ?_)
end
