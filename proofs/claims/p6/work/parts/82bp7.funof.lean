set_option maxRecDepth 100000
section
variable {α : Type} {R : MS → Int32 ⊕ Nat → MS → Int32 → Prop} {A : Option (MS × α)} {m0 w0 m w v u m2 m3 w2 x' y' z' mF mB wB mp mg : MS} {K nm Nk W W1 W2 WA WB : Nat → Nat} {T p n N q q1 q3 X Y X1 X2 XA n0 n1 n2 n3 lo lo2 l1 l2 np ng p0 p2 p4 ν μ π a b L L' k d o oo M D s kd j j2 : Nat} {sc sc1 sc2 sc3 sc4 sc5 t t2 t3 t4 t5 : SCT} {e e2 e3 e4 e5 : List Nat × List Nat × Nat} {gd Rf Rg Zf R1 Z1 own cs : Bool} {BC : MS → Prop} {v1 v2 v3 v4 v5 v6 v1c r ξ φ ca cb cc x y : Int32} {S : SG_M_behind} {NC : Nat → Prop} {CL CM CL1 : Int32 × Int32 × Int32 → Prop} {l lp lg : List Nat}
theorem f69 {G : MS → Int32 → Int32 → Int32 → Int32 → Option (MS × Int32)} (h : STW Nk K p p2 sc sc2 X W Rf Zf CL w v) (hq : q ≤ 4001) (h7 : v.2.2.1 7 q = x) (h69 : v.1 69 = I (q3 : Nat)) (hq3 : q3 ≤ 4001) (h72 : v.2.2.1 7 q3 = y) : PK (fun u (_ : Int32) => ∃ u', u = adv u' q3 ∧ STW Nk K p p2 sc sc2 X W Rf Zf (fun z => CL z ∨ z = (x, y, 2)) w u' ∧ (∀ k, k ≠ 32 → u'.1 k = v.1 k) ∧ ∀ k, k < 23 ∨ 30 < k → u'.2.2.1 k = v.2.2.1 k) (fb_M_fun_69 N S G v (I (q : Nat))) := by
  unfold fb_M_fun_69
  refine pk_bnd (pk_mo (node_p (w := v)) (fun u10 r10 q0 => ?_))
  obtain ⟨b, ⟨e1, e2, e3, e4⟩, e5, e6, e7, e8⟩ := q0
  have hra : r10.toNatClampNeg = b := by rw [e3]; exact tnI rfl (by omega)
  rw [hra, tnI (n := q) rfl (by omega), e8 7 (by omega), h7]
  refine pk_ck (fun _ => pk_ck (fun _ => pk_lt ?_))
  generalize hw11 : upA u10 25 (upd (u10.2.2.1 25) b x) = w11
  have f69 : w11.1 69 = I (q3 : Nat) := by rw [← hw11]; show u10.1 69 = _; rw [e7 69 (by decide)]; exact h69
  have f7 : w11.2.2.1 7 = v.2.2.1 7 := by rw [← hw11, upA_no (by decide)]; exact e8 7 (by omega)
  rw [f69, tnI (n := q3) rfl (by omega), f7, h72]
  refine pk_ck (fun _ => pk_ck (fun _ => pk_lt (pk_lt (pk_some ?_))))
  generalize hu : upA w11 26 (upd (w11.2.2.1 26) b y) = u2
  have ui : ∀ k, k ≠ 32 → u2.1 k = v.1 k := fun k hk => by rw [← hu, ← hw11]; exact e7 k hk
  have ur : ∀ k, k < 23 ∨ 30 < k → u2.2.2.1 k = v.2.2.1 k := fun k hk => by
    rw [← hu, upA_no (by omega), ← hw11, upA_no (by omega)]; exact e8 k hk
  have uj : ∀ k j, j ≠ b → u2.2.2.1 k j = v.2.2.1 k j := fun k j hj => by
    have one : ∀ (s : MS) (i : Nat) (y : Int32), (upA s i (upd (s.2.2.1 i) b y)).2.2.1 k j = s.2.2.1 k j := fun s i y => by
      by_cases e : k = i
      · subst e; rw [upA_at, upd_no hj]
      · rw [upA_no e]
    rw [← hu, one, ← hw11, one]
    exact e6 k j hj
  have u23 : u2.2.2.1 23 b = 15 := by
    rw [← hu, upA_no (by decide), ← hw11, upA_no (by decide), e5]
    decide
  have u25 : u2.2.2.1 25 b = x := by rw [← hu, upA_no (by decide), ← hw11, upA_at, upd_at]
  have u26 : u2.2.2.1 26 b = y := by rw [← hu, upA_at, upd_at]
  have u32 : u2.1 32 = I ((b + 1 : Nat) : Int) := by rw [← hu, ← hw11]; exact e4
  obtain ⟨a1, a2, a3, a4, a5, a6, a7, b0, b1, a8, a9, a10⟩ := h
  have eb : b1 = b := by
    have := a8.2.1.symm.trans e1
    have := (I_eq (x := (b1 : Nat)) (y := (b : Nat)) (by omega) (by omega) (by omega) (by omega)).mp this
    omega
  subst eb
  have nk : NKP b1 v u2 := fun j hj => ⟨uj 23 j (by omega), fun _ => ⟨uj 25 j (by omega), uj 26 j (by omega), uj 27 j (by omega)⟩⟩
  refine ⟨u2, ?_, ⟨RNs_e a1 (ui 65 (by decide)) (fun k h1 h2 => ur k (by omega)), a2, a3, a4, by rw [ui 66 (by decide)]; exact a5, by rw [ui 72 (by decide)]; exact a6, WFE_tr a7 ⟨fun k hk => ui k (by rintro rfl; revert hk; decide), fun k hk => ur k (by omega), fun j _ => by rw [ur 74 (by omega)], fun j _ => by rw [ur 76 (by omega)], fun i i1 i2 j _ => by rw [ur i (by omega)]⟩, b0, b1 + 1, ⟨a8.1, u32, by omega, by omega⟩, fun z => ?_, NKP_tr a10 nk a8.2.2.1⟩, ui, ur⟩
  · unfold adv
    rw [ui 69 (by decide), h69, i_suc]
  · rw [CSY_split a8.2.2.1 (Nat.le_succ _), CSY_k nk, a9]
    constructor
    · rintro (z1 | ⟨j, j1, j2, j3, j4⟩)
      · exact Or.inl z1
      · have : j = b1 := by omega
        subst this
        refine Or.inr ?_
        rcases j2 with ⟨k1, -⟩ | ⟨-, k2⟩
        · rw [u23] at k1; exact absurd k1 (by decide)
        · obtain ⟨z1, z2, z3⟩ := z
          have j3 : _ = z1 := j3
          have j4 : _ = z2 := j4
          have k2 : z3 = 2 := k2
          rw [← j3, ← j4, k2, u25, u26]
    · rintro (z1 | rfl)
      · exact Or.inl z1
      · exact Or.inr ⟨b1, ⟨Nat.le_refl _, Nat.lt_succ_self _⟩, Or.inr ⟨u23, rfl⟩, u25, u26⟩
theorem fof_pp (c : CTZ m0 w0 K T nm Nk) (cA : CTA m0 w0 K T) (h : RLP m0 w0 T p m w) (hn : m.1 306 = I (n : Nat)) (hn2 : n ≤ 2 * p) (hR : RNs w sc) (nd : ND w) (k12 : K p = 12) (k2 : K (p + 1) = 2) : PP (EXB N m0 w0 K T nm Nk p n sc o m w) (lt (upI (advc m p) 665 ((advc m p).1 665 + 1)) (fun w17 => bTm (hm_Pa_need N w17 37) (fun u18 r18 => bTm (hm_Pa_need N u18 1) (fun u19 r19 => ck (inb ((advc m p).1 665) 4002) (ck (inb r19 4002) (bnd (hm_Tr_add N u19 13 (I (p : Nat)) (u19.2.2.1 7 ((advc m p).1 665).toNatClampNeg) (u19.2.2.1 7 r19.toNatClampNeg) 0) (fun u31 r31 => some (u31, .inl r31)))))))) (lt (upI (adv w p) 69 (((adv w p).1 69) + 1)) (fun w24 => bnd (fm_M_needSign N w24 24) (fun u25 _ => br (decide ((u25.1 67) = 0)) (ck (inb (u25.1 69) (ln 6)) (br (decide ((u25.2.2.1 6 (u25.1 69).toNatClampNeg) = 4)) (fb_M_fun_69 N (rc_M_behind N d) (gg_M_fun N (rc_M_behind N d) N) u25 ((adv w p).1 69)) (bnd (fm_M_wrong N u25 2) (fun u26 _ => fb_M_fun_69 N (rc_M_behind N d) (gg_M_fun N (rc_M_behind N d) N) u26 ((adv w p).1 69))))) (fb_M_fun_69 N (rc_M_behind N d) (gg_M_fun N (rc_M_behind N d) N) u25 ((adv w p).1 69))))) := by
  have T4 := c.1.1.1
  have pl : p < T := TWK_lt c h.2.2.2.2.1 (by omega) (by omega)
  have s0 := STQ_0 (K := K) (Nk := Nk) (gd := false) (W := fun _ => 32) h hn hR nd
  have s1 := STQ_ad s0 pl (by omega)
  have pl1 : p + 1 < T := TWK_lt c s1.1.2.2.2.2.1 (by omega) (by omega)
  have s2 := STQ_ad s1 pl1 (by omega)
  have c1 : (advc m p).1 665 = I ((p + 1 : Nat) : Int) := s1.1.2.2.1
  have c2 : (adv w p).1 69 = I ((p + 1 : Nat) : Int) := s1.1.2.2.2.1
  rw [c1, c2, i_suc]
  have hfl : ∀ v, FLW v → PK (fun w2 (_ : Int32) => FLW w2) (fb_M_fun_69 N (rc_M_behind N d) (gg_M_fun N (rc_M_behind N d) N) v (I ((p + 1 : Nat) : Int))) := fun v hv => by
    have hz : Kfc v v := hv
    refine Kf_pk (u0 := v) ?_
    unfold fb_M_fun_69
    obtain ⟨hF0, hF1, hF2, hF3, hF4, hF5, hF6, hF7, hF8, hF9, hF10, hF11, hF12, hF13, hF14, hF15, hF16⟩ := yf_rc_M_behind (u0 := v) (N := N) d
    repeat' (first | with_reducible assumption | with_reducible refine Kf_br ?_ ?_ | with_reducible refine Kf_bnd ?_ (fun _ _ _ => ?_) | with_reducible refine Kf_ck ?_ | with_reducible refine Kf_ltm ?_ (fun _ _ => ?_) | with_reducible refine Kf_some ?_ | with_reducible refine Kf_bo (fun _ => ?_) | with_reducible exact yf_fm_M_node (by assumption) | with_reducible exact yf_fm_M_pattern (by assumption) | with_reducible exact yf_fm_M_wrong (by assumption) | with_reducible exact yf_fm_M_rule (by assumption) | with_reducible exact yf_fm_M_isSign (by assumption) | with_reducible exact yf_fm_M_isWord (by assumption) | with_reducible exact yf_fm_M_takeSign (by assumption) | with_reducible exact yf_fm_M_takeWord (by assumption) | with_reducible exact yf_fm_M_needSign (by assumption) | with_reducible exact yf_fm_M_needWord (by assumption) | with_reducible exact yf_fm_M_opens (by assumption) | with_reducible exact yf_fm_M_boundIn (by assumption) | with_reducible exact yf_fr_M_found (by assumption) | with_reducible exact yf_fm_M_bind (by assumption) | with_reducible exact yf_fm_M_isUnderscore (by assumption) | with_reducible exact yf_fm_M_unbind (by assumption) | with_reducible exact yf_fm_M_term (by assumption) | with_reducible exact yf_fm_M_namePattern (by assumption) | with_reducible exact yf_fr_M_patternAt (by assumption) | with_reducible exact yf_fm_M_beginsUnit (by assumption) | with_reducible exact yf_fm_M_save (by assumption) | with_reducible exact yf_fm_M_addRoot (by assumption) | with_reducible exact yf_fm_M_level (by assumption) | with_reducible exact yf_fm_M_reduce (by assumption) | with_reducible exact yf_fm_M_takeBack (by assumption) | with_reducible exact yf_fm_M_forgetSaved (by assumption) | with_reducible exact yf_fr_M_last (by assumption) | with_reducible exact yf_fr_M_clause (by assumption) | with_reducible exact yf_fm_M_predefinedOf (by assumption) | with_reducible exact yf_fm_M_function0 (by assumption) | with_reducible exact yf_fm_M_program (by assumption) | with_reducible exact hF0 _ (by assumption) | with_reducible exact hF1 _ _ (by assumption) | with_reducible exact hF2 _ _ _ (by assumption) | with_reducible exact hF3 _ _ _ (by assumption) | with_reducible exact hF4 _ (by assumption) | with_reducible exact hF5 _ _ (by assumption) | with_reducible exact hF6 _ _ (by assumption) | with_reducible exact hF7 _ _ (by assumption) | with_reducible exact hF8 _ _ (by assumption) | with_reducible exact hF9 _ (by assumption) | with_reducible exact hF10 _ (by assumption) | with_reducible exact hF11 _ (by assumption) | with_reducible exact hF12 _ (by assumption) | with_reducible exact hF13 _ (by assumption) | with_reducible exact hF14 _ (by assumption) | with_reducible exact hF15 _ (by assumption) | with_reducible exact hF16 _ _ (by assumption) | with_reducible refine Kf_ltv (fun _ => ?_) | with_reducible refine Kf_I ?_ (by decide) | with_reducible refine Kf_A ?_ | with_reducible refine Kf_J ?_ | with_reducible refine Kf_L ?_)
  refine l_lt (r_lt ?_)
  show PP _ (bTm (hm_Pa_need N (advc (advc m p) (p + 1)) 37) _) (bnd (fm_M_needSign N (adv (adv w p) (p + 1)) 24) _)
  have hc2 := RLP_c c s2.1
  have hw2 := RLP_w c s2.1
  have h02 := s2.1.2.2.2.2.2.2
  by_cases k37 : K (p + 2) = 37
  · have pl2 : p + 2 < T := TWK_lt c s2.1.2.2.2.2.1 (by omega) (by omega)
    rw [need_e (s := 37) hc2 k37 (by decide) rfl, bTm_l, ndS_1 (s := 24) hw2 h02 (by decide) rfl k37, bnd_s]
    have s3 := STQ_ad s2 pl2 (by show K (p + 2) ≠ 3; omega)
    have hc3 := RLP_c c s3.1
    have hw3 := RLP_w c s3.1
    have h03 := s3.1.2.2.2.2.2.2
    have pT3 : p + 3 ≤ T := s3.1.2.2.2.2.1
    have k46 := hc3.1.1.k46 hc3.2.2
    rw [decide_eq_true h03, br_tq]
    have w6 : (adv (adv (adv w p) (p + 1)) (p + 2)).2.2.1 6 ((adv (adv (adv w p) (p + 1)) (p + 2)).1 69).toNatClampNeg = I (srK (K (p + 3)) : Nat) := by
      rw [hw3.2.1, tnI (n := p + 3) rfl (by omega)]
      exact hw3.1.2.1 (p + 3) pT3
    show PP _ _ (ck (inb ((adv (adv (adv w p) (p + 1)) (p + 2)).1 69) (ln 6)) (br (decide ((adv (adv (adv w p) (p + 1)) (p + 2)).2.2.1 6 ((adv (adv (adv w p) (p + 1)) (p + 2)).1 69).toNatClampNeg = 4)) _ _))
    rw [w6, decide_eq_decide.mpr (srK_4 (K (p + 3)) k46)]
    refine r_ck (fun _ => ?_)
    by_cases k1 : K (p + 3) = 1
    · have pl3 : p + 3 < T := TWK_lt c pT3 (by omega) (by omega)
      rw [decide_eq_true k1, br_tq]
      have ne3 : hm_Pa_need N (advc (advc (advc m p) (p + 1)) (p + 2)) 1 = some (advc (advc (advc (advc m p) (p + 1)) (p + 2)) (p + 3), .inl (I ((p + 3 : Nat) : Int))) := need_e (s := 1) hc3 k1 (by decide) rfl
      rw [ne3, bTm_l, tnI (n := p + 1) rfl (by omega), tnI (n := p + 3) rfl (by omega)]
      have nb := s3.2.1
      have g306 : (advc (advc (advc (advc m p) (p + 1)) (p + 2)) (p + 3)).1 306 = I (n : Nat) := by
        unfold advc
        rw [upI_ne (by decide), upI_ne (by decide), upI_ne (by decide), upI_ne (by decide)]; exact hn
      have a7 : m.2.2.1 7 (p + 1) = w.2.2.1 7 (p + 1) := by rw [h.1.2 7 (by decide), h.2.1.2 7 (by decide)]; exact cA (p + 1) pl1 (Or.inr k2)
      have b7 : m.2.2.1 7 (p + 3) = w.2.2.1 7 (p + 3) := by rw [h.1.2 7 (by decide), h.2.1.2 7 (by decide)]; exact cA (p + 3) pl3 (Or.inl k1)
      refine l_ck (fun _ => l_ck (fun _ => ?_))
      rw [add_e g306 (by omega), bnd_s]
      refine pp_l (pk_mo (f69 (q := p + 1) (q3 := p + 3) s3.2.2.2.2.1 (by omega) rfl hw3.2.1 (by omega) rfl) (fun u r hu => ?_))
      obtain ⟨u', rfl, su, ui, ur⟩ := hu
      obtain ⟨y1, y2, y3, y4, y5, y6, y7⟩ := s3
      have s4 : STQ m0 w0 K T Nk false m w p n sc (0 + 2 + 2 + 2) (advc (advc (advc m p) (p + 1)) (p + 2)) u' (p + 1 + 1 + 1) n sc 0 (fun _ => 32) false false (fun z => False ∨ z = (w.2.2.1 7 (p + 1), w.2.2.1 7 (p + 3), 2)) := ⟨⟨y1.1, Kt_tr y1.2.1 ⟨fun k hk => ui k (by rintro rfl; revert hk; decide), fun k hk => ur k (by unfold TRW at hk; simp only [List.mem_cons, List.not_mem_nil, or_false] at hk; omega)⟩, y1.2.2.1, by rw [ui 69 (by decide)]; exact y1.2.2.2.1, y1.2.2.2.2.1, by rw [ui 70 (by decide)]; exact y1.2.2.2.2.2.1, by rw [ui 67 (by decide)]; exact y1.2.2.2.2.2.2⟩, y2, y3, y4, su, y6, y7⟩
      have s5 := STQ_ad s4 pl3 (by show K (p + 3) ≠ 3; omega)
      refine EXB_mk (kd := 13) (STQ_s2 s5 (by omega)) SMS_rf rfl (by omega) (by omega) (by omega) (by decide) (by rw [k12]; rfl) (fun gd => ?_)
      have := exn_fof (N := N) (K := K) (nm := nm) (gd := gd) (W := fun _ => 32) (sc := sc) (p := p) (p2 := p + 3 + 1) (lo := n) (n2 := n + 1) (m2 := adN (advc (advc (advc (advc m p) (p + 1)) (p + 2)) (p + 3)) n 13 (I (p : Nat)) (m.2.2.1 7 (p + 1)) (m.2.2.1 7 (p + 3)) 0) adN_nod.1 (by omega) (by omega) (Nat.le_refl _) (by omega) (fun j h1 h2 => by
        have : j = p ∨ j = p + 1 ∨ j = p + 2 ∨ j = p + 3 := by omega
        rcases this with z | z | z | z <;> rw [z] <;> omega)
      refine EXN_bc (fun mm => ?_) this
      rw [a7, b7]
      show BCo N _ mm ↔ _
      unfold BCo
      constructor
      · rintro ⟨x, h1 | h1, h2⟩
        · exact h1.elim
        · rw [← h1]; exact h2
      · exact fun h1 => ⟨_, Or.inr rfl, h1⟩
    · rw [decide_eq_false k1, br_fq]
      refine pp_rf (RFS_T (need_x (s := 1) hc3 k1 (by decide) rfl)) (fun mm => ?_)
      exact pk_bnd (fun v r z => hfl v (wrong_s (u0 := v) (by decide) v r z))
  · refine pp_rf (RFS_T (need_x (s := 37) hc2 k37 (by decide) rfl)) (fun mm => ?_)
    refine pk_bnd (pk_mo (ndS_0 (N := N) (s := 24) hw2 h02 (by decide) rfl k37) (fun v r2 z => ?_))
    rw [decide_eq_false z, br_fq]
    exact hfl v z
end
