set_option maxRecDepth 100000
def nms (sc : SCT) : List (List Nat) := sc.map (fun e => e.1)
def PLW (N : Nat) (K nm : Nat → Nat) (m2 : MS) (lo n2 : Nat) (W : Nat → Nat) (b : Nat) : List Nat → Nat → Nat → SCT → SCT → Nat → Bool → Bool → (MS → Prop) → Prop
  | [], p, p2, sc, sc2, X, Rf, Zf, BC => p = p2 ∧ sc2 = sc ∧ X = 0 ∧ Rf = false ∧ Zf = false ∧ ∀ m, ¬ BC m
  | π :: l, p, p2, sc, sc2, X, Rf, Zf, BC => ∃ q q1 q2 sc1 e3 t3 X1 X2 X3 R1 R2 R3 Z1 Z2 Z3 B1 B2 B3, (p ≤ q ∧ q ≤ q1 ∧ q1 ≤ q2 ∧ q2 ≤ p2) ∧ (∀ j, p ≤ j → j < q → K j ≠ 3) ∧ (∃ mi li ni, TRB N K nm false mi li ni π q q1 sc sc1 X1 W R1 Z1 B1 ∧ BDB N K nm mi li ni π q1 q2 sc1 (e3 :: t3) X2 W R2 Z2 B2 ∧ KPX li ni π mi m2 ∧ (lo ≤ li ∧ ni ≤ n2) ∧ (li < π ∧ π ≤ ni)) ∧ (1 ≤ π ∧ π ≤ n2) ∧ m2.2.2.1 21 π = I ((l.headD 0 : Nat) : Int) ∧ ((tot sc1 ≤ tot sc + (q1 - q) ∧ sc1.length = sc.length ∧ X1 ≤ 1400) ∧ tot (e3 :: t3) ≤ tot sc1 + (q2 - q1) ∧ (e3 :: t3).length = sc1.length ∧ X2 ≤ 1400) ∧ (b ≤ e3.1.length ∧ tot t3 + b = tot sc) ∧ PLW N K nm m2 lo n2 W b l q2 p2 (cutS b (e3 :: t3)) sc2 X3 R3 Z3 B3 ∧ X = max X1 (max X2 X3) ∧ Rf = (R1 || (R2 || R3)) ∧ Zf = (Z1 || (Z2 || Z3)) ∧ (∀ m, BC m ↔ B1 m ∨ B2 m ∨ B3 m) ∧ STB B2 ∧ STB B3
section
variable {m v u m1 m2 m3 mi : MS} {K nm W : Nat → Nat} {sc sc1 sc2 sc3 t t2 : SCT} {e0 e2 : List Nat × List Nat × Nat} {s x y N i f tok cm cm2 p p2 q q2 q3 q4 n1 n2 n3 ν μ π lo li ni X X1 X2 k : Nat} {gd Zf Rf R1 R2 Z1 Z2 own : Bool} {g : Nat → Int32} {B1 B2 BC : MS → Prop} {a b c e f : Int32} {l lp lg lb : List Nat} {S : SF_Cm_fun}
theorem nms_len : ∀ {a b : SCT}, nms a = nms b → a.length = b.length := fun {a b} h => by
  have := congrArg List.length h
  unfold nms at this
  rw [List.length_map, List.length_map] at this
  exact this
theorem nms_tot : ∀ {a b : SCT}, nms a = nms b → tot a = tot b
  | [], [], _ => rfl
  | [], _ :: _, h => by cases h
  | _ :: _, [], h => by cases h
  | e :: t, e2 :: t2, h => by
    have h : e.1 :: nms t = e2.1 :: nms t2 := h
    injection h with h1 h2
    show tot t + e.1.length = tot t2 + e2.1.length
    rw [nms_tot h2, h1]
theorem CNl_nm : ∀ {a b : SCT}, nms a = nms b → CNl m nm a → CNl m nm b
  | [], [], _, _ => trivial
  | [], _ :: _, h, _ => by cases h
  | _ :: _, [], h, _ => by cases h
  | e :: t, e2 :: t2, h, c => by
    have h : e.1 :: nms t = e2.1 :: nms t2 := h
    injection h with h1 h2
    obtain ⟨c1, c2, c3⟩ := c
    refine ⟨?_, ?_, CNl_nm h2 c3⟩
    · rw [← nms_len h2, ← nms_tot h2]; exact c1
    · rw [← h1, ← nms_tot h2]; exact c2
theorem CNs_nm (h : nms sc = nms sc2) (c : CNs m nm sc) : CNs m nm sc2 := ⟨by rw [← nms_len h]; exact c.1, by rw [← nms_len h]; exact c.2.1, by rw [← nms_tot h]; exact c.2.2.1, by rw [← nms_tot h]; exact c.2.2.2.1, CNl_nm h c.2.2.2.2⟩
theorem CPR_nm (h : nms sc = nms sc2) (c : CPR nm gd p p2 sc cm m) : CPR nm gd p p2 sc2 cm m := ⟨c.1, CNs_nm h c.2.1, by rw [← nms_len h]; exact c.2.2.1, c.2.2.2.1, c.2.2.2.2.1, c.2.2.2.2.2.1, by rw [← nms_tot h]; exact c.2.2.2.2.2.2⟩
theorem BDs_nm : ∀ {a b : SCT}, BDs a b → nms b = nms a
  | [], [], _ => rfl
  | [], _ :: _, h => h.elim
  | _ :: _, [], h => h.elim
  | e :: t, e2 :: t2, h => by
    show e2.1 :: nms t2 = e.1 :: nms t
    rw [h.1.1, BDs_nm h.2]
theorem cut_nm (h : SCX (e0 :: t) (e2 :: t2) X) : nms (cutS e0.1.length (e2 :: t2)) = nms (e0 :: t) := by
  show e2.1.take e0.1.length :: nms t2 = e0.1 :: nms t
  rw [BDs_nm h.2.2, ← List.prefix_iff_eq_take.mp h.1]
theorem CPO_b (hl : sc1.length = sc.length) (i : ∀ k, k ∈ [711, 712, 713, 714] → v.1 k = m.1 k) (r41 : v.2.2.1 41 = m.2.2.1 41) (r42 : v.2.2.1 42 = m.2.2.1 42) (fr : FRC m v) (mo : m.1 441 ≤ v.1 441) (sB : STB BC) (h : CPO K nm p p2 sc1 sc2 X W Rf Zf BC cm v u) : CPO K nm p p2 sc sc2 X W Rf Zf BC cm m u := by
  have e := sB m v fr
  rcases h with ⟨h1, h2, h3⟩ | ⟨h1, h2⟩
  · exact Or.inl ⟨h1.elim Or.inl (fun z => Or.inr (e.mp z)), h2, FRC_tr fr h3⟩
  · obtain ⟨a1, a2, a3, a4, a5, a6, a7, a8, a9⟩ := h2
    rw [hl] at a2 a3
    exact Or.inr ⟨⟨h1.1, fun z => h1.2 (e.mpr z)⟩, a1, a2, fun j hj => by rw [a3 j hj, r41], by rw [a4, r42], C11_b a5 mo (i 711 (by decide)), by rw [a6, i 714 (by decide)], by rw [a7, i 712 (by decide)], by rw [a8, i 713 (by decide)], FRC_tr fr a9⟩
theorem fgt_b {w : MS} {mk : Int32} (k : Kuc v w) : (∀ k, k ∈ [711, 712, 713, 714] → (upI w 706 mk).1 k = v.1 k) ∧ (upI w 706 mk).2.2.1 41 = v.2.2.1 41 ∧ (upI w 706 mk).2.2.1 42 = v.2.2.1 42 ∧ FRC v (upI w 706 mk) ∧ v.1 441 ≤ (upI w 706 mk).1 441 := ⟨fun j hj => by simp only [List.mem_cons, List.not_mem_nil, or_false] at hj; rw [upI_ne (by omega)]; exact k.1 j (by omega), k.2.1 41 (by decide), k.2.1 42 (by decide), FRC_tr (FRC_u k) (upI_FRC (by decide)), by rw [upI_ne (by decide)]; exact k.2.2⟩
theorem CPR_cut {b : Nat} {w : MS} {mk : Int32} (c : CPR nm gd p p2 (e2 :: t2) cm v) (k : Kuc v w) (hb : b ≤ e2.1.length) (hm : mk = I ((tot t2 + b : Nat) : Int)) : CPR nm gd p p2 (cutS b (e2 :: t2)) cm (upI w 706 mk) := by
  have h := NPE_cut (NPE_u (CPR_0 c) k) hb hm
  obtain ⟨z1, z2, z3, z4, z5⟩ := fgt_b (mk := mk) k
  exact ⟨by rw [z1 714 (by decide)]; exact c.1, h.1, by rw [cutS_len]; exact h.2.1, c.2.2.2.1, by rw [z1 713 (by decide)]; exact c.2.2.2.2.1, by rw [z1 712 (by decide)]; exact c.2.2.2.2.2.1, by have := c.2.2.2.2.2.2; have := cutS_le (b := b) (sc := e2 :: t2); omega⟩
theorem PLW_len {b : Nat} : ∀ {l : List Nat} {p p2 : Nat} {sc sc2 : SCT} {X : Nat} {Rf Zf : Bool} {BC : MS → Prop}, PLW N K nm m2 lo n2 W b l p p2 sc sc2 X Rf Zf BC → p ≤ p2 ∧ tot sc2 ≤ tot sc ∧ sc2.length = sc.length
  | [], _, _, _, _, _, _, _, _, ⟨h1, h2, _⟩ => by
    subst h1
    subst h2
    exact ⟨Nat.le_refl _, Nat.le_refl _, rfl⟩
  | π :: l, p, p2, sc, sc2, X, Rf, Zf, BC, ⟨q, q1, q2, sc1, e3, t3, X1, X2, X3, R1, R2, R3, Z1, Z2, Z3, B1, B2, B3, h1, _, _, _, _, h2, h3, h4, _⟩ => by
    obtain ⟨a, b, c⟩ := PLW_len h4
    rw [cutS_tot h3.1] at b
    rw [cutS_len] at c
    exact ⟨by omega, by omega, by rw [c, h2.2.2.1, h2.1.2.1]⟩
theorem prt_lp {b : Nat} (hl : n2 ≤ 8015) : ∀ {l : List Nat} {p p2 : Nat} {sc sc2 : SCT} {X : Nat} {Rf Zf : Bool} {BC : MS → Prop}, PLW N K nm m2 lo n2 W b l p p2 sc sc2 X Rf Zf BC → ∀ (d M : Nat) (m3 : MS) (cm : Nat) (wh tk last en : Int32), decide (wh < 0) = true → (∀ j, lo < j → j ≤ n2 → nod m3 j = nod m2 j ∧ m3.2.2.1 21 j = m2.2.2.1 21 j) → Kcc m2 m3 → CPR nm false p p2 sc cm m3 → PK (fun m4 (_ : Int32) => CPO K nm p p2 sc sc2 X W Rf Zf BC cm m3 m4) (hg_Cm_parts N (hrc_Cm_fun N d) M m3 wh tk last en (I ((l.headD 0 : Nat) : Int)))
  | _, _, _, _, _, _, _, _, _, _, _, 0, _, _, _, _, _, _, _, _, _, _ => pk_none
  | [], p, p2, sc, sc2, X, Rf, Zf, BC, ⟨h1, h2, h3, h4, h5, h6⟩, d, M + 1, m3, cm, wh, tk, last, en, _, _, _, cp => by
    subst h1
    subst h2
    subst h3
    subst h4
    subst h5
    show PK _ (hb_Cm_parts_6 N (hrc_Cm_fun N d) (hg_Cm_parts N (hrc_Cm_fun N d) M) m3 wh tk last en 0)
    unfold hb_Cm_parts_6
    rw [show decide ((0 : Int32) = 0) = true from rfl, br_tq]
    refine pk_some (CPO_ok ⟨rfl, h6 m3⟩ ?_)
    rw [Nat.max_eq_left (Nat.zero_le cm), wup_0 (fun j h1 h2 => absurd h2 (by omega))]
    exact CPR_0 cp
  | π :: l, p, p2, sc, sc2, X, Rf, Zf, BC, ⟨q, q1, q2, sc1, e3, t3, X1, X2, X3, R1, R2, R3, Z1, Z2, Z3, B1, B2, B3, h1, g1, ⟨mi, li, ni, hT, hB, hx, hni, hli⟩, h3, h4, h5, hb, h6, h7, h8, h9, h10, s2, s3⟩, d, M + 1, m3, cm, wh, tk, last, en, hw, k1, k2, cp => by
    subst h7
    subst h8
    subst h9
    obtain ⟨a1, a2, a3⟩ := PLW_len h6
    show PK _ (hb_Cm_parts_6 N (hrc_Cm_fun N d) (hg_Cm_parts N (hrc_Cm_fun N d) M) m3 wh tk last en (I (π : Nat)))
    unfold hb_Cm_parts_6
    rw [decide_eq_false (p := I (π : Nat) = 0) (fun z => by have := (I_eq (x := (π : Nat)) (y := 0) (by omega) (by omega) (by omega) (by omega)).mp z; omega), br_fq]
    have kx : KPX lo n2 π m2 m3 := ⟨fun j h0 hj => ⟨(k1 j h0 hj).1, fun _ => (k1 j h0 hj).2⟩, k2⟩
    have kxi := KPX_tr hx kx hni.2 hni.1
    have c706 := cp.2.1.2.2.1
    refine pk_mo (Q := fun u (_ : Int32) => CPO K nm q p2 sc sc2 (max X1 (max X2 X3)) W (R1 || (R2 || R3)) (Z1 || (Z2 || Z3)) (fun m => B1 m ∨ (B2 m ∨ B3 m)) cm m3 u) ?_ (fun v _ qq => CPO_bc (h10 m3) (CPO_ext ⟨h1.1, by omega, Nat.le_refl _⟩ g1 (fun j y1 y2 => absurd y2 (by omega)) qq))
    have sB : STB (fun m => B2 m ∨ B3 m) := fun m v f => by
      show (B2 v ∨ B3 v) ↔ (B2 m ∨ B3 m)
      rw [s2 m v f, s3 m v f]
    refine cpo_bnd (hT d m3 cm wh (by rw [hw]; rfl) kxi (CPR_in cp (by omega))) ⟨h1.2.1, by omega⟩ sB h5.1.2.1 (fun v r9 hv => ?_) (fun v r9 hv hn => ?_)
    · obtain ⟨hS0, hS1, hS2, hS3, hS4, hS5, hS6, hS7, hS8, hS9, hS10, hS11, hS12⟩ := yz_hrc_Cm_fun (u0 := v) (N := N) d
      unfold hb_Cm_parts_38
      repeat' (first | with_reducible assumption | with_reducible refine Kz_br ?_ ?_ | with_reducible refine Kz_bnd ?_ (fun _ _ _ => ?_) | with_reducible refine Kz_ck ?_ | with_reducible refine Kz_ltm ?_ (fun _ _ => ?_) | with_reducible refine Kz_some ?_ | with_reducible exact yz_hm_Cm_notInGuard (by assumption) | with_reducible exact yz_hr_Cm_pattern (by assumption) | with_reducible exact yz_hm_Cm_forget (by assumption) | with_reducible exact yz_hm_Co_arrive (by assumption) | with_reducible exact yz_hm_Cm_funOf (by assumption) | with_reducible exact yz_hm_Co_hook (by assumption) | with_reducible exact yz_hm_Co_put (by assumption) | with_reducible exact yz_hm_Cm_term (by assumption) | with_reducible exact yz_hm_Cm_string (by assumption) | with_reducible exact yz_hm_Co_seek (by assumption) | with_reducible exact yz_hm_Cm_predefinedOf (by assumption) | with_reducible exact yz_hm_Cm_fault (by assumption) | with_reducible exact yz_hm_Cm_joining (by assumption) | with_reducible exact yz_hm_Cm_hold (by assumption) | with_reducible exact yz_hm_Co_set (by assumption) | with_reducible exact yz_hm_Tr_length (by assumption) | with_reducible exact hS0 _ _ (by assumption) | with_reducible exact hS1 _ _ _ (by assumption) | with_reducible exact hS2 _ _ _ _ _ (by assumption) | with_reducible exact hS3 _ _ _ (by assumption) | with_reducible exact hS4 _ _ _ (by assumption) | with_reducible exact hS5 _ _ _ (by assumption) | with_reducible exact hS6 _ _ _ (by assumption) | with_reducible exact hS7 _ _ (by assumption) | with_reducible exact hS8 _ _ (by assumption) | with_reducible exact hS9 _ _ (by assumption) | with_reducible exact hS10 _ _ _ (by assumption) | with_reducible exact hS11 _ _ _ (by assumption) | with_reducible exact hS12 _ _ _ _ (by assumption) | with_reducible exact yz_hg_Cm_apply hS0 hS1 hS2 hS3 hS4 hS5 hS6 hS7 hS8 hS9 hS10 hS11 hS12 _ _ _ _ _ (by assumption) | with_reducible exact yz_hg_Cm_row hS0 hS1 hS2 hS3 hS4 hS5 hS6 hS7 hS8 hS9 hS10 hS11 hS12 _ _ _ (by assumption) | with_reducible exact yz_hg_Cm_signs hS0 hS1 hS2 hS3 hS4 hS5 hS6 hS7 hS8 hS9 hS10 hS11 hS12 _ _ _ _ _ _ _ (by assumption) | with_reducible exact yz_hg_Cm_body hS0 hS1 hS2 hS3 hS4 hS5 hS6 hS7 hS8 hS9 hS10 hS11 hS12 _ _ _ _ (by assumption) | with_reducible exact yz_hg_Cm_parts hS0 hS1 hS2 hS3 hS4 hS5 hS6 hS7 hS8 hS9 hS10 hS11 hS12 _ _ _ _ _ _ _ (by assumption) | with_reducible exact (yz_hg_Cm_tries hS0 hS1 hS2 hS3 hS4 hS5 hS6 hS7 hS8 hS9 hS10 hS11 hS12 _).1 _ _ _ _ _ (by assumption) | with_reducible exact (yz_hg_Cm_tries hS0 hS1 hS2 hS3 hS4 hS5 hS6 hS7 hS8 hS9 hS10 hS11 hS12 _).2 _ _ _ _ (by assumption) | with_reducible refine Kz_ltv (fun _ => ?_) | with_reducible refine Kz_I ?_ (by decide) | with_reducible refine Kz_A ?_ (by decide))
    · have m38 : ∀ w, Kuc v w → PK (fun u (_ : Int32) => CPO K nm q1 p2 sc1 sc2 (max X2 X3) W (R2 || R3) (Z2 || Z3) (fun m => B2 m ∨ B3 m) (max cm X1) v u) (hb_Cm_parts_38 N (hrc_Cm_fun N d) (hg_Cm_parts N (hrc_Cm_fun N d) M) w wh tk last en (I (π : Nat)) (m3.1 706) r9) := fun w f3 => by
        refine pk_mo (Q := fun u (_ : Int32) => CPO K nm q1 p2 sc1 sc2 (max X2 X3) W (R2 || R3) (Z2 || Z3) (fun m => B2 m ∨ B3 m) (max cm X1) w u) ?_ (fun u _ z => CPO_v f3 sB z)
        have hn := NPE_u hn f3
        have fr := hn.2.2.2.2.2.2.2.2
        have cp2 : CPR nm false q1 p2 sc1 (max cm X1) w := CPR_2 (p := q) (p2 := p2) (q := q1) (CPR_in cp (by omega)) hn h5.1.2.1 h5.1.2.2 (by have := cp.2.2.2.2.2.2; omega)
        unfold hb_Cm_parts_38
        rw [tnI (n := π) rfl (by omega)]
        refine pk_ck (fun _ => ?_)
        refine cpo_bnd (hB d w (max cm X1) last (KPX_f kxi fr) (CPR_in cp2 (by omega))) ⟨h1.2.2.1, h1.2.2.2⟩ s3 h5.2.2.1 (fun v r9 hv => ?_) (fun v2 r9 hv2 hn2 => ?_)
        · obtain ⟨hS0, hS1, hS2, hS3, hS4, hS5, hS6, hS7, hS8, hS9, hS10, hS11, hS12⟩ := yz_hrc_Cm_fun (u0 := v) (N := N) d
          repeat' (first | with_reducible assumption | with_reducible refine Kz_br ?_ ?_ | with_reducible refine Kz_bnd ?_ (fun _ _ _ => ?_) | with_reducible refine Kz_ck ?_ | with_reducible refine Kz_ltm ?_ (fun _ _ => ?_) | with_reducible refine Kz_some ?_ | with_reducible exact yz_hm_Cm_notInGuard (by assumption) | with_reducible exact yz_hr_Cm_pattern (by assumption) | with_reducible exact yz_hm_Cm_forget (by assumption) | with_reducible exact yz_hm_Co_arrive (by assumption) | with_reducible exact yz_hm_Cm_funOf (by assumption) | with_reducible exact yz_hm_Co_hook (by assumption) | with_reducible exact yz_hm_Co_put (by assumption) | with_reducible exact yz_hm_Cm_term (by assumption) | with_reducible exact yz_hm_Cm_string (by assumption) | with_reducible exact yz_hm_Co_seek (by assumption) | with_reducible exact yz_hm_Cm_predefinedOf (by assumption) | with_reducible exact yz_hm_Cm_fault (by assumption) | with_reducible exact yz_hm_Cm_joining (by assumption) | with_reducible exact yz_hm_Cm_hold (by assumption) | with_reducible exact yz_hm_Co_set (by assumption) | with_reducible exact yz_hm_Tr_length (by assumption) | with_reducible exact hS0 _ _ (by assumption) | with_reducible exact hS1 _ _ _ (by assumption) | with_reducible exact hS2 _ _ _ _ _ (by assumption) | with_reducible exact hS3 _ _ _ (by assumption) | with_reducible exact hS4 _ _ _ (by assumption) | with_reducible exact hS5 _ _ _ (by assumption) | with_reducible exact hS6 _ _ _ (by assumption) | with_reducible exact hS7 _ _ (by assumption) | with_reducible exact hS8 _ _ (by assumption) | with_reducible exact hS9 _ _ (by assumption) | with_reducible exact hS10 _ _ _ (by assumption) | with_reducible exact hS11 _ _ _ (by assumption) | with_reducible exact hS12 _ _ _ _ (by assumption) | with_reducible exact yz_hg_Cm_apply hS0 hS1 hS2 hS3 hS4 hS5 hS6 hS7 hS8 hS9 hS10 hS11 hS12 _ _ _ _ _ (by assumption) | with_reducible exact yz_hg_Cm_row hS0 hS1 hS2 hS3 hS4 hS5 hS6 hS7 hS8 hS9 hS10 hS11 hS12 _ _ _ (by assumption) | with_reducible exact yz_hg_Cm_signs hS0 hS1 hS2 hS3 hS4 hS5 hS6 hS7 hS8 hS9 hS10 hS11 hS12 _ _ _ _ _ _ _ (by assumption) | with_reducible exact yz_hg_Cm_body hS0 hS1 hS2 hS3 hS4 hS5 hS6 hS7 hS8 hS9 hS10 hS11 hS12 _ _ _ _ (by assumption) | with_reducible exact yz_hg_Cm_parts hS0 hS1 hS2 hS3 hS4 hS5 hS6 hS7 hS8 hS9 hS10 hS11 hS12 _ _ _ _ _ _ _ (by assumption) | with_reducible exact (yz_hg_Cm_tries hS0 hS1 hS2 hS3 hS4 hS5 hS6 hS7 hS8 hS9 hS10 hS11 hS12 _).1 _ _ _ _ _ (by assumption) | with_reducible exact (yz_hg_Cm_tries hS0 hS1 hS2 hS3 hS4 hS5 hS6 hS7 hS8 hS9 hS10 hS11 hS12 _).2 _ _ _ _ (by assumption) | with_reducible refine Kz_ltv (fun _ => ?_) | with_reducible refine Kz_I ?_ (by decide) | with_reducible refine Kz_A ?_ (by decide))
        · have cp3 : CPR nm false q2 p2 (e3 :: t3) (max (max cm X1) X2) v2 := CPR_2 (p := q1) (p2 := p2) (q := q2) cp2 hn2 h5.2.2.1 h5.2.2.2 (by have := cp.2.2.2.2.2.2; omega)
          refine pk_bnd (pk_mo fgt_v (fun w1 _ qw => ?_))
          obtain ⟨w0, kw, rfl⟩ := qw
          have hmk : m3.1 706 = I ((tot t3 + b : Nat) : Int) := by rw [hb.2]; exact c706
          have cp4 := CPR_cut cp3 kw hb.1 hmk
          obtain ⟨z1, z2, z3, z4, z5⟩ := fgt_b (mk := m3.1 706) kw
          generalize upI w0 706 (m3.1 706) = w1 at cp4 z1 z2 z3 z4 z5
          refine pk_bnd (fun w5 r5 x5 => pk_bnd (fun w6 r6 x6 => pk_bnd (fun w7 r7 x7 => pk_ck (fun _ => ?_))))
          have f5 := yu_hm_Co_put (u0 := w1) Ku_rf w5 r5 x5
          have f6 := yu_hm_Co_hook (u0 := w1) f5 w6 r6 x6
          have f7 := yu_hm_Co_arrive (u0 := w1) f6 w7 r7 x7
          have fr7 := FRC_tr (FRC_tr (FRC_tr fr hn2.2.2.2.2.2.2.2.2) z4) (FRC_u f7)
          have k1w := KPX_f kx fr7
          have k1v : ∀ j, lo < j → j ≤ n2 → nod w7 j = nod m2 j ∧ w7.2.2.1 21 j = m2.2.2.1 21 j := fun j h0 hj => by
            refine ⟨(k1w.1 j h0 hj).1, ?_⟩
            rw [fr7.2 21 (by omega)]
            exact (k1 j h0 hj).2
          rw [(k1v π (by omega) h3.2).2, h4]
          refine pk_mo (prt_lp hl h6 d M w7 (max (max cm X1) X2) wh tk last r6 hw k1v k1w.2 (CPR_u cp4 f7)) (fun u _ qu => ?_)
          exact CPO_b (cutS_len) z1 z2 z3 z4 z5 s3 (CPO_v f7 s3 qu)
      exact pk_br (fun _ => m38 v Ku_rf) (fun _ => pk_bnd (fun w1 r1 x1 => m38 w1 (yu_hm_Co_put (u0 := v) Ku_rf w1 r1 x1)))
theorem prt_S {b : Nat} (h : PLW N K nm m1 lo n1 W b l p p2 sc sc2 X Rf Zf BC) (hl : n1 ≤ 8015) (kx : (∀ j, lo < j → j ≤ n1 → nod m3 j = nod m1 j ∧ m3.2.2.1 21 j = m1.2.2.1 21 j) ∧ Kcc m1 m3) (d : Nat) {wh tk last : Int32} (hw : decide (wh < 0) = true) (cp : CPR nm false p p2 sc cm m3) : PK (fun m4 (_ : Int32) => CPO K nm p p2 sc sc2 X W Rf Zf BC cm m3 m4) ((hrc_Cm_fun N d).2.2.1 m3 (I ((l.headD 0 : Nat) : Int)) wh tk last) := by
  cases d with
  | zero => exact pk_none
  | succ d => exact prt_lp hl h d N m3 cm wh tk last 0 hw kx.1 kx.2 cp
theorem exn_if {b : Nat} (hn : nod m2 ν = (I ((10 : Nat) : Int), I (tok : Nat), a, I ((l.headD 0 : Nat) : Int), e)) (htk : tok ≤ 4000) (hlo : lo < ν) (hν : ν ≤ n2) (hl : n2 ≤ 8015) (hq : p ≤ q ∧ q ≤ q2 ∧ q2 ≤ p2) (g1 : ∀ j, p ≤ j → j < q → K j ≠ 3) (g2 : ∀ j, q2 ≤ j → j < p2 → K j ≠ 3) (h : PLW N K nm m1 lo n1 W b l q q2 sc sc2 X Rf Zf BC) (h1 : KPO n1 m1 m2) (hk : Kcc m1 m2) (hn1 : n1 < ν) : EXN N K nm gd m2 lo n2 ν p p2 sc sc2 X W (gd || Rf) Zf BC := by
  refine exn_cmp (k := 10) (by unfold CMK; omega) ⟨by decide, by decide⟩ hn htk hlo hν hl (fun _ d m3 cm last kx cp ee => ?_)
  unfold cmpR hb_Cm_compound_455
  rw [tnI (n := ν) rfl (by omega), ee.1, ee.2.2.2.1]
  refine pk_ck (fun _ => ?_)
  rw [show decide (I ((10 : Nat) : Int) = 8) = false from rfl, br_fq, show decide (I ((10 : Nat) : Int) = 9) = false from rfl, br_fq, show decide (I ((10 : Nat) : Int) = 10) = true from rfl, br_tq]
  refine pk_ck (fun _ => pk_bnd (pk_mo (prt_S h (by omega) (chi_k h1 hk hn1 hν kx) d (wh := -1) rfl (CPR_in cp (by omega))) (fun v _ q => ?_)))
  have q := CPO_ext hq g1 g2 q
  exact pk_bnd (fun w1 r1 x1 => pk_bnd (fun w2 r2 x2 => pk_some (CPO_u (CPO_u q (yu_hm_Co_put (u0 := v) Ku_rf w1 r1 x1)) (yu_hm_Co_arrive (u0 := w1) Ku_rf w2 r2 x2))))
theorem exn_cas {m0 : MS} {n0 l0 b : Nat} (hn : nod m2 ν = (I ((9 : Nat) : Int), I (tok : Nat), I (μ : Nat), I ((l.headD 0 : Nat) : Int), e)) (htk : tok ≤ 4000) (hlo : lo < ν) (hν : ν ≤ n2) (hl : n2 ≤ 8015) (hq : p ≤ q ∧ q ≤ q2 ∧ q2 ≤ q3 ∧ q3 ≤ q4 ∧ q4 ≤ p2) (g1 : ∀ j, p ≤ j → j < q → K j ≠ 3) (g3 : ∀ j, q2 ≤ j → j < q3 → K j ≠ 3) (g2 : ∀ j, q4 ≤ j → j < p2 → K j ≠ 3) (h : EXN N K nm false m0 l0 n0 μ q q2 sc sc1 X1 W R1 Z1 B1) (hl0 : lo ≤ l0) (h01 : KPO n0 m0 m2) (hk0 : Kcc m0 m2) (hn0 : n0 < ν) (h' : PLW N K nm m1 li n1 W b l q3 q4 sc1 sc2 X2 R2 Z2 B2) (hli : lo ≤ li) (h1 : KPO n1 m1 m2) (hk : Kcc m1 m2) (hn1 : n1 < ν) (s2 : STB B2) (ht : tot sc1 ≤ tot sc + (q2 - q) ∧ sc1.length = sc.length ∧ X1 ≤ 1400) : EXN N K nm gd m2 lo n2 ν p p2 sc sc2 (max X1 X2) W (gd || (R1 || R2)) (Z1 || Z2) (fun m => B1 m ∨ B2 m) := by
  refine exn_cmp (k := 9) (by unfold CMK; omega) ⟨by decide, by decide⟩ hn htk hlo hν hl (fun _ d m3 cm last kx cp ee => ?_)
  unfold cmpR hb_Cm_compound_455
  rw [tnI (n := ν) rfl (by omega), ee.1, ee.2.2.1]
  refine pk_ck (fun _ => ?_)
  rw [show decide (I ((9 : Nat) : Int) = 8) = false from rfl, br_fq, show decide (I ((9 : Nat) : Int) = 9) = true from rfl, br_tq]
  refine pk_ck (fun _ => ?_)
  refine pk_mo (Q := fun u (_ : Unit) => CPO K nm q q4 sc sc2 (max X1 X2) W (R1 || R2) (Z1 || Z2) (fun m => B1 m ∨ B2 m) cm m3 u) ?_ (fun v _ qq => CPO_ext ⟨hq.1, by omega, hq.2.2.2.2⟩ g1 g2 qq)
  refine cpo_bnd (h d m3 cm 0 (KPX_di h01 hk0 kx (by omega) hn0 hl0) (CPR_in cp (by omega))) ⟨hq.2.1, by omega⟩ s2 ht.2.1 (fun v r9 hv => ?_) (fun v r9 hv hn => ?_)
  · obtain ⟨hS0, hS1, hS2, hS3, hS4, hS5, hS6, hS7, hS8, hS9, hS10, hS11, hS12⟩ := yz_hrc_Cm_fun (u0 := v) (N := N) d
    repeat' (first | with_reducible assumption | with_reducible refine Kz_br ?_ ?_ | with_reducible refine Kz_bnd ?_ (fun _ _ _ => ?_) | with_reducible refine Kz_ck ?_ | with_reducible refine Kz_ltm ?_ (fun _ _ => ?_) | with_reducible refine Kz_some ?_ | with_reducible exact yz_hm_Cm_notInGuard (by assumption) | with_reducible exact yz_hr_Cm_pattern (by assumption) | with_reducible exact yz_hm_Cm_forget (by assumption) | with_reducible exact yz_hm_Co_arrive (by assumption) | with_reducible exact yz_hm_Cm_funOf (by assumption) | with_reducible exact yz_hm_Co_hook (by assumption) | with_reducible exact yz_hm_Co_put (by assumption) | with_reducible exact yz_hm_Cm_term (by assumption) | with_reducible exact yz_hm_Cm_string (by assumption) | with_reducible exact yz_hm_Co_seek (by assumption) | with_reducible exact yz_hm_Cm_predefinedOf (by assumption) | with_reducible exact yz_hm_Cm_fault (by assumption) | with_reducible exact yz_hm_Cm_joining (by assumption) | with_reducible exact yz_hm_Cm_hold (by assumption) | with_reducible exact yz_hm_Co_set (by assumption) | with_reducible exact yz_hm_Tr_length (by assumption) | with_reducible exact hS0 _ _ (by assumption) | with_reducible exact hS1 _ _ _ (by assumption) | with_reducible exact hS2 _ _ _ _ _ (by assumption) | with_reducible exact hS3 _ _ _ (by assumption) | with_reducible exact hS4 _ _ _ (by assumption) | with_reducible exact hS5 _ _ _ (by assumption) | with_reducible exact hS6 _ _ _ (by assumption) | with_reducible exact hS7 _ _ (by assumption) | with_reducible exact hS8 _ _ (by assumption) | with_reducible exact hS9 _ _ (by assumption) | with_reducible exact hS10 _ _ _ (by assumption) | with_reducible exact hS11 _ _ _ (by assumption) | with_reducible exact hS12 _ _ _ _ (by assumption) | with_reducible exact yz_hg_Cm_apply hS0 hS1 hS2 hS3 hS4 hS5 hS6 hS7 hS8 hS9 hS10 hS11 hS12 _ _ _ _ _ (by assumption) | with_reducible exact yz_hg_Cm_row hS0 hS1 hS2 hS3 hS4 hS5 hS6 hS7 hS8 hS9 hS10 hS11 hS12 _ _ _ (by assumption) | with_reducible exact yz_hg_Cm_signs hS0 hS1 hS2 hS3 hS4 hS5 hS6 hS7 hS8 hS9 hS10 hS11 hS12 _ _ _ _ _ _ _ (by assumption) | with_reducible exact yz_hg_Cm_body hS0 hS1 hS2 hS3 hS4 hS5 hS6 hS7 hS8 hS9 hS10 hS11 hS12 _ _ _ _ (by assumption) | with_reducible exact yz_hg_Cm_parts hS0 hS1 hS2 hS3 hS4 hS5 hS6 hS7 hS8 hS9 hS10 hS11 hS12 _ _ _ _ _ _ _ (by assumption) | with_reducible exact (yz_hg_Cm_tries hS0 hS1 hS2 hS3 hS4 hS5 hS6 hS7 hS8 hS9 hS10 hS11 hS12 _).1 _ _ _ _ _ (by assumption) | with_reducible exact (yz_hg_Cm_tries hS0 hS1 hS2 hS3 hS4 hS5 hS6 hS7 hS8 hS9 hS10 hS11 hS12 _).2 _ _ _ _ (by assumption) | with_reducible refine Kz_ltv (fun _ => ?_) | with_reducible refine Kz_I ?_ (by decide) | with_reducible refine Kz_A ?_ (by decide))
  · have fr := hn.2.2.2.2.2.2.2.2
    refine pk_ck (fun _ => ?_)
    rw [fr.2 19 (by omega), ee.2.2.2.1]
    have kc := chi_k h1 hk hn1 hν (KPX_f kx fr)
    refine pk_bnd (pk_mo (prt_S h' (by omega) ⟨fun j u1 u2 => kc.1 j (by omega) u2, kc.2⟩ d (wh := -1) rfl (CPR_in (CPR_2 (p := q) (p2 := q4) (q := q2) (CPR_in cp (by omega)) hn ht.2.1 ht.2.2 (by have := cp.2.2.2.2.2.2; omega)) (by omega))) (fun w _ qw => ?_))
    have qw := CPO_ext ⟨hq.2.2.1, hq.2.2.2.1, Nat.le_refl _⟩ g3 (fun j y1 y2 => absurd y2 (by omega)) qw
    exact pk_bnd (fun w1 r1 x1 => pk_bnd (fun w2 r2 x2 => pk_some (CPO_u (CPO_u qw (yu_hm_Co_put (u0 := w) Ku_rf w1 r1 x1)) (yu_hm_Co_arrive (u0 := w1) Ku_rf w2 r2 x2))))
end
