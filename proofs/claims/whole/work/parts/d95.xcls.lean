/-! a CLAUSE, both: from its beginning to its end -/
set_option maxRecDepth 100000
section
variable {α β : Type} {m0 w0 m w m2 w2 m3 w3 v u mP wP V Z : MS} {K nm Nk W W2 : Nat → Nat} {N T D d o o2 a b b0 c cm cmP cm2 q r s lo ph mid hi i j f n k k0 kk p tk xa xb xc xd xe gx kg kb mb M kf : Nat} {Q Qp Q2 Q3 : Nat → Nat} {sc scP sc2 sc3 t t2 : SCT} {e e2 : List Nat × List Nat × Nat} {g lst own own2 : Bool} {L hs ps fs : List Nat} {fof cvr : Int → Int → Int} {rt v1 v2 v3 v4 v5 line xw : Int32} {G : MS → Int32 → Int32 → Int32 → Option (MS × Int32)} {C : Nat → Int} {P R : Nat → Nat → Int} {J : Nat → Int64}
theorem cl_183z {A' : Option (MS × α)} {RR : MS → α → MS → Int32 → Prop} : PP RR A' (kb_M_clause_183 N (krc_M_behind N 0) G w v1) := by
  unfold kb_M_clause_183
  exact r_bnd (fun _ _ _ => pp_nr)
set_option maxHeartbeats 1000000 in
theorem cls_x (c : CTZ m0 w0 K T nm Nk) (cv : CTV m0 w0 K T) (IE : HXE N m0 w0 K T nm Nk fof cvr f) (hf : f ≤ 230) (hC : XCS m0 nm m a cm (e :: t) false) (he : e.1 = []) (hR : XRS w0 T w lo Q (e :: t)) (hq : Q 56 = q) (k20 : K lo = 20) (hP : PRTcK m0 (PAcK m0 f) (XPcK m0 f o2 3) (XPcK m0 f o 3) kk n (lo + 1) ph (ph + 1) hi xa xb q r) (k21 : K ph = 21) (hph : lo + 1 ≤ ph) (hxb : xb ≤ 8015) (hr4 : r ≤ 400) (hcl : NEC (K hi) ∧ K hi ≠ 26 ∧ hi ≤ T) (hkk : kk ≤ 6) (htot : tot (e :: t) + (hi - lo) ≤ 4000 ∧ t.length ≤ o ∧ t.length ≤ o2) (hln : line.toInt = A w0 8 tk) (htk : tk ≤ 4002) : PP (CLZs m0 w0 K T nm Nk fof cvr kk lo hi a cm q r Q (e :: t) m w) ((jrc_Cm_fun N D).2.2.2.2.2.2.2.2.2.2.2.2 m (I (n : Nat)) (I (kk : Nat)) line) ((krc_M_behind N d).2.2.2.2.2.2.2.2.2.2.2.2.2.2.2.2 w (I (tk : Nat))) := by
  have tt4 := c.2.1.1.1
  obtain ⟨⟨hn1, hn2⟩, -, -, p0, xc, gx, mid, xd, s, kb, mb, xe, ⟨h18, hpa⟩, ⟨h19, hg⟩, ⟨h20, hB⟩, hxe, h38⟩ := hP
  have hn : n ≤ 8015 := by omega
  have hB1 := (RW_hdK (XP_bdK f o2 3) hB).1
  unfold HDc at hB1
  have hg1 : ph + 1 ≤ mid ∧ xc ≤ xd ∧ q ≤ s := by
    rcases hg with ⟨-, y2, y3, y4⟩ | ⟨⟨-, -⟩, kg, y3⟩
    · exact ⟨by omega, by omega, by omega⟩
    · have := (RW_hdK (XP_bdK f o 3) y3).1
      unfold HDc at this
      exact ⟨by omega, by omega, by omega⟩
  have hg2 : (A m0 19 n = 0 ∧ mid = ph + 1 ∧ q = s) ∨ ∃ gx kg : Nat, A m0 19 n = ((gx : Nat) : Int) ∧ A m0 6 (ph + 1) = 19 ∧ RWcK m0 1 26 (XPcK m0 f o 3) kg gx (ph + 2) mid xc xd q s := by
    rcases hg with ⟨y1, y2, y3, y4⟩ | ⟨⟨y1, y2⟩, kg, y3⟩
    · exact Or.inl ⟨by rw [h19, y1]; rfl, y2, y4.symm⟩
    · exact Or.inr ⟨gx, kg, h19, y2, y3⟩
  clear hg
  have k38 : K mid = 38 := kA c (by clear hg2 hpa; omega) h38
  have xd5 : xd ≤ 8015 := by clear hg2 hpa; omega
  have xe5 : xe ≤ 8015 := by clear hg2 hpa; omega
  have hlT : lo < T := by clear hg2 hpa; omega
  have elen : (e :: t).length = t.length + 1 := rfl
  have n713 : m.1 713 = 0 := of_decide_eq_true (by have := hC.1.2.2.2.1; exact this)
  cases D with
  | zero => exact pp_nl
  | succ D =>
  cases d with
  | zero => exact pp_nr
  | succ d =>
  show PP _ (jm_Cm_clause N (jrc_Cm_fun N D) m (I (n : Nat)) (I (kk : Nat)) line) (km_M_clause N (krc_M_behind N d) w (I (tk : Nat)))
  unfold jm_Cm_clause jb_Cm_clause_0
  cases D with
  | zero => exact pp_nl
  | succ D =>
  rw [i_nt2 (show n ≤ 100000 by omega)]
  show PP _ (bnd (jm_Cm_tries N (jrc_Cm_fun N D) m (I (kk : Nat)) (I (n : Nat))) _) _
  refine cl_beg c hR k20 hlT (fun V hk16 hXV hQV hVJ hVr hV44 hV45 hV41 => ⟨fun z21 => ?_, fun z21 => ?_⟩)
  · -- no PATTERN
    rcases hpa with ⟨y1, y2, y3, y4, y5⟩ | ⟨y1, hrw⟩
    · subst y1
      subst y3
      subst y4
      rw [y2] at h18
      cases d with
      | zero => exact cl_183z
      | succ d =>
      refine hd_no (XCS_fr hC) hn h18 ?_
      refine cl_rest (fs := []) (kk := 0) (cmP := cm) (Qp := qst Q 46 (Q 46 + 1)) (scP := e :: t) (p := lo + 1) c IE hC he hC hXV (by rw [qst_no (by decide)]; exact hq) ⟨by omega, Nat.le_refl _, Nat.le_refl _⟩ (by omega) ⟨fun _ => 0, HDo_gap (fun j a b => by rw [show j = lo by omega, k20]; decide), by rw [wup_0 (fun j a b => by rw [show j = lo by omega, k20]; decide)]⟩ XFC_rf ⟨hQV, QLE_st QLE_rf (by omega), qst_no (by decide), qst_no (by decide), qst_no (by decide)⟩ ⟨rfl, BDs_rf⟩ ⟨hk16, qst_at, hV45, hV44, hV41⟩ (fun C R J H fl h1 h2 h3 h4 h5 h6 h7 h8 => Or.inl ⟨rfl, rfl, rfl⟩) rfl (fun h hm => by cases hm) z21 hn hg2 xd5 k38 h20 hB xe5 hr4 hcl htot hln htk (by omega)
    · exfalso
      obtain ⟨k', rfl⟩ : ∃ k', kk = k' + 1 := ⟨kk - 1, by omega⟩
      obtain ⟨mm, cc, ss, hp1, -⟩ := hrw
      have := (pa_k1 hp1).1
      have z6 : A m0 6 (lo + 1) = ((K (lo + 1) : Nat) : Int) := by
        show (m0.2.2.1 6 (lo + 1)).toInt = _
        rw [c.1.2 (lo + 1) (by omega)]
        exact I_ti (by omega) (by omega)
      rw [z6, z21] at this
      exact this rfl
  · -- PATTERNS
    rcases hpa with ⟨y1, y2, y3, y4, y5⟩ | ⟨y1, hrw⟩
    · exact absurd (y3 ▸ k21) z21
    · have hr1 := (RW_hdK (PA_bdK f) hrw).1
      unfold HDc at hr1
      unfold jm_Cm_tries jb_Cm_tries_0
      rw [bnd_ck, i_nt2 (show n ≤ 100000 by omega), tre (XCS_fr hC) (by decide) h18]
      refine l_ck (fun _ => ?_)
      rw [decide_eq_false (fun z => by
        have := (I_eq (x := ((p0 : Nat) : Int)) (y := 0) (by clear hg2; omega) (by clear hg2; omega) (by decide) (by decide)).mp z
        clear hg2; omega), br_f, bnd_as2]
      refine l_put hC.1.2.2.1.1 hC.1.2.2.1.2.2 (fun ha => ?_)
      have k1 := XCS_put (x := 19) hC ha
      rw [bnd_as2]
      refine l_put k1.1.2.2.1.1 k1.1.2.2.1.2.2 (fun ha1 => ?_)
      have k2 := XCS_put (x := I (kk : Nat)) k1 ha1
      unfold jm_Co_hook jb_Co_hook_0
      rw [bnd_as2, bnd_as2]
      refine l_put k2.1.2.2.1.1 k2.1.2.2.1.2.2 (fun ha2 => ?_)
      have k3 := XCS_put (x := 0) k2 ha2
      rw [bnd_s]
      have em : ptc (ptc (ptc m a 19) (a + 1) (I (kk : Nat))) (a + 1 + 1) 0 = ptcs m a [19, I (kk : Nat), 0] := rfl
      rw [em] at k3 ⊢
      have e441 : (ptcs m a [19, I (kk : Nat), 0]).1 441 = I ((a + 2 + 1 : Nat) : Int) := k3.1.2.2.1.1
      have kneg : decide (I (kk : Nat) < (0 : Int32)) = false := decide_eq_false (fun z => by
        have := (I_lt (x := ((kk : Nat) : Int)) (y := 0) (by omega) (by omega) (by decide) (by decide)).mp z
        omega)
      rw [e441, I_sn, kneg, br_f]
      unfold jb_Cm_tries_57
      have k3' : XCS m0 nm (ptcs m a [19, I (kk : Nat), 0]) (a + 3) cm (e :: t) false := k3
      have c13 : PCS m0 nm (upI (ptcs m a [19, I (kk : Nat), 0]) 713 1) (a + 3) cm (e :: t) true := PCS_713 k3'.1 rfl
      rw [show isb 1 = true from rfl, ck_t, lt_e, bnd_ck, i_nt2 (show n ≤ 100000 by omega), tre c13.1 (by decide) h18]
      refine l_ck (fun _ => ?_)
      have s713 : ∀ k, k ≠ 441 → k ≠ 713 → (upI (ptcs m a [19, I (kk : Nat), 0]) 713 1).1 k = m.1 k := fun k h1 h2 => by rw [upI_ne h2, ptcs_i h1]
      have srow : ∀ k, k ≠ 23 → (upI (ptcs m a [19, I (kk : Nat), 0]) 713 1).2.2.1 k = m.2.2.1 k := fun k hk => ptcs_r hk
      have slow : ∀ j, j < a → (upI (ptcs m a [19, I (kk : Nat), 0]) 713 1).2.2.1 23 j = m.2.2.1 23 j := fun j hj => ptcs_o (Or.inl hj)
      have swd : ∀ k z, [19, I (kk : Nat), 0][k]? = some z → (upI (ptcs m a [19, I (kk : Nat), 0]) 713 1).2.2.1 23 (a + k) = z := fun k z hz => ptcs_at hz
      generalize upI (ptcs m a [19, I (kk : Nat), 0]) 713 1 = mS at c13 s713 srow slow swd
      have q39 : (qst Q 46 (Q 46 + 1)) 39 = Q 39 := qst_no (by decide)
      have hPV : PRd w0 T V (lo + 1) (Q 39) (e :: t) := by have := hXV.1; rw [q39] at this; exact this
      have d1 : PP (CLZs m0 w0 K T nm Nk fof cvr kk lo hi a cm q r Q (e :: t) m w) (bnd ((jg_Cm_tries N (jrc_Cm_fun N D) N).1 mS (I (n : Nat)) (m.1 706) (I ((a + 2 : Nat) : Int)) (I (p0 : Nat))) (fun u2 r2 => bnd (jm_Co_put N u2 24) (fun u4 _ => bnd (jm_Co_put N u4 (I (kk : Nat))) (fun u7 _ => bnd (jm_Co_put N u7 line) (fun u10 _ => ck (inb (I (n : Nat)) 8016) (bnd ((jrc_Cm_fun N (D + 1)).2.2.2.1 u10 (u10.2.2.1 20 n) 1) (fun u17 _ => bnd (jm_Co_put N u17 35) (fun u19 _ => lt (upI u19 706 (m.1 706)) (fun w21 => bnd (hm_Co_arrive N w21 r2) (fun u23 _ => some (u23, ()))))))))))) (kg_M_clause N (krc_M_behind N d) N V (I (Q 46 : Nat)) (optI none) 1) := by
        refine rwc_lp (kk := kk) (lo0 := lo + 1) (a0 := a + 3) (cm0 := cm) (pi0 := Q 39) (k0 := Q 46) (sc0 := e :: t) (mS := mS) (wS := V) (hi := ph) (xb := xc) (r := q) c cv (by omega) (by clear hg2; omega) (by clear hg2; omega) (by rw [k21]; decide) hkk (fun M kf m2 w2 b0 cm2 pj sc2 l2 ra => ?_) kk p0 (lo + 1) xa q N N 0 none mS V (a + 3) cm (Q 39) (e :: t) hrw ⟨c13, hPV, ⟨Nat.le_refl _, Nat.le_refl _, Nat.le_refl _⟩, ⟨NMX_rf, by omega⟩, ⟨fun _ => 0, HDo_gap (fun j a b => by omega), by rw [wup_0 (fun j a b => by omega)]⟩, CFP_rf, RFQ_rf, hV41, Or.inl ⟨rfl, rfl, rfl, rfl, rfl⟩⟩ (by omega)
        obtain ⟨r1, r2, r3, r4, ⟨W, r5, r6⟩, r7, r8, r9, r10⟩ := ra
        have hr10 : ∃ first l : Nat, 1 ≤ kk ∧ some l2 = some l ∧ w2.2.2.1 40 (Q 46) = I (first : Nat) ∧ ((Q 39 ≤ first ∧ first < pj) ∧ Q 39 ≤ l ∧ l < pj) ∧ w2.2.2.1 37 l = -1 ∧ ∀ C R J H, AGC C m2 (a + 3) b0 → GRS R w0 → AGP R J w2 (Q 39) pj l → HPX nm sc2 H → PTL C R J H f 0 kk (a + 3) first (Onm nm (e :: t)) b0 l (Onm nm sc2) := by
          rcases r10 with ⟨y1, -⟩ | z
          · omega
          · exact z
        clear r10
        obtain ⟨first, l, -, -, z1, z2, z3, z4⟩ := hr10
        cases kf with
        | zero => exact pp_nl
        | succ kf =>
        cases M with
        | zero => exact pp_nr
        | succ M =>
        show PP _ (bnd (jb_Cm_tries_71 N (jrc_Cm_fun N D) (jg_Cm_tries N (jrc_Cm_fun N D) kf) m2 (I (n : Nat)) (m.1 706) (I ((a + 2 : Nat) : Int)) (I ((0 : Nat) : Int))) _) (kb_M_clause_75 N (krc_M_behind N d) (kg_M_clause N (krc_M_behind N d) M) w2 (I (Q 46 : Nat)) (I (l2 : Nat)) 0)
        unfold jb_Cm_tries_71 kb_M_clause_75
        rw [show decide (I ((0 : Nat) : Int) = (0 : Int32)) = true from rfl, br_t, show decide ((0 : Int32) = 0) = true from rfl, br_t, bnd_lt]
        refine l_lt ?_
        have c0 : PCS m0 nm (upI m2 713 0) b0 cm2 sc2 false := PCS_713 r1 rfl
        rw [bnd_as2]
        refine l_put c0.2.2.1.1 c0.2.2.1.2.2 (fun ha3 => ?_)
        have c8 := PCS_put (x := 8) c0 ha3
        cases d with
        | zero => exact cl_183z
        | succ d =>
        have e712 : m2.1 712 = m.1 712 := by rw [r7.1 712 (by decide) (by decide), s713 712 (by decide) (by decide)]
        have mo : ∀ j, j < b0 → (ptc (upI m2 713 0) b0 8).2.2.1 23 j = m2.2.2.1 23 j := fun j hj => ptc_o (by omega)
        have mb8 : (ptc (upI m2 713 0) b0 8).2.2.1 23 b0 = 8 := ptcs_at (l := [8]) (k := 0) rfl
        have mr : ∀ k, k ≠ 23 → (ptc (upI m2 713 0) b0 8).2.2.1 k = m2.2.2.1 k := fun k hk => ptc_r hk
        have mi : ∀ k, k ≠ 441 → k ≠ 713 → (ptc (upI m2 713 0) b0 8).1 k = m2.1 k := fun k h1 h2 => by rw [ptc_i h1, upI_ne h2]
        have m7 : (ptc (upI m2 713 0) b0 8).1 713 = 0 := by rw [ptc_i (by decide), upI_at]
        generalize ptc (upI m2 713 0) b0 8 = mP at c8 mo mb8 mr mi m7
        have xP : XCS m0 nm mP (b0 + 1) cm2 sc2 false := ⟨c8, by rw [mi 712 (by decide) (by decide), e712]; exact hC.2⟩
        have pj5 : pj ≤ 5000 := r2.2.2.2.2.2.2
        have e39 : (qst (qst Q 46 (Q 46 + 1)) 39 pj) 39 = pj := qst_at
        have rI : ∀ k, k ≠ 39 → k ≠ 66 → k ≠ 69 → w2.1 k = V.1 k := r8.1
        have xR : XRS w0 T w2 ph (qst (qst Q 46 (Q 46 + 1)) 39 pj) sc2 := by
          refine ⟨by rw [e39]; exact r2, fun k hk => ?_⟩
          by_cases y : k = 39
          · subst y
            rw [e39]
            exact ⟨r2.2.2.2.2.2.1, by omega⟩
          · rw [qst_no y, rI k y (by rintro rfl; revert hk; decide) (by rintro rfl; revert hk; decide)]
            exact hXV.2 k hk
        have g46 : ∀ k, 40 ≤ k → k ≤ 45 → grp k = 46 := fun k k1 k2 => by unfold grp; rw [if_neg (by omega), if_neg (by omega), if_pos ⟨k1, k2⟩]
        have g39 : ∀ k, 33 ≤ k → k ≤ 38 → grp k = 39 := fun k k1 k2 => by unfold grp; rw [if_neg (by omega), if_pos ⟨k1, k2⟩]
        have Vw : QRR Q V w2 := ⟨fun k a1 a2 a3 => by
          refine r8.2.1 k ?_
          by_cases y : 40 ≤ k ∧ k ≤ 45
          · rw [g46 k y.1 y.2] at a1; cases a1
          · by_cases y2 : 33 ≤ k ∧ k ≤ 38
            · rw [g39 k y2.1 y2.2] at a1; cases a1
            · omega, fun k n' a1 a2 => by
          by_cases y2 : 33 ≤ k ∧ k ≤ 38
          · rw [g39 k y2.1 y2.2] at a2
            exact r8.2.2.2.1 k n' a2 y2.1 y2.2
          · by_cases y3 : k = 40 ∨ k = 41
            · rw [g46 k (by omega) (by omega)] at a2
              exact r8.2.2.1 k n' y3 (by omega)
            · have y4 : ¬ (59 ≤ k ∧ k ≤ 64) := fun z => by
                unfold grp at a1
                rw [if_neg (by omega), if_neg (by omega), if_neg (by omega), if_neg (by omega), if_neg (by omega), if_neg (by omega), if_neg (by omega), if_neg (by omega)] at a1
                exact a1 rfl
              exact congrFun (r8.2.1 k (by omega)) n', fun k n' a1 => r8.2.2.2.2 k n' (by omega)⟩
        have nmx : sc2.length = t.length + 1 ∧ BDs t sc2.tail := by
          refine ⟨NMX_len r4.1, ?_⟩
          cases sc2 with
          | nil => exact r4.1.elim
          | cons e2 t2 => exact r4.1.2.1
        have cmle : cm ≤ cm2 := by
          cases sc2 with
          | nil => exact r4.1.elim
          | cons e2 t2 => exact r4.1.2.2
        have gap : ∀ j, lo ≤ j → j < lo + 1 → K j ≠ 3 := fun j j1 j2 => by rw [show j = lo by omega, k20]; decide
        have r7' := r7
        unfold CFP at r7'
        rw [elen, Nat.add_sub_cancel] at r7'
        have hw2 : ∀ j, j < a → mP.2.2.1 23 j = m.2.2.1 23 j := fun j hj => by
          have := r3.2.1
          rw [mo j (by omega), r7'.2.2.1 j (by omega), slow j hj]
        have sub : ∀ k, 23 ≤ 23 → k < 3 → ∀ z, [19, I (kk : Nat), 0][k]? = some z → mP.2.2.1 23 (a + k) = z := fun k _ hk z hz => by
          have := r3.2.1
          rw [mo (a + k) (by omega), r7'.2.2.1 (a + k) (by omega)]
          exact swd k z hz
        refine cl_rest (fs := [a + 2]) (kk := kk) (cmP := cm2) (Qp := qst (qst Q 46 (Q 46 + 1)) 39 pj) (scP := sc2) (p := ph) c IE hC he xP xR (by rw [qst_no (by decide), qst_no (by decide)]; exact hq) ⟨by omega, by have := r3.2.1; omega, cmle⟩ (by have := r4.2; omega) ⟨W, HDo_tr (p2 := lo + 1) (by omega) hph (HDo_gap gap) r5, by rw [mr 42 (by decide), r6, srow 42 (by decide), ← wup_tr (W := W) (p := lo) (q := lo + 1) (p2 := ph) (by omega) hph, wup_0 (p := lo) gap]⟩ ⟨fun k k1 k2 => ?_, fun k k1 k2 k3 => ?_, hw2, fun k j k1 k2 k3 => ?_, fun j hj => ?_, fun j hj => ?_⟩ ⟨QRR_tr hQV Vw QLE_rf, QLE_st (QLE_st QLE_rf (by omega)) (by omega), by rw [qst_no (by decide), qst_no (by decide)], by rw [qst_no (by decide), qst_no (by decide)], by rw [qst_no (by decide), qst_no (by decide)]⟩ nmx ⟨hk16, by rw [qst_no (by decide), qst_at], by rw [r8.2.1 45 (by omega)]; exact hV45, by rw [r8.2.1 44 (by omega)]; exact hV44, r9⟩ (fun C R J H fl hc gr hrk hJ h40 h41 hx hfl => ?_) ⟨rfl, ⟨by omega, by omega⟩, fun h' hm => (by cases hm), sub 2 (by decide) (by decide) 0 rfl⟩ (fun h hm => by
          have : h = a + 2 := by simpa using hm
          have := r3.2.1
          omega) k21 hn hg2 xd5 k38 h20 hB xe5 hr4 hcl htot hln htk hkk
        · by_cases y : k = 713
          · rw [y, m7, n713]
          · rw [mi k k1 y, r7'.1 k k1 k2, s713 k k1 y]
        · rw [mr k k1, r7'.2.1 k k1 (by omega) (by omega) (by omega), srow k k1]
        · rw [mr k (by omega), r7'.2.1 k (by omega) (by omega) (by omega) (by omega), srow k (by omega)]
        · rw [mr 40 (by decide), r7'.2.1 40 (by decide) (by decide) (by decide) (by decide), srow 40 (by decide)]
        · rw [mr 41 (by decide), r7'.2.2.2 j (by omega), srow 41 (by decide)]
        · refine Or.inr ⟨?_, hfl _ (by simp), ⟨by omega, hkk⟩, ?_, b0, ?_, ?_, rfl⟩
          · rw [hc a (Nat.le_refl _) (by have := r3.2.1; omega) (fun y => by
              have : a = a + 2 := by simpa using y
              omega)]
            exact congrArg Int32.toInt (sub 0 (by decide) (by decide) 19 rfl)
          · rw [hc (a + 1) (by omega) (by have := r3.2.1; omega) (fun y => by
              have : a + 1 = a + 2 := by simpa using y
              omega)]
            have := congrArg Int32.toInt (sub 1 (by decide) (by decide) (I (kk : Nat)) rfl)
            exact this.trans (I_ti (by omega) (by omega))
          · have hptl := z4 C R J H (fun j j1 j2 => by
              rw [hc j (by omega) (by omega) (fun y => by
                have : j = a + 2 := by simpa using y
                omega)]
              exact congrArg Int32.toInt (mo j j2)) gr (fun q' q1 q2 => by
              have ee : ∀ k, 33 ≤ k → k ≤ 38 → k ≠ 34 → R k q' = A w2 k q' := fun k k1 k2 k3 => hrk k q' k1 k2 k3 q1 (by rw [e39]; exact q2)
              exact ⟨ee 33 (by decide) (by decide) (by decide), ee 35 (by decide) (by decide) (by decide), ee 36 (by decide) (by decide) (by decide), ee 38 (by decide) (by decide) (by decide), hJ q' q1 (by rw [e39]; exact q2), fun _ => ee 37 (by decide) (by decide) (by decide)⟩) hx
            obtain ⟨ci, cp, co, g1, g2, g3, g4, g5, -, g7⟩ := PTL_fn hptl
            refine ⟨ci, cp, co, g1, g2, g3, g4, ?_, fun k hk => ⟨?_, (g7 k hk).2.2⟩⟩
            · rw [h40 (by omega), g5]
              show (w2.2.2.1 40 (Q 46)).toInt = _
              rw [z1]
              exact I_ti (by omega) (by omega)
            · have := (g7 k hk).2.1
              rw [Nat.add_zero] at this
              exact PT_mo hf this
          · rw [hc b0 (by have := r3.2.1; omega) (by omega) (fun y => by
              have : b0 = a + 2 := by simpa using y
              have := r3.2.1
              omega)]
            exact congrArg Int32.toInt mb8
      exact d1
end
