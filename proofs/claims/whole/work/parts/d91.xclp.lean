/-! a CLAUSE's PATTERNS, both: one behind another -/
set_option maxRecDepth 100000
/-- what reading them leaves as it was, here -/
def RFQ (k0 : Nat) (w w2 : MS) (pi : Nat) : Prop := (∀ k, k ≠ 39 → k ≠ 66 → k ≠ 69 → w2.1 k = w.1 k) ∧ (∀ k, k < 33 ∨ k = 39 ∨ (41 < k ∧ k < 59) ∨ 64 < k → w2.2.2.1 k = w.2.2.1 k) ∧ (∀ k n, k = 40 ∨ k = 41 → n ≠ k0 → w2.2.2.1 k n = w.2.2.1 k n) ∧ (∀ k q, q < pi → 33 ≤ k → k ≤ 38 → w2.2.2.1 k q = w.2.2.1 k q) ∧ ∀ k q, q < pi ∨ k ≠ 34 → w2.2.2.2 k q = w.2.2.2 k q
/-- j of them have been read -/
def RWC (m0 w0 : MS) (K : Nat → Nat) (T : Nat) (nm Nk : Nat → Nat) (f lo0 a0 cm0 pi0 k0 : Nat) (sc0 : SCT) (mS wS : MS) (j : Nat) (last : Option Nat) (m w : MS) (p a cm pi : Nat) (sc : SCT) : Prop := PCS m0 nm m a cm sc true ∧ PRd w0 T w p pi sc ∧ (lo0 ≤ p ∧ a0 ≤ a ∧ pi0 ≤ pi) ∧ (NMX cm0 cm sc0 sc ∧ tot sc ≤ tot sc0 + (p - lo0)) ∧ (∃ W, HDo Nk K W lo0 p sc0 sc ∧ m.2.2.1 42 = wup (mS.2.2.1 42) K W lo0 p) ∧ CFP mS m a0 (sc0.length - 1) ∧ RFQ k0 wS w pi0 ∧ w.2.2.1 41 k0 = I (j : Nat) ∧ ((j = 0 ∧ a = a0 ∧ pi = pi0 ∧ sc = sc0 ∧ last = none) ∨ ∃ first l : Nat, 1 ≤ j ∧ last = some l ∧ w.2.2.1 40 k0 = I (first : Nat) ∧ ((pi0 ≤ first ∧ first < pi) ∧ pi0 ≤ l ∧ l < pi) ∧ w.2.2.1 37 l = -1 ∧ ∀ C R J H, AGC C m a0 a → GRS R w0 → AGP R J w pi0 pi l → HPX nm sc H → PTL C R J H f 0 j a0 first (Onm nm sc0) a l (Onm nm sc))
section
variable {α β : Type} {m0 w0 m w mS wS m2 w2 m3 w3 : MS} {K nm Nk W W2 : Nat → Nat} {T N n nn lo lo0 mid hi f a a0 cm cm0 b pi pi0 pj k0 j kk p d D xb r : Nat} {sc sc0 sc2 : SCT} {last : Option Nat} {v1 v2 v3 v4 v5 : Int32} {S : SG_M_behind} {fc : MS → Int32 → Option (MS × α)} {RR : MS → α → MS → Int32 → Prop}
theorem RFQ_P (h : RFQ k0 wS w pi0) (k : RFP w w2 pi) (hp : pi0 ≤ pi) : RFQ k0 wS w2 pi0 := ⟨fun j a b c => (k.1 j a b c).trans (h.1 j a b c), fun j hj => by rw [k.2.1 j (by omega)]; exact h.2.1 j hj, fun j n hj hn => by rw [k.2.1 j (by omega)]; exact h.2.2.1 j n hj hn, fun j q hq a b => by rw [k.2.2.1 j q (by omega) (by omega)]; exact h.2.2.2.1 j q hq a b, fun j q hq => by rw [k.2.2.2 j q (by omega)]; exact h.2.2.2.2 j q hq⟩
theorem RFQ_c {x : Int32} (h : RFQ k0 wS w pi0) (hk : j = 40 ∨ j = 41) : RFQ k0 wS (upA w j (upd (w.2.2.1 j) k0 x)) pi0 := ⟨h.1, fun k hk' => by rw [upA_no (by omega)]; exact h.2.1 k hk', fun k n a b => by
  by_cases z : k = j
  · subst z
    rw [upA_at, upd_no b]; exact h.2.2.1 k n a b
  · rw [upA_no z]; exact h.2.2.1 k n a b, fun k q hq a b => by rw [upA_no (by omega)]; exact h.2.2.2.1 k q hq a b, h.2.2.2.2⟩
theorem RFQ_37 {x : Int32} (h : RFQ k0 wS w pi0) (hq : pi0 ≤ b) : RFQ k0 wS (upA w 37 (upd (w.2.2.1 37) b x)) pi0 := ⟨h.1, fun k hk => by rw [upA_no (by omega)]; exact h.2.1 k hk, fun k n a b => by rw [upA_no (by omega)]; exact h.2.2.1 k n a b, fun k q hq' a b' => by
  by_cases z : k = 37
  · subst z
    rw [upA_at, upd_no (by omega)]; exact h.2.2.2.1 37 q hq' a b'
  · rw [upA_no z]; exact h.2.2.2.1 k q hq' a b', h.2.2.2.2⟩
theorem RFQ_I {x : Int32} {k : Nat} (h : RFQ k0 wS w pi0) (hk : k = 39 ∨ k = 66 ∨ k = 69) : RFQ k0 wS (upI w k x) pi0 := ⟨fun j a b c => by rw [upI_ne (by omega)]; exact h.1 j a b c, h.2⟩
/-- one token on -/
theorem RWC_ad (h : RWC m0 w0 K T nm Nk f lo0 a0 cm0 pi0 k0 sc0 mS wS j last m w p a cm pi sc) (hl : p < T) (hk : K p ≠ 3) : RWC m0 w0 K T nm Nk f lo0 a0 cm0 pi0 k0 sc0 mS wS j last m (adv w p) (p + 1) a cm pi sc := by
  obtain ⟨r1, r2, r3, r4, ⟨W, r5, r6⟩, r7, r8, r9, r10⟩ := h
  exact ⟨r1, PRS_ad r2 hl, ⟨by omega, r3.2⟩, ⟨r4.1, by have := r4.2; omega⟩, ⟨W, HDo_tr r3.1 (by omega) r5 (HDo_gap (fun j a b => by rw [show j = p by omega]; exact hk)), by rw [wup_ex1 r3.1 hk]; exact r6⟩, r7, RFQ_I r8 (Or.inr (Or.inr rfl)), r9, r10⟩
/-- what is written behind a PATTERN -/
theorem rwc_1 (ra : RWC m0 w0 K T nm Nk f lo0 a0 cm0 pi0 k0 sc0 mS wS j last m w lo a cm pi sc) (hk0 : k0 ≤ 16000) (hlm : lo ≤ mid) (hz : PTZ m0 w0 K T nm Nk f lo mid true a cm pi sc m w m2 () w2 v1) (hj : j ≤ 5) {A' : Option (MS × α)} {F : MS → Int32 → Option (MS × Int32)}
    (hh : ∀ w3 b cm2 pj sc2 l2, v1 = I (l2 : Nat) → RWC m0 w0 K T nm Nk f lo0 a0 cm0 pi0 k0 sc0 mS wS (j + 1) (some l2) m2 w3 mid b cm2 pj sc2 → PP RR A' (ck (inb (I (k0 : Nat)) (ln 41)) (br (decide (I ((j + 1 : Nat) : Int) = 6)) (bnd (fm_M_isSign N w3 6) (fun u11 r11 => br (decide (r11 = 0)) (F u11 v1) (bnd (km_M_wrong N u11 2) (fun u12 _ => F u12 v1)))) (F w3 v1)))) : PP RR A' (br (decide (optI last = -1)) (ck (inb (I (k0 : Nat)) (ln 40)) (lt (upA w2 40 (upd (w2.2.2.1 40) k0 v1)) (fun w15 => ck (inb (I (k0 : Nat)) (ln 41)) (ck (inb (I (k0 : Nat)) (ln 41)) (lt (upA w15 41 (upd (w15.2.2.1 41) k0 ((w15.2.2.1 41 k0) + 1))) (fun w10 => ck (inb (I (k0 : Nat)) (ln 41)) (br (decide ((w10.2.2.1 41 k0) = 6)) (bnd (fm_M_isSign N w10 6) (fun u11 r11 => br (decide (r11 = 0)) (F u11 v1) (bnd (km_M_wrong N u11 2) (fun u12 _ => F u12 v1)))) (F w10 v1))))))) ) (ck (inb (optI last) (ln 37)) (lt (upA w2 37 (upd (w2.2.2.1 37) (optI last).toNatClampNeg v1)) (fun w14 => ck (inb (I (k0 : Nat)) (ln 41)) (ck (inb (I (k0 : Nat)) (ln 41)) (lt (upA w14 41 (upd (w14.2.2.1 41) k0 ((w14.2.2.1 41 k0) + 1))) (fun w10 => ck (inb (I (k0 : Nat)) (ln 41)) (br (decide ((w10.2.2.1 41 k0) = 6)) (bnd (fm_M_isSign N w10 6) (fun u11 r11 => br (decide (r11 = 0)) (F u11 v1) (bnd (km_M_wrong N u11 2) (fun u12 _ => F u12 v1)))) (F w10 v1))))))))) := by
  obtain ⟨r1, r2, r3, r4, ⟨W, r5, r6⟩, r7, r8, r9, r10⟩ := ra
  obtain ⟨pn, b, pj, cm2, sc2, W2, e1, e2, e3, e4, e5, e6, e7, e8, e9, e10, e11⟩ := hz
  subst e1
  have pj5 : pj ≤ 5000 := e5.2.2.2.2.2.2
  have sl : sc.length = sc0.length := NMX_len r4.1
  have f9 : CFP mS m2 a0 (sc0.length - 1) := by
    rw [← sl]
    exact CFP_tr (by rw [sl]; exact r7) e9 (by omega)
  have hw42 : m2.2.2.1 42 = wup (mS.2.2.1 42) K (mrw lo W W2) lo0 mid := by rw [e8, r6, mrw_wup r3.1 hlm]
  have hHD : HDo Nk K (mrw lo W W2) lo0 mid sc0 sc2 := HDo_tr r3.1 hlm (HDo_w (fun j _ b => if_pos b) r5) (HDo_w (fun j a _ => if_neg (by omega)) e7.1)
  have q8 := RFQ_P r8 e10 r3.2.2
  have w41 : w2.2.2.1 41 k0 = I (j : Nat) := by rw [e10.2.1 41 (Or.inr (Or.inl ⟨by decide, by decide⟩))]; exact r9
  have w40 : w2.2.2.1 40 k0 = w.2.2.1 40 k0 := by rw [e10.2.1 40 (Or.inr (Or.inl ⟨by decide, by decide⟩))]
  have m2m : ∀ q, q < a → m2.2.2.1 23 q = m.2.2.1 23 q := e9.2.2.1
  have agp : ∀ (R : Nat → Nat → Int) (J : Nat → Int64) (w3 : MS), AGP R J w3 pi0 pj pn → (∀ k q, 33 ≤ k → k ≤ 38 → pi ≤ q → w3.2.2.1 k q = w2.2.2.1 k q) → w3.2.2.2 = w2.2.2.2 → AGP R J w2 pi pj pn := fun R J w3 h hr hj q q1 q2 => by
    obtain ⟨g1, g2, g3, g4, g5, g6⟩ := h q (by omega) q2
    have ee : ∀ k, 33 ≤ k → k ≤ 38 → A w3 k q = A w2 k q := fun k k1 k2 => by show (w3.2.2.1 k q).toInt = _; rw [hr k q k1 k2 q1]; rfl
    rw [ee 33 (by decide) (by decide)] at g1
    rw [ee 35 (by decide) (by decide)] at g2
    rw [ee 36 (by decide) (by decide)] at g3
    rw [ee 38 (by decide) (by decide)] at g4
    rw [hj] at g5
    exact ⟨g1, g2, g3, g4, g5, fun z => by rw [g6 z, ee 37 (by decide) (by decide)]⟩
  have sub2 : ∀ (C : Nat → Int), AGC C m2 a0 b → AGC C m2 a b := fun C h k k1 k2 => h k (by omega) k2
  -- what follows either
  have fin : ∀ (w3 : MS) (first : Nat), PRd w0 T w3 mid pj sc2 → RFQ k0 wS w3 pi0 → w3.2.2.1 41 k0 = I (j : Nat) → w3.2.2.1 40 k0 = I (first : Nat) → (pi0 ≤ first ∧ first < pj) → w3.2.2.1 37 pn = -1 → (∀ C R J H, AGC C m2 a0 b → GRS R w0 → AGP R J w3 pi0 pj pn → HPX nm sc2 H → PTL C R J H f 0 (j + 1) a0 first (Onm nm sc0) b pn (Onm nm sc2)) → PP RR A' (ck (inb (I (k0 : Nat)) (ln 41)) (ck (inb (I (k0 : Nat)) (ln 41)) (lt (upA w3 41 (upd (w3.2.2.1 41) k0 ((w3.2.2.1 41 k0) + 1))) (fun w10 => ck (inb (I (k0 : Nat)) (ln 41)) (br (decide ((w10.2.2.1 41 k0) = 6)) (bnd (fm_M_isSign N w10 6) (fun u11 r11 => br (decide (r11 = 0)) (F u11 (I (pn : Nat))) (bnd (km_M_wrong N u11 2) (fun u12 _ => F u12 (I (pn : Nat)))))) (F w10 (I (pn : Nat)))))))) := fun w3 first p1 p2 p3 p4 p5 p6 p7 => by
    refine r_ck (fun _ => r_ck (fun _ => ?_))
    rw [p3, i_suc, lt_e]
    have x41 : (upA w3 41 (upd (w3.2.2.1 41) k0 (I ((j + 1 : Nat) : Int)))).2.2.1 41 k0 = I ((j + 1 : Nat) : Int) := by rw [upA_at, upd_at]
    rw [x41]
    exact hh (upA w3 41 (upd (w3.2.2.1 41) k0 (I ((j + 1 : Nat) : Int)))) b cm2 pj sc2 pn rfl ⟨e4, PRS_x p1 (fun _ _ => rfl) (fun k hk => upA_no (by omega)) p1.2.1.1, ⟨by omega, by omega, by omega⟩, ⟨NMX_tr r4.1 e6.1, by have := e6.2; have := r4.2; omega⟩, ⟨_, hHD, hw42⟩, f9, RFQ_c p2 (Or.inr rfl), x41, Or.inr ⟨first, pn, by omega, rfl, by rw [upA_no (by decide)]; exact p4, ⟨p5, by omega, by omega⟩, by rw [upA_no (by decide)]; exact p6, fun C R J H gc gr gp gh => p7 C R J H gc gr (fun q q1 q2 => by
        have := gp q q1 q2
        exact this) gh⟩⟩
  rcases r10 with ⟨y1, y2, y3, y4, y5⟩ | ⟨first, l, y1, y2, y3, y4, y5, y6⟩
  · subst y5
    subst y4
    subst y2
    rw [show decide (optI (none : Option Nat) = -1) = true from rfl, br_t]
    refine r_ck (fun _ => r_lt ?_)
    refine fin _ pn (PRS_x e5 (fun _ _ => rfl) (fun k hk => upA_no (by omega)) e5.2.1.1) (RFQ_c q8 (Or.inl rfl)) (by rw [upA_no (by decide)]; exact w41) (by rw [upA_at, upd_at]) ⟨by omega, by omega⟩ (by rw [upA_no (by decide)]; exact e2.2.2) (fun C R J H gc gr gp gh => ?_)
    subst y1
    refine Or.inl ⟨rfl, rfl, fun z => (by cases z), ?_⟩
    exact e11 C R J H gc gr (agp R J _ gp (fun k q k1 k2 _ => by rw [upA_no (by omega)]) rfl) gh
  · subst y2
    have lb : l < 5000 := by have := r2.2.2.2.2.2.2; omega
    rw [show optI (some l) = I (l : Nat) from rfl, decide_eq_false (nat_ne2 (by omega)), br_f]
    refine r_ck (fun _ => r_lt ?_)
    rw [i_nt2 (by omega)]
    refine fin _ first (PRS_k e5 (fun _ _ _ _ => rfl) (fun k hk => upA_no (by omega)) e5.2.1.1 e5.2.1.2 e5.2.2.2.2.2.1 pj5) (RFQ_37 q8 (by omega)) (by rw [upA_no (by decide)]; exact w41) (by rw [upA_no (by decide), w40]; exact y3) ⟨by omega, by omega⟩ (by rw [upA_at, upd_no (by omega)]; exact e2.2.2) (fun C R J H gc gr gp gh => ?_)
    refine Or.inr ⟨y1, a, l, Onm nm sc, y6 C R J H (AGC_sub gc m2m (by omega)) gr (fun q q1 q2 => ?_) (HPX_mo e7.1 gh), ?_, fun z => (by cases z), ?_⟩
    · obtain ⟨g1, g2, g3, g4, g5, g6⟩ := gp q q1 (by omega)
      have ee : ∀ k, 33 ≤ k → k ≤ 38 → k ≠ 37 → A (upA w2 37 (upd (w2.2.2.1 37) l (I (pn : Nat)))) k q = A w k q := fun k k1 k2 h37 => by
        show ((upA w2 37 _).2.2.1 k q).toInt = _
        rw [upA_no h37, e10.2.2.1 k q q2 (by omega)]; rfl
      rw [ee 33 (by decide) (by decide) (by decide)] at g1
      rw [ee 35 (by decide) (by decide) (by decide)] at g2
      rw [ee 36 (by decide) (by decide) (by decide)] at g3
      rw [ee 38 (by decide) (by decide) (by decide)] at g4
      refine ⟨g1, g2, g3, g4, g5.trans (e10.2.2.2 34 q (Or.inl q2)), fun z => ?_⟩
      rw [g6 (by omega)]
      show ((upA w2 37 _).2.2.1 37 q).toInt = _
      rw [upA_at, upd_no z, e10.2.2.1 37 q q2 (by decide)]; rfl
    · rw [(gp l (by omega) (by omega)).2.2.2.2.2 (by omega)]
      show ((upA w2 37 _).2.2.1 37 l).toInt = _
      rw [upA_at, upd_at]
      exact I_ti (by omega) (by omega)
    · exact e11 C R J H (sub2 C gc) gr (agp R J _ gp (fun k q k1 k2 hq => by
        by_cases z : k = 37
        · subst z
          rw [upA_at, upd_no (by omega)]
        · rw [upA_no z]) rfl) gh
/-- all of them -/
theorem rwc_lp (c : CTZ m0 w0 K T nm Nk) (cv : CTV m0 w0 K T) (hk0 : k0 ≤ 16000) (hxb : xb ≤ 8015) (htot : tot sc0 + (hi - lo0) ≤ 4000) (hK : K hi ≠ 26) (hkk : kk ≤ 6)
    (hend : ∀ M kf m2 w2 b cm2 pj sc2 l2, RWC m0 w0 K T nm Nk f lo0 a0 cm0 pi0 k0 sc0 mS wS kk (some l2) m2 w2 hi b cm2 pj sc2 → PP RR (bnd ((jg_Cm_tries N (jrc_Cm_fun N D) kf).1 m2 (I (nn : Nat)) v3 v4 (I ((0 : Nat) : Int))) fc) (kg_M_clause N S M w2 (I (k0 : Nat)) (I (l2 : Nat)) 0)) :
    ∀ (k n lo xa q M kf j : Nat) (last : Option Nat) (m w : MS) (a cm pi : Nat) (sc : SCT), RWcK m0 1 26 (PAcK m0 f) k n lo hi xa xb q r → RWC m0 w0 K T nm Nk f lo0 a0 cm0 pi0 k0 sc0 mS wS j last m w lo a cm pi sc → j + k = kk → PP RR (bnd ((jg_Cm_tries N (jrc_Cm_fun N D) kf).1 m (I (nn : Nat)) v3 v4 (I (n : Nat))) fc) (kg_M_clause N S M w (I (k0 : Nat)) (optI last) 1)
  | 0, _, _, _, _, _, _, _, _, _, _, _, _, _, _, h, _, _ => h.elim
  | k + 1, n, lo, xa, q, M, kf, j, last, m, w, a, cm, pi, sc, h, ra, hjk => by
    obtain ⟨mid, c1, s1, e, h⟩ := h
    have hd := PA_bdK _ _ _ _ _ _ _ _ e
    unfold HDc at hd
    have hc : c1 ≤ xb ∧ mid ≤ hi := by
      rcases h with ⟨-, -, h1, h2, -⟩ | ⟨-, n2, -, h3⟩
      · omega
      · have := (RW_hdK (PA_bdK _) h3).1
        unfold HDc at this
        omega
    have t4 := c.2.1.1.1
    cases kf with
    | zero => exact pp_nl
    | succ kf =>
    cases M with
    | zero => exact pp_nr
    | succ M =>
    show PP RR (bnd (jb_Cm_tries_71 N (jrc_Cm_fun N D) (jg_Cm_tries N (jrc_Cm_fun N D) kf) m (I (nn : Nat)) v3 v4 (I (n : Nat))) fc) (kb_M_clause_75 N S (kg_M_clause N S M) w (I (k0 : Nat)) (optI last) 1)
    unfold jb_Cm_tries_71 kb_M_clause_75
    rw [decide_eq_false (fun z => by
      have := (I_eq (x := ((n : Nat) : Int)) (y := 0) (by omega) (by omega) (by decide) (by decide)).mp z
      omega), br_f, show decide ((1 : Int32) = 0) = false from rfl, br_f, decide_eq_true ra.2.1.2.2.1, br_t, bnd_as2]
    have r41 := ra.2.2.2.2.2.2.2.1
    rw [i_nt2 (p := k0) (by omega), r41, decide_eq_false (fun z => by
      have := (I_eq (x := ((j : Nat) : Int)) (y := 6) (by omega) (by omega) (by decide) (by decide)).mp (z.trans rfl)
      omega), br_f]
    refine r_ck (fun _ => ?_)
    unfold kb_M_clause_103 jr_Cm_pattern kr_M_patternAt
    refine pp_bb (pp_mo (pt_all c cv f _ _ n lo mid xa c1 q s1 m w a cm pi sc true 1 e (by omega) ra.1 ra.2.1 (by have := ra.2.2.2.1.2; have := ra.2.2.1.1; omega) rfl) (fun m2 z w2 rr hz => ?_))
    rw [i_nt2 (show n ≤ 100000 by omega), i_nt2 (p := k0) (by omega)]
    have fr2 : FRC m0 m2 := by
      obtain ⟨_, _, _, _, _, _, _, _, _, e4, _⟩ := hz
      exact e4.1
    rw [bnd_ck]
    refine l_ck (fun _ => ?_)
    unfold kb_M_clause_134
    rw [i_nt2 (p := k0) (by omega)]
    refine rwc_1 (F := fun u r => kb_M_clause_172 N S (kg_M_clause N S M) u (I (k0 : Nat)) r) ra hk0 (by omega) hz (by omega) (fun w3 b cm2 pj sc2 l2 hl2 ra2 => ?_)
    subst hl2
    refine r_ck (fun _ => ?_)
    have hw2 := PRS_w c ra2.2.1
    have h67 := ra2.2.1.2.2.1
    have e172 : PP RR (bnd ((jg_Cm_tries N (jrc_Cm_fun N D) kf).1 m2 (I (nn : Nat)) v3 v4 (m2.2.2.1 21 n)) fc) (kb_M_clause_172 N S (kg_M_clause N S M) w3 (I (k0 : Nat)) (I (l2 : Nat))) := by
      unfold kb_M_clause_172
      rw [tkS_e (k := 26) (s := 6) hw2 h67 (by decide) rfl]
      rcases h with ⟨h1, h2, h3, h4, h6⟩ | ⟨⟨h1, hsep⟩, n2, h2, h3⟩
      · subst h3
        rw [if_neg hK, bnd_s, tre fr2 (by decide) h2]
        have ej : j + 1 = kk := by omega
        rw [ej] at ra2
        exact hend M kf m2 w3 b cm2 pj sc2 l2 ra2
      · have hw1 := (RW_hdK (PA_bdK _) h3).1
        unfold HDc at hw1
        have k26 : K mid = 26 := kA c ra2.2.1.2.1.2 (hsep rfl)
        have hl : mid < T := c.2.1.1.lt ra2.2.1.2.1.2 (by omega) (by omega)
        rw [if_pos k26, bnd_s, tre fr2 (by decide) h2]
        exact rwc_lp c cv hk0 hxb htot hK hkk hend k n2 (mid + 1) c1 s1 M kf (j + 1) (some l2) m2 (adv w3 mid) b cm2 pj sc2 h3 (RWC_ad ra2 hl (by omega)) (by omega)
    refine r_br (fun _ => ?_) (fun _ => e172)
    rw [isS_e (k := 26) (s := 6) hw2 (by decide) rfl, bnd_s]
    by_cases z : K mid = 26
    · rw [if_pos z, show decide ((1 : Int32) = 0) = false from rfl, br_f]
      exact pp_nr
    · rw [if_neg z, show decide ((0 : Int32) = 0) = true from rfl, br_t]
      exact e172
end
