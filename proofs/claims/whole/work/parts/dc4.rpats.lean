/-! PATTERNS, the reader alone -/
set_option maxRecDepth 100000
/-- what reading a PATTERN leaves, here -/
def RPX (w0 : MS) (T : Nat) (nm Nk K : Nat → Nat) (lo hi pi : Nat) (sc : SCT) (w w2 : MS) (r : Int32) : Prop := ∃ (pn pj : Nat) (sc2 : SCT) (W : Nat → Nat), r = I (pn : Nat) ∧ (pi ≤ pn ∧ pn < pj) ∧ PRd w0 T w2 hi pj sc2 ∧ HDw false nm Nk K W lo hi sc sc2 ∧ RFP w w2 pi
def HRP (N : Nat) (m0 w0 : MS) (K : Nat → Nat) (T : Nat) (nm Nk : Nat → Nat) (f : Nat) : Prop := ∀ (d n lo hi xa xb q r : Nat) (w : MS) (pi : Nat) (sc : SCT), PAcK m0 f n lo hi xa xb q r → PRd w0 T w lo pi sc → PK (fun v rr => RPX w0 T nm Nk K lo hi pi sc w v rr) ((krc_M_rowPattern N d).2 w 0)
section
variable {α β : Type} {m0 w0 m w m2 w2 m3 w3 v u w1 wS : MS} {K nm Nk W W2 : Nat → Nat} {N T D d o b c q r s lo lo0 mid hi i j f f2 n k kk kd cl p p2 σ tk xa xb xc M M1 M2 y pi pj rt : Nat} {Q Q0 Q2 Q3 : Nat → Nat} {sc sc0 sc2 sc3 t t2 : SCT} {e e2 : List Nat × List Nat × Nat} {g lst own : Bool} {rr x v1 v2 v3 v4 v5 v6 t0 xx : Int32} {RR : MS → α → MS → Int32 → Prop} {A' : Option (MS × α)} {S : SG_M_rowPattern} {G : MS → Int32 → Int32 → Int32 → Int32 → Int32 → Int32 → Int32 → Option (MS × Int32)}
/-- the end of a row -/
theorem rpu_fin (c : CTZ m0 w0 K T nm Nk) (hlo : lo < T) (hk : K lo = kd) (hd : RKD kd cl x v2 v3) (hp5 : pi < 5000) (hlh : lo + 2 ≤ hi) (hR : PRd w0 T w3 (hi - 1) pj sc3) (hpj : pi < pj) (hH : ∃ W, HDw false nm Nk K W (lo + 1) (hi - 1) sc sc3) (hf2 : RFP (wRW w pi x lo) w3 pi) : PP (fun (_ : MS) (_ : α) v r => RPX w0 T nm Nk K lo hi pi sc w (upI v 70 (v.1 70 - 1)) r) A' (kb_M_rowPattern_194 N S G w3 v3 (I (pi : Nat)) v6) := by
  have hkk : K lo ≠ 3 := by rcases hd with h | h <;> omega
  obtain ⟨W, hH⟩ := hH
  unfold kb_M_rowPattern_194
  refine r_ck (fun _ => r_lt ?_)
  rw [i_nt2 (by omega)]
  have hR4 : PRd w0 T (upA w3 35 (upd (w3.2.2.1 35) pi v6)) (hi - 1) pj sc3 := PRS_k hR (fun _ _ _ _ => rfl) (fun k hk => upA_no (by omega)) hR.2.1.1 hR.2.1.2 hR.2.2.2.2.2.1 hR.2.2.2.2.2.2
  have hf4 : RFP (wRW w pi x lo) (upA w3 35 (upd (w3.2.2.1 35) pi v6)) pi := RFP_A hf2 (by decide) (Nat.le_refl _)
  generalize upA w3 35 (upd (w3.2.2.1 35) pi v6) = w4 at hR4 hf4
  refine need_k (k := cl) (PRS_w c hR4) hR4.2.2.1 (by rcases hd with h | h <;> omega) (by rcases hd with h | h <;> rw [h.2.1, h.2.2.2.2] <;> rfl) (fun k1 => ?_)
  have hk1 : K (hi - 1) ≠ 3 := by rcases hd with h | h <;> omega
  have hl2 : hi - 1 < T := c.1.1.lt hR4.2.1.2 (by rcases hd with h | h <;> omega) (by rcases hd with h | h <;> omega)
  have p1 := PRS_ad hR4 hl2
  rw [show hi - 1 + 1 = hi by omega] at p1
  have n20 : ∀ j, lo ≤ j → j < lo + 1 → K j ≠ 3 := fun j a b => by rw [show j = lo by omega]; exact hkk
  have n21 : ∀ j, hi - 1 ≤ j → j < hi → K j ≠ 3 := fun j a b => by rw [show j = hi - 1 by omega]; exact hk1
  refine pp_r (fun _ _ _ => ⟨pi, pj, sc3, W, rfl, ⟨Nat.le_refl _, hpj⟩, PRS_70 p1, HDw_tr (by omega) (by omega) (HDw_gap n20) (HDw_tr (by omega) (by omega) hH (HDw_gap n21)), cl70 ?_⟩)
  exact RFP_I (RFP_tr (RFP_I (RFP_P RFP_rf (Nat.le_refl _)) (Or.inr (Or.inr rfl))) hf4 (Nat.le_refl _)) (Or.inr (Or.inr rfl))
/-- a row -/
theorem rpu_lp (c : CTZ m0 w0 K T nm Nk) (IH : HRP N m0 w0 K T nm Nk f) (hrt : rt < 5000) (hK : hi ≤ T → K hi ≠ 26) (hkk : kk ≤ 8)
    (hend : ∀ M2 w2 pj sc2 last, PRd w0 T w2 hi pj sc2 → (∃ W, HDw false nm Nk K W lo0 hi sc0 sc2) → RFP wS w2 rt → rt < last → last < pj → PP RR A' (kb_M_rowPattern_151 N (krc_M_rowPattern N d) (kg_M_rowPattern N (krc_M_rowPattern N d) M2) w2 0 v2 v3 (I (rt : Nat)) (I (last : Nat)) (I (kk : Nat)))) :
    ∀ (k n lo xa q M2 j : Nat) (w : MS) (pi : Nat) (sc : SCT) (v5 : Int32), RWcK m0 1 26 (PAcK m0 f) k n lo hi xa xb q r → PRd w0 T w lo pi sc → lo0 ≤ lo → (∃ W, HDw false nm Nk K W lo0 lo sc0 sc) → RFP wS w rt → rt < pi → (v5 = -1 ∨ ∃ last : Nat, v5 = I (last : Nat) ∧ rt < last ∧ last < pi) → j + k = kk → PP RR A' (kg_M_rowPattern N (krc_M_rowPattern N d) M2 w 0 v2 v3 (I (rt : Nat)) v5 (I (j : Nat)) 1)
  | 0, _, _, _, _, _, _, _, _, _, _, h, _, _, _, _, _, _, _ => h.elim
  | k + 1, n, lo, xa, q, 0, j, w, pi, sc, v5, _, _, _, _, _, _, _, _ => pp_nr
  | k + 1, n, lo, xa, q, M2 + 1, j, w, pi, sc, v5, h, hR, hl0, hH, hF, hrp, h5, hjk => by
    obtain ⟨mid, c1, s1, e, h⟩ := h
    have hd := PA_bdK _ _ _ _ _ _ _ _ e
    unfold HDc at hd
    have t4 := c.2.1.1.1
    show PP RR _ (kb_M_rowPattern_66 N (krc_M_rowPattern N d) (kg_M_rowPattern N (krc_M_rowPattern N d) M2) w 0 v2 v3 (I (rt : Nat)) v5 (I (j : Nat)) 1)
    unfold kb_M_rowPattern_66
    rw [show decide ((1 : Int32) = 0) = false from rfl, br_fq, decide_eq_true hR.2.2.1, br_tq]
    refine r_bnd (pk_mo (IH d n lo mid xa c1 q s1 w pi sc e hR) (fun w2 rr hz => ?_))
    obtain ⟨pn, pj, sc2, W2, rfl, hpn, hR2, hH2, hF2⟩ := hz
    obtain ⟨W, hH⟩ := hH
    have hHD : ∃ W, HDw false nm Nk K W lo0 mid sc0 sc2 := ⟨_, mrw_tr hl0 (by omega) hH hH2⟩
    have hFD := RFP_tr hF hF2 (by omega)
    have pj5 := hR2.2.2.2.2.2.2
    -- behind the two ways of writing
    have main : ∀ w3 : MS, PRd w0 T w3 mid pj sc2 → RFP wS w3 rt → PP RR A' (kb_M_rowPattern_112 N (krc_M_rowPattern N d) (kg_M_rowPattern N (krc_M_rowPattern N d) M2) w3 0 v2 v3 (I (rt : Nat)) (I (j : Nat)) (I (pn : Nat))) := fun w3 hR3 hF3 => by
      have hw3 := PRS_w c hR3
      have h67 := hR3.2.2.1
      have e140 : PP RR A' (kb_M_rowPattern_140 N (krc_M_rowPattern N d) (kg_M_rowPattern N (krc_M_rowPattern N d) M2) w3 0 v2 v3 (I (rt : Nat)) (I (pn : Nat)) (I ((j + 1 : Nat) : Int))) := by
        unfold kb_M_rowPattern_140
        rw [tkS_e (k := 26) (s := 6) hw3 h67 (by decide) rfl]
        rcases h with ⟨h1, h2, h3, h4, h6⟩ | ⟨⟨h1, hsep⟩, n2, h2, h3⟩
        · subst h3
          rw [if_neg (hK hR3.2.1.2), bnd_s]
          cases M2 with
          | zero => exact pp_nr
          | succ M2 =>
            show PP RR _ (kb_M_rowPattern_66 N (krc_M_rowPattern N d) (kg_M_rowPattern N (krc_M_rowPattern N d) M2) w3 0 v2 v3 (I (rt : Nat)) (I (pn : Nat)) (I ((j + 1 : Nat) : Int)) 0)
            unfold kb_M_rowPattern_66
            rw [show decide ((0 : Int32) = 0) = true from rfl, br_tq]
            have ej : j + 1 = kk := by omega
            rw [ej]
            exact hend M2 w3 pj sc2 pn hR3 hHD hF3 (by omega) hpn.2
        · have k26 : K mid = 26 := kA c hR3.2.1.2 (hsep rfl)
          have hl : mid < T := c.2.1.1.lt hR3.2.1.2 (by omega) (by omega)
          rw [if_pos k26, bnd_s]
          obtain ⟨W3, hHD⟩ := hHD
          exact rpu_lp c IH hrt hK hkk hend k n2 (mid + 1) c1 s1 M2 (j + 1) (adv w3 mid) pj sc2 (I (pn : Nat)) h3 (PRS_ad hR3 hl) (by omega) ⟨W3, HDo_ext hHD (by omega) (by omega)⟩ (RFP_I hF3 (Or.inr (Or.inr rfl))) (by omega) (Or.inr ⟨pn, rfl, by omega, hpn.2⟩) (by omega)
      unfold kb_M_rowPattern_112
      rw [i_suc]
      refine r_br (fun _ => ?_) (fun _ => e140)
      rw [isS_e (k := 26) (s := 6) hw3 (by decide) rfl, bnd_s]
      by_cases z : K mid = 26
      · rw [if_pos z, show decide ((1 : Int32) = 0) = false from rfl, br_fq]
        exact pp_nr
      · rw [if_neg z, show decide ((0 : Int32) = 0) = true from rfl, br_tq]
        exact e140
    rcases h5 with rfl | ⟨last, rfl, l1, l2⟩
    · rw [show decide ((-1 : Int32) = -1) = true from rfl, br_tq]
      refine r_ck (fun _ => r_lt ?_)
      rw [i_nt2 (by omega)]
      exact main _ (PRS_k hR2 (fun _ _ _ _ => rfl) (fun k hk => upA_no (by omega)) hR2.2.1.1 hR2.2.1.2 hR2.2.2.2.2.2.1 hR2.2.2.2.2.2.2) (RFP_A hFD (by decide) (Nat.le_refl _))
    · rw [decide_eq_false (nat_ne2 (by omega)), br_fq]
      refine r_ck (fun _ => r_lt ?_)
      rw [i_nt2 (by omega)]
      exact main _ (PRS_k hR2 (fun _ _ _ _ => rfl) (fun k hk => upA_no (by omega)) hR2.2.1.1 hR2.2.1.2 hR2.2.2.2.2.2.1 hR2.2.2.2.2.2.2) (RFP_A hFD (by decide) (by omega))
/-- leaves -/
theorem rpu_leaf (c : CTZ m0 w0 K T nm Nk) (hR : PRd w0 T w lo pi sc) (hk : 1 ≤ K lo ∧ K lo ≤ 4) : PK (fun v rr => RPX w0 T nm Nk K lo (lo + 1) pi sc w v rr) (km_M_patternAt N S w 0) := by
  refine rv_pk (u := w0) ?_
  obtain ⟨e, t, rfl⟩ := PRS_ne hR
  by_cases z3 : K lo = 3
  · refine rp_name (own := false) c hR z3 rfl (fun w2 sc2 r1 r2 hl h5 r37 => ?_)
    obtain ⟨-, r3⟩ := r37
    have ok := hR.2.2.2.1.2.2.2
    have tl : t.length + 1 ≤ 27 := hR.2.2.2.1.2.1.2
    obtain ⟨c7, d7, cx, cu⟩ := c.2.2.2 lo hl z3
    have el : (e :: t).length = t.length + 1 := rfl
    rcases r3 with ⟨a1, rfl, -⟩ | ⟨a1, rfl, -⟩
    · refine pp_end ⟨pi, pi + 1, e :: t, fun _ => t.length, rfl, ⟨Nat.le_refl _, by omega⟩, r1, ⟨HDo_no (fun j a b _ => ?_), fun _ => ⟨fun j a b _ => ?_, NWX_rf⟩⟩, r2⟩
      · show _ ≤ t.length + 1 ∧ t.length ≤ 32
        omega
      · have : j = lo := by omega
        subst this
        exact ⟨fun z => absurd a1 z, fun _ => by show _ ≤ t.length + 1; omega⟩
    · exact pp_end ⟨pi, pi + 1, _, fun _ => rfL false (Nk lo) (e :: t), rfl, ⟨Nat.le_refl _, by omega⟩, r1, rfP_dw ok rfl z3 a1 rfl (by omega), r2⟩
  · refine rp_leaf c hR (by omega) (fun w2 r1 r2 _ h5 r37 => ?_)
    exact pp_end ⟨pi, pi + 1, e :: t, fun _ => 0, rfl, ⟨Nat.le_refl _, by omega⟩, r1, HDw_gap (fun j a b => by rw [show j = lo by omega]; exact z3), r2⟩
theorem rpu_neg (c : CTZ m0 w0 K T nm Nk) (hR : PRd w0 T w lo pi sc) (k0 : K lo = 34) (k1 : K (lo + 1) = 1) : PK (fun v rr => RPX w0 T nm Nk K lo (lo + 2) pi sc w v rr) (km_M_patternAt N S w 0) := by
  refine rv_pk (u := w0) (rp_neg c hR k0 k1 (fun w2 r1 r2 _ h5 r3 => ?_))
  exact pp_end ⟨pi, pi + 1, sc, fun _ => 0, rfl, ⟨Nat.le_refl _, by omega⟩, r1, HDw_gap (fun j a b => by
    by_cases z : j = lo
    · rw [z]; omega
    · rw [show j = lo + 1 by omega]; omega), r2⟩
/-- ( P ) -/
theorem rpu_grp (c : CTZ m0 w0 K T nm Nk) (IH : HRP N m0 w0 K T nm Nk f) (hR : PRd w0 T w lo pi sc) (pa : PAcK m0 f n (lo + 1) (hi - 1) xa xb q r) (h60 : A m0 6 lo = 20) (h61 : A m0 6 (hi - 1) = 21) : PK (fun v rr => RPX w0 T nm Nk K lo hi pi sc w v rr) (km_M_patternAt N (krc_M_rowPattern N d) w 0) := by
  have hd := PA_bdK _ _ _ _ _ _ _ _ pa
  unfold HDc at hd
  have k0 : K lo = 20 := kA c hR.2.1.2 h60
  have hl : lo < T := c.1.1.lt hR.2.1.2 (by omega) (by omega)
  have t4 := c.1.1.1
  refine rv_pk (u := w0) (kpA (PRS_w c hR) hR.2.2.1 (by rw [k0]; rfl) ?_)
  rw [if_neg (by omega)]
  have hM := PRS_70 (x := w.1 70 + 1) hR
  have cl : ∀ (v : MS) (pi : Nat), RFP (upI w 70 (w.1 70 + 1)) v pi → RFP w (upI v 70 (v.1 70 - 1)) pi := fun v pi h => cl70 h
  generalize upI w 70 (w.1 70 + 1) = M at hM cl
  have hM1 := PRS_w c hM
  obtain ⟨-, b0, -⟩ := WP_i hM1
  have s2 : decide (M.2.2.1 6 lo = 2) = decide (K lo = 3) := srt_dc hM1 srK_2
  have s4 : decide (M.2.2.1 6 lo = 4) = decide (K lo = 1) := srt_dc hM1 srK_4
  have s1 : decide (M.2.2.1 6 lo = 1) = decide (K lo = 2) := srt_dc hM1 srK_1
  have s5 : decide (M.2.2.1 6 lo = 5) = decide (K lo = 4) := srt_dc hM1 srK_5
  unfold kpB
  refine r_ck (fun _ => ?_)
  rw [b0, s2, decide_eq_false (by omega), br_fq, show decide ((0 : Int32) = 0) = true from rfl, br_tq]
  refine r_ck (fun _ => ?_)
  rw [s4, decide_eq_false (by omega), br_fq]
  refine r_ck (fun _ => ?_)
  rw [s1, decide_eq_false (by omega), br_fq]
  refine r_ck (fun _ => ?_)
  rw [s5, decide_eq_false (by omega), br_fq, tkS_e (k := 20) (s := 0) hM1 hM.2.2.1 (by decide) rfl, if_pos k0, bnd_s, show decide ((1 : Int32) = 0) = false from rfl, br_fq]
  have hA := PRS_ad hM hl
  refine r_bnd (pk_mo (IH d n (lo + 1) (hi - 1) xa xb q r (adv M lo) pi sc pa hA) (fun w2 rr h => ?_))
  obtain ⟨pn, pj, sc2, W, rfl, e2, e5, e7, e10⟩ := h
  unfold kb_M_patternAt_388
  refine need_k (PRS_w c e5) e5.2.2.1 (k := 21) (by decide) rfl (fun k21 => r_lt ?_)
  have hl2 : hi - 1 < T := c.1.1.lt e5.2.1.2 (by omega) (by omega)
  have f1 : RFP M (adv w2 (hi - 1)) pi := RFP_I (RFP_tr (RFP_I RFP_rf (Or.inr (Or.inr rfl))) e10 (Nat.le_refl _)) (Or.inr (Or.inr rfl))
  have n20 : ∀ j, lo ≤ j → j < lo + 1 → K j ≠ 3 := fun j a b => by rw [show j = lo by omega]; omega
  have n21 : ∀ j, hi - 1 ≤ j → j < hi → K j ≠ 3 := fun j a b => by rw [show j = hi - 1 by omega]; omega
  have p1 := PRS_ad e5 hl2
  rw [show hi - 1 + 1 = hi by omega] at p1
  exact pp_end ⟨pn, pj, sc2, W, rfl, e2, PRS_70 p1, HDw_tr (by omega) (by omega) (HDw_gap n20) (HDw_tr (by omega) (by omega) e7 (HDw_gap n21)), cl _ _ f1⟩
theorem wRW_f : RFP (wRW w pi x lo) (wRW w pi x lo) pi := RFP_rf
/-- a TUPLE -/
theorem rpu_tup (c : CTZ m0 w0 K T nm Nk) (IH : HRP N m0 w0 K T nm Nk f) (hR : PRd w0 T w lo pi sc) (hT : TUcK m0 (PAcK m0 f) n lo hi xa q r) (hlh : lo + 2 ≤ hi) : PK (fun v rr => RPX w0 T nm Nk K lo hi pi sc w v rr) (km_M_patternAt N (krc_M_rowPattern N d) w 0) := by
  obtain ⟨kk, n1, c1, e18, e19, ⟨hkk, k22, k23⟩, hO, hcn⟩ := hT
  have k0 : K lo = 22 := kA c hR.2.1.2 k22
  refine rv_pk (u := w0) (rr_start (x := 5) (v2 := 1) (v3 := 3) c hR k0 (Or.inl ⟨rfl, rfl, rfl, rfl, rfl⟩) (fun d2 hl h5 hS => ?_))
  rcases hO with ⟨y1, y2, y3, y4, y5⟩ | ⟨y1, hrw⟩
  · have k1 : K (lo + 1) = 23 := by rw [y3]; exact kA c (by rw [← y3]; exact hS.2.1.2) k23
    rw [if_pos k1]
    have hS2 := hS
    rw [y3] at hS2
    exact rpu_fin (kd := 22) (cl := 23) (x := 5) (v2 := 1) c hl k0 (Or.inl ⟨rfl, rfl, rfl, rfl, rfl⟩) h5 hlh hS2 (by omega) ⟨fun _ => 0, HDw_gap (fun j a b => by omega)⟩ RFP_rf
  · have k1 : K (lo + 1) ≠ 23 := Kne c hS.2.1.2 (rw_k1 hrw).2.1
    rw [if_neg k1]
    refine rpu_lp (lo0 := lo + 1) (sc0 := sc) (wS := wRW w pi 5 lo) (kk := kk) (xb := c1) (hi := hi - 1) (r := r) c IH h5 (fun h => by have := kA (k := 23) c h k23; omega) hkk (fun M2 w2 pj sc2 last h1 h2 h3 h4 h6 => ?_) kk n1 (lo + 1) xa q N 0 _ (pi + 1) sc (-1) hrw hS (Nat.le_refl _) ⟨fun _ => 0, HDw_gap (fun j a b => by omega)⟩ RFP_rf (by omega) (Or.inl rfl) (by omega)
    unfold kb_M_rowPattern_151
    rw [show decide ((1 : Int32) = 0) = false from rfl, br_fq]
    exact rpu_fin (kd := 22) (cl := 23) (x := 5) (v2 := 1) c hl k0 (Or.inl ⟨rfl, rfl, rfl, rfl, rfl⟩) h5 hlh h1 (by omega) h2 h3
/-- a LIST -/
theorem rpu_lst (c : CTZ m0 w0 K T nm Nk) (IH : HRP N m0 w0 K T nm Nk f) (hR : PRd w0 T w lo pi sc) (hT : TLcK m0 (PAcK m0 f) n lo hi xa q r) : PK (fun v rr => RPX w0 T nm Nk K lo hi pi sc w v rr) (km_M_patternAt N (krc_M_rowPattern N d) w 0) := by
  obtain ⟨kk, n1, mid, c1, s1, e18, e19, ⟨hkk, k24, k25⟩, hO, hB⟩ := hT
  have bd : lo < mid ∧ mid < hi := by
    have h1 := OR_hdK (PA_bdK _) hO
    rcases hB with ⟨-, h2, h3, h4⟩ | ⟨-, x, c2, -, hx, h2⟩
    · omega
    · have := PA_bdK _ _ _ _ _ _ _ _ hx
      unfold HDc at this
      omega
  have k0 : K lo = 24 := kA c hR.2.1.2 k24
  refine rv_pk (u := w0) (rr_start (x := 6) (v2 := 0) (v3 := 5) c hR k0 (Or.inr ⟨rfl, rfl, rfl, rfl, rfl⟩) (fun d2 hl h5 hS => ?_))
  rcases hO with ⟨y1, y2, y3, y4, y5⟩ | ⟨y1, hrw⟩
  · rcases hB with ⟨h20, hm, -, -⟩ | ⟨⟨h1, -⟩, -⟩
    · have k1 : K (lo + 1) = 25 := by
        have e : lo + 1 = hi - 1 := by omega
        rw [e]
        exact kA c (by rw [← e]; exact hS.2.1.2) k25
      rw [if_pos k1]
      have hS2 := hS
      rw [show lo + 1 = hi - 1 by omega] at hS2
      exact rpu_fin (kd := 24) (cl := 25) (x := 6) (v2 := 0) c hl k0 (Or.inr ⟨rfl, rfl, rfl, rfl, rfl⟩) h5 (by omega) hS2 (by omega) ⟨fun _ => 0, HDw_gap (fun j a b => by omega)⟩ RFP_rf
    · omega
  · have k1 : K (lo + 1) ≠ 25 := Kne c hS.2.1.2 (rw_k1 hrw).2.2.1
    rw [if_neg k1]
    refine rpu_lp (lo0 := lo + 1) (sc0 := sc) (wS := wRW w pi 6 lo) (kk := kk) (xb := c1) (hi := mid) (r := s1) c IH h5 (fun h => ?_) hkk (fun M2 w2 pj sc2 last h1 h2 h3 h4 h6 => ?_) kk n1 (lo + 1) xa q N 0 _ (pi + 1) sc (-1) hrw hS (Nat.le_refl _) ⟨fun _ => 0, HDw_gap (fun j a b => by omega)⟩ RFP_rf (by omega) (Or.inl rfl) (by omega)
    · rcases hB with ⟨-, hm, -, -⟩ | ⟨⟨-, h29⟩, -⟩
      · have := kA (k := 25) (p := mid) c h (by rw [show mid = hi - 1 by omega]; exact k25)
        omega
      · have := kA (k := 29) (p := mid) c h h29
        omega
    · have hw2 := PRS_w c h1
      unfold kb_M_rowPattern_151
      rw [show decide ((0 : Int32) = 0) = true from rfl, br_tq, tkS_e (k := 29) (s := 9) hw2 h1.2.2.1 (by decide) rfl]
      rcases hB with ⟨h20, hm, -, -⟩ | ⟨⟨-, h29⟩, x, c2, h20, hE, hc2⟩
      · have := kA (k := 25) (p := mid) c h1.2.1.2 (by rw [show mid = hi - 1 by omega]; exact k25)
        rw [if_neg (by omega), bnd_s, show decide ((0 : Int32) = 0) = true from rfl, br_tq]
        rw [show mid = hi - 1 by omega] at h1 h2
        exact rpu_fin (kd := 24) (cl := 25) (x := 6) (v2 := 0) c hl k0 (Or.inr ⟨rfl, rfl, rfl, rfl, rfl⟩) h5 (by omega) h1 (by omega) h2 h3
      · have k29 := kA (k := 29) (p := mid) c h1.2.1.2 h29
        have hl2 : mid < T := c.2.1.1.lt h1.2.1.2 (by omega) (by omega)
        have hdx := PA_bdK _ _ _ _ _ _ _ _ hE
        unfold HDc at hdx
        rw [if_pos k29, bnd_s, show decide ((1 : Int32) = 0) = false from rfl, br_fq]
        refine r_bnd (pk_mo (IH d2 x (mid + 1) (hi - 1) c1 c2 s1 r (adv w2 mid) pj sc2 hE (PRS_ad h1 hl2)) (fun w3 rr hz => ?_))
        obtain ⟨pn, pj3, sc3, W3, rfl, hpn, g1, g2, g3⟩ := hz
        have pj5 := h1.2.2.2.2.2.2
        rw [decide_eq_false (nat_ne2 (by omega)), br_fq]
        refine r_ck (fun _ => r_lt ?_)
        rw [i_nt2 (by omega)]
        unfold kb_M_rowPattern_186
        refine r_ck (fun _ => r_lt ?_)
        rw [i_nt2 (by omega), show vp_nar .boolean 1 = 1 from rfl]
        have q5 : PRd w0 T (upA w3 37 (upd (w3.2.2.1 37) last (I (pn : Nat)))) (hi - 1) pj3 sc3 := PRS_k g1 (fun _ _ _ _ => rfl) (fun k hk => upA_no (by omega)) g1.2.1.1 g1.2.1.2 g1.2.2.2.2.2.1 g1.2.2.2.2.2.2
        have q8 : RFP (wRW w pi 6 lo) (upA w3 37 (upd (w3.2.2.1 37) last (I (pn : Nat)))) pi := RFP_A (RFP_tr h3 (RFP_tr (RFP_I RFP_rf (Or.inr (Or.inr rfl))) g3 (Nat.le_refl _)) (by omega)) (by decide) (by omega)
        generalize upA w3 37 (upd (w3.2.2.1 37) last (I (pn : Nat))) = w4 at q5 q8
        have s5 : PRd w0 T (upA w4 38 (upd (w4.2.2.1 38) pi 1)) (hi - 1) pj3 sc3 := PRS_k q5 (fun _ _ _ _ => rfl) (fun k hk => upA_no (by omega)) q5.2.1.1 q5.2.1.2 q5.2.2.2.2.2.1 q5.2.2.2.2.2.2
        have s8 : RFP (wRW w pi 6 lo) (upA w4 38 (upd (w4.2.2.1 38) pi 1)) pi := RFP_A q8 (by decide) (Nat.le_refl _)
        generalize upA w4 38 (upd (w4.2.2.1 38) pi 1) = w5 at s5 s8
        obtain ⟨W, h2⟩ := h2
        have gap : ∀ j, mid ≤ j → j < mid + 1 → K j ≠ 3 := fun j a b => by rw [show j = mid by omega]; omega
        have hHD : HDw false nm Nk K (mrw (mid + 1) W W3) (lo + 1) (hi - 1) sc sc3 := mrw_tr (by omega) (by omega) (HDw_tr (by omega) (by omega) h2 (HDw_gap gap)) g2
        exact rpu_fin (kd := 24) (cl := 25) (x := 6) (v2 := 0) c hl k0 (Or.inr ⟨rfl, rfl, rfl, rfl, rfl⟩) h5 (by omega) s5 (by omega) ⟨_, hHD⟩ s8
/-- all -/
theorem rpu_all (c : CTZ m0 w0 K T nm Nk) : ∀ f, HRP N m0 w0 K T nm Nk f
  | 0 => fun d n lo hi xa xb q r w pi sc h => h.elim
  | f + 1 => fun d n lo hi xa xb q r w pi sc h hR => by
    cases d with
    | zero => exact pk_none
    | succ d =>
      have hd := PA_bdK _ _ _ _ _ _ _ _ h
      unfold HDc at hd
      show PK _ (km_M_patternAt N (krc_M_rowPattern N d) w 0)
      obtain ⟨-, -, -, h⟩ := h
      rcases h with ⟨⟨-, h1, -⟩, rfl⟩ | ⟨-, n1, -, -, -, h2, rfl, h4⟩ | ⟨-, n1, c1, -, pa, hc1, h2, h3⟩ | ⟨-, h⟩ | ⟨-, h⟩
      · have hk : 1 ≤ K lo ∧ K lo ≤ 4 := by
          have e := c.1.2 lo hR.2.1.2
          have k46 := c.1.1.k46 hR.2.1.2
          have : A m0 6 lo = ((K lo : Nat) : Int) := by
            show (m0.2.2.1 6 lo).toInt = _
            rw [e]
            exact I_ti (by omega) (by omega)
          omega
        exact rpu_leaf c hR hk
      · have k0 : K lo = 34 := kA c hR.2.1.2 h4
        have hl : lo < T := c.1.1.lt hR.2.1.2 (by omega) (by omega)
        exact rpu_neg c hR k0 (kA c hl h2)
      · exact rpu_grp c (rpu_all c f) hR pa h2 h3
      · have hlh : lo + 2 ≤ hi := by
          obtain ⟨kk, n1, c1, e18, e19, ⟨hkk, k22, k23⟩, hO, hcn⟩ := h
          by_cases z : hi = lo + 1
          · rw [z, show lo + 1 - 1 = lo by omega] at k23
            omega
          · omega
        exact rpu_tup c (rpu_all c f) hR h hlh
      · exact rpu_lst c (rpu_all c f) hR h
end
