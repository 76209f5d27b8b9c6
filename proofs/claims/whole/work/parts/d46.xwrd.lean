/-! expressions: ( ), words, fun ATOM / NUMBER, both -/
set_option maxRecDepth 100000
/-- what is called: here, there -/
def CVX (N : Nat) (m0 w0 : MS) (K : Nat → Nat) (T : Nat) (idc fof cvr : Int → Int → Int) : Prop := (∀ m α k, FRC m0 m → PK (fun v r => v = m ∧ r = I (idc α k)) (hm_Cm_predefinedOf N m (I α) (I k))) ∧ (∀ m α k, FRC m0 m → PK (fun v r => v = m ∧ r = I (fof α k)) (hm_Co_seek N m (I α) (I k))) ∧ ∀ α k, (∃ p, p < T ∧ K p = 2 ∧ α = A w0 7 p) → (-1 ≤ fof α k ∧ fof α k < 2000) ∧ (0 ≤ k → k ≤ 6 → (idc α k = -1 ∨ (0 ≤ idc α k ∧ idc α k < 30)) ∧ (idc α k ≠ -1 → 2000 ≤ cvr α k ∧ PDs (cvr α k - 2000) (if idc α k = 2 ∨ idc α k = 3 ∨ idc α k = 4 ∨ idc α k = 29 ∨ idc α k = 15 then 40 else 39) (idc α k)) ∧ (idc α k = -1 → fof α k ≠ -1 → cvr α k = fof α k))
section
variable {α β : Type} {m0 w0 m w m2 w2 m3 w3 v u mS wS : MS} {K nm Nk W W2 : Nat → Nat} {N T D d o a a0 b c cm cm0 cm2 cm3 q q0 r s lo lo0 mid hi i j f f2 n k kk p σ tk x xa xb : Nat} {Q Q0 Q2 Q3 Q4 : Nat → Nat} {sc sc0 sc2 sc3 t : SCT} {e : List Nat × List Nat × Nat} {g lst l2 : Bool} {L L1 L2 : List Nat} {idc fof cvr : Int → Int → Int} {C : Nat → Int} {P R : Nat → Nat → Int} {J : Nat → Int64} {H O : List Nat} {y : Option (Nat × Nat × Nat)} {z : Unit} {rt v1 v2 v3 v5 : Int32} {fc : MS → Unit → Option (MS × α)} {RR : MS → α → MS → Int32 → Prop} {RU : MS → α → MS → β → Prop} {A' : Option (MS × α)} {l : List Int32}
/-- ahead of an E -/
theorem XZ_in (h : XTR m0 w0 K T nm Nk fof cvr lst g [] lo mid a a cm cm q q Q Q sc sc m w m u) (hz : XZ m0 w0 K T nm Nk fof cvr lst g mid hi a cm q r Q sc m u m2 z w2 rt) : XZ m0 w0 K T nm Nk fof cvr lst g lo hi a cm q r Q sc m w m2 z w2 rt := by
  obtain ⟨c, cm3, Q3, sc3, rn, f, L, z1, z2, z3, z4, z5, z6⟩ := hz
  have := h.1
  exact ⟨c, cm3, Q3, sc3, rn, f, L, z1, z2, XTR_tr h z3, ⟨z4.1, by omega⟩, z5, z6⟩
/-- behind an E -/
theorem XZ_out (hz : XZ m0 w0 K T nm Nk fof cvr lst g lo mid a cm q r Q sc m w m2 z w2 rt) (hX : ∀ Q2 sc2, XRS w0 T w2 mid Q2 sc2 → XRS w0 T v hi Q2 sc2) (hv : v.2 = w2.2) (hl : mid ≤ hi) (gap : ∀ j, mid ≤ j → j < hi → K j ≠ 3) : XZ m0 w0 K T nm Nk fof cvr lst g lo hi a cm q r Q sc m w m2 z v rt := by
  obtain ⟨c, cm3, Q3, sc3, rn, f, L, z1, z2, z3, z4, z5, z6⟩ := hz
  have hx := XTR_mv z3 (hX _ _ z3.2.2.1.1) hv hl gap
  obtain ⟨v1, vr⟩ := v
  have hv : vr = w2.2 := hv
  subst hv
  exact ⟨c, cm3, Q3, sc3, rn, f, L, z1, z2, hx, ⟨z4.1, by omega⟩, (RT_fr (w := w2) (v := (v1, w2.2)) f).2 _ rn L (fun _ _ _ => ⟨rfl, rfl⟩) (fun _ _ _ => rfl) z5, z6⟩
theorem XZ_pr (hz : XZ m0 w0 K T nm Nk fof cvr lst g lo mid a cm q r Q sc m w m2 z w2 rt) : ∃ Q2 sc2, XRS w0 T w2 mid Q2 sc2 := by
  obtain ⟨c, cm3, Q3, sc3, rn, f, L, z1, z2, z3, z4⟩ := hz
  exact ⟨Q3, sc3, z3.2.2.1.1⟩
/-- alone() at ( -/
theorem al_par {S : SG_M_behind} (c : CTZ m0 w0 K T nm Nk) (hR : XRS w0 T w lo Q sc) (hk : K lo = 20) (h : PP RR A' (bnd (S.2.2.2.2.2.2.2.2.2.2.2.2.2.1 (adv w lo)) (fun u23 r23 => bnd (km_M_needSign N u23 1) (fun u24 _ => some (u24, r23))))) : PP RR A' (km_M_alone N S w (I (lo : Nat))) := by
  have hw := XRS_wp c hR
  obtain ⟨a, b, -⟩ := tkd_6 c hR
  have s4 : decide (w.2.2.1 6 lo = 4) = decide (K lo = 1) := srt_dc hw srK_4
  have s1 : decide (w.2.2.1 6 lo = 1) = decide (K lo = 2) := srt_dc hw srK_1
  have s5 : decide (w.2.2.1 6 lo = 5) = decide (K lo = 4) := srt_dc hw srK_5
  have s2 : decide (w.2.2.1 6 lo = 2) = decide (K lo = 3) := srt_dc hw srK_2
  unfold km_M_alone kb_M_alone_0 kb_M_alone_361
  rw [b, s4, s1, s5, s2]
  refine r_ck (fun _ => ?_)
  rw [decide_eq_false (by omega), br_f]
  refine r_ck (fun _ => ?_)
  rw [decide_eq_false (by omega), br_f]
  refine r_ck (fun _ => ?_)
  rw [decide_eq_false (by omega), br_f]
  refine r_ck (fun _ => ?_)
  rw [decide_eq_false (by omega), br_f, tkS_e (k := 20) (s := 0) hw hR.1.2.2.1 (by decide) rfl, if_pos hk, bnd_s, show decide ((1 : Int32) = 0) = false from rfl, br_f]
  exact h
theorem pk_ndS {s' : Int32} {PP' : MS → Unit → Prop} (c : CTZ m0 w0 K T nm Nk) (hX : XRS w0 T w p Q sc) (hk : 20 ≤ k ∧ k ≤ 44) (hs : s' = I (svK k : Nat)) (h : K p = k → PP' (adv w p) ()) : PK PP' (km_M_needSign N w s') := by
  unfold km_M_needSign kb_M_needSign_0 kb_M_needSign_13
  rw [tkS_e (XRS_wp c hX) hX.1.2.2.1 hk hs]
  by_cases z : K p = k
  · rw [if_pos z]
    exact pk_some (h z)
  · rw [if_neg z]
    exact pk_none
theorem pk_ndW {s' : Int32} {PP' : MS → Unit → Prop} (c : CTZ m0 w0 K T nm Nk) (hX : XRS w0 T w p Q sc) (hk : 5 ≤ k ∧ k ≤ 19) (hs : s' = I (svK k : Nat)) (h : K p = k → PP' (adv w p) ()) : PK PP' (km_M_needWord N w s') := by
  unfold km_M_needWord kb_M_needWord_0 kb_M_needWord_13
  rw [tkW_e (XRS_wp c hX) hX.1.2.2.1 hk hs]
  by_cases z : K p = k
  · rw [if_pos z]
    exact pk_some (h z)
  · rw [if_neg z]
    exact pk_none
/-- ( E ) -/
theorem x_grp (c : CTZ m0 w0 K T nm Nk) (IH : HXE N m0 w0 K T nm Nk fof cvr f) (hC : XCS m0 nm m a cm sc g) (hR : XRS w0 T w lo Q sc) (hq : Q 56 = q) (hn : n ≤ 8015) (h16 : A m0 16 n = 5) (h18 : A m0 18 n = ((x : Nat) : Int)) (hE : XPcK m0 f (o + 1) 3 x (lo + 1) (hi - 1) xa xb q r) (hxb : xb ≤ 8015) (h6 : A m0 6 lo = 20) (h6b : A m0 6 (hi - 1) = 21) (hr4 : r ≤ 400) (hiT : hi ≤ T) (htot : tot sc + (hi - lo) ≤ 4000 ∧ sc.length ≤ o + 1) : PP (XZ m0 w0 K T nm Nk fof cvr lst g lo hi a cm q r Q sc m w) (jm_Cm_expression N (jrc_Cm_fun N D) m (I (n : Nat)) (lsI lst)) (km_M_alone N (krc_M_behind N d) w (I (lo : Nat))) := by
  have fr := XCS_fr hC
  have t4 := c.2.1.1.1
  have hd := xp_hd hE
  have k20 : K lo = 20 := kA c (by omega : lo ≤ T) h6
  have k21 : K (hi - 1) = 21 := kA c (by omega : hi - 1 ≤ T) h6b
  refine exd_5 hn (tre fr (by decide) h16) (l_ck (fun _ => l_id ?_))
  rw [tre fr (by decide) h18]
  refine al_par c hR k20 ?_
  have ht := XTR_ad (K := K) (nm := nm) (Nk := Nk) (fof := fof) (cvr := cvr) (lst := lst) (mid := lo) (XTR_rf hC hR hq) (by omega) (by omega)
  refine pp_rb (pp_mo (IH D d (o + 1) x (lo + 1) (hi - 1) xa xb q r m (adv w lo) a cm Q sc g lst hE hxb hr4 ⟨by rw [k21]; exact NEC_k.2.2.2.1, by omega⟩ hC ht.2.2.1.1 hq (by omega)) (fun m2 z2 w2 rt hz => ?_))
  obtain ⟨Q2, sc2, hX⟩ := XZ_pr hz
  refine pk_bnd (pk_ndS c hX (k := 21) (by decide) rfl (fun _ => ?_))
  have ho := XZ_out (v := adv w2 (hi - 1)) (hi := hi) (XZ_in ht hz) (fun Q2 sc2 h => by
    have := XRS_ad h (show hi - 1 < T by omega)
    rw [show hi - 1 + 1 = hi by omega] at this
    exact this) rfl (by omega) (fun j a b => by rw [show j = hi - 1 by omega]; omega)
  exact pk_some ho
theorem r_ckb {bb : Bool} {X : Option (MS × Int32)} {F0 : MS → Int32 → Option (MS × β)} (h : PP RU A' (bnd X F0)) : PP RU A' (bnd X (fun u r => ck bb (F0 u r))) := by
  cases X with
  | none => exact pp_nr
  | some X =>
    show PP RU A' (ck bb (F0 X.1 X.2))
    cases bb with
    | false => exact pp_nr
    | true => exact h
/-- alone() at a word -/
theorem al_wrd {S : SG_M_behind} (c : CTZ m0 w0 K T nm Nk) (hR : XRS w0 T w lo Q sc) (hk : K lo = 7 ∨ K lo = 8 ∨ K lo = 12 ∨ K lo = 13 ∨ K lo = 17) (h : ∀ u x, XRS w0 T u lo Q sc → u.2 = w.2 → PP RR A' (bnd (br (decide (K lo = 12)) (S.2.2.2.2.2.2.1 u (I (lo : Nat))) (S.2.2.2.2.2.1 u (I (lo : Nat)))) (fun u4 r4 => some (upI u4 73 x, r4)))) : PP RR A' (km_M_alone N S w (I (lo : Nat))) := by
  have hw := XRS_wp c hR
  obtain ⟨a, b, h6⟩ := tkd_6 c hR
  have s4 : decide (w.2.2.1 6 lo = 4) = decide (K lo = 1) := srt_dc hw srK_4
  have s1 : decide (w.2.2.1 6 lo = 1) = decide (K lo = 2) := srt_dc hw srK_1
  have s5 : decide (w.2.2.1 6 lo = 5) = decide (K lo = 4) := srt_dc hw srK_5
  have s2 : decide (w.2.2.1 6 lo = 2) = decide (K lo = 3) := srt_dc hw srK_2
  have s3 : decide (w.2.2.1 6 lo = 3) = true := decide_eq_true (by rw [h6]; exact (srK_3 _ (by omega)).mpr (by omega))
  unfold km_M_alone kb_M_alone_0
  rw [b, s4, s1, s5, s2]
  refine r_ck (fun _ => ?_)
  rw [decide_eq_false (by omega), br_f]
  refine r_ck (fun _ => ?_)
  rw [decide_eq_false (by omega), br_f]
  refine r_ck (fun _ => ?_)
  rw [decide_eq_false (by omega), br_f]
  refine r_ck (fun _ => ?_)
  rw [decide_eq_false (by omega), br_f, tkS_e (k := 20) (s := 0) hw hR.1.2.2.1 (by decide) rfl, if_neg (by omega), bnd_s, show decide ((0 : Int32) = 0) = true from rfl, br_t, isS_e (k := 22) (s := 2) hw (by decide) rfl, bnd_s, if_neg (by omega), show decide ((0 : Int32) = 0) = true from rfl, br_t, isS_e (k := 24) (s := 4) hw (by decide) rfl, bnd_s, if_neg (by omega), show decide ((0 : Int32) = 0) = true from rfl, br_t, b, s3, br_t]
  refine r_ck (fun _ => ?_)
  have e315 : ∀ v, RULd w v → PP RR A' (kb_M_alone_315 N S () v (I (lo : Nat))) := fun v hv => by
    have hX := RUL_x hv hR
    have hX0 := XRS_I (k := 73) (x := 0) hX (by decide) (by decide)
    have h0 := h (upI v 73 0) (v.1 73) hX0 hv.2
    unfold kb_M_alone_315
    rw [lt_e, isV_e (k := 12) (s := 7) (XRS_wp c hX0) (by decide) rfl, bnd_s]
    by_cases z : K lo = 12
    · rw [if_pos z, show decide ((1 : Int32) = 0) = false from rfl, br_f]
      rw [decide_eq_true z, br_t] at h0
      exact r_ckb h0
    · rw [if_neg z, show decide ((0 : Int32) = 0) = true from rfl, br_t]
      rw [decide_eq_false z, br_f] at h0
      exact r_ckb h0
  refine r_br (fun _ => e315 w RUL_rf) (fun _ => ?_)
  rw [isV_e (k := 14) (s := 9) hw (by decide) rfl, bnd_s, if_neg (by omega), show decide ((0 : Int32) = 0) = true from rfl, br_t]
  exact r_rul (fun v hv => e315 v hv)
theorem l_seek {f0 : MS → Int32 → Option (MS × α)} {B : Option (MS × β)} {α' k' : Int} (cx : CVX N m0 w0 K T idc fof cvr) (fr : FRC m0 m) (h : PP RU (f0 m (I (fof α' k'))) B) : PP RU (bnd (hm_Co_seek N m (I α') (I k')) f0) B := l_bnd (pk_mo (cx.2.1 m α' k' fr) (fun v r h2 => by rw [h2.1, h2.2]; exact h))
/-- fun ATOM / NUMBER -/
theorem x_fof (c : CTZ m0 w0 K T nm Nk) (cv : CTV m0 w0 K T) (cx : CVX N m0 w0 K T idc fof cvr) (hC : XCS m0 nm m a cm sc g) (hR : XRS w0 T w lo Q sc) (hq : Q 56 = q) (hn : n ≤ 8015) (h16 : A m0 16 n = 13) (h6 : A m0 6 lo = 12 ∧ A m0 6 (lo + 1) = 2 ∧ A m0 6 (lo + 2) = 37 ∧ A m0 6 (lo + 3) = 1 ∧ A m0 17 n = ((lo : Nat) : Int) ∧ A m0 18 n = A m0 7 (lo + 1) ∧ A m0 19 n = A m0 7 (lo + 3)) (hiT : lo + 4 ≤ T) : PP (XZ m0 w0 K T nm Nk fof cvr lst g lo (lo + 4) a cm q q Q sc m w) (jm_Cm_expression N (jrc_Cm_fun N D) m (I (n : Nat)) v2) (km_M_alone N (krc_M_behind N d) w (I (lo : Nat))) := by
  have fr := XCS_fr hC
  have t4 := c.2.1.1.1
  obtain ⟨a0, a1, a2, a3, h17, h18, h19⟩ := h6
  have k0 : K lo = 12 := kA c (by omega : lo ≤ T) a0
  have k1 : K (lo + 1) = 2 := kA c (by omega) a1
  have k2 : K (lo + 2) = 37 := kA c (by omega) a2
  have k3 : K (lo + 3) = 1 := kA c (by omega) a3
  have e18 : A m0 18 n = A w0 7 (lo + 1) := h18.trans (congrArg Int32.toInt ((cv (lo + 1) (by omega)).2.1 (Or.inr k1)))
  have e19 : A m0 19 n = A w0 7 (lo + 3) := h19.trans (congrArg Int32.toInt ((cv (lo + 3) (by omega)).2.1 (Or.inl k3)))
  refine exd_13 hn (tre fr (by decide) h16) (l_id ?_)
  cases D with
  | zero => exact pp_nl
  | succ D =>
  show PP _ (jm_Cm_compound N (jrc_Cm_fun N D) m (I (n : Nat)) v2) _
  refine cmd_13 (tk := lo) hn (tre fr (by decide) h16) hC.2 (tre fr (by decide) h17) (by omega) (fun hg => l_id ?_)
  unfold jm_Cm_funOf jb_Cm_funOf_0
  rw [i_nt2 (show n ≤ 100000 by omega), tre fr (by decide) e18, tre fr (by decide) e19]
  refine l_ck (fun _ => l_ck (fun _ => l_seek cx fr ?_))
  obtain ⟨f1, -⟩ := cx.2.2 (A w0 7 (lo + 1)) (A w0 7 (lo + 3)) ⟨lo + 1, by omega, k1, rfl⟩
  by_cases zf : fof (A w0 7 (lo + 1)) (A w0 7 (lo + 3)) = -1
  · rw [zf, show decide (I (-1) = (-1 : Int32)) = true from rfl, br_t, tre fr (by decide) h17]
    refine l_ck (fun _ => ?_)
    exact l_flt (tk := lo + 1) (k := 6) (by rw [i_suc]) rfl (by omega) (by decide)
  rw [decide_eq_false (fun z => zf (by
    have := (I_eq (x := fof (A w0 7 (lo + 1)) (A w0 7 (lo + 3))) (y := -1) (by omega) (by omega) (by decide) (by decide)).mp (z.trans rfl)
    exact this)), br_f]
  unfold jb_Cm_funOf_48
  refine l_put hC.1.2.2.1.1 hC.1.2.2.1.2.2 (fun ha => ?_)
  have h1 := XCS_put (x := 7) hC ha
  refine l_put h1.1.2.2.1.1 h1.1.2.2.1.2.2 (fun ha1 => ?_)
  have h2 := XCS_put (x := I (fof (A w0 7 (lo + 1)) (A w0 7 (lo + 3)))) h1 ha1
  have em : ptc (ptc m a 7) (a + 1) (I (fof (A w0 7 (lo + 1)) (A w0 7 (lo + 3)))) = ptcs m a [7, I (fof (A w0 7 (lo + 1)) (A w0 7 (lo + 3)))] := rfl
  rw [em] at h2 ⊢
  refine al_wrd c hR (by omega) (fun u x hX hu => ?_)
  rw [decide_eq_true k0, br_t]
  cases d with
  | zero => exact pp_nr
  | succ d =>
  show PP _ _ (bnd (kb_M_fun_0 N (krc_M_behind N d) (kg_M_fun N (krc_M_behind N d) N) u (I (lo : Nat))) _)
  unfold kb_M_fun_0
  have hA := XRS_ad hX (show lo < T by omega)
  have hwA := XRS_wp c hA
  obtain ⟨-, b1, -⟩ := tkd_6 c hA
  have e1 : u.1 69 + 1 = I ((lo + 1 : Nat) : Int) := by rw [hX.1.2.1.1, i_suc]
  have s1 : decide ((adv u lo).2.2.1 6 (lo + 1) = 1) = decide (K (lo + 1) = 2) := srt_dc hwA srK_1
  rw [e1, lt_e, show upI u 69 (I ((lo + 1 : Nat) : Int)) = adv u lo from rfl, b1, s1, decide_eq_true k1, br_t, bnd_ck]
  refine r_ck (fun _ => ?_)
  have hB := XRS_ad hA (show lo + 1 < T by omega)
  have hwB := XRS_wp c hB
  have e2 : (adv u lo).1 69 = I ((lo + 1 : Nat) : Int) := upI_at
  rw [e2, i_suc, lt_e, show upI (adv u lo) 69 (I ((lo + 1 + 1 : Nat) : Int)) = adv (adv u lo) (lo + 1) from rfl, bnd_as2]
  refine need_k hwB hB.1.2.2.1 (k := 37) (by decide) rfl (fun _ => ?_)
  have hD := XRS_ad hB (show lo + 1 + 1 < T by omega)
  have hwD := XRS_wp c hD
  obtain ⟨-, b3, -⟩ := tkd_6 c hD
  have s4 : decide ((adv (adv (adv u lo) (lo + 1)) (lo + 1 + 1)).2.2.1 6 (lo + 1 + 1 + 1) = 4) = decide (K (lo + 1 + 1 + 1) = 1) := srt_dc hwD srK_4
  have x7 : (adv (adv (adv u lo) (lo + 1)) (lo + 1 + 1)).2.2.1 7 = w0.2.2.1 7 := XRS_7 hD
  have hu2 : (adv (adv (adv u lo) (lo + 1)) (lo + 1 + 1)).2 = w.2 := hu
  generalize adv (adv (adv u lo) (lo + 1)) (lo + 1 + 1) = V at hD hwD b3 s4 x7 hu2
  rw [decide_eq_true hD.1.2.2.1, br_t, b3, s4, decide_eq_true (show K (lo + 1 + 1 + 1) = 1 from k3), br_t, bnd_ck]
  refine r_ck (fun _ => ?_)
  unfold kb_M_fun_69
  rw [bnd_as2]
  obtain ⟨n1, n2⟩ := XRS_q hD
  refine r_nod n1 n2 rfl (nsh (by omega)) (fun h16 => ?_)
  have d0 : NOD V (nwD V (Q 32) 15 (I ((lo + 1 : Nat) : Int))) (Q 32) := NOD_0 n1
  obtain ⟨d1, d2, d3, d4, d5, d6, d7, d8⟩ := nwD_at (w := V) (i := Q 32) (k := 15) (t := I ((lo + 1 : Nat) : Int))
  have d9 : (nwD V (Q 32) 15 (I ((lo + 1 : Nat) : Int))).1 69 = I ((lo + 1 + 1 + 1 : Nat) : Int) := by rw [nwD_i (by decide)]; exact hD.1.2.1.1
  have d10 : (nwD V (Q 32) 15 (I ((lo + 1 : Nat) : Int))).2.2.1 7 = w0.2.2.1 7 := by rw [nwD_r (by decide), x7]
  generalize nwD V (Q 32) 15 (I ((lo + 1 : Nat) : Int)) = U at d0 d1 d2 d3 d4 d5 d6 d7 d8 d9 d10
  rw [i_nt2 (p := Q 32) (by omega), i_nt (p := lo + 1) (by omega), d10, bnd_ck, bnd_ck]
  refine r_ck (fun _ => r_ck (fun _ => ?_))
  rw [lt_e]
  have f9 : ∀ gg, (upA U 25 gg).1 69 = I ((lo + 1 + 1 + 1 : Nat) : Int) := fun _ => d9
  have f7 : ∀ gg, (upA U 25 gg).2.2.1 7 = w0.2.2.1 7 := fun _ => by rw [upA_no (by decide)]; exact d10
  rw [f9, f7, i_nt (p := lo + 1 + 1 + 1) (by omega), bnd_ck, bnd_ck]
  refine r_ck (fun _ => r_ck (fun _ => ?_))
  rw [lt_e]
  have f92 : ∀ gg g2, (upA (upA U 25 gg) 26 g2).1 69 + 1 = I ((lo + 4 : Nat) : Int) := fun _ _ => by
    show U.1 69 + 1 = _
    rw [d9, i_suc]
  rw [f92, lt_e, bnd_s]
  have hN : NOD V (upA (upA U 25 (upd (U.2.2.1 25) (Q 32) (w0.2.2.1 7 (lo + 1)))) 26 (upd ((upA U 25 (upd (U.2.2.1 25) (Q 32) (w0.2.2.1 7 (lo + 1)))).2.2.1 26) (Q 32) (w0.2.2.1 7 (lo + 1 + 1 + 1)))) (Q 32) := NOD_A (NOD_A d0 (by decide)) (by decide)
  have r25 : A (upA (upA U 25 (upd (U.2.2.1 25) (Q 32) (w0.2.2.1 7 (lo + 1)))) 26 (upd ((upA U 25 (upd (U.2.2.1 25) (Q 32) (w0.2.2.1 7 (lo + 1)))).2.2.1 26) (Q 32) (w0.2.2.1 7 (lo + 1 + 1 + 1)))) 25 (Q 32) = A w0 7 (lo + 1) := by
    show ((upA (upA U 25 _) 26 _).2.2.1 25 (Q 32)).toInt = _
    rw [upA_no (by decide), upA_at, upd_at]; rfl
  have r26 : A (upA (upA U 25 (upd (U.2.2.1 25) (Q 32) (w0.2.2.1 7 (lo + 1)))) 26 (upd ((upA U 25 (upd (U.2.2.1 25) (Q 32) (w0.2.2.1 7 (lo + 1)))).2.2.1 26) (Q 32) (w0.2.2.1 7 (lo + 1 + 1 + 1)))) 26 (Q 32) = A w0 7 (lo + 3) := by
    show ((upA (upA U 25 _) 26 _).2.2.1 26 (Q 32)).toInt = _
    rw [upA_at, upd_at]; rfl
  have r23 : A (upA (upA U 25 (upd (U.2.2.1 25) (Q 32) (w0.2.2.1 7 (lo + 1)))) 26 (upd ((upA U 25 (upd (U.2.2.1 25) (Q 32) (w0.2.2.1 7 (lo + 1)))).2.2.1 26) (Q 32) (w0.2.2.1 7 (lo + 1 + 1 + 1)))) 23 (Q 32) = 15 := by
    show ((upA (upA U 25 _) 26 _).2.2.1 23 (Q 32)).toInt = _
    rw [upA_no (by decide), upA_no (by decide), d1]; rfl
  have r28 : A (upA (upA U 25 (upd (U.2.2.1 25) (Q 32) (w0.2.2.1 7 (lo + 1)))) 26 (upd ((upA U 25 (upd (U.2.2.1 25) (Q 32) (w0.2.2.1 7 (lo + 1)))).2.2.1 26) (Q 32) (w0.2.2.1 7 (lo + 1 + 1 + 1)))) 28 (Q 32) = -1 := by
    show ((upA (upA U 25 _) 26 _).2.2.1 28 (Q 32)).toInt = _
    rw [upA_no (by decide), upA_no (by decide), d6]; rfl
  generalize upA (upA U 25 (upd (U.2.2.1 25) (Q 32) (w0.2.2.1 7 (lo + 1)))) 26 (upd ((upA U 25 (upd (U.2.2.1 25) (Q 32) (w0.2.2.1 7 (lo + 1)))).2.2.1 26) (Q 32) (w0.2.2.1 7 (lo + 1 + 1 + 1))) = v at hN r25 r26 r23 r28
  have ht0 : XTR m0 w0 K T nm Nk fof cvr lst g [] lo (lo + 1 + 1 + 1) a a cm cm q q Q Q sc sc m w m V := XTR_mv (XTR_rf hC hR hq) hD hu2 (by omega) (fun j j1 j2 => by
    rcases (by omega : j = lo ∨ j = lo + 1 ∨ j = lo + 2) with z | z | z
    · rw [z]; omega
    · rw [z]; omega
    · rw [z]; omega)
  have hN2 : NOD V (upI (upI v 69 (I ((lo + 4 : Nat) : Int))) 73 x) (Q 32) := NOD_I (NOD_I hN (by decide) (by decide)) (by decide) (by decide)
  refine pp_end (XZ_n (L := []) (c := a + 2) ht0 (XT_nod hC hD hq ⟨by omega, hiT⟩ (fun j j1 j2 => ?_) (by omega) h2 (XFC_ps XFC_rf (Nat.le_refl _)) (ptcs_r (by decide)) hN2 rfl h16 (by rw [upI_ne (by decide), upI_at]) (fun n hn => by cases hn) (fun C P R J H fi hx => ⟨fun u u1 u2 => by omega, fun y hy hr => ?_⟩)) (by omega) (by omega) r28 (Or.inl ⟨rfl, by show A v 23 (Q 32) ≠ 12 ∧ A v 23 (Q 32) ≠ 13; rw [r23]; decide⟩))
  · rw [show j = lo + 3 by omega]; omega
  · have gc := fi.1
    have ro : ∀ k, 23 ≤ k ∧ k ≤ 31 → k ≠ 27 ∧ k ≠ 29 ∧ k ≠ 30 → R k (Q 32) = A v k (Q 32) := fun k k1 k2 => FIN_R fi k1 k2 ⟨Nat.le_refl _, by rw [qst_at]; omega⟩
    have R23 := (ro 23 (by decide) (by decide)).trans r23
    have c0 : C a = 7 := C_0 gc (by omega)
    have c1 : C (a + 1) = fof (A w0 7 (lo + 1)) (A w0 7 (lo + 3)) := (C_at (k := 1) gc rfl (by omega)).trans (I_ti (by omega) (by omega))
    have r27 := (fi.2.2.2.2 (Q 32) (Nat.le_refl _) (by rw [qst_at]; omega)).2 R23
    obtain ⟨b1, b2⟩ := XB c.2.2.1 hC hD hx h16
    obtain ⟨d, hd⟩ := hr
    rw [qst_at] at hd
    refine cr_1 b1 b2 ⟨d, Or.inr (Or.inr (Or.inr (Or.inr (Or.inr (Or.inr (Or.inr (Or.inr (Or.inr (Or.inr (Or.inr (Or.inr (Or.inr (Or.inr (Or.inr (Or.inl ⟨R23, c0, ?_, hd⟩)))))))))))))))⟩
    rw [c1, r27, ro 25 (by decide) (by decide), ro 26 (by decide) (by decide), r25, r26]
end
