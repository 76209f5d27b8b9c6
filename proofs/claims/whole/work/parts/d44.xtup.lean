/-! expressions: TUPLES, LISTS, both -/
set_option maxRecDepth 100000
section
variable {α β : Type} {m0 w0 m w m2 w2 m3 w3 v u mS wS : MS} {K nm Nk W W2 : Nat → Nat} {N T D d o a a0 b c cm cm0 cm2 cm3 q q0 r s lo lo0 mid hi i j f f2 n k kk p σ tk x xa xb : Nat} {Q Q0 Q2 Q3 Q4 : Nat → Nat} {sc sc0 sc2 sc3 t : SCT} {e : List Nat × List Nat × Nat} {g lst l2 : Bool} {L L1 L2 : List Nat} {fof cvr : Int → Int → Int} {C : Nat → Int} {P R : Nat → Nat → Int} {J : Nat → Int64} {H O : List Nat} {y : Option (Nat × Nat × Nat)} {z : Unit} {rt v1 v2 v3 v5 : Int32} {fc : MS → Unit → Option (MS × α)} {RR : MS → α → MS → Int32 → Prop} {RU : MS → α → MS → β → Prop} {A' : Option (MS × α)} {l : List Int32}
/-- a stretch, a node behind it: an E -/
theorem XZ_n (h : XTR m0 w0 K T nm Nk fof cvr lst g [] lo mid a b cm cm2 q r Q Q2 sc sc2 m w m2 w2) (k : XTR m0 w0 K T nm Nk fof cvr lst g L mid hi b c cm2 cm2 r r Q2 (qst Q2 32 (Q2 32 + 1)) sc2 sc2 m2 w2 m3 v) (hac : a < c) (hlh : lo < hi) (r28 : A v 28 (Q2 32) = -1) (hL : (L = [] ∧ A v 23 (Q2 32) ≠ 12 ∧ A v 23 (Q2 32) ≠ 13) ∨ (L = [Q2 32] ∧ (A v 23 (Q2 32) = 12 ∨ A v 23 (Q2 32) = 13) ∧ A v 30 (Q2 32) = 0)) : XZ m0 w0 K T nm Nk fof cvr lst g lo hi a cm q r Q sc m w m3 () v (I (Q2 32 : Nat)) := by
  have q32 : Q 32 ≤ Q2 32 := h.2.2.2.2.2.2.1.2.1 32 (by decide)
  refine ⟨c, cm2, qst Q2 32 (Q2 32 + 1), sc2, Q2 32, 2, L, rfl, ⟨q32, by rw [qst_at]; omega⟩, XTR_tr h k, ⟨hac, hlh⟩, ?_, fun n hn => ?_⟩
  · rcases hL with ⟨rfl, h1, h2⟩ | ⟨rfl, h1, -⟩
    · exact RTd_1 r28 ⟨h1, h2⟩ rfl ⟨q32, by rw [qst_at]; omega⟩
    · exact RTd_c r28 h1 rfl ⟨q32, by rw [qst_at]; omega⟩
  · rcases hL with ⟨rfl, h1, h2⟩ | ⟨rfl, h1, h2⟩
    · cases hn
    · rw [List.mem_singleton.mp hn]; exact h2
theorem adv_n {p : Nat} (h : NOD (adv w p) v i) : NOD w v i := NOD_w h (fun k hk => upI_ne (by rintro rfl; revert hk; decide)) rfl rfl
/-- node, row 25, row 26 -/
theorem r_n2 {kd : Int32} {t : Nat} {x25 x26 : Int32} {G : MS → Int32 → Option (MS × β)} (n1 : w.1 32 = I (i : Nat)) (n2 : i ≤ 24000) (hk : vp_nar .byte (kd.toInt8.toInt32) = kd) (ht : t ≤ 4002) (hh : ∀ v, i < 16000 → NOD w v i → v.1 69 = w.1 69 → v.1 73 = w.1 73 → A v 23 i = kd.toInt → A v 24 i = ((t : Nat) : Int) → A v 25 i = x25.toInt → A v 26 i = x26.toInt → A v 27 i = -1 → A v 28 i = -1 → A v 30 i = 0 → PP RU A' (G v (I (i : Nat)))) : PP RU A' (bnd (fm_M_node N w kd (I (t : Nat))) (fun u1 r1 => ck (inb r1 (ln 25)) (lt (upA u1 25 (upd (u1.2.2.1 25) r1.toNatClampNeg x25)) (fun w2 => ck (inb r1 (ln 26)) (lt (upA w2 26 (upd (w2.2.2.1 26) r1.toNatClampNeg x26)) (fun w3 => G w3 r1)))))) := by
  refine r_nod n1 n2 hk (nsh ht) (fun h16 => ?_)
  have d0 : NOD w (nwD w i kd (I (t : Nat))) i := NOD_0 n1
  obtain ⟨d1, d2, d3, d4, d5, d6, d7, d8⟩ := nwD_at (w := w) (i := i) (k := kd) (t := I (t : Nat))
  have d9 : (nwD w i kd (I (t : Nat))).1 69 = w.1 69 := nwD_i (by decide)
  have d10 : (nwD w i kd (I (t : Nat))).1 73 = w.1 73 := nwD_i (by decide)
  generalize nwD w i kd (I (t : Nat)) = u at d0 d1 d2 d3 d4 d5 d6 d7 d8 d9 d10
  rw [i_nt2 (p := i) (by omega)]
  refine r_ck (fun _ => r_lt (r_ck (fun _ => r_lt ?_)))
  have rr : ∀ k, k ≠ 25 → k ≠ 26 → A (upA (upA u 25 (upd (u.2.2.1 25) i x25)) 26 (upd ((upA u 25 (upd (u.2.2.1 25) i x25)).2.2.1 26) i x26)) k i = A u k i := fun k h1 h2 => by
    show ((upA (upA u 25 _) 26 _).2.2.1 k i).toInt = _
    rw [upA_no h2, upA_no h1]
    rfl
  refine hh _ h16 (NOD_A (NOD_A d0 (by decide)) (by decide)) d9 d10 ((rr 23 (by decide) (by decide)).trans (by rw [show A u 23 i = (u.2.2.1 23 i).toInt from rfl, d1])) ((rr 24 (by decide) (by decide)).trans (by rw [show A u 24 i = (u.2.2.1 24 i).toInt from rfl, d2]; exact I_ti (by omega) (by omega))) ?_ ?_ ((rr 27 (by decide) (by decide)).trans (by rw [show A u 27 i = (u.2.2.1 27 i).toInt from rfl, d5]; rfl)) ((rr 28 (by decide) (by decide)).trans (by rw [show A u 28 i = (u.2.2.1 28 i).toInt from rfl, d6]; rfl)) ((rr 30 (by decide) (by decide)).trans (by rw [show A u 30 i = (u.2.2.1 30 i).toInt from rfl, d8]; rfl))
  · show ((upA (upA u 25 _) 26 _).2.2.1 25 i).toInt = _
    rw [upA_no (by decide), upA_at, upd_at]
  · show ((upA (upA u 25 _) 26 _).2.2.1 26 i).toInt = _
    rw [upA_at, upd_at]
/-- alone() at { or [ -/
theorem al_row {S : SG_M_behind} (c : CTZ m0 w0 K T nm Nk) (hR : XRS w0 T w lo Q sc) (hk : K lo = 22 ∨ K lo = 24) (h : PP RR A' (bnd (S.2.2.2.2.2.2.2.1 w (I (lo : Nat))) (fun u6 r6 => some (u6, r6)))) : PP RR A' (km_M_alone N S w (I (lo : Nat))) := by
  have hw := XRS_wp c hR
  obtain ⟨a, b, -⟩ := tkd_6 c hR
  have s4 : decide (w.2.2.1 6 lo = 4) = decide (K lo = 1) := srt_dc hw srK_4
  have s1 : decide (w.2.2.1 6 lo = 1) = decide (K lo = 2) := srt_dc hw srK_1
  have s5 : decide (w.2.2.1 6 lo = 5) = decide (K lo = 4) := srt_dc hw srK_5
  have s2 : decide (w.2.2.1 6 lo = 2) = decide (K lo = 3) := srt_dc hw srK_2
  unfold km_M_alone kb_M_alone_0 kb_M_alone_270 kb_M_alone_361
  rw [b, s4, s1, s5, s2]
  refine r_ck (fun _ => ?_)
  rw [decide_eq_false (by omega), br_f]
  refine r_ck (fun _ => ?_)
  rw [decide_eq_false (by omega), br_f]
  refine r_ck (fun _ => ?_)
  rw [decide_eq_false (by omega), br_f]
  refine r_ck (fun _ => ?_)
  rw [decide_eq_false (by omega), br_f, tkS_e (k := 20) (s := 0) hw hR.1.2.2.1 (by decide) rfl, if_neg (by omega), bnd_s, show decide ((0 : Int32) = 0) = true from rfl, br_t, isS_e (k := 22) (s := 2) hw (by decide) rfl, bnd_s]
  rcases hk with hk | hk
  · rw [if_pos hk, show decide ((1 : Int32) = 0) = false from rfl, br_f]
    exact h
  · rw [if_neg (by omega), show decide ((0 : Int32) = 0) = true from rfl, br_t, isS_e (k := 24) (s := 4) hw (by decide) rfl, bnd_s, if_pos hk, show decide ((1 : Int32) = 0) = false from rfl, br_f]
    exact h
/-- the end of a TUPLE -/
theorem tup_n {S : SG_M_behind} {G : MS → Int32 → Int32 → Int32 → Int32 → Int32 → Int32 → Option (MS × Int32)} (c : CTZ m0 w0 K T nm Nk) (ht : XTR m0 w0 K T nm Nk fof cvr lst g [] lo mid a b cm cm2 q r Q Q2 sc sc2 m w m2 w2) (k23 : K mid = 23) (hlo : lo < mid) (hkk : kk ≤ 8) : PP (XZ m0 w0 K T nm Nk fof cvr lst g lo (mid + 1) a cm q r Q sc m w) (bnd (jm_Co_put N m2 4) (fun u70 _ => bnd (jm_Co_put N u70 (I (kk : Nat))) (fun u78 _ => some (u78, ())))) (kb_M_row_125 N S G w2 (I (lo : Nat)) 1 3 (I (kk : Nat)) 0) := by
  have hR := ht.2.2.1.1
  have hC := ht.2.1
  have t4 := c.2.1.1.1
  have hl : mid < T := c.2.1.1.lt hR.1.2.1.2 (by omega) (by omega)
  unfold kb_M_row_125
  refine need_k (XRS_wp c hR) hR.1.2.2.1 (k := 23) (by decide) rfl (fun _ => ?_)
  rw [show decide ((1 : Int32) = 0) = false from rfl, br_f]
  unfold kb_M_row_140
  have hA := XRS_ad hR hl
  obtain ⟨n1, n2⟩ := XRS_q hA
  refine r_n2 n1 n2 rfl (by omega) (fun v h16 hN h69 _ r23 r24 r25 r26 r27 r28 r30 => ?_)
  have h69 : v.1 69 = I ((mid + 1 : Nat) : Int) := h69.trans upI_at
  refine l_put hC.1.2.2.1.1 hC.1.2.2.1.2.2 (fun ha => ?_)
  have h1 := XCS_put (x := 4) hC ha
  refine l_put h1.1.2.2.1.1 h1.1.2.2.1.2.2 (fun ha1 => ?_)
  have h2 := XCS_put (x := I (kk : Nat)) h1 ha1
  have em : ptc (ptc m2 b 4) (b + 1) (I (kk : Nat)) = ptcs m2 b [4, I (kk : Nat)] := rfl
  rw [em] at h2 ⊢
  have l1 := ht.1
  have r23 : A v 23 (Q2 32) = 4 := r23
  refine pp_end (XZ_n (L := []) (c := b + 2) ht (XT_nod hC hR ht.2.2.1.2 ⟨by omega, hl⟩ (fun j j1 j2 => ?_) (by omega) h2 (XFC_ps XFC_rf (Nat.le_refl _)) (ptcs_r (by decide)) (adv_n hN) rfl h16 h69 (fun n hn => by cases hn) (fun C P R J H fi hx => ⟨fun u u1 u2 => by omega, fun y hy hr => ?_⟩)) (by omega) (by omega) r28 (Or.inl ⟨rfl, by rw [r23]; decide⟩))
  · rw [show j = mid by omega]; omega
  · have gc := fi.1
    have ro : ∀ k, 23 ≤ k ∧ k ≤ 31 → k ≠ 27 ∧ k ≠ 29 ∧ k ≠ 30 → R k (Q2 32) = A v k (Q2 32) := fun k k1 k2 => FIN_R fi k1 k2 ⟨Nat.le_refl _, by rw [qst_at]; omega⟩
    have c0 : C b = 4 := C_0 gc (by omega)
    have c1 : C (b + 1) = (I (kk : Nat)).toInt := C_at (k := 1) gc rfl (by omega)
    obtain ⟨b1, b2⟩ := XB c.2.2.1 hC hR hx h16
    obtain ⟨d, hd⟩ := hr
    rw [qst_at] at hd
    exact cr_1 b1 b2 ⟨d, Or.inr (Or.inr (Or.inr (Or.inl ⟨(ro 23 (by decide) (by decide)).trans r23, c0, by rw [c1, ro 25 (by decide) (by decide), r25], hd⟩)))⟩
/-- a TUPLE -/
theorem x_tup (c : CTZ m0 w0 K T nm Nk) (IH : HXE N m0 w0 K T nm Nk fof cvr f) (hC : XCS m0 nm m a cm sc g) (hR : XRS w0 T w lo Q sc) (hq : Q 56 = q) (hn : n ≤ 8015) (h16 : A m0 16 n = 6) (hT : TUcK m0 (XPcK m0 f (o + 1) 3) n lo hi xa q r) (hr4 : r ≤ 400) (hlh : lo + 2 ≤ hi) (hiT : hi ≤ T) (htot : tot sc + (hi - lo) ≤ 4000 ∧ sc.length ≤ o + 1) : PP (XZ m0 w0 K T nm Nk fof cvr lst g lo hi a cm q r Q sc m w) (jm_Cm_expression N (jrc_Cm_fun N D) m (I (n : Nat)) v2) (km_M_alone N (krc_M_behind N d) w (I (lo : Nat))) := by
  obtain ⟨k, m1, c1, h18, h19, ⟨hk8, h6, h6b⟩, hE, hc1⟩ := hT
  have fr := XCS_fr hC
  have t4 := c.2.1.1.1
  have k22 : K lo = 22 := kA c (by omega : lo ≤ T) h6
  have k23 : K (hi - 1) = 23 := kA c (by omega : hi - 1 ≤ T) h6b
  have hw := XRS_wp c hR
  have hl : lo < T := by omega
  refine exd_6 hn (tre fr (by decide) h16) (l_ck (fun _ => ?_))
  rw [tre fr (by decide) h18]
  cases D with
  | zero => exact pp_nl
  | succ D =>
  refine al_row c hR (Or.inl k22) ?_
  cases d with
  | zero => exact pp_nr
  | succ d =>
  show PP _ (bnd (jg_Cm_row N (jrc_Cm_fun N D) N m (I (m1 : Nat))) _) (bnd (kb_M_row_0 N (krc_M_behind N d) (kg_M_row N (krc_M_behind N d) N) w (I (lo : Nat))) _)
  unfold kb_M_row_0 kb_M_row_15
  rw [isS_e (k := 22) (s := 2) hw (by decide) rfl, if_pos k22, bnd_s, show decide ((1 : Int32) = 0) = false from rfl, br_f]
  have e1 : w.1 69 + 1 = I ((lo + 1 : Nat) : Int) := by rw [hR.1.2.1.1, i_suc]
  rw [lt_e, e1]
  have ht := XTR_ad (K := K) (nm := nm) (Nk := Nk) (fof := fof) (cvr := cvr) (lst := lst) (mid := lo) (XTR_rf hC hR hq) hl (by omega)
  have hA := ht.2.2.1.1
  have hwA := XRS_wp c hA
  have ea : upI w 69 (I ((lo + 1 : Nat) : Int)) = adv w lo := rfl
  rw [ea, decide_eq_true hA.1.2.2.1, br_t, isS_e (k := 23) (s := 3) hwA (by decide) rfl, bnd_s]
  have cl : ∀ (m2 w2 : MS) (b cm2 : Nat) (Q2 : Nat → Nat) (sc2 : SCT) (G : MS → Int32 → Int32 → Int32 → Int32 → Int32 → Int32 → Option (MS × Int32)), XTR m0 w0 K T nm Nk fof cvr lst g [] lo (hi - 1) a b cm cm2 q r Q Q2 sc sc2 m w m2 w2 → PP (XZ m0 w0 K T nm Nk fof cvr lst g lo hi a cm q r Q sc m w) (bnd (jm_Co_put N m2 4) (fun u70 r70 => ck (inb (I (n : Nat)) 8016) (bnd (jm_Co_put N u70 (u70.2.2.1 19 n)) (fun u78 r78 => jb_Cm_expression_359 N (jrc_Cm_fun N (D + 1)) () u78)))) (bnd (kb_M_row_125 N (krc_M_behind N d) G w2 (I (lo : Nat)) 1 3 (I (k : Nat)) 0) (fun u6 r6 => some (u6, r6))) := fun m2 w2 b cm2 Q2 sc2 G ht2 => by
    have tn := tup_n (N := N) (S := krc_M_behind N d) (G := G) c ht2 k23 (by omega) hk8
    rw [show hi - 1 + 1 = hi by omega] at tn
    have hC2 := ht2.2.1
    have e19 : ∀ x, (ptc m2 b x).2.2.1 19 n = I (k : Nat) := fun x => by rw [ptc_r (by decide)]; exact tre (XCS_fr hC2) (by decide) h19
    refine pp_rb (pp_mo (R := XZ m0 w0 K T nm Nk fof cvr lst g lo hi a cm q r Q sc m w) ?_ (fun m3 z v r h => pk_some h))
    intro m9 z9 w9 r9 x1 x2
    refine tn m9 z9 w9 r9 ?_ x2
    rw [← x1, putd_e hC2.1.2.2.1.1 hC2.1.2.2.1.2.2]
    by_cases zz : b < 23990
    · rw [if_pos zz, bnd_s, bnd_s, i_inb (show n < 8016 by omega) (by decide), ck_t, e19]
      rfl
    · rw [if_neg zz]; rfl
  rcases hE with ⟨rfl, rfl, h1, h2, h3⟩ | ⟨h1, hE⟩
  · subst h3
    rw [if_pos (by rw [h1]; exact k23), show decide ((1 : Int32) = 0) = false from rfl, br_f]
    refine row_0 ?_
    have ht2 := ht
    rw [h1] at ht2
    exact cl m (adv w lo) a cm Q sc _ ht2
  · have hd := RW_hdK (XP_bdK _ _ _) hE
    have hx := hd.1
    unfold HDc at hx
    have k23n : K (lo + 1) ≠ 23 := fun z => by
      have b := (BG_ne (rw_beg hE)).2.1
      have y : (m0.2.2.1 6 (lo + 1)).toInt = 23 := by
        rw [c.1.2 (lo + 1) (by omega), z]
        rfl
      exact b y
    rw [if_neg k23n, show decide ((0 : Int32) = 0) = true from rfl, br_t]
    refine pp_rb (pp_mo (R := XZ m0 w0 K T nm Nk fof cvr lst g lo hi a cm q r Q sc m w) ?_ (fun m3 z v r h => pk_some h))
    refine row_x (xb := c1) (hi := hi - 1) (kk := k) c IH (by omega) hr4 ⟨⟨by rw [k23]; exact NEC_k.2.2.2.2.1, by omega⟩, by omega⟩ (by omega) (fun M2 m2 w2 b cm2 Q2 sc2 ht2 => ?_) k m1 (lo + 1) xa q N N 0 m (adv w lo) a cm Q sc hE ht (by omega)
    cases M2 with
    | zero => exact pp_nr
    | succ M2 =>
      show PP _ _ (kb_M_row_50 N (krc_M_behind N d) (kg_M_row N (krc_M_behind N d) M2) w2 (I (lo : Nat)) 1 3 (I (k : Nat)) 0 0)
      unfold kb_M_row_50 kb_M_row_103
      rw [show decide ((0 : Int32) = 0) = true from rfl, br_t, show decide ((1 : Int32) = 0) = false from rfl, br_f]
      have := cl m2 w2 b cm2 Q2 sc2 (kg_M_row N (krc_M_behind N d) M2) ht2
      intro m9 z9 w9 r9 x1 x2
      exact this m9 z9 w9 r9 x1 (by rw [x2]; rfl)
end
