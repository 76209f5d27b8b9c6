/-! expressions: what is applied to ARGUMENTS -/
set_option maxRecDepth 100000
/-- all that are PRIMARY, as deep as f -/
def HX0 (N : Nat) (m0 w0 : MS) (K : Nat → Nat) (T : Nat) (nm Nk : Nat → Nat) (fof cvr : Int → Int → Int) (f : Nat) : Prop := ∀ (D d o n lo hi xa xb q r : Nat) (m w : MS) (a cm : Nat) (Q : Nat → Nat) (sc : SCT) (g lst : Bool) (RR : MS → Unit → MS → Int32 → Prop) (fc : MS → Unit → Option (MS × Unit)), XPcK m0 f o 0 n lo hi xa xb q r → xb ≤ 8015 → r ≤ 400 → hi ≤ T → XCS m0 nm m a cm sc g → XRS w0 T w lo Q sc → Q 56 = q → (tot sc + (hi - lo) ≤ 4000 ∧ sc.length ≤ o + 1) → (∀ m2 w2 rt, XZ m0 w0 K T nm Nk fof cvr lst g lo hi a cm q r Q sc m w m2 () w2 rt → PP RR (fc m2 ()) (kg_M_primary N (krc_M_behind N d) N w2 (I (lo : Nat)) rt)) → PP RR (bnd ((jrc_Cm_fun N D).2.2.2.2.2.2.2.2.2.2.1 m (I (n : Nat)) (lsI lst)) fc) (km_M_primary N (krc_M_behind N d) w)
section
variable {α β : Type} {m0 w0 m w m2 w2 m3 w3 v u mS wS : MS} {K nm Nk W W2 : Nat → Nat} {N T D d o a a0 b c cm cm0 cm2 cm3 q q0 r s lo lo0 mid hi i j f f2 n k kk p σ tk x xa xb M m1 : Nat} {Q Q0 Q2 Q3 Q4 : Nat → Nat} {sc sc0 sc2 sc3 t : SCT} {e : List Nat × List Nat × Nat} {g lst l2 : Bool} {L L1 L2 : List Nat} {idc fof cvr : Int → Int → Int} {z : Unit} {rt v1 v2 v3 v5 : Int32} {fc : MS → Unit → Option (MS × Unit)} {RR : MS → Unit → MS → Int32 → Prop} {A' : Option (MS × Unit)} {B' : Option (MS × Int32)}
/-- an APPLY: words, node -/
theorem app_w {S : SF_Cm_fun} {G : MS → Int32 → Int32 → Int32 → Option (MS × Unit)} {GR : MS → Int32 → Int32 → Option (MS × Int32)} {tl : Bool} (c : CTZ m0 w0 K T nm Nk) (cv : CTV m0 w0 K T) (hg : g = false) (hlo : lo < mid) (hmT : mid ≤ T) (hkk : kk ≤ 6) (hn : n ≤ 8015) (h19 : A m0 19 n = ((kk : Nat) : Int)) (h21 : A m0 21 n = ((m1 : Nat) : Int)) (ht : XTR m0 w0 K T nm Nk fof cvr lst g [] lo mid a b cm cm2 q r Q Q2 sc sc2 m w m2 w2) (h84 : w2.1 84 = I (kk : Nat))
    (hh : ∀ m3 v, XTR m0 w0 K T nm Nk fof cvr lst g (if tl then [Q2 32] else []) mid mid b (b + 3) cm2 cm2 r r Q2 (qst Q2 32 (Q2 32 + 1)) sc2 sc2 m2 w2 m3 v → A v 23 (Q2 32) = 13 → A v 28 (Q2 32) = -1 → A v 30 (Q2 32) = 0 → PP RR (G m3 v2 (I (lo : Nat)) (I (m1 : Nat))) (GR v (I (lo : Nat)) (I (Q2 32 : Nat)))) :
    PP RR (jb_Cm_apply_87 N S G m2 v2 (I (lo : Nat)) (I (n : Nat)) (if lst && tl then 28 else 27)) (bnd (fm_M_node N w2 13 (I (lo : Nat))) (fun u2 r2 => ck (inb r2 (ln 26)) (lt (upA u2 26 (upd (u2.2.2.1 26) r2.toNatClampNeg (u2.1 84))) (fun w3 => GR w3 (I (lo : Nat)) r2)))) := by
  have hC := ht.2.1
  have hR := ht.2.2.1.1
  have t4 := c.2.1.1.1
  have l1 := ht.1
  obtain ⟨n1, n2⟩ := XRS_q hR
  unfold jb_Cm_apply_87
  refine l_put hC.1.2.2.1.1 hC.1.2.2.1.2.2 (fun ha => l_ck (fun _ => ?_))
  have h1 := XCS_put (x := if lst && tl then 28 else 27) hC ha
  rw [i_nt2 (show n ≤ 100000 by omega), tre (XCS_fr h1) (by decide) h19]
  refine l_put h1.1.2.2.1.1 h1.1.2.2.1.2.2 (fun ha1 => l_ck (fun _ => ?_))
  have h2 := XCS_put (x := I (kk : Nat)) h1 ha1
  have el := pk_ln cv (XCS_fr h2) (show lo < T by omega)
  rw [i_nt (p := lo) (by omega)]
  generalize ((ptc (ptc m2 b (if lst && tl then 28 else 27)) (b + 1) (I (kk : Nat))).2.2.1 8 lo) = xl at el
  refine l_put h2.1.2.2.1.1 h2.1.2.2.1.2.2 (fun ha2 => l_ck (fun _ => ?_))
  have h3 := XCS_put (x := xl) h2 ha2
  rw [tre (XCS_fr h3) (by decide) h21]
  have em : ptc (ptc (ptc m2 b (if lst && tl then 28 else 27)) (b + 1) (I (kk : Nat))) (b + 1 + 1) xl = ptcs m2 b [if lst && tl then 28 else 27, I (kk : Nat), xl] := rfl
  rw [em] at h3 ⊢
  refine r_nod n1 n2 rfl (nsh (by omega)) (fun h16 => ?_)
  have d0 : NOD w2 (nwD w2 (Q2 32) 13 (I (lo : Nat))) (Q2 32) := NOD_0 n1
  obtain ⟨d1, d2, d3, d4, d5, d6, d7, d8⟩ := nwD_at (w := w2) (i := Q2 32) (k := 13) (t := I (lo : Nat))
  have d9 : (nwD w2 (Q2 32) 13 (I (lo : Nat))).1 69 = I (mid : Nat) := by rw [nwD_i (by decide)]; exact hR.1.2.1.1
  have d84 : (nwD w2 (Q2 32) 13 (I (lo : Nat))).1 84 = I (kk : Nat) := by rw [nwD_i (by decide)]; exact h84
  generalize nwD w2 (Q2 32) 13 (I (lo : Nat)) = U at d0 d1 d2 d3 d4 d5 d6 d7 d8 d9 d84
  rw [i_nt2 (p := Q2 32) (by omega), d84]
  refine r_ck (fun _ => r_lt ?_)
  have hN : NOD w2 (upA U 26 (upd (U.2.2.1 26) (Q2 32) (I (kk : Nat)))) (Q2 32) := NOD_A d0 (by decide)
  have vr : ∀ k', k' ≠ 26 → A (upA U 26 (upd (U.2.2.1 26) (Q2 32) (I (kk : Nat)))) k' (Q2 32) = (U.2.2.1 k' (Q2 32)).toInt := fun k' h1 => by
    show ((upA U 26 _).2.2.1 k' (Q2 32)).toInt = _
    rw [upA_no h1]
  have a26 : A (upA U 26 (upd (U.2.2.1 26) (Q2 32) (I (kk : Nat)))) 26 (Q2 32) = ((kk : Nat) : Int) := by
    show ((upA U 26 _).2.2.1 26 (Q2 32)).toInt = _
    rw [upA_at, upd_at]
    exact I_ti (by omega) (by omega)
  have v69 : (upA U 26 (upd (U.2.2.1 26) (Q2 32) (I (kk : Nat)))).1 69 = I (mid : Nat) := d9
  generalize upA U 26 (upd (U.2.2.1 26) (Q2 32) (I (kk : Nat))) = v at hN vr a26 v69
  have a23 : A v 23 (Q2 32) = 13 := by rw [vr 23 (by decide), d1]; rfl
  have a24 : A v 24 (Q2 32) = ((lo : Nat) : Int) := by rw [vr 24 (by decide), d2]; exact I_ti (by omega) (by omega)
  have a28 : A v 28 (Q2 32) = -1 := by rw [vr 28 (by decide), d6]; rfl
  have a30 : A v 30 (Q2 32) = 0 := by rw [vr 30 (by decide), d8]; rfl
  refine hh _ v (XT_nod hC hR ht.2.2.1.2 ⟨Nat.le_refl _, hmT⟩ (fun j j1 j2 => by omega) (by omega) h3 (XFC_ps XFC_rf (Nat.le_refl _)) (ptcs_r (by decide)) hN rfl h16 v69 (fun n hn => by
    cases tl with
    | false => cases hn
    | true => exact List.mem_singleton.mp hn) (fun C P R J H fi hx => ⟨fun u u1 u2 => by omega, fun y hy hr => ?_⟩)) a23 a28 a30
  have gc := fi.1
  have ro : ∀ k, 23 ≤ k ∧ k ≤ 31 → k ≠ 27 ∧ k ≠ 29 ∧ k ≠ 30 → R k (Q2 32) = A v k (Q2 32) := fun k k1 k2 => FIN_R fi k1 k2 ⟨Nat.le_refl _, by rw [qst_at]; omega⟩
  have R23 := (ro 23 (by decide) (by decide)).trans a23
  have R24 := (ro 24 (by decide) (by decide)).trans a24
  have R26 := (ro 26 (by decide) (by decide)).trans a26
  have R30 := fi.2.2.2.1.2.2.1 (Q2 32) (Nat.le_refl _) (by rw [qst_at]; omega)
  rw [a30] at R30
  have gr := fi.2.2.1
  obtain ⟨b1, b2⟩ := XB c.2.2.1 hC hR hx h16
  obtain ⟨d, hd⟩ := hr
  rw [qst_at] at hd
  have c0 := C_0 gc (show b < b + 3 by omega)
  have c1 : C (b + 1) = (I (kk : Nat)).toInt := C_at (k := 1) gc rfl (show b + 1 < b + 3 by omega)
  have c2 : C (b + 2) = xl.toInt := C_at (k := 2) gc rfl (show b + 2 < b + 3 by omega)
  refine cr_1 b1 b2 ⟨d, Or.inr (Or.inr (Or.inr (Or.inr (Or.inr (Or.inr (Or.inr (Or.inr (Or.inr (Or.inr (Or.inr (Or.inr (Or.inr (Or.inl ⟨R23, hy.mpr hg, ?_, ⟨lo, R24, ?_⟩, ?_⟩)))))))))))))⟩
  · rw [c1, R26, I_ti (by omega) (by omega)]
  · rw [c2, el, gr 8 lo (by decide)]
  · cases lst with
    | true =>
      cases tl with
      | true => exact Or.inl ⟨by rw [R30, if_pos ⟨rfl, List.mem_singleton.mpr rfl⟩], c0, by omega⟩
      | false => exact Or.inr ⟨by rw [R30, if_neg (fun z => by cases z.2)], c0, hd⟩
    | false => exact Or.inr ⟨by rw [R30, if_neg (fun z => by cases z.1)], c0, hd⟩
/-- rows of ARGUMENTS, one behind another -/
theorem app_x (c : CTZ m0 w0 K T nm Nk) (cv : CTV m0 w0 K T) (IH : HXE N m0 w0 K T nm Nk fof cvr f) (hg : g = false) (hxb : xb ≤ 8015) (hr4 : r ≤ 400) (hiT : hi ≤ T) (htot : tot sc + (hi - lo) ≤ 4000 ∧ sc.length ≤ o + 1)
    (hend' : ∀ M2 m3 v rt, XZ m0 w0 K T nm Nk fof cvr lst g lo hi a cm q0 r Q sc m w m3 () v rt → PP RR (some (m3, ())) (kg_M_primary N (krc_M_behind N d) M2 v (I (lo : Nat)) rt)) :
    ∀ (k n p xa s M1 M2 : Nat) (m2 w2 : MS) (b cm2 : Nat) (Q2 : Nat → Nat) (sc2 : SCT) (rt : Int32), RWcK m0 0 0 (AGcK m0 (XPcK m0 f o 3)) k n p hi xa xb s r → XTR m0 w0 K T nm Nk fof cvr lst g [] lo p a b cm cm2 q0 s Q Q2 sc sc2 m w m2 w2 → lo < p → PP RR (jg_Cm_apply N (jrc_Cm_fun N D) M1 m2 (lsI lst) (I (lo : Nat)) (I (n : Nat))) (kg_M_primary N (krc_M_behind N d) M2 w2 (I (lo : Nat)) rt)
  | 0, _, _, _, _, _, _, _, _, _, _, _, _, _, h, _, _ => h.elim
  | k + 1, n, p, xa, s, 0, M2, m2, w2, b, cm2, Q2, sc2, rt, _, _, _ => pp_nl
  | k + 1, n, p, xa, s, M1 + 1, 0, m2, w2, b, cm2, Q2, sc2, rt, _, _, _ => pp_nr
  | k + 1, n, p, xa, s, M1 + 1, M2 + 1, m2, w2, b, cm2, Q2, sc2, rt, h, ht, hlp => by
    obtain ⟨mid, c1, s1, ⟨hd, h16, k1, mm, c2, h18, h19, ⟨hk6, h6, h6b⟩, hE, hc2⟩, h⟩ := h
    unfold HDc at hd
    have t4 := c.2.1.1.1
    have hdm : mid ≤ hi ∧ c1 ≤ xb ∧ s1 ≤ r := by
      rcases h with ⟨-, -, rfl, rfl, rfl⟩ | ⟨-, n2, -, h3⟩
      · exact ⟨Nat.le_refl _, Nat.le_refl _, Nat.le_refl _⟩
      · have := (RW_hdK (fun n lo hi a b q r z => z.1) h3).1
        unfold HDc at this
        omega
    have hbd := OR_hdK (XP_bdK _ _ _) hE
    have k20 : K p = 20 := kA c (by omega) h6
    have k21 : K (mid - 1) = 21 := kA c (by omega) h6b
    have hC := ht.2.1
    have hR := ht.2.2.1.1
    have hw2 := XRS_wp c hR
    show PP RR (jb_Cm_apply_40 N (jrc_Cm_fun N D) (jg_Cm_apply N (jrc_Cm_fun N D) M1) m2 (lsI lst) (I (lo : Nat)) (I (n : Nat))) (kb_M_primary_128 N (krc_M_behind N d) (kg_M_primary N (krc_M_behind N d) M2) w2 (I (lo : Nat)) rt)
    unfold jb_Cm_apply_40 kb_M_primary_128
    rw [decide_eq_false (fun z => by
      have := (I_eq (x := ((n : Nat) : Int)) (y := 0) (by omega) (by omega) (by decide) (by decide)).mp z
      omega), br_f]
    refine l_ck (fun _ => ?_)
    rw [i_nt2 (show n ≤ 100000 by omega), tre (XCS_fr hC) (by decide) h18, decide_eq_true hR.1.2.2.1, br_t, isS_e (k := 20) (s := 0) hw2 (by decide) rfl, if_pos k20, bnd_s, show decide ((1 : Int32) = 0) = false from rfl, br_f]
    refine r_gd (F := fun u => kb_M_primary_157 N (krc_M_behind N d) (kg_M_primary N (krc_M_behind N d) M2) u (I (lo : Nat))) (fun w3 hw3 => ?_)
    show PP RR _ (kb_M_primary_157 N (krc_M_behind N d) (kg_M_primary N (krc_M_behind N d) M2) w3 (I (lo : Nat)))
    unfold kb_M_primary_157
    have ht3 := XTR_mv ht (RUL_x hw3 hR) hw3.2 (Nat.le_refl _) (fun j a b => by omega)
    have l1 := ht.1
    refine args_x (n := mm) (k := k1) (hi := mid) (lo := p) (lo0 := lo) (xb := c2) c IH (by omega) (by omega) hk6 hE k20 k21 (by omega) (by omega) (by omega) ht3 (fun m4 w4 b4 cm4 Q4 sc4 ht4 h84 => ?_)
    have h21e : ∃ nx : Nat, A m0 21 n = ((nx : Nat) : Int) ∧ ((k = 0 ∧ nx = 0) ∨ (1 ≤ k ∧ 1 ≤ nx ∧ nx ≤ 8015)) := by
      rcases h with ⟨rfl, h21, -⟩ | ⟨⟨h1, -⟩, n2, h21, h3⟩
      · exact ⟨0, h21, Or.inl ⟨rfl, rfl⟩⟩
      · have := (RW_hdK (fun n lo hi a b q r z => z.1) h3).1
        unfold HDc at this
        exact ⟨n2, h21, Or.inr ⟨h1, by omega, by omega⟩⟩
    obtain ⟨nx, h21, hnx⟩ := h21e
    have e21 : m4.2.2.1 21 n = I (nx : Nat) := tre (XCS_fr ht4.2.1) (by decide) h21
    -- the last one
    have last : k = 0 → PP RR (jb_Cm_apply_87 N (jrc_Cm_fun N D) (jg_Cm_apply N (jrc_Cm_fun N D) M1) m4 (lsI lst) (I (lo : Nat)) (I (n : Nat)) (if lst && true then 28 else 27)) (bnd (fm_M_node N w4 13 (I (lo : Nat))) (fun u2 r2 => ck (inb r2 (ln 26)) (lt (upA u2 26 (upd (u2.2.2.1 26) r2.toNatClampNeg (u2.1 84))) (fun w3 => kg_M_primary N (krc_M_behind N d) M2 w3 (I (lo : Nat)) r2)))) := fun hk0 => by
      subst hk0
      rcases h with ⟨-, -, rfl, rfl, rfl⟩ | ⟨⟨h1, -⟩, -⟩
      · refine app_w (tl := true) (m1 := nx) c cv hg (by omega) hiT hk6 (by omega) h19 h21 ht4 h84 (fun m5 v hx x23 x28 x30 => ?_)
        have nx0 : nx = 0 := by omega
        rw [nx0]
        have hz := XZ_n ht4 hx (by have := ht4.1; omega) (by omega) x28 (Or.inr ⟨rfl, Or.inr x23, x30⟩)
        cases M1 with
        | zero => exact pp_nl
        | succ M1 =>
          show PP RR (jb_Cm_apply_40 N (jrc_Cm_fun N D) (jg_Cm_apply N (jrc_Cm_fun N D) M1) m5 (lsI lst) (I (lo : Nat)) (I ((0 : Nat) : Int))) _
          unfold jb_Cm_apply_40
          rw [show decide (I ((0 : Nat) : Int) = (0 : Int32)) = true from rfl, br_t]
          exact hend' M2 m5 v _ hz
      · omega
    -- one more
    have more : 1 ≤ k → PP RR (jb_Cm_apply_87 N (jrc_Cm_fun N D) (jg_Cm_apply N (jrc_Cm_fun N D) M1) m4 (lsI lst) (I (lo : Nat)) (I (n : Nat)) 27) (bnd (fm_M_node N w4 13 (I (lo : Nat))) (fun u2 r2 => ck (inb r2 (ln 26)) (lt (upA u2 26 (upd (u2.2.2.1 26) r2.toNatClampNeg (u2.1 84))) (fun w3 => kg_M_primary N (krc_M_behind N d) M2 w3 (I (lo : Nat)) r2)))) := fun hk1 => by
      have e27 : (if lst && false then (28 : Int32) else 27) = 27 := by cases lst <;> rfl
      rcases h with ⟨rfl, -⟩ | ⟨-, n2, h21', h3⟩
      · omega
      · have en : n2 = nx := by omega
        subst en
        have := app_w (N := N) (RR := RR) (S := jrc_Cm_fun N D) (G := jg_Cm_apply N (jrc_Cm_fun N D) M1) (GR := kg_M_primary N (krc_M_behind N d) M2) (v2 := lsI lst) (tl := false) (m1 := n2) c cv hg (show lo < mid by omega) (by omega) hk6 (by omega) h19 h21 ht4 h84 (fun m5 v hx x23 x28 x30 => app_x c cv IH hg hxb hr4 hiT htot hend' k n2 mid c1 s1 M1 M2 m5 v (b4 + 3) cm4 _ sc4 _ h3 (XTR_tr ht4 hx) (by omega))
        rw [e27] at this
        exact this
    cases lst with
    | false =>
      rw [show decide (lsI false = 0) = true from rfl, br_t]
      unfold jb_Cm_apply_85
      by_cases zk : k = 0
      · exact last zk
      · exact more (by omega)
    | true =>
      rw [show decide (lsI true = 0) = false from rfl, br_f, e21]
      refine l_ck (fun _ => ?_)
      by_cases zk : k = 0
      · have nx0 : nx = 0 := by omega
        rw [nx0, show decide (I ((0 : Nat) : Int) = (0 : Int32)) = true from rfl, br_t]
        exact last zk
      · rw [decide_eq_false (fun z => by
          have := (I_eq (x := ((nx : Nat) : Int)) (y := 0) (by omega) (by omega) (by decide) (by decide)).mp z
          omega), br_f]
        unfold jb_Cm_apply_85
        exact more (by omega)
theorem x_app (c : CTZ m0 w0 K T nm Nk) (cv : CTV m0 w0 K T) (I0 : HX0 N m0 w0 K T nm Nk fof cvr f) (IH : HXE N m0 w0 K T nm Nk fof cvr f) (hC : XCS m0 nm m a cm sc g) (hR : XRS w0 T w lo Q sc) (hq : Q 56 = q) (hn : n ≤ 8015) (h16 : A m0 16 n = 15) (h17 : A m0 17 n = ((lo : Nat) : Int)) (h18 : A m0 18 n = ((x : Nat) : Int)) (h19 : A m0 19 n = ((m1 : Nat) : Int)) {c1 : Nat} (hx : XPcK m0 f o 0 x lo mid xa c1 q s) (hE : RWcK m0 0 0 (AGcK m0 (XPcK m0 f (o + 1) 3)) k m1 mid hi i xb s r) (hci : c1 ≤ 8015) (hxb : xb ≤ 8015) (hr4 : r ≤ 400) (hiT : hi ≤ T) (htot : tot sc + (hi - lo) ≤ 4000 ∧ sc.length ≤ o + 1) (hh : ∀ M m2 w2 rt, XZ m0 w0 K T nm Nk fof cvr lst g lo hi a cm q r Q sc m w m2 () w2 rt → PP RR (fc m2 ()) (kg_M_primary N (krc_M_behind N d) M w2 (I (lo : Nat)) rt)) : PP RR (bnd (jm_Cm_expression N (jrc_Cm_fun N D) m (I (n : Nat)) (lsI lst)) fc) (km_M_primary N (krc_M_behind N d) w) := by
  have fr := XCS_fr hC
  have t4 := c.2.1.1.1
  have hd := xp_hd hx
  have hd2 := (RW_hdK (fun n lo hi a b q r z => z.1) hE).1
  unfold HDc at hd2
  refine pp_lb ?_
  refine exd_15 hn (tre fr (by decide) h16) (l_id ?_)
  cases D with
  | zero => exact pp_nl
  | succ D =>
  show PP _ (jb_Cm_apply_0 N (jrc_Cm_fun N D) (jg_Cm_apply N (jrc_Cm_fun N D) N) m (I (n : Nat)) (lsI lst)) _
  unfold jb_Cm_apply_0
  rw [i_nt2 (show n ≤ 100000 by omega), tre fr (by decide) h17]
  refine l_ck (fun _ => l_ntg (tk := lo) hC.2 rfl (by omega) (fun hg => l_ck (fun _ => ?_)))
  rw [tre fr (by decide) h18]
  refine I0 D d o x lo mid xa c1 q s m w a cm Q sc g false (fun m z w r => PK (fun v q => RR v q w r) (fc m z)) _ hx hci (by omega) (by omega) hC hR hq (by omega) (fun m2 w2 rt hz => ?_)
  obtain ⟨b2, cm2, Q2, sc2, ht⟩ := XZ_tr (lst := lst) hz (XTR_rf hC hR hq)
  refine l_ck (fun _ => ?_)
  rw [tre (XCS_fr ht.2.1) (by decide) h19]
  exact app_x (RR := fun m z w r => PK (fun v q => RR v q w r) (fc m z)) c cv IH hg hxb hr4 hiT ⟨htot.1, by have := htot.2; omega⟩ (fun M2 m3 v rt hz2 => pp_lx (hh M2 m3 v rt hz2)) k m1 mid i s N N m2 w2 b2 cm2 Q2 sc2 rt hE ht (by omega)
end
