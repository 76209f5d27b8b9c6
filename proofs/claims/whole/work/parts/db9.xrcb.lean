/-! RECEIVE with `after`, both: all of it; all E but for MATCH -/
set_option maxRecDepth 100000
section
variable {α β : Type} {m0 w0 m w m3 w3 v u w1 mS wS : MS} {K nm Nk W W2 : Nat → Nat} {N T D d o a a0 b b0 c cm cm0 cm2 cm3 c1 c2 q q0 r s s1 s2 lo lo0 m1 m2 hi i j f f2 n k kb mb mm kk p p2 σ tk x xa xb M lv y : Nat} {Q Q0 Q2 Q3 Q4 : Nat → Nat} {sc sc0 sc2 sc3 t t2 : SCT} {e e2 : List Nat × List Nat × Nat} {g lst l2 : Bool} {L L1 L2 S : List Nat} {idc fof cvr : Int → Int → Int} {z : Unit} {rt v1 v2 v3 v4 v5 : Int32}
theorem prt_0 {B : Option (MS × β)} {RR : MS → α → MS → β → Prop} {SF : SF_Cm_fun} {fc : MS → Int32 → Option (MS × α)} (h : PP RR (fc m v5) B) : PP RR (bnd (jg_Cm_parts N SF M m v2 v3 v4 v5 (I ((0 : Nat) : Int))) fc) B := by
  cases M with
  | zero => exact pp_nl
  | succ M =>
    show PP RR (bnd (jb_Cm_parts_6 N SF (jg_Cm_parts N SF M) m v2 v3 v4 v5 (I ((0 : Nat) : Int))) fc) B
    unfold jb_Cm_parts_6
    rw [show decide (I ((0 : Nat) : Int) = (0 : Int32)) = true from rfl, br_t, bnd_s]
    exact h
set_option maxHeartbeats 1000000 in
theorem x_rc1 (c : CTZ m0 w0 K T nm Nk) (cv : CTV m0 w0 K T) (cx : CVX N m0 w0 K T idc fof cvr) (IE : HXE N m0 w0 K T nm Nk fof cvr f) (hf : f ≤ 230) (hn : n ≤ 8015) (h18 : A m0 18 n = ((x : Nat) : Int)) (hx1 : 1 ≤ x) (h19 : A m0 19 n = ((mm : Nat) : Int)) (hE : ORcK m0 1 27 (PEc m0 f o 3) k mm lo m1 xa c1 q s1) (hX : XPcK m0 f (o + 1) 3 x (m1 + 1) m2 c1 c2 s1 s2) (h20 : A m0 20 n = ((mb : Nat) : Int)) (hB : RWcK m0 1 26 (XPcK m0 f (o + 2) 3) kb mb (m2 + 1) hi c2 xb s2 r) (hxb : xb ≤ 8015) (hr4 : r ≤ 400) (k5 : K m1 = 5) (k38 : K m2 = 38) (k11 : K hi = 11) (hiT : hi < T) (hC : XCS m0 nm m a cm sc false) (hR : XRS w0 T w lo Q sc) (hq : Q 56 = q) (htot : tot sc + (hi - lo) ≤ 4000 ∧ sc.length ≤ o + 1) (htk : tk ≤ 4002) : PP (XZ m0 w0 K T nm Nk fof cvr lst false lo (hi + 1) a cm q r Q sc m w) (jm_Cm_receive N (jrc_Cm_fun N D) m (I (n : Nat)) (lsI lst)) (kb_M_receive_0 N (krc_M_behind N d) () w (I (tk : Nat)) (I ((hdS sc).1.length : Nat))) := by
  have t4 := c.2.1.1.1
  have hdX := xp_hd hX
  have hdB := (RW_hdK (XP_bdK _ _ _) hB).1
  unfold HDc at hdB
  have hdE : lo ≤ m1 ∧ xa ≤ c1 ∧ q ≤ s1 := by
    rcases hE with ⟨-, -, z1, z2, z3⟩ | ⟨-, hE⟩
    · omega
    · have := RW_xb PE_bE hE
      unfold HDc at this
      omega
  obtain ⟨e, t, rfl⟩ := PRS_ne hR.1
  have ok : SOK (e :: t) := hR.1.2.2.2.1.2.2.2
  have fr0 := XCS_fr hC
  obtain ⟨q1, q2⟩ := XRS_q hR
  have lT : lo ≤ T := hR.1.2.1.2
  -- there: E
  unfold jm_Cm_receive jb_Cm_receive_0
  refine l_ck (fun _ => ?_)
  rw [i_nt2 (show n ≤ 100000 by omega), tre fr0 (by decide) h18, decide_eq_false (fun z => by
    have := (I_eq (x := ((x : Nat) : Int)) (y := 0) (by omega) (by omega) (by decide) (by decide)).mp z
    omega), br_f, hC.1.2.1.2.2.1]
  unfold jb_Cm_receive_22
  rw [show decide ((1 : Int32) = 0) = false from rfl, br_f, i_nt2 (show n ≤ 100000 by omega), tre fr0 (by decide) h18]
  refine l_ck (fun _ => ?_)
  refine l_bnd (fun mE zE hEq => ?_)
  obtain ⟨bE, cmE, eE, ue⟩ := ue_all c cv cx f D (o + 1) 3 x (m1 + 1) m2 c1 c2 s1 s2 m a cm e t false false hX (by omega) (by omega) (by omega) hC ok ⟨by omega, by have := htot.2; omega⟩ mE zE hEq
  refine u_fg3 ue ok (fun mF bF hF w1 w2 w3 hcase => ?_)
  have hFC := hF.1
  -- as far as the parts
  unfold jb_Cm_receive_48
  refine l_put hFC.1.2.2.1.1 hFC.1.2.2.1.2.2 (fun ha => ?_)
  have k1 := XCS_put (x := 31) hFC ha
  rw [show decide ((1 : Int32) = 0) = false from rfl, br_f]
  unfold jb_Cm_receive_71
  refine l_put k1.1.2.2.1.1 k1.1.2.2.1.2.2 (fun ha1 => ?_)
  have k2 := XCS_put (x := 1) k1 ha1
  refine l_put k2.1.2.2.1.1 k2.1.2.2.1.2.2 (fun ha2 => ?_)
  have k3 := XCS_put (x := 32) k2 ha2
  unfold jm_Co_hook jb_Co_hook_0
  rw [bnd_as2]
  refine l_put k3.1.2.2.1.1 k3.1.2.2.1.2.2 (fun ha3 => ?_)
  have k4 := XCS_put (x := 0) k3 ha3
  rw [bnd_s]
  have esc : (ptc (ptc mF bF 31) (bF + 1) 1).1 441 = I ((bF + 2 : Nat) : Int) := k2.1.2.2.1.1
  have e441 : (ptc (ptc (ptc (ptc mF bF 31) (bF + 1) 1) (bF + 1 + 1) 32) (bF + 1 + 1 + 1) 0).1 441 = I ((bF + 3 + 1 : Nat) : Int) := k4.1.2.2.1.1
  rw [esc, e441, I_sn]
  have hCC : XCS m0 nm (ptcs mF bF [31, 1, 32, 0]) (bF + 4) cmE (e :: t) false := k4
  have em : ptc (ptc (ptc (ptc mF bF 31) (bF + 1) 1) (bF + 1 + 1) 32) (bF + 1 + 1 + 1) 0 = ptcs mF bF [31, 1, 32, 0] := rfl
  rw [em]
  clear em e441 esc k1 k2 k3 k4
  have cw0 : (ptcs mF bF [31, 1, 32, 0]).2.2.1 23 bF = 31 := ptcs_at (l := [31, 1, 32, 0]) (k := 0) rfl
  have cw1 : (ptcs mF bF [31, 1, 32, 0]).2.2.1 23 (bF + 1) = 1 := ptcs_at (l := [31, 1, 32, 0]) (k := 1) rfl
  have cw2 : (ptcs mF bF [31, 1, 32, 0]).2.2.1 23 (bF + 2) = 32 := ptcs_at (l := [31, 1, 32, 0]) (k := 2) rfl
  have cw3 : (ptcs mF bF [31, 1, 32, 0]).2.2.1 23 (bF + 3) = 0 := ptcs_at (l := [31, 1, 32, 0]) (k := 3) rfl
  have ci : ∀ k, k ≠ 441 → (ptcs mF bF [31, 1, 32, 0]).1 k = mF.1 k := fun k hk => ptcs_i hk
  have cr : ∀ k, k ≠ 23 → (ptcs mF bF [31, 1, 32, 0]).2.2.1 k = mF.2.2.1 k := fun k hk => ptcs_r hk
  have co : ∀ j, j < bF → (ptcs mF bF [31, 1, 32, 0]).2.2.1 23 j = mF.2.2.1 23 j := fun j hj => ptcs_o (Or.inl hj)
  generalize ptcs mF bF [31, 1, 32, 0] = mC at hCC cw0 cw1 cw2 cw3 ci cr co
  have bEF : bE ≤ bF := by rcases hcase with ⟨-, h⟩ | ⟨-, h, -⟩ <;> omega
  have l1 : ∀ k, k ≠ 441 → k ≠ 706 → mC.1 k = mE.1 k := fun k k1 k2 => (ci k k1).trans (w3 k k1 k2)
  have l2 : ∀ k, k ≠ 23 → mC.2.2.1 k = mE.2.2.1 k := fun k k1 => (cr k k1).trans (w2 k k1)
  have l3 : ∀ j, j < bE → mC.2.2.1 23 j = mE.2.2.1 23 j := fun j hj => (co j (by omega)).trans (w1 j hj)
  have fF : (eE.1.length = e.1.length ∧ bF = bE) ∨ (e.1.length < eE.1.length ∧ bF = bE + 2 ∧ mC.2.2.1 23 bE = 16 ∧ mC.2.2.1 23 (bE + 1) = I ((eE.1.length - e.1.length : Nat) : Int)) := by
    rcases hcase with h | ⟨h1, h2, h3, h4⟩
    · exact Or.inl h
    · exact Or.inr ⟨h1, h2, (co bE (by omega)).trans h3, (co (bE + 1) (by omega)).trans h4⟩
  have frC := XCS_fr hCC
  refine l_ck (fun _ => ?_)
  rw [i_nt2 (show n ≤ 100000 by omega), tre frC (by decide) h19]
  -- here, as far as the parts
  unfold kb_M_receive_0
  refine r_nod q1 q2 rfl (nsh htk) (fun h16 => ?_)
  have d0 : NOD w (nwD w (Q 32) 26 (I (tk : Nat))) (Q 32) := NOD_0 q1
  obtain ⟨d1, -⟩ := nwD_at (w := w) (i := Q 32) (k := 26) (t := I (tk : Nat))
  have d9 : (nwD w (Q 32) 26 (I (tk : Nat))).1 69 = I (lo : Nat) := by rw [nwD_i (by decide)]; exact hR.1.2.1.1
  generalize nwD w (Q 32) 26 (I (tk : Nat)) = U1 at d0 d1 d9
  have X1 : XTF m0 w0 K T nm Nk false [] lo lo (bF + 4) (bF + 4) cmE cmE q q Q (qst Q 32 (Q 32 + 1)) (e :: t) (e :: t) mC w mC U1 := XTF_nod (XTF_rf hCC hR hq) d0 d9 h16
  have d32 := d0.2.1
  have e1 : (qst Q 32 (Q 32 + 1)) 32 = Q 32 + 1 := qst_at
  obtain ⟨Q1, hQ1⟩ : ∃ Q1, Q1 = qst Q 32 (Q 32 + 1) := ⟨_, rfl⟩
  rw [← hQ1] at X1 e1
  have hX1 := X1.2.2.1.1
  have hq1 := X1.2.2.1.2
  rw [← e1] at d32
  have nd16 : Q 32 < 16000 := h16
  refine r_nod d32 (by omega) rfl (nsh htk) (fun h16c => ?_)
  have f0 : NOD U1 (nwD U1 (Q1 32) 27 (I (tk : Nat))) (Q1 32) := NOD_0 d32
  obtain ⟨f1, f2, f3, f4, f5, f6, f7, f8⟩ := nwD_at (w := U1) (i := Q1 32) (k := 27) (t := I (tk : Nat))
  have f9 : (nwD U1 (Q1 32) 27 (I (tk : Nat))).1 69 = I (lo : Nat) := by rw [nwD_i (by decide)]; exact d9
  generalize nwD U1 (Q1 32) 27 (I (tk : Nat)) = U at f0 f1 f2 f3 f4 f5 f6 f7 f8 f9
  rw [i_nt2 (p := Q1 32) (by omega)]
  refine r_ck (fun _ => r_lt (r_ck (fun _ => r_lt ?_)))
  have hN0 := NOD_A (k := 27) (x := I ((hdS (e :: t)).1.length : Nat)) f0 (by decide)
  have hN := NOD_A (k := 31) (x := -1) hN0 (by decide)
  have u23 : (upA (upA U 27 (upd (U.2.2.1 27) (Q1 32) (I ((hdS (e :: t)).1.length : Nat)))) 31 (upd ((upA U 27 (upd (U.2.2.1 27) (Q1 32) (I ((hdS (e :: t)).1.length : Nat)))).2.2.1 31) (Q1 32) (-1))).2.2.1 23 (Q1 32) = 27 := by rw [upA_no (by decide), upA_no (by decide)]; exact f1
  have u25 : (upA (upA U 27 (upd (U.2.2.1 27) (Q1 32) (I ((hdS (e :: t)).1.length : Nat)))) 31 (upd ((upA U 27 (upd (U.2.2.1 27) (Q1 32) (I ((hdS (e :: t)).1.length : Nat)))).2.2.1 31) (Q1 32) (-1))).2.2.1 25 (Q1 32) = -1 := by rw [upA_no (by decide), upA_no (by decide)]; exact f3
  have u27 : (upA (upA U 27 (upd (U.2.2.1 27) (Q1 32) (I ((hdS (e :: t)).1.length : Nat)))) 31 (upd ((upA U 27 (upd (U.2.2.1 27) (Q1 32) (I ((hdS (e :: t)).1.length : Nat)))).2.2.1 31) (Q1 32) (-1))).2.2.1 27 (Q1 32) = I (e.1.length : Nat) := by rw [upA_no (by decide), upA_at, upd_at]; rfl
  have u28 : (upA (upA U 27 (upd (U.2.2.1 27) (Q1 32) (I ((hdS (e :: t)).1.length : Nat)))) 31 (upd ((upA U 27 (upd (U.2.2.1 27) (Q1 32) (I ((hdS (e :: t)).1.length : Nat)))).2.2.1 31) (Q1 32) (-1))).2.2.1 28 (Q1 32) = -1 := by rw [upA_no (by decide), upA_no (by decide)]; exact f6
  have u69 : (upA (upA U 27 (upd (U.2.2.1 27) (Q1 32) (I ((hdS (e :: t)).1.length : Nat)))) 31 (upd ((upA U 27 (upd (U.2.2.1 27) (Q1 32) (I ((hdS (e :: t)).1.length : Nat)))).2.2.1 31) (Q1 32) (-1))).1 69 = I (lo : Nat) := f9
  generalize upA (upA U 27 (upd (U.2.2.1 27) (Q1 32) (I ((hdS (e :: t)).1.length : Nat)))) 31 (upd ((upA U 27 (upd (U.2.2.1 27) (Q1 32) (I ((hdS (e :: t)).1.length : Nat)))).2.2.1 31) (Q1 32) (-1)) = U2 at hN u23 u25 u27 u28 u69
  have X0 : XTF m0 w0 K T nm Nk false [] lo lo (bF + 4) (bF + 4) cmE cmE q q Q1 (qst Q1 32 (Q1 32 + 1)) (e :: t) (e :: t) mC U1 mC U2 := XTF_nod (XTF_rf hCC hX1 hq1) hN u69 h16c
  have hX2 := X0.2.2.1.1
  have eB : (qst Q1 32 (Q1 32 + 1)) 32 = Q1 32 + 1 := qst_at
  have hPV : PTVs m0 w0 K T nm Nk fof cvr lst 3 (bF + 2) (Q1 32) (fun k => U2.2.2.1 k (Q1 32)) lo (bF + 4) (bF + 4) cmE q Q1 (qst Q1 32 (Q1 32 + 1)) (e :: t) mC U1 [] [] none none lo (bF + 4) cmE q (qst Q1 32 (Q1 32 + 1)) (e :: t) mC U2 0 := ⟨X0, rfl, PTq_0, Iff.rfl, fun l hl => (by cases hl), ⟨QLE_st QLE_rf (by omega), QLE_rf, Nat.le_refl _, by rw [eB]; omega, Nat.le_refl _, Nat.le_refl _⟩, ⟨fun h hm => (by cases hm), rfl⟩, ⟨⟨1, [], Or.inl ⟨by show (U2.2.2.1 28 (Q1 32)).toInt = -1; rw [u28]; rfl, rfl⟩, fun _ => Iff.rfl⟩, fun n hn => (by cases hn)⟩, fun _ _ _ _ => rfl⟩
  rw [isV_e (k := 5) (s := 0) (XRS_wp c hX2) (by decide) rfl, bnd_s]
  rcases hE with ⟨-, rfl, rfl, rfl, rfl⟩ | ⟨hk0, hE⟩
  · -- no parts
    rw [if_pos k5, show decide ((1 : Int32) = 0) = false from rfl, br_f]
    cases D with
    | zero => exact pp_nl
    | succ D =>
    show PP _ (bnd (jg_Cm_parts N (jrc_Cm_fun N D) N mC (-2) 33 (lsI lst) 0 (I ((0 : Nat) : Int))) _) _
    refine prt_0 ?_
    exact rx_af (w9 := U2) (w10 := U2) c IE hn h20 hX hB hxb hr4 k5 k38 k11 hiT (Nat.le_refl _) hC htot hEq ue l1 l2 l3 fF ⟨cw0, cw1, cw2, cw3⟩ hR hQ1 h16c X1 d1 hPV (fun k hk => (by cases hk)) ⟨u23, u27⟩ ⟨rfl, rfl, fun _ _ _ => rfl, u25⟩
  · obtain ⟨kb5, kb11⟩ := pe_beg c hE (by omega)
    rw [if_neg kb5, show decide ((0 : Int32) = 0) = true from rfl, br_t, isV_e (k := 11) (s := 6) (XRS_wp c hX2) (by decide) rfl, bnd_s, if_neg kb11, show decide ((0 : Int32) = 0) = true from rfl, br_t]
    cases D with
    | zero => exact pp_nl
    | succ D =>
    cases d with
    | zero => exact pp_nr
    | succ d =>
    refine pp_bb (pp_mo (R := PLZs m0 w0 K T nm Nk fof cvr lst 3 (bF + 2) (Q1 32) (fun k => U2.2.2.1 k (Q1 32)) lo (bF + 4) (bF + 4) cmE q Q1 (qst Q1 32 (Q1 32 + 1)) (e :: t) mC U1 m1 s1) ?_ (fun m9 v9 w9 r9 hz => ?_))
    · show PP _ (jg_Cm_parts N (jrc_Cm_fun N D) N mC (-2) 33 (lsI lst) 0 (I (mm : Nat))) (br (decide (U2.1 67 = 0)) (kg_M_parts0 N (krc_M_behind N d) N U2 0 (I (Q1 32 : Nat)) (-1) (-1) 1) (kg_M_parts0 N (krc_M_behind N d) N U2 0 (I (Q1 32 : Nat)) (-1) (-1) 0))
      rw [decide_eq_true hX2.1.2.2.1, br_t]
      exact pt_ll c cv IE hf (by omega) (by omega) ⟨by rw [k5]; exact ⟨rfl, by decide, by decide, by decide⟩, by rw [k5]; decide, by rw [k5]; decide, by omega⟩ ⟨by omega, htot.2⟩ (Or.inr (Or.inr ⟨rfl, rfl, rfl, rfl⟩)) k mm lo xa q N N mC U2 (bF + 4) cmE (qst Q1 32 (Q1 32 + 1)) (e :: t) [] [] none none 0 hE hPV (fun l hl => (by cases hl))
    obtain ⟨a2, cm9, Q9, sc9, L9, hs9, k1, kl, rfl, ⟨hk1, hk1b⟩, hP⟩ := hz
    refine r_ck (fun _ => r_lt ?_)
    exact rx_af c IE hn h20 hX hB hxb hr4 k5 k38 k11 hiT hdE.1 hC htot hEq ue l1 l2 l3 fF ⟨cw0, cw1, cw2, cw3⟩ hR hQ1 h16c X1 d1 hP (fun k hk => by cases hk; exact hk1) ⟨u23, u27⟩ w46_of
end
