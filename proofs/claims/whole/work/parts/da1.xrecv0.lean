/-! RECEIVE with no `after`, both -/
set_option maxRecDepth 100000
section
variable {α β : Type} {m0 w0 m w m2 w2 m3 w3 v u w1 mS wS V Z : MS} {K nm Nk W W2 : Nat → Nat} {N T D d o a aP a0 b b' b0 c cm cm0 cm2 cm3 q q0 r s lo lo0 mid hi hiA i j f f2 n k kk kd p p2 σ tk x xa xb xc xd gx kg kb mb mm nd fr M m1 lv y kf : Nat} {ndr : Nat → Int32} {Q Q0 Q1 Q2 Q3 Q4 : Nat → Nat} {sc sc0 sc2 sc3 t t0 t2 : SCT} {e e0 e2 : List Nat × List Nat × Nat} {g g2 lst l2 : Bool} {L L1 L2 Lr S hs fs : List Nat} {fst last : Option Nat} {l : List Int32} {idc fof cvr : Int → Int → Int} {z : Unit} {rt v1 v2 v3 v4 v5 v8 x1 x2 x3 x4 t4 t5 xw y20 pw kn xx : Int32}
theorem XTF_w46 (h : XTF m0 w0 K T nm Nk g L lo hi a b cm cm2 q r Q Q2 sc sc2 m w m2 w2) (hv : W46 w2 v k i xx) (hk : 23 ≤ k ∧ k ≤ 31) (hi' : Q 32 ≤ i) : XTF m0 w0 K T nm Nk g L lo hi a b cm cm2 q r Q Q2 sc sc2 m w m2 v := XTF_rw h hv.1 (fun j n hj => hv.2.2.1 j n (by
  by_cases y : j = k
  · have gk : grp j = 32 := if_pos (by omega)
    rw [gk] at hj
    exact Or.inr (by omega)
  · exact Or.inl y)) hv.2.1
/-- no word that ends a RECEIVE begins a PATTERN -/
theorem pe_beg (c : CTZ m0 w0 K T nm Nk) (hE : RWcK m0 1 27 (PEc m0 f o 3) k n lo hi xa xb q r) (hi' : hi ≤ T) : K lo ≠ 5 ∧ K lo ≠ 11 := by
  cases k with
  | zero => exact hE.elim
  | succ k =>
    have hd := RW_xb PE_bE hE
    unfold HDc at hd
    obtain ⟨mid, c1, s, hE, -⟩ := hE
    unfold PEc at hE
    rw [if_neg (by decide)] at hE
    obtain ⟨-, i, ⟨-, -, -, p, xc, gx, m2, c1, s, kb, mb, c2, ⟨h18, hpa⟩, -⟩⟩ := hE
    have hb : BGk (A m0 6 lo) := by
      rcases hpa with ⟨y, -⟩ | ⟨-, mm, cc, ss, hp1, -⟩
      · cases y
      · exact pa_beg hp1
    have hk := c.1.1.k46 (show lo ≤ T by omega)
    have e6 : A m0 6 lo = ((K lo : Nat) : Int) := by
      show (m0.2.2.1 6 lo).toInt = _
      rw [c.1.2 lo (by omega)]
      exact I_ti (by omega) (by omega)
    rw [e6] at hb
    unfold BGk at hb
    omega
set_option maxHeartbeats 2000000 in
theorem x_rc0 (c : CTZ m0 w0 K T nm Nk) (cv : CTV m0 w0 K T) (IE : HXE N m0 w0 K T nm Nk fof cvr f) (hf : f ≤ 230) (hn : n ≤ 8015) (h18 : A m0 18 n = 0) (h19 : A m0 19 n = ((mm : Nat) : Int)) (hE : RWcK m0 1 27 (PEc m0 f o 3) k mm lo hi xa xb q r) (hxb : xb ≤ 8015) (hr4 : r ≤ 400) (k11 : K hi = 11) (hiT : hi < T) (hC : XCS m0 nm m a cm sc false) (hR : XRS w0 T w lo Q sc) (hq : Q 56 = q) (htot : tot sc + (hi - lo) ≤ 4000 ∧ sc.length ≤ o + 1) (htk : tk ≤ 4002) : PP (XZ m0 w0 K T nm Nk fof cvr lst false lo (hi + 1) a cm q r Q sc m w) (jm_Cm_receive N (jrc_Cm_fun N D) m (I (n : Nat)) (lsI lst)) (kb_M_receive_0 N (krc_M_behind N d) () w (I (tk : Nat)) (I ((hdS sc).1.length : Nat))) := by
  have t4 := c.2.1.1.1
  have hd := RW_xb PE_bE hE
  unfold HDc at hd
  obtain ⟨kb5, kb11⟩ := pe_beg c hE (by omega)
  obtain ⟨e, t, rfl⟩ := PRS_ne hR.1
  have fr0 := XCS_fr hC
  obtain ⟨q1, q2⟩ := XRS_q hR
  have lT : lo ≤ T := hR.1.2.1.2
  have elen : e.1.length ≤ 4000 := by
    have := hC.1.2.1.2.2.2.1
    have et : tot (e :: t) = tot t + e.1.length := rfl
    omega
  -- there, as far as the parts
  unfold jm_Cm_receive jb_Cm_receive_0
  refine l_ck (fun _ => ?_)
  rw [i_nt2 (show n ≤ 100000 by omega), tre fr0 (by decide) h18, show decide (I 0 = (0 : Int32)) = true from rfl, br_t]
  unfold jb_Cm_receive_22
  rw [show decide ((0 : Int32) = 0) = true from rfl, br_t]
  unfold jb_Cm_receive_48
  refine l_put hC.1.2.2.1.1 hC.1.2.2.1.2.2 (fun ha => ?_)
  have k1 := XCS_put (x := 31) hC ha
  rw [show decide ((0 : Int32) = 0) = true from rfl, br_t]
  unfold jb_Cm_receive_71
  refine l_put k1.1.2.2.1.1 k1.1.2.2.1.2.2 (fun ha1 => ?_)
  have k2 := XCS_put (x := 0) k1 ha1
  refine l_put k2.1.2.2.1.1 k2.1.2.2.1.2.2 (fun ha2 => ?_)
  have k3 := XCS_put (x := 32) k2 ha2
  unfold jm_Co_hook jb_Co_hook_0
  rw [bnd_as2]
  refine l_put k3.1.2.2.1.1 k3.1.2.2.1.2.2 (fun ha3 => ?_)
  have k4 := XCS_put (x := 0) k3 ha3
  rw [bnd_s]
  have esc : (ptc (ptc m a 31) (a + 1) 0).1 441 = I ((a + 2 : Nat) : Int) := k2.1.2.2.1.1
  have e441 : (ptc (ptc (ptc (ptc m a 31) (a + 1) 0) (a + 1 + 1) 32) (a + 1 + 1 + 1) 0).1 441 = I ((a + 3 + 1 : Nat) : Int) := k4.1.2.2.1.1
  rw [esc, e441, I_sn]
  have hCC : XCS m0 nm (ptcs m a [31, 0, 32, 0]) (a + 4) cm (e :: t) false := k4
  have em : ptc (ptc (ptc (ptc m a 31) (a + 1) 0) (a + 1 + 1) 32) (a + 1 + 1 + 1) 0 = ptcs m a [31, 0, 32, 0] := rfl
  rw [em]
  clear em e441 esc k1 k2 k3 k4
  have c0 : (ptcs m a [31, 0, 32, 0]).2.2.1 23 a = 31 := ptcs_at (l := [31, 0, 32, 0]) (k := 0) rfl
  have c1 : (ptcs m a [31, 0, 32, 0]).2.2.1 23 (a + 1) = 0 := ptcs_at (l := [31, 0, 32, 0]) (k := 1) rfl
  have c2 : (ptcs m a [31, 0, 32, 0]).2.2.1 23 (a + 2) = 32 := ptcs_at (l := [31, 0, 32, 0]) (k := 2) rfl
  have c3 : (ptcs m a [31, 0, 32, 0]).2.2.1 23 (a + 3) = 0 := ptcs_at (l := [31, 0, 32, 0]) (k := 3) rfl
  have ci : ∀ k, k ≠ 441 → (ptcs m a [31, 0, 32, 0]).1 k = m.1 k := fun k hk => ptcs_i hk
  have cr : ∀ k, k ≠ 23 → (ptcs m a [31, 0, 32, 0]).2.2.1 k = m.2.2.1 k := fun k hk => ptcs_r hk
  have co : ∀ j, j < a → (ptcs m a [31, 0, 32, 0]).2.2.1 23 j = m.2.2.1 23 j := fun j hj => ptcs_o (Or.inl hj)
  generalize ptcs m a [31, 0, 32, 0] = mC at hCC c0 c1 c2 c3 ci cr co
  have frC := XCS_fr hCC
  refine l_ck (fun _ => ?_)
  rw [i_nt2 (show n ≤ 100000 by omega), tre frC (by decide) h19]
  -- here, as far as the parts
  unfold kb_M_receive_0
  refine r_nod q1 q2 rfl (nsh htk) (fun h16 => ?_)
  have d0 : NOD w (nwD w (Q 32) 26 (I (tk : Nat))) (Q 32) := NOD_0 q1
  obtain ⟨d1, -⟩ := nwD_at (w := w) (i := Q 32) (k := 26) (t := I (tk : Nat))
  have d9 : (nwD w (Q 32) 26 (I (tk : Nat))).1 69 = I (lo : Nat) := by rw [nwD_i (by decide)]; exact hR.1.2.1.1
  generalize nwD w (Q 32) 26 (I (tk : Nat)) = U1 at d0 d1 d9
  have X1 : XTF m0 w0 K T nm Nk false [] lo lo a a cm cm q q Q (qst Q 32 (Q 32 + 1)) (e :: t) (e :: t) m w m U1 := XTF_nod (XTF_rf hC hR hq) d0 d9 h16
  have d32 := d0.2.1
  have e1 : (qst Q 32 (Q 32 + 1)) 32 = Q 32 + 1 := qst_at
  have e46 : (qst Q 32 (Q 32 + 1)) 46 = Q 46 := qst_no (by decide)
  have leQ1 : QLE Q (qst Q 32 (Q 32 + 1)) := QLE_st QLE_rf (by omega)
  generalize qst Q 32 (Q 32 + 1) = Q1 at X1 e1 e46 leQ1
  have XC : XTF m0 w0 K T nm Nk false [] lo lo a (a + 4) cm cm q q Q Q1 (e :: t) (e :: t) m w mC U1 := XTF_cz X1 hCC (by omega) ci cr co
  have hX1 := X1.2.2.1.1
  have hq1 := X1.2.2.1.2
  rw [← e1] at d32
  have nd16 : Q 32 < 16000 := h16
  refine r_nod d32 (by omega) rfl (nsh htk) (fun h16c => ?_)
  have f0 : NOD U1 (nwD U1 (Q1 32) 27 (I (tk : Nat))) (Q1 32) := NOD_0 d32
  obtain ⟨f1, f2, f3, f4, f5, f6, f7, f8⟩ := nwD_at (w := U1) (i := Q1 32) (k := 27) (t := I (tk : Nat))
  have f9 : (nwD U1 (Q1 32) 27 (I (tk : Nat))).1 69 = I (lo : Nat) := by rw [nwD_i (by decide)]; exact d9
  generalize nwD U1 (Q1 32) 27 (I (tk : Nat)) = U at f0 f1 f2 f3 f4 f5 f6 f7 f8 f9
  rw [i_nt2 (p := Q1 32) (by omega)]
  refine r_ck (fun _ => r_lt (r_ck (fun _ => r_lt ?_)))
  have hN0 := NOD_A (k := 27) (x := I ((hdS (e :: t)).1.length : Nat)) f0 (by decide)
  have hN := NOD_A (k := 31) (x := -1) hN0 (by decide)
  have u23 : (upA (upA U 27 (upd (U.2.2.1 27) (Q1 32) (I ((hdS (e :: t)).1.length : Nat)))) 31 (upd ((upA U 27 (upd (U.2.2.1 27) (Q1 32) (I ((hdS (e :: t)).1.length : Nat)))).2.2.1 31) (Q1 32) (-1))).2.2.1 23 (Q1 32) = 27 := by rw [upA_no (by decide), upA_no (by decide)]; exact f1
  have u27 : (upA (upA U 27 (upd (U.2.2.1 27) (Q1 32) (I ((hdS (e :: t)).1.length : Nat)))) 31 (upd ((upA U 27 (upd (U.2.2.1 27) (Q1 32) (I ((hdS (e :: t)).1.length : Nat)))).2.2.1 31) (Q1 32) (-1))).2.2.1 27 (Q1 32) = I (e.1.length : Nat) := by rw [upA_no (by decide), upA_at, upd_at]; rfl
  have u28 : (upA (upA U 27 (upd (U.2.2.1 27) (Q1 32) (I ((hdS (e :: t)).1.length : Nat)))) 31 (upd ((upA U 27 (upd (U.2.2.1 27) (Q1 32) (I ((hdS (e :: t)).1.length : Nat)))).2.2.1 31) (Q1 32) (-1))).2.2.1 28 (Q1 32) = -1 := by rw [upA_no (by decide), upA_no (by decide)]; exact f6
  have u31 : (upA (upA U 27 (upd (U.2.2.1 27) (Q1 32) (I ((hdS (e :: t)).1.length : Nat)))) 31 (upd ((upA U 27 (upd (U.2.2.1 27) (Q1 32) (I ((hdS (e :: t)).1.length : Nat)))).2.2.1 31) (Q1 32) (-1))).2.2.1 31 (Q1 32) = -1 := by rw [upA_at, upd_at]
  have u69 : (upA (upA U 27 (upd (U.2.2.1 27) (Q1 32) (I ((hdS (e :: t)).1.length : Nat)))) 31 (upd ((upA U 27 (upd (U.2.2.1 27) (Q1 32) (I ((hdS (e :: t)).1.length : Nat)))).2.2.1 31) (Q1 32) (-1))).1 69 = I (lo : Nat) := f9
  generalize upA (upA U 27 (upd (U.2.2.1 27) (Q1 32) (I ((hdS (e :: t)).1.length : Nat)))) 31 (upd ((upA U 27 (upd (U.2.2.1 27) (Q1 32) (I ((hdS (e :: t)).1.length : Nat)))).2.2.1 31) (Q1 32) (-1)) = U2 at hN u23 u27 u28 u31 u69
  have X0 : XTF m0 w0 K T nm Nk false [] lo lo (a + 4) (a + 4) cm cm q q Q1 (qst Q1 32 (Q1 32 + 1)) (e :: t) (e :: t) mC U1 mC U2 := XTF_nod (XTF_rf hCC hX1 hq1) hN u69 h16c
  have hX2 := X0.2.2.1.1
  have eB : (qst Q1 32 (Q1 32 + 1)) 32 = Q1 32 + 1 := qst_at
  rw [isV_e (k := 5) (s := 0) (XRS_wp c hX2) (by decide) rfl, bnd_s, if_neg kb5, show decide ((0 : Int32) = 0) = true from rfl, br_t, isV_e (k := 11) (s := 6) (XRS_wp c hX2) (by decide) rfl, bnd_s, if_neg kb11, show decide ((0 : Int32) = 0) = true from rfl, br_t]
  cases D with
  | zero => exact pp_nl
  | succ D =>
  cases d with
  | zero => exact pp_nr
  | succ d =>
  refine pp_bb (pp_mo (R := PLZs m0 w0 K T nm Nk fof cvr lst 3 (a + 2) (Q1 32) (fun k => U2.2.2.1 k (Q1 32)) lo (a + 4) (a + 4) cm q Q1 (qst Q1 32 (Q1 32 + 1)) (e :: t) mC U1 hi r) ?_ (fun m9 v9 w9 r9 hz => ?_))
  · show PP _ (jg_Cm_parts N (jrc_Cm_fun N D) N mC (-2) 33 (lsI lst) 0 (I (mm : Nat))) (br (decide (U2.1 67 = 0)) (kg_M_parts0 N (krc_M_behind N d) N U2 0 (I (Q1 32 : Nat)) (-1) (-1) 1) (kg_M_parts0 N (krc_M_behind N d) N U2 0 (I (Q1 32 : Nat)) (-1) (-1) 0))
    rw [decide_eq_true hX2.1.2.2.1, br_t]
    refine pt_ll c cv IE hf hxb hr4 ⟨by rw [k11]; exact ⟨rfl, by decide, by decide, by decide⟩, by rw [k11]; decide, by rw [k11]; decide, by omega⟩ htot (Or.inr (Or.inr ⟨rfl, rfl, rfl, rfl⟩)) k mm lo xa q N N mC U2 (a + 4) cm (qst Q1 32 (Q1 32 + 1)) (e :: t) [] [] none none 0 hE ⟨X0, rfl, PTq_0, Iff.rfl, fun l hl => (by cases hl), ⟨QLE_st QLE_rf (by omega), QLE_rf, Nat.le_refl _, by rw [eB]; omega, Nat.le_refl _, Nat.le_refl _⟩, ⟨fun h hm => (by cases hm), rfl⟩, ⟨⟨1, [], Or.inl ⟨?_, rfl⟩, fun _ => Iff.rfl⟩, fun n hn => (by cases hn)⟩, fun _ _ _ _ => rfl⟩ (fun l hl => (by cases hl))
    show (U2.2.2.1 28 (Q1 32)).toInt = -1
    rw [u28]; rfl
  obtain ⟨a2, cm9, Q9, sc9, L9, hs9, k1, kl, rfl, ⟨hk1, hk1b⟩, g1, g2, g3, g4, g5, ⟨g6, g6b, g6c, g6d, g6e, g6f⟩, ⟨g7, g7b⟩, ⟨⟨fr, Lr, g8, g9⟩, g10⟩, g11⟩ := hz
  have hC9 := g1.2.1
  have le9 := g6b 32 (by decide)
  rw [eB] at le9
  have L9r : ∀ n, n ∈ L9 → n < Q9 32 := fun n hn => (g1.2.2.2.2.2.2.2.2 n hn).2
  have m9o : ∀ j, j < a + 4 → m9.2.2.1 23 j = mC.2.2.1 23 j := fun j hj => g1.2.2.2.2.2.1.2.2.1 j hj
  have w9o : ∀ k, 23 ≤ k → k ≤ 31 → w9.2.2.1 k (Q 32) = U1.2.2.1 k (Q 32) := fun k k1 k2 => by
    have gk : grp k = 32 := if_pos ⟨k1, k2⟩
    exact g1.2.2.2.2.2.2.1.1.2.1 k (Q 32) (by rw [gk]; decide) (by rw [gk]; omega)
  have XJ : XTF m0 w0 K T nm Nk false L9 lo hi a a2 cm cm9 q r Q Q9 (e :: t) sc9 m w m9 w9 := XTF_tr XC g1
  -- there
  refine l_put hC9.1.2.2.1.1 hC9.1.2.2.1.2.2 (fun hb => ?_)
  have k5 := XCS_put (x := 34) hC9 hb
  refine l_put k5.1.2.2.1.1 k5.1.2.2.1.2.2 (fun hb1 => ?_)
  have k6 := XCS_put (x := I ((a + 2 : Nat) : Int)) k5 hb1
  have em : ptc (ptc m9 a2 34) (a2 + 1) (I ((a + 2 : Nat) : Int)) = ptcs m9 a2 [34, I ((a + 2 : Nat) : Int)] := rfl
  rw [em] at k6 ⊢
  have o3 : (ptcs m9 a2 [34, I ((a + 2 : Nat) : Int)]).2.2.1 23 (a + 3) = 0 := by
    rw [ptcs_o (Or.inl (by omega)), m9o _ (by omega)]; exact c3
  refine arr_n (hs := [a + 3]) k6 ⟨rfl, ⟨by omega, by omega⟩, fun h hm => (by cases hm), o3⟩ (fun Z1 hZ1 hZ1C => ?_)
  obtain ⟨y1, y2, y3, y4, y5⟩ := hZ1
  rw [br_t]
  unfold jb_Cm_receive_173
  have n3 : ∀ j, j ≠ a + 3 → j ∉ [a + 3] := fun j hj y => by
    rcases List.mem_cons.mp y with y | y
    · exact hj y
    · cases y
  refine arr_n hZ1C (HKc_fr g7b (fun j hj => by
    have := g7 j hj
    rw [y4 j (n3 j (by omega))]
    exact ptcs_o (Or.inl this.2))) (fun Z hZ hZC => ?_)
  obtain ⟨z1, z2, z3, z4, z5⟩ := hZ
  have zo : ∀ j, j < a2 → j ≠ a + 3 → j ∉ hs9 → Z.2.2.1 23 j = m9.2.2.1 23 j := fun j hj h3 hn => ((z4 j hn).trans (y4 j (n3 j h3))).trans (ptcs_o (Or.inl hj))
  have za : Z.2.2.1 23 a2 = 34 := ((z4 a2 (fun y => by have := g7 a2 y; omega)).trans (y4 a2 (n3 _ (by omega)))).trans (ptcs_at (l := [34, I ((a + 2 : Nat) : Int)]) (k := 0) rfl)
  have zb : Z.2.2.1 23 (a2 + 1) = I ((a + 2 : Nat) : Int) := ((z4 (a2 + 1) (fun y => by have := g7 _ y; omega)).trans (y4 (a2 + 1) (n3 _ (by omega)))).trans (ptcs_at (l := [34, I ((a + 2 : Nat) : Int)]) (k := 1) rfl)
  have zr : ∀ k, k ≠ 23 → Z.2.2.1 k = m9.2.2.1 k := fun k hk => ((z2 k hk).trans (y2 k hk)).trans (ptcs_r hk)
  have zlo : ∀ j, j < a + 3 → Z.2.2.1 23 j = mC.2.2.1 23 j := fun j hj => (zo j (by omega) (by omega) (fun y => by have := g7 j y; omega)).trans (m9o j (by omega))
  have XZ1 := XTF_cz XJ hZC (by omega) (fun k hk => by rw [z1, y1]; exact ptcs_i hk) zr (fun j hj => zo j (by omega) (by omega) (fun y => by have := g7 j y; omega))
  -- here
  refine r_ck (fun _ => r_lt ?_)
  have s1 : W46 w9 (upA w9 25 (upd (w9.2.2.1 25) (Q1 32) (I (k1 : Nat)))) 25 (Q1 32) (I (k1 : Nat)) := w46_of
  generalize upA w9 25 (upd (w9.2.2.1 25) (Q1 32) (I (k1 : Nat))) = Y1 at s1
  have XY1 := XTF_w46 XZ1 s1 (by decide) (by omega)
  have hY1 := XY1.2.2.1.1
  unfold kb_M_receive_67
  rw [decide_eq_true hY1.1.2.2.1, br_t, i_nt2 (p := Q1 32) (by omega), s1.2.2.2]
  refine r_ck (fun _ => ?_)
  rw [decide_eq_false (fun z => by
    have := (I_eq (x := ((k1 : Nat) : Int)) (y := -1) (by omega) (by omega) (by decide) (by decide)).mp (z.trans rfl)
    omega), br_f]
  unfold kb_M_receive_98
  rw [tkW_e (k := 5) (s := 0) (XRS_wp c hY1) hY1.1.2.2.1 (by decide) rfl, if_neg (by rw [k11]; decide), bnd_s, show decide ((0 : Int32) = 0) = true from rfl, br_t]
  refine nd_w c hY1 (k := 11) (s' := 6) (by decide) rfl (fun _ => ?_)
  have XA := XTF_ad XY1 (by omega) (by rw [k11]; decide)
  have aA : (adv Y1 hi).2 = Y1.2 := rfl
  generalize adv Y1 hi = YA at XA aA
  rw [i_nt2 (p := Q 32) (by omega)]
  refine r_ck (fun _ => r_lt ?_)
  have s2 : W46 YA (upA YA 25 (upd (YA.2.2.1 25) (Q 32) (I (Q1 32 : Nat)))) 25 (Q 32) (I (Q1 32 : Nat)) := w46_of
  generalize upA YA 25 (upd (YA.2.2.1 25) (Q 32) (I (Q1 32 : Nat))) = Y2 at s2
  have XY2 := XTF_w46 XA s2 (by decide) (Nat.le_refl _)
  unfold kb_M_receive_237
  rw [i_nt2 (p := Q1 32) (by omega), (XRS_q XY2.2.2.1.1).1]
  refine r_ck (fun _ => r_lt ?_)
  have s3 : W46 Y2 (upA Y2 26 (upd (Y2.2.2.1 26) (Q1 32) (I (Q9 32 : Nat)))) 26 (Q1 32) (I (Q9 32 : Nat)) := w46_of
  generalize upA Y2 26 (upd (Y2.2.2.1 26) (Q1 32) (I (Q9 32 : Nat))) = Y at s3
  have XZ3 := XTF_w46 XY2 s3 (by decide) (by omega)
  have nQ01 : Q 32 ≠ Q1 32 := by omega
  have Yr : ∀ k n, (k ≠ 25 ∧ k ≠ 26) ∨ (n ≠ Q 32 ∧ n ≠ Q1 32) → Y.2.2.1 k n = w9.2.2.1 k n := fun k n hk => by
    rw [s3.2.2.1 k n (by omega), s2.2.2.1 k n (by omega), show YA.2.2.1 k n = Y1.2.2.1 k n by rw [aA], s1.2.2.1 k n (by omega)]
  have Y25 : Y.2.2.1 25 (Q1 32) = I (k1 : Nat) := by
    rw [s3.2.2.1 25 _ (Or.inl (by decide)), s2.2.2.1 25 _ (Or.inr (by omega)), show YA.2.2.1 25 (Q1 32) = Y1.2.2.1 25 (Q1 32) by rw [aA]]; exact s1.2.2.2
  have Y26 : Y.2.2.1 26 (Q1 32) = I (Q9 32 : Nat) := s3.2.2.2
  have Y25b : Y.2.2.1 25 (Q 32) = I (Q1 32 : Nat) := by rw [s3.2.2.1 25 _ (Or.inl (by decide))]; exact s2.2.2.2
  have YJ : Y.2.2.2 = w9.2.2.2 := by rw [s3.2.1, s2.2.1, aA, s1.2.1]
  clear s3 XY2
  clear s2
  clear s1 XY1 hY1
  obtain ⟨n1, n2⟩ := XRS_q XZ3.2.2.1.1
  have Y69 := XZ3.2.2.1.1.1.2.1.1
  rw [Y69]
  refine r_nod n1 n2 rfl (nsh (by omega)) (fun h16b => ?_)
  have x0 : NOD Y (nwD Y (Q9 32) 30 (I ((hi + 1 : Nat) : Int))) (Q9 32) := NOD_0 n1
  obtain ⟨x1', -, -, -, -, x6, -⟩ := nwD_at (w := Y) (i := Q9 32) (k := 30) (t := I ((hi + 1 : Nat) : Int))
  have x9 : (nwD Y (Q9 32) 30 (I ((hi + 1 : Nat) : Int))).1 69 = I ((hi + 1 : Nat) : Int) := by rw [nwD_i (by decide)]; exact Y69
  generalize nwD Y (Q9 32) 30 (I ((hi + 1 : Nat) : Int)) = X at x0 x1' x6 x9
  rw [i_nt2 (p := Q9 32) (by omega)]
  refine r_ck (fun _ => r_ck (fun _ => r_lt ?_))
  have hNX : NOD Y (upA X 28 (upd (X.2.2.1 28) (Q9 32) (X.2.2.1 28 (Q1 32)))) (Q9 32) := NOD_A x0 (by decide)
  have X23 : (upA X 28 (upd (X.2.2.1 28) (Q9 32) (X.2.2.1 28 (Q1 32)))).2.2.1 23 (Q9 32) = 30 := by rw [upA_no (by decide)]; exact x1'
  have X28 : (upA X 28 (upd (X.2.2.1 28) (Q9 32) (X.2.2.1 28 (Q1 32)))).2.2.1 28 (Q9 32) = w9.2.2.1 28 (Q1 32) := by
    rw [upA_at, upd_at, x0.2.2.1 28 (Q1 32) (Or.inr (Or.inr (by omega))), Yr 28 (Q1 32) (Or.inl ⟨by decide, by decide⟩)]
  have X69 : (upA X 28 (upd (X.2.2.1 28) (Q9 32) (X.2.2.1 28 (Q1 32)))).1 69 = I ((hi + 1 : Nat) : Int) := x9
  generalize upA X 28 (upd (X.2.2.1 28) (Q9 32) (X.2.2.1 28 (Q1 32))) = V at hNX X23 X28 X69
  have XF := XTF_nod (XTF_L (L2 := Lr) XZ3 (fun n hn => (g9 n).mp hn)) hNX X69 h16b
  have Vr : ∀ k n, n ≠ Q9 32 → ((k ≠ 25 ∧ k ≠ 26) ∨ (n ≠ Q 32 ∧ n ≠ Q1 32)) → V.2.2.1 k n = w9.2.2.1 k n := fun k n h1 h2 => by
    rw [hNX.2.2.1 k n (Or.inr (Or.inr h1)), Yr k n h2]
  have Vo : ∀ k n, (k < 23 ∨ 31 < k) → V.2.2.1 k n = w9.2.2.1 k n := fun k n h1 => by
    rw [hNX.2.2.1 k n (by omega), Yr k n (Or.inl (by omega))]
  have VJ : V.2.2.2 = w9.2.2.2 := hNX.2.2.2.trans YJ
  have nQ : Q1 32 ≠ Q9 32 := by omega
  have nQ' : Q 32 ≠ Q9 32 := by omega
  have V25 : V.2.2.1 25 (Q1 32) = I (k1 : Nat) := by rw [hNX.2.2.1 25 _ (Or.inr (Or.inr nQ))]; exact Y25
  have V26 : V.2.2.1 26 (Q1 32) = I (Q9 32 : Nat) := by rw [hNX.2.2.1 26 _ (Or.inr (Or.inr nQ))]; exact Y26
  have V25b : V.2.2.1 25 (Q 32) = I (Q1 32 : Nat) := by rw [hNX.2.2.1 25 _ (Or.inr (Or.inr nQ'))]; exact Y25b
  have V23b : V.2.2.1 23 (Q 32) = 26 := by rw [Vr 23 _ nQ' (Or.inl (by decide)), w9o 23 (by decide) (by decide)]; exact d1
  have V23 : V.2.2.1 23 (Q1 32) = 27 := by rw [Vr 23 _ nQ (Or.inl (by decide)), g11 23 (by decide) (by decide) (by decide)]; exact u23
  have V27 : V.2.2.1 27 (Q1 32) = I (e.1.length : Nat) := by rw [Vr 27 _ nQ (Or.inl (by decide)), g11 27 (by decide) (by decide) (by decide)]; exact u27
  have V31 : V.2.2.1 31 (Q1 32) = -1 := by rw [Vr 31 _ nQ (Or.inl (by decide)), g11 31 (by decide) (by decide) (by decide)]; exact u31
  have oN : Onm nm sc9 = Onm nm (e :: t) := by unfold Onm; rw [g2]
  have a24 : a2 + 2 ≤ 23990 := hZC.1.2.2.1.2.2
  refine pp_end ⟨a2 + 2, cm9, qst Q9 32 (Q9 32 + 1), sc9, Q9 32, fr + 1, Lr, rfl, ⟨by omega, by rw [qst_at]; omega⟩, XTR_of XF (fun C P R J H fi hx => ?_), ⟨by omega, by omega⟩, ⟨Q9 32, rfl, ⟨by omega, by rw [qst_at]; omega⟩, Lr, ?_, ?_⟩, fun n hn => ?_⟩
  · have ro : ∀ k i, 23 ≤ k ∧ k ≤ 31 → k ≠ 27 ∧ k ≠ 29 ∧ k ≠ 30 → Q 32 ≤ i → i ≤ Q9 32 → R k i = A V k i := fun k i k1 k2 i1 i2 => FIN_R fi k1 k2 ⟨i1, by rw [qst_at]; omega⟩
    have fx : FNx w0 fof cvr C P R J m9 w9 (a + 4) a2 q r (qst Q1 32 (Q1 32 + 1)) Q9 lst L9 hs9 [kl] := by
      refine FNx_mo (FNx_0 (hs := []) (ps := []) fi) ⟨by omega, by omega⟩ ⟨Nat.le_refl _, Nat.le_refl _⟩ (QLE_tr leQ1 (QLE_st QLE_rf (by omega))) (QLE_st QLE_rf (by omega)) (fun j j1 j2 j3 => zo j j2 (by omega) j3) (fun k u k1 k2 _ _ => by rw [zr k (by omega)]) (fun k n k1 k2 k3 k4 k5 k6 => ?_) (fun n _ _ => by rw [VJ]) (fun n n1' n2' => ?_) (fun j hj => by cases hj) (fun j hj => by cases hj)
      · by_cases y : grp k = 32
        · rw [y] at k5
          rw [y, eB] at k4
          exact Vr k n (by omega) (Or.inr ⟨by omega, by omega⟩)
        · refine Vo k n ?_
          by_cases y1 : k < 23
          · exact Or.inl y1
          · by_cases y2 : 31 < k
            · exact Or.inr y2
            · exact absurd (by unfold grp; rw [if_pos (by omega)]) y
      · have e30 : A V 30 n = A w9 30 n := congrArg Int32.toInt (Vr 30 n (by omega) (Or.inl ⟨by decide, by decide⟩))
        rw [e30]
        by_cases y : lst = true ∧ n ∈ Lr
        · rw [if_pos y, if_pos ⟨y.1, (g9 n).mp y.2⟩]
        · rw [if_neg y, if_neg (fun y2 => y ⟨y2.1, (g9 n).mpr y2.2⟩)]
    have hch : ∀ h, h ∈ hs9 → C h = ((a2 + 2 : Nat) : Int) := fun h hm => by
      have := g7 h hm
      rw [fi.1 h (by omega) (by omega)]
      show (Z.2.2.1 23 h).toInt = _
      rw [z5 h hm]
      exact I_ti (by omega) (by omega)
    have r26 : R 26 (Q1 32) = ((Q9 32 : Nat) : Int) := by
      rw [ro 26 _ (by decide) (by decide) (by omega) (by omega)]
      show (V.2.2.1 26 (Q1 32)).toInt = _
      rw [V26]
      exact I_ti (by omega) (by omega)
    have hl5 := g5 kl rfl
    have q1le := g6 46 (by decide)
    have r45 : R 45 kl = -1 := by
      rw [fi.2.2.2.1.1 45 kl (by decide) (by decide) (by decide) (by decide) (by decide) (by show Q 46 ≤ kl; omega) (by show kl < qst Q9 32 (Q9 32 + 1) 46; rw [qst_no (by decide)]; omega)]
      show (V.2.2.1 45 kl).toInt = _
      rw [Vo 45 kl (Or.inr (by decide)), hl5.2.2]; rfl
    obtain ⟨b1, b2⟩ := XB c.2.2.1 hC hR (XTF_hx XJ hx) h16
    obtain ⟨b3, b4⟩ := XB c.2.2.1 hZC XZ3.2.2.1.1 hx h16b
    have cont : ∀ y, (y = none ↔ false = false) → CRe C R J y (a2 + 2) (qst Q9 32 (Q9 32 + 1) 32) H (Onm nm sc9) → CRe C R J none (a2 + 2) (Q9 32) H (Onm nm (e :: t)) := fun y hy hr => by
      have yn : y = none := hy.mpr rfl
      subst yn
      obtain ⟨d', hd'⟩ := hr
      rw [qst_at] at hd'
      rw [← oN]
      have R23 : R 23 (Q9 32) = 30 := by
        rw [ro 23 _ (by decide) (by decide) (by omega) (Nat.le_refl _)]
        show (V.2.2.1 23 (Q9 32)).toInt = _
        rw [X23]; rfl
      exact cr_1 b3 b4 ⟨d', Or.inr (Or.inr (Or.inr (Or.inr (Or.inr (Or.inr (Or.inr (Or.inr (Or.inr (Or.inr (Or.inr (Or.inr (Or.inr (Or.inr (Or.inr (Or.inr (Or.inr (Or.inr (Or.inr (Or.inr (Or.inr (Or.inr (Or.inr (Or.inr (Or.inr (Or.inr (Or.inr (Or.inr (Or.inr (Or.inr (⟨R23, hd'⟩))))))))))))))))))))))))))))))⟩
    obtain ⟨u1, u2⟩ := g3 C P R J H fx hx
    refine ⟨u1, fun y hy hr => ?_⟩
    have yn : y = none := hy.mpr rfl
    have cz : ∀ j x : Nat, Z.2.2.1 23 j = I (x : Nat) → x ≤ 100000 → a ≤ j → j < a2 + 2 → C j = ((x : Nat) : Int) := fun j x hj hx5 j1 j2 => by
      rw [fi.1 j j1 j2]
      show (Z.2.2.1 23 j).toInt = _
      rw [hj]
      exact I_ti (by omega) (by omega)
    have hz1 : ∃ f, ZRs C R J (CRs C R J f) 3 (a + 2) H (Onm nm (e :: t)) f a2 (-1) :=
      ⟨1, by omega, Or.inl ⟨rfl, Or.inr (Or.inr (Or.inr ⟨rfl, cz a2 34 za (by omega) (by omega) (by omega), cz (a2 + 1) (a + 2) zb (by omega) (by omega) (by omega)⟩))⟩⟩
    obtain ⟨fz, hz2⟩ := u2 (a2 + 2) (Q9 32) (-1) hch r26 (cont y hy hr) (fun l hl => by injection hl with hl; rw [← hl]; exact r45) hz1
    have R23 : R 23 (Q1 32) = 27 := by
      rw [ro 23 _ (by decide) (by decide) (by omega) (by omega)]
      show (V.2.2.1 23 (Q1 32)).toInt = _
      rw [V23]; rfl
    have R31 : R 31 (Q1 32) = -1 := by
      rw [ro 31 _ (by decide) (by decide) (by omega) (by omega)]
      show (V.2.2.1 31 (Q1 32)).toInt = _
      rw [V31]; rfl
    have R25 : R 25 (Q1 32) = ((k1 : Nat) : Int) := by
      rw [ro 25 _ (by decide) (by decide) (by omega) (by omega)]
      show (V.2.2.1 25 (Q1 32)).toInt = _
      rw [V25]
      exact I_ti (by omega) (by omega)
    have R25b : R 25 (Q 32) = ((Q1 32 : Nat) : Int) := by
      rw [ro 25 _ (by decide) (by decide) (Nat.le_refl _) (by omega)]
      show (V.2.2.1 25 (Q 32)).toInt = _
      rw [V25b]
      exact I_ti (by omega) (by omega)
    have R23b : R 23 (Q 32) = 26 := by
      rw [ro 23 _ (by decide) (by decide) (Nat.le_refl _) (by omega)]
      show (V.2.2.1 23 (Q 32)).toInt = _
      rw [V23b]; rfl
    have R27 : R 27 (Q1 32) = (((Onm nm (e :: t)).length : Nat) : Int) := by
      rw [fi.2.2.2.1.2.1 (Q1 32) (by omega) (by rw [qst_at]; omega) (by rw [R23]; decide) (by rw [R23]; decide)]
      show (V.2.2.1 27 (Q1 32)).toInt = _
      have l1 : (Onm nm (e :: t)).length = e.1.length := by unfold Onm; rw [List.length_map]; rfl
      rw [V27, l1]
      exact I_ti (by omega) (by omega)
    subst yn
    have ca : C a = 31 := cz a 31 ((zlo a (by omega)).trans c0) (by omega) (Nat.le_refl _) (by omega)
    have ca1 : C (a + 1) = 0 := cz (a + 1) 0 ((zlo (a + 1) (by omega)).trans c1) (by omega) (by omega) (by omega)
    have ca2 : C (a + 2) = 32 := cz (a + 2) 32 ((zlo (a + 2) (by omega)).trans c2) (by omega) (by omega) (by omega)
    have r27 : CRe C R J none a (Q1 32) H (Onm nm (e :: t)) := by
      refine cr_1 b1 ⟨b2.1, by omega, b2.2.2⟩ ⟨fz, Or.inr (Or.inr (Or.inr (Or.inr (Or.inr (Or.inr (Or.inr (Or.inr (Or.inr (Or.inr (Or.inr (Or.inr (Or.inr (Or.inr (Or.inr (Or.inr (Or.inr (Or.inr (Or.inr (Or.inr (Or.inr (Or.inr (Or.inr (Or.inr (Or.inr (Or.inr (Or.inr (Or.inl ⟨R23, rfl, R31, ca, ca1, R27, ca2, ?_, fun z => absurd R31 z, fun _ => ca1⟩)))))))))))))))))))))))))))⟩
      rw [R25]
      exact hz2
    obtain ⟨d7, h7⟩ := r27
    exact cr_1 b1 b2 ⟨d7, Or.inr (Or.inr (Or.inr (Or.inr (Or.inr (Or.inr (Or.inr (Or.inr (Or.inr (Or.inr (Or.inr (Or.inr (Or.inr (Or.inr (Or.inr (Or.inr (Or.inr (Or.inr (Or.inr (Or.inr (Or.inr (Or.inr (Or.inr (Or.inr (Or.inr (Or.inr (Or.inl ⟨R23b, Q1 32, R25b, h7⟩))))))))))))))))))))))))))⟩
  · have e28 : A V 28 (Q9 32) = A w9 28 (Q1 32) := congrArg Int32.toInt X28
    rw [e28]
    refine RT_w (i := Q1 32 + 1) (by omega) fr true (Q9 32) _ _ _ (Nat.le_refl _) ?_
    exact (RT_fr (w := w9) (v := V) fr).1 (Q9 32) (Q9 32) _ Lr (Nat.le_refl _) (fun n m1 m2 => ⟨congrArg Int32.toInt (Vr 23 n (by omega) (Or.inl ⟨by decide, by decide⟩)), congrArg Int32.toInt (Vr 28 n (by omega) (Or.inl ⟨by decide, by decide⟩)), congrArg Int32.toInt (Vr 29 n (by omega) (Or.inl ⟨by decide, by decide⟩))⟩) g8
  · have e23 : A V 23 (Q9 32) = 30 := congrArg Int32.toInt X23
    rw [e23, if_neg (by decide)]
  · have hn9 := (g9 n).mp hn
    have e30 : A V 30 n = A w9 30 n := congrArg Int32.toInt (Vr 30 n (by have := L9r n hn9; omega) (Or.inl ⟨by decide, by decide⟩))
    rw [e30]; exact (g10 n hn9).2
end
