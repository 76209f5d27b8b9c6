section
set_option maxRecDepth 100000
section
variable {α β : Type} {m0 w0 m w m2' w2 m3 w3 v u w1 mC mE m9 w9 w10 U1 : MS} {K nm Nk W W2 : Nat → Nat} {N T D d o a aC a2 b b' bE bF b0 c cm cm0 cm2 cm3 cmE cm9 c1 c2 q q0 r s s1 s2 lo lo0 m1 m2 hi i j f f2 n k kb mb kE kk p p2 σ tk x xa xb : Nat} {ndr : Nat → Int32} {Q Q1 Q9 QE Q2 Q3 : Nat → Nat} {sc sc0 sc2 sc9 scE t t2 t9 tE : SCT} {e e2 e9 eE : List Nat × List Nat × Nat} {g lst : Bool} {L LE L9 hs9 : List Nat} {fst last : Option Nat} {fof cvr : Int → Int → Int} {v2 v3 v9 : Int32} {zE : Unit} {RR : MS → α → MS → Int32 → Prop} {A' : Option (MS × α)}
theorem r_67 {S : SG_M_behind} (c : CTZ m0 w0 K T nm Nk) (hX : XRS w0 T w p Q sc) (k5 : K p = 5) (h : PP RR A' (kb_M_receive_98 N S () w v2 v3 (I (i : Nat)))) : PP RR A' (kb_M_receive_67 N S () w v2 v3 (I (i : Nat))) := by
  unfold kb_M_receive_67
  rw [decide_eq_true hX.1.2.2.1, br_tq]
  refine r_ck (fun _ => r_br (fun _ => ?_) (fun _ => h))
  rw [isV_e (k := 5) (s := 0) (XRS_wp c hX) (by decide) rfl, bnd_s, if_pos k5, show decide ((1 : Int32) = 0) = false from rfl, br_fq]
  exact h
set_option maxHeartbeats 1000000 in
theorem rx_af (c : CTZ m0 w0 K T nm Nk) (IE : HXE N m0 w0 K T nm Nk fof cvr f) (hn : n ≤ 8015) (h20 : A m0 20 n = ((mb : Nat) : Int)) (hX : XPcK m0 f (o + 1) 3 x (m1 + 1) m2 c1 c2 s1 s2) (hB : RWcK m0 1 26 (XPcK m0 f (o + 2) 3) kb mb (m2 + 1) hi c2 xb s2 r) (hxb : xb ≤ 8015) (hr4 : r ≤ 400) (k5 : K m1 = 5) (k38 : K m2 = 38) (k11 : K hi = 11) (hiT : hi < T) (hlm : lo ≤ m1) (hC : XCS m0 nm m a cm (e :: t) false) (htot : tot (e :: t) + (hi - lo) ≤ 4000 ∧ (e :: t).length ≤ o + 1)
    (hEq : (jrc_Cm_fun N D).2.2.2.2.2.2.2.2.2.2.1 m (I (x : Nat)) 0 = some (mE, zE)) (ue : UXQ m0 nm t false kE m a cm e mE bE cmE eE) (l1 : ∀ k, k ≠ 441 → k ≠ 706 → mC.1 k = mE.1 k) (l2 : ∀ k, k ≠ 23 → mC.2.2.1 k = mE.2.2.1 k) (l3 : ∀ j, j < bE → mC.2.2.1 23 j = mE.2.2.1 23 j) (fF : (eE.1.length = e.1.length ∧ bF = bE) ∨ (e.1.length < eE.1.length ∧ bF = bE + 2 ∧ mC.2.2.1 23 bE = 16 ∧ mC.2.2.1 23 (bE + 1) = I ((eE.1.length - e.1.length : Nat) : Int))) (cw : mC.2.2.1 23 bF = 31 ∧ mC.2.2.1 23 (bF + 1) = 1 ∧ mC.2.2.1 23 (bF + 2) = 32 ∧ mC.2.2.1 23 (bF + 3) = 0)
    (hR : XRS w0 T w lo Q (e :: t)) (hQ1 : Q1 = qst Q 32 (Q 32 + 1)) (nd16 : Q1 32 < 16000) (X1 : XTF m0 w0 K T nm Nk false [] lo lo (bF + 4) (bF + 4) cmE cmE q q Q Q1 (e :: t) (e :: t) mC w mC U1) (u23 : U1.2.2.1 23 (Q 32) = 26)
    (hP : PTVs m0 w0 K T nm Nk fof cvr lst 3 (bF + 2) (Q1 32) ndr lo (bF + 4) (bF + 4) cmE q Q1 (qst Q1 32 (Q1 32 + 1)) (e :: t) mC U1 L9 hs9 fst last m1 a2 cm9 s1 Q9 sc9 m9 w9 v9) (hk1 : ∀ k, fst = some k → k ≤ 24000) (nr : ndr 23 = 27 ∧ ndr 27 = I (e.1.length : Nat)) (hw10 : W46 w9 w10 25 (Q1 32) (optI fst)) :
    PP (XZ m0 w0 K T nm Nk fof cvr lst false lo (hi + 1) a cm q r Q (e :: t) m w) (bnd (jm_Co_put N m9 34) (fun u22 _ => bnd (jm_Co_put N u22 (I ((bF + 2 : Nat) : Int))) (fun u25 _ => bnd (hm_Co_arrive N u25 (I ((bF + 3 : Nat) : Int))) (fun u28 _ => br (decide ((1 : Int32) = 0)) (jb_Cm_receive_173 N (jrc_Cm_fun N D) () u28 v9) (ck (inb (I (n : Nat)) 8016) (bnd ((jrc_Cm_fun N D).2.2.2.1 u28 (u28.2.2.1 20 n) (lsI lst)) (fun u35 _ => bnd (jm_Cm_forget N u35 (I (tot (e :: t) : Nat))) (fun u36 _ => jb_Cm_receive_173 N (jrc_Cm_fun N D) () u36 v9))))))))  (kb_M_receive_67 N (krc_M_behind N d) () w10 (I (e.1.length : Nat)) (I (Q 32 : Nat)) (I (Q1 32 : Nat))) := by
  have t4 := c.2.1.1.1
  have inj : ∀ x y : Nat, x ≤ 100000 → y ≤ 100000 → I (x : Nat) = I (y : Nat) → x = y := fun x y h1 h2 h => by
    have := congrArg Int32.toInt h
    rw [I_ti (by omega) (by omega), I_ti (by omega) (by omega)] at this
    omega
  obtain ⟨g1, g2, g3, g4, g5, ⟨g6, g6b, g6c, g6d, g6e, g6f⟩, ⟨g7, g7b⟩, ⟨⟨fr, Lr, g8, g9⟩, g10⟩, g11⟩ := hP
  have hdX := xp_hd hX
  have hdB := (RW_hdK (XP_bdK _ _ _) hB).1
  unfold HDc at hdB
  have e1 : Q1 32 = Q 32 + 1 := by rw [hQ1, qst_at]
  have e46 : Q1 46 = Q 46 := by rw [hQ1]; exact qst_no (by decide)
  have leQ1 : QLE Q Q1 := by rw [hQ1]; exact QLE_st QLE_rf (by omega)
  have eB : (qst Q1 32 (Q1 32 + 1)) 32 = Q1 32 + 1 := qst_at
  have hC9 := g1.2.1
  have le9 := g6b 32 (by decide)
  rw [eB] at le9
  have L9r : ∀ n, n ∈ L9 → n < Q9 32 := fun n hn => (g1.2.2.2.2.2.2.2.2 n hn).2
  have m9o : ∀ j, j < bF + 4 → m9.2.2.1 23 j = mC.2.2.1 23 j := fun j hj => g1.2.2.2.2.2.1.2.2.1 j hj
  have w9o : ∀ k, 23 ≤ k → k ≤ 31 → w9.2.2.1 k (Q 32) = U1.2.2.1 k (Q 32) := fun k k1 k2 => by
    have gk : grp k = 32 := if_pos ⟨k1, k2⟩
    exact g1.2.2.2.2.2.2.1.1.2.1 k (Q 32) (by rw [gk]; decide) (by rw [gk]; omega)
  have bEa : a ≤ bE := ue.2.2.2.2.1.1
  have bEF : bE ≤ bF := by rcases fF with ⟨-, h⟩ | ⟨-, h, -⟩ <;> omega
  have elen : e.1.length ≤ 4000 := by
    have := hC.1.2.1.2.2.2.1
    have et : tot (e :: t) = tot t + e.1.length := rfl
    omega
  have eElen : eE.1.length ≤ 4000 := by
    have := ue.1.1.2.1.2.2.2.1
    have et : tot (eE :: t) = tot t + eE.1.length := rfl
    omega
  have sg1 := g1.1
  refine l_put hC9.1.2.2.1.1 hC9.1.2.2.1.2.2 (fun hb => ?_)
  have k5' := XCS_put (x := 34) hC9 hb
  refine l_put k5'.1.2.2.1.1 k5'.1.2.2.1.2.2 (fun hb1 => ?_)
  have k6 := XCS_put (x := I ((bF + 2 : Nat) : Int)) k5' hb1
  have em : ptc (ptc m9 a2 34) (a2 + 1) (I ((bF + 2 : Nat) : Int)) = ptcs m9 a2 [34, I ((bF + 2 : Nat) : Int)] := rfl
  rw [em] at k6 ⊢
  have o3 : (ptcs m9 a2 [34, I ((bF + 2 : Nat) : Int)]).2.2.1 23 (bF + 3) = 0 := by
    rw [ptcs_o (Or.inl (by omega)), m9o _ (by omega)]; exact cw.2.2.2
  refine arr_n (hs := [bF + 3]) k6 ⟨rfl, ⟨by omega, by omega⟩, fun h hm => (by cases hm), o3⟩ (fun Z1 hZ1 hZ1C => ?_)
  obtain ⟨y1, y2, y3, y4, y5⟩ := hZ1
  rw [show decide ((1 : Int32) = 0) = false from rfl, br_fq]
  have n3 : ∀ j, j ≠ bF + 3 → j ∉ [bF + 3] := fun j hj y => by
    rcases List.mem_cons.mp y with y | y
    · exact hj y
    · cases y
  have z1o : ∀ j, j < a2 → j ≠ bF + 3 → Z1.2.2.1 23 j = m9.2.2.1 23 j := fun j hj h3 => (y4 j (n3 j h3)).trans (ptcs_o (Or.inl hj))
  have z1a : Z1.2.2.1 23 a2 = 34 := (y4 a2 (n3 _ (by omega))).trans (ptcs_at (l := [34, I ((bF + 2 : Nat) : Int)]) (k := 0) rfl)
  have z1b : Z1.2.2.1 23 (a2 + 1) = I ((bF + 2 : Nat) : Int) := (y4 (a2 + 1) (n3 _ (by omega))).trans (ptcs_at (l := [34, I ((bF + 2 : Nat) : Int)]) (k := 1) rfl)
  have z1h : Z1.2.2.1 23 (bF + 3) = I ((a2 + 2 : Nat) : Int) := y5 _ List.mem_cons_self
  have z1r : ∀ k, k ≠ 23 → Z1.2.2.1 k = m9.2.2.1 k := fun k hk => (y2 k hk).trans (ptcs_r hk)
  have z1i : ∀ k, k ≠ 441 → Z1.1 k = m9.1 k := fun k hk => by rw [y1]; exact ptcs_i hk
  have hk1Z : HKc Z1 hs9 v9 := HKc_fr g7b (fun j hj => z1o j (g7 j hj).2 (by have := (g7 j hj).1; omega))
  have hZ1C' : XCS m0 nm Z1 (a2 + 2) cm9 sc9 false := hZ1C
  clear y1 y2 y3 y4 y5 o3 k6 em
  refine l_ck (fun _ => ?_)
  rw [tre (XCS_fr hZ1C) (by decide) h20]
  have XJ := XTF_tr X1 g1
  rw [List.nil_append] at XJ
  have X10 := XTF_w46 XJ hw10 (by decide) (by omega)
  have hX10 := X10.2.2.1.1
  refine r_67 c hX10 k5 ?_
  unfold kb_M_receive_98
  rw [tkW_e (k := 5) (s := 0) (XRS_wp c hX10) hX10.1.2.2.1 (by decide) rfl, if_pos k5, bnd_s, show decide ((1 : Int32) = 0) = false from rfl, br_fq]
  have XA := XTF_ad X10 (by omega) (by rw [k5]; decide)
  have qA := (XRS_q XA.2.2.1.1).1
  have aA : (adv w10 m1).2 = w10.2 := rfl
  generalize adv w10 m1 = YA at XA qA aA
  rw [i_nt2 (p := Q 32) (by omega), qA]
  refine r_ck (fun _ => r_lt ?_)
  have sY : W46 YA (upA YA 25 (upd (YA.2.2.1 25) (Q 32) (I (Q9 32 : Nat)))) 25 (Q 32) (I (Q9 32 : Nat)) := w46_of
  generalize upA YA 25 (upd (YA.2.2.1 25) (Q 32) (I (Q9 32 : Nat))) = Y1 at sY
  have XP := XTF_w46 XA sY (by decide) (Nat.le_refl _)
  obtain ⟨e9, t9, rfl⟩ := PRS_ne XP.2.2.1.1.1
  have g2' : e9.1 = e.1 := g2
  obtain ⟨W9, hd9, -⟩ := XJ.2.2.2.2.1
  have bd9 : BDs t t9 := (hd9.2 rfl).2.2.1
  obtain ⟨tot9, oN⟩ := XTF_tot XJ g2
  have len9 := XTF_len XJ
  have el9 : (e9 :: t9).length = t9.length + 1 := rfl
  refine r_bnd (fun wE r8 hW => ?_)
  show PP _ _ (bnd (fm_M_node N wE 28 (wE.1 69)) _)
  have hz := IE D d (o + 1) x (m1 + 1) m2 c1 c2 s1 s2 m Y1 a cm Q9 (e9 :: t9) false false hX (by omega) (by omega) ⟨by rw [k38]; exact ⟨rfl, by decide, by decide, by decide⟩, by omega⟩ (XCS_eq hC g2' bd9) XP.2.2.1.1 XP.2.2.1.2 ⟨by omega, by omega⟩ mE zE wE r8 hEq hW
  obtain ⟨bE', cmE', QE, scE, rE, fE, LE, rfl, hrE, tE, hlE, zE5, zE6⟩ := hz
  obtain ⟨eE2, tE2, rfl⟩ := PRS_ne tE.2.2.1.1.1
  obtain ⟨tF, tC⟩ := XTF_of tE
  have lenE := XTF_len tF
  obtain ⟨W8, hd8, -⟩ := tF.2.2.2.2.1
  have bdE : BDs t9 tE2 := (hd8.2 rfl).2.2.1
  have preE : e.1 <+: eE2.1 := by rw [← g2']; exact (hd8.2 rfl).2.1
  have eb : bE' = bE := inj _ _ (by have := tF.2.1.1.2.2.1.2.2; omega) (by have := ue.1.1.2.2.1.2.2; omega) (tF.2.1.1.2.2.1.1.symm.trans ue.1.1.2.2.1.1)
  have elE : (eE2 :: tE2).length = tE2.length + 1 := rfl
  have elt : (e :: t).length = t.length + 1 := rfl
  have ec : cmE' = cmE := by
    have h1 := tF.2.1.1.2.2.2.2.1
    have h2 : mE.2.2.1 41 ((eE :: t).length - 1) = I (cmE : Nat) := ue.1.1.2.2.2.2.1
    have h3 : (eE :: t).length - 1 = (eE2 :: tE2).length - 1 := by show t.length + 1 - 1 = _; omega
    rw [h3] at h2
    exact inj _ _ (by have := tF.2.1.1.2.2.2.2.2.1; omega) (by have := ue.1.1.2.2.2.2.2.1; omega) (h1.symm.trans h2)
  rw [eb, ec] at tF tC
  rw [eb] at hlE
  have eln : eE2.1.length = eE.1.length := by
    have h1 := tF.2.1.1.2.1.2.2.1
    have h2 : mE.1 706 = I (tot (eE :: t) : Nat) := ue.1.1.2.1.2.2.1
    have h3 := inj _ _ (by have := tF.2.1.1.2.1.2.2.2.1; omega) (by have := ue.1.1.2.1.2.2.2.1; omega) (h1.symm.trans h2)
    have h4 : tot tE2 + eE2.1.length = tot t + eE.1.length := h3
    have := (BDs_len bd9).2
    have := (BDs_len bdE).2
    omega
  have qE := XRS_q tF.2.2.1.1
  have leE := tF.2.2.2.2.2.2.1.2.1
  have QE9 := leE 32 (by decide)
  rw [tF.2.2.1.1.1.2.1.1]
  refine r_nod qE.1 qE.2 rfl (nsh (by omega)) (fun h16e => ?_)
  have d0 : NOD wE (nwD wE (QE 32) 28 (I (m2 : Nat))) (QE 32) := NOD_0 qE.1
  obtain ⟨d1, -⟩ := nwD_at (w := wE) (i := QE 32) (k := 28) (t := I (m2 : Nat))
  have d9 : (nwD wE (QE 32) 28 (I (m2 : Nat))).1 69 = I (m2 : Nat) := by rw [nwD_i (by decide)]; exact tF.2.2.1.1.1.2.1.1
  generalize nwD wE (QE 32) 28 (I (m2 : Nat)) = N1 at d0 d1 d9
  rw [i_nt2 (p := QE 32) (by omega)]
  refine r_ck (fun _ => r_lt (r_ck (fun _ => r_lt ?_)))
  have hN0 := NOD_A (k := 25) (x := I (Q1 32 : Nat)) d0 (by decide)
  have hN := NOD_A (k := 27) (x := I (e.1.length : Nat)) hN0 (by decide)
  have n23 : (upA (upA N1 25 (upd (N1.2.2.1 25) (QE 32) (I (Q1 32 : Nat)))) 27 (upd ((upA N1 25 (upd (N1.2.2.1 25) (QE 32) (I (Q1 32 : Nat)))).2.2.1 27) (QE 32) (I (e.1.length : Nat)))).2.2.1 23 (QE 32) = 28 := by rw [upA_no (by decide), upA_no (by decide)]; exact d1
  have n25 : (upA (upA N1 25 (upd (N1.2.2.1 25) (QE 32) (I (Q1 32 : Nat)))) 27 (upd ((upA N1 25 (upd (N1.2.2.1 25) (QE 32) (I (Q1 32 : Nat)))).2.2.1 27) (QE 32) (I (e.1.length : Nat)))).2.2.1 25 (QE 32) = I (Q1 32 : Nat) := by rw [upA_no (by decide), upA_at, upd_at]
  have n27 : (upA (upA N1 25 (upd (N1.2.2.1 25) (QE 32) (I (Q1 32 : Nat)))) 27 (upd ((upA N1 25 (upd (N1.2.2.1 25) (QE 32) (I (Q1 32 : Nat)))).2.2.1 27) (QE 32) (I (e.1.length : Nat)))).2.2.1 27 (QE 32) = I (e.1.length : Nat) := by rw [upA_at, upd_at]
  have n69 : (upA (upA N1 25 (upd (N1.2.2.1 25) (QE 32) (I (Q1 32 : Nat)))) 27 (upd ((upA N1 25 (upd (N1.2.2.1 25) (QE 32) (I (Q1 32 : Nat)))).2.2.1 27) (QE 32) (I (e.1.length : Nat)))).1 69 = I (m2 : Nat) := d9
  generalize upA (upA N1 25 (upd (N1.2.2.1 25) (QE 32) (I (Q1 32 : Nat)))) 27 (upd ((upA N1 25 (upd (N1.2.2.1 25) (QE 32) (I (Q1 32 : Nat)))).2.2.1 27) (QE 32) (I (e.1.length : Nat))) = N3 at hN n23 n25 n27 n69
  have XE3 := XTF_nod tF hN n69 h16e
  have h65 : N3.1 65 = I (tE2.length : Nat) := XE3.2.2.1.1.1.2.2.2.1.1
  have tl27 : tE2.length + 1 ≤ 27 := XE3.2.2.1.1.1.2.2.2.1.2.1.2
  rw [h65, i_nt2 (p := tE2.length) (by omega)]
  refine r_ck (fun _ => r_lt ?_)
  have XS := XTF_sw XE3 XP g2' (by omega) l1 l2 (fun j hj => l3 j (by omega))
  have wr1 : ∀ k n, k ≠ 60 → (upA N3 60 (upd (N3.2.2.1 60) tE2.length (I (e.1.length : Nat)))).2.2.1 k n = N3.2.2.1 k n := fun k n hk => by rw [upA_no hk]
  have wr2 : (upA N3 60 (upd (N3.2.2.1 60) tE2.length (I (e.1.length : Nat)))).2.2.2 = N3.2.2.2 := rfl
  generalize upA N3 60 (upd (N3.2.2.1 60) tE2.length (I (e.1.length : Nat))) = WR at XS wr1 wr2
  rw [i_nt2 (p := Q1 32) (by omega)]
  refine r_ck (fun _ => r_lt ?_)
  have s3 : W46 WR (upA WR 31 (upd (WR.2.2.1 31) (Q1 32) (I (QE 32 : Nat)))) 31 (Q1 32) (I (QE 32 : Nat)) := w46_of
  generalize upA WR 31 (upd (WR.2.2.1 31) (Q1 32) (I (QE 32 : Nat))) = WS at s3
  have XS2 := XTF_w46 XS s3 (by decide) (by omega)
  refine nd_s c XS2.2.2.1.1 (k := 38) (s' := 10) (by decide) rfl (fun _ => ?_)
  have XS3 := XTF_ad XS2 (by omega) (by rw [k38]; decide)
  have aS : (adv WS m2).2 = WS.2 := rfl
  have q32 : (adv WS m2).1 32 = I ((QE 32 + 1 : Nat) : Int) := by
    have := (XRS_q XS3.2.2.1.1).1
    rw [qst_at] at this
    exact this
  generalize adv WS m2 = WA at XS3 aS q32
  rw [q32]
  refine r_ck (fun _ => r_lt (r_ck (fun _ => r_lt ?_)))
  have s4 : W46 WA (upA WA 26 (upd (WA.2.2.1 26) (QE 32) (I ((QE 32 + 1 : Nat) : Int)))) 26 (QE 32) (I ((QE 32 + 1 : Nat) : Int)) := w46_of
  generalize upA WA 26 (upd (WA.2.2.1 26) (QE 32) (I ((QE 32 + 1 : Nat) : Int))) = W4 at s4
  have s5 : W46 W4 (upA W4 28 (upd (W4.2.2.1 28) (QE 32) (-1))) 28 (QE 32) (-1) := w46_of
  generalize upA W4 28 (upd (W4.2.2.1 28) (QE 32) (-1)) = W5 at s5
  have XS5 := XTF_w46 (XTF_w46 XS3 s4 (by decide) (by omega)) s5 (by decide) (by omega)
  have X11 := XTF_cz XS5 (XCS_eq hZ1C' g2'.symm bdE) (by omega) z1i z1r (fun j hj => z1o j (by omega) (by omega))
  obtain ⟨totR, oR⟩ := XTF_tot XS rfl
  have lenR := XTF_len XS
  refine pp_bb (pp_mo (x_body (o := o + 2) (k := kb) (lst := lst) (d := d) c IE hB hxb hr4 ⟨by rw [k11]; exact ⟨rfl, by decide, by decide, by decide⟩, by rw [k11]; decide, by omega⟩ X11.2.1 X11.2.2.1.1 X11.2.2.1.2 ⟨by omega, by omega⟩) (fun m6 z w6 rt hz => ?_))
  obtain ⟨b6, cm6, Q3, sc6, rn, f2, L2, rfl, z2, z3, z4, z5, z6⟩ := hz
  obtain ⟨zF, zC⟩ := XTF_of z3
  have X5 := XTF_tr X11 zF
  have leB := zF.2.2.2.2.2.2.1.2.1
  have QS32 : (qst QE 32 (QE 32 + 1)) 32 = QE 32 + 1 := qst_at
  have B32 := leB 32 (by decide)
  rw [QS32] at B32 z2
  have rL := zF.2.2.2.2.2.2.2.2
  rw [QS32] at rL
  have q24 : Q3 32 ≤ 24000 := (XRS_q zF.2.2.1.1).2
  have b6a := zF.1
  refine rt_add (by omega) (by omega) (fun V hV1 hVJ hVr hV28 hV29 => ?_)
  have X6 := XTF_rw X5 hV1 (fun k n hk => hVr k n (by
    by_cases y : k = 28
    · subst y
      have hk : 28 < 23 ∨ 58 < 28 ∨ grp 28 = 0 ∨ n < Q (grp 28) := hk
      have g28 : grp 28 = 32 := rfl
      rw [g28] at hk
      exact Or.inr (by omega)
    · exact Or.inl y) (by
    by_cases y : k = 29
    · subst y
      have hk : 29 < 23 ∨ 58 < 29 ∨ grp 29 = 0 ∨ n < Q (grp 29) := hk
      have g29 : grp 29 = 32 := rfl
      rw [g29] at hk
      exact Or.inr (by omega)
    · exact Or.inl y)) hVJ
  refine fg_pf c X6 (fun m7 w7 b7 Q4 sc7 X7 same7 hQ7 hb7 mo7 mr7 hq7 hx7 hfg => ?_)
  refine nd_w c X7.2.2.1.1 (k := 11) (s' := 6) (by decide) rfl (fun _ => ?_)
  have X8 := XTF_ad X7 hiT (by rw [k11]; decide)
  have aB : (adv w7 hi).2 = w7.2 := rfl
  have qB := (XRS_q X8.2.2.1.1).1
  generalize adv w7 hi = WB at X8 aB qB
  unfold kb_M_receive_237 jb_Cm_receive_173
  have m7Z : ∀ j, j < a2 + 2 → m7.2.2.1 23 j = Z1.2.2.1 23 j := fun j hj => (mo7 j (by omega)).trans (zF.2.2.2.2.2.1.2.2.1 j hj)
  refine arr_n X8.2.1 (HKc_fr hk1Z (fun j hj => m7Z j (by have := g7 j hj; omega))) (fun Z hZ hZC => ?_)
  obtain ⟨y1, y2, y3, y4, y5⟩ := hZ
  have XZ1 := XTF_cz X8 hZC (Nat.le_refl _) (fun k _ => by rw [y1]) y2 (fun j hj => y4 j (fun y => by have := g7 j y; omega))
  rw [i_nt2 (p := Q1 32) (by omega), qB]
  refine r_ck (fun _ => r_lt ?_)
  have s6 : W46 WB (upA WB 26 (upd (WB.2.2.1 26) (Q1 32) (I (Q4 32 : Nat)))) 26 (Q1 32) (I (Q4 32 : Nat)) := w46_of
  generalize upA WB 26 (upd (WB.2.2.1 26) (Q1 32) (I (Q4 32 : Nat))) = Y at s6
  have XZ3 := XTF_w46 XZ1 s6 (by decide) (by omega)
  obtain ⟨n1', n2'⟩ := XRS_q XZ3.2.2.1.1
  have Y69 := XZ3.2.2.1.1.1.2.1.1
  rw [Y69]
  refine r_nod n1' n2' rfl (nsh (by omega)) (fun h16b => ?_)
  have x0 : NOD Y (nwD Y (Q4 32) 30 (I ((hi + 1 : Nat) : Int))) (Q4 32) := NOD_0 n1'
  obtain ⟨x1', -⟩ := nwD_at (w := Y) (i := Q4 32) (k := 30) (t := I ((hi + 1 : Nat) : Int))
  have x9 : (nwD Y (Q4 32) 30 (I ((hi + 1 : Nat) : Int))).1 69 = I ((hi + 1 : Nat) : Int) := by rw [nwD_i (by decide)]; exact Y69
  generalize nwD Y (Q4 32) 30 (I ((hi + 1 : Nat) : Int)) = X at x0 x1' x9
  rw [i_nt2 (p := Q4 32) (by omega)]
  refine r_ck (fun _ => r_ck (fun _ => r_lt ?_))
  have hNX : NOD Y (upA X 28 (upd (X.2.2.1 28) (Q4 32) (X.2.2.1 28 (Q1 32)))) (Q4 32) := NOD_A x0 (by decide)
  have hq4 := hq7.1
  have le4 : QE 32 + 1 ≤ Q4 32 := by omega
  have F23 : (upA X 28 (upd (X.2.2.1 28) (Q4 32) (X.2.2.1 28 (Q1 32)))).2.2.1 23 (Q4 32) = 30 := by rw [upA_no (by decide)]; exact x1'
  have F28 : (upA X 28 (upd (X.2.2.1 28) (Q4 32) (X.2.2.1 28 (Q1 32)))).2.2.1 28 (Q4 32) = Y.2.2.1 28 (Q1 32) := by
    rw [upA_at, upd_at, x0.2.2.1 28 (Q1 32) (Or.inr (Or.inr (by omega)))]
  have F69 : (upA X 28 (upd (X.2.2.1 28) (Q4 32) (X.2.2.1 28 (Q1 32)))).1 69 = I ((hi + 1 : Nat) : Int) := x9
  generalize upA X 28 (upd (X.2.2.1 28) (Q4 32) (X.2.2.1 28 (Q1 32))) = F at hNX F23 F28 F69
  have nIn : ∀ k, grp k ≠ 0 → grp k ≠ 32 → k < 23 ∨ 31 < k := fun k h1 h2 => by
    by_cases y1 : k < 23
    · exact Or.inl y1
    · by_cases y2 : 31 < k
      · exact Or.inr y2
      · exact absurd (by unfold grp; rw [if_pos (by omega)]) h2
  have ltA : ∀ (k n : Nat) (x : Nat), grp k ≠ 0 → (grp k = 32 → n ≠ x) → (k < 23 ∨ 31 < k ∨ n ≠ x) := fun k n x h1 h2 => by
    by_cases y : grp k = 32
    · exact Or.inr (Or.inr (h2 y))
    · rcases nIn k h1 y with y | y
      · exact Or.inl y
      · exact Or.inr (Or.inl y)
  have FrB : ∀ k n, grp k ≠ 0 → n < Q3 (grp k) → (k ≠ 28 ∨ n ≠ Q1 32) → (k ≠ 26 ∨ n ≠ Q1 32) → (k ≠ 29 ∨ n ≠ rn) → F.2.2.1 k n = w6.2.2.1 k n := fun k n hg hn' h28 h26 h29 => by
    rw [hNX.2.2.1 k n (ltA k n _ hg (fun y => by rw [y] at hn'; omega)), s6.2.2.1 k n h26, show WB.2.2.1 k n = w7.2.2.1 k n by rw [aB], hQ7.2.1 k n hg hn', hVr k n h28 h29]
  have FrE : ∀ k n, grp k ≠ 0 → n < QE (grp k) → (k ≠ 28 ∨ n ≠ Q1 32) → (k ≠ 26 ∨ n ≠ Q1 32) → (k ≠ 31 ∨ n ≠ Q1 32) → F.2.2.1 k n = wE.2.2.1 k n := fun k n hg hn' h28 h26 h31 => by
    have hnS : n < (qst QE 32 (QE 32 + 1)) (grp k) := by
      by_cases y : grp k = 32
      · rw [y] at hn' ⊢; rw [qst_at]; omega
      · rw [qst_no y]; exact hn'
    have hnE : grp k = 32 → n < QE 32 := fun y => by rw [y] at hn'; exact hn'
    rw [FrB k n hg (Nat.lt_of_lt_of_le hnS (leB _ (grp_m hg))) h28 h26 (by
      by_cases y : k = 29
      · subst y
        have := hnE rfl
        exact Or.inr (by omega)
      · exact Or.inl y), zF.2.2.2.2.2.2.1.1.2.1 k n hg hnS, s5.2.2.1 k n (by
      by_cases y : k = 28
      · subst y
        have := hnE rfl
        exact Or.inr (by omega)
      · exact Or.inl y), s4.2.2.1 k n (by
      by_cases y : k = 26
      · subst y
        have := hnE rfl
        exact Or.inr (by omega)
      · exact Or.inl y), show WA.2.2.1 k n = WS.2.2.1 k n by rw [aS], s3.2.2.1 k n h31, wr1 k n (fun y => by subst y; exact hg rfl), hN.2.2.1 k n (ltA k n _ hg (fun y => by have := hnE y; omega))]
  have Fr9 : ∀ k n, grp k ≠ 0 → n < Q9 (grp k) → (k ≠ 28 ∨ n ≠ Q1 32) → (k ≠ 26 ∨ n ≠ Q1 32) → (k ≠ 31 ∨ n ≠ Q1 32) → (k ≠ 25 ∨ (n ≠ Q 32 ∧ n ≠ Q1 32)) → F.2.2.1 k n = w9.2.2.1 k n := fun k n hg hn' h28 h26 h31 h25 => by
    rw [FrE k n hg (Nat.lt_of_lt_of_le hn' (leE _ (grp_m hg))) h28 h26 h31, tF.2.2.2.2.2.2.1.1.2.1 k n hg hn', sY.2.2.1 k n (h25.imp id (fun y => y.1)), show YA.2.2.1 k n = w10.2.2.1 k n by rw [aA], hw10.2.2.1 k n (h25.imp id (fun y => y.2))]
  have w6E : ∀ k n, grp k ≠ 0 → n < QE (grp k) → (k ≠ 31 ∨ n ≠ Q1 32) → w6.2.2.1 k n = wE.2.2.1 k n := fun k n hg hn' h31 => by
    have hnS : n < (qst QE 32 (QE 32 + 1)) (grp k) := by
      by_cases y : grp k = 32
      · rw [y] at hn' ⊢; rw [qst_at]; omega
      · rw [qst_no y]; exact hn'
    have hnE : grp k = 32 → n < QE 32 := fun y => by rw [y] at hn'; exact hn'
    rw [zF.2.2.2.2.2.2.1.1.2.1 k n hg hnS, s5.2.2.1 k n (by
      by_cases y : k = 28
      · subst y
        have := hnE rfl
        exact Or.inr (by omega)
      · exact Or.inl y), s4.2.2.1 k n (by
      by_cases y : k = 26
      · subst y
        have := hnE rfl
        exact Or.inr (by omega)
      · exact Or.inl y), show WA.2.2.1 k n = WS.2.2.1 k n by rw [aS], s3.2.2.1 k n h31, wr1 k n (fun y => by subst y; exact hg rfl), hN.2.2.1 k n (ltA k n _ hg (fun y => by have := hnE y; omega))]
  have wE9 : ∀ k n, grp k ≠ 0 → n < Q9 (grp k) → (k ≠ 25 ∨ (n ≠ Q 32 ∧ n ≠ Q1 32)) → wE.2.2.1 k n = w9.2.2.1 k n := fun k n hg hn' h25 => by
    rw [tF.2.2.2.2.2.2.1.1.2.1 k n hg hn', sY.2.2.1 k n (h25.imp id (fun y => y.1)), show YA.2.2.1 k n = w10.2.2.1 k n by rw [aA], hw10.2.2.1 k n (h25.imp id (fun y => y.2))]
  have JB : ∀ n, n < Q3 39 → F.2.2.2 34 n = w6.2.2.2 34 n := fun n hn' => by
    rw [hNX.2.2.2, s6.2.1, aB, hQ7.2.2 34 n (Or.inr hn'), hVJ]
  have JE : ∀ n, n < QE 39 → F.2.2.2 34 n = wE.2.2.2 34 n := fun n hn' => by
    have hnS : n < (qst QE 32 (QE 32 + 1)) 39 := by rw [qst_no (by decide)]; exact hn'
    rw [JB n (Nat.lt_of_lt_of_le hnS (leB 39 (by decide))), zF.2.2.2.2.2.2.1.1.2.2 34 n (Or.inr hnS), s5.2.1, s4.2.1, aS, s3.2.1, wr2, hN.2.2.2]
  have J9 : ∀ n, n < Q9 39 → F.2.2.2 34 n = w9.2.2.2 34 n := fun n hn' => by
    rw [JE n (Nat.lt_of_lt_of_le hn' (leE 39 (by decide))), tF.2.2.2.2.2.2.1.1.2.2 34 n (Or.inr hn'), sY.2.1, aA, hw10.2.1]
  have hsb : ∀ j, j ∈ hs9 → bF + 4 ≤ j ∧ j < a2 := g7
  have Z6w : ∀ j, a2 ≤ j → j < b6 → Z.2.2.1 23 j = m6.2.2.1 23 j := fun j j1 j2 => (y4 j (fun y => by have := hsb j y; omega)).trans (mo7 j j2)
  have Z1w : ∀ j, j < a2 + 2 → j ∉ hs9 → Z.2.2.1 23 j = Z1.2.2.1 23 j := fun j j1 j2 => (y4 j j2).trans (m7Z j j1)
  have Z9w : ∀ j, j < a2 → j ≠ bF + 3 → j ∉ hs9 → Z.2.2.1 23 j = m9.2.2.1 23 j := fun j j1 j2 j3 => (Z1w j (by omega) j3).trans (z1o j j1 j2)
  have ZCw : ∀ j, j < bF + 3 → Z.2.2.1 23 j = mC.2.2.1 23 j := fun j j1 => (Z9w j (by omega) (by omega) (fun y => by have := hsb j y; omega)).trans (m9o j (by omega))
  have ZEw : ∀ j, j < bE → Z.2.2.1 23 j = mE.2.2.1 23 j := fun j j1 => (ZCw j (by omega)).trans (l3 j j1)
  have p6 : ∀ k, k ≠ 23 → Z.2.2.1 k = m6.2.2.1 k := fun k hk => (y2 k hk).trans (mr7 k hk)
  have p9 : ∀ k u, 30 ≤ k → k ≤ 32 → u < s2 → Z.2.2.1 k u = m9.2.2.1 k u := fun k u k1 k2 hu => by
    rw [p6 k (by omega), zF.2.2.2.2.2.1.2.2.2.1 k u k1 k2 (Or.inl hu), z1r k (by omega)]
  have pE : ∀ k u, 30 ≤ k → k ≤ 32 → s1 ≤ u → u < s2 → Z.2.2.1 k u = mE.2.2.1 k u := fun k u k1 k2 hu1 hu => by
    rw [p9 k u k1 k2 hu, g1.2.2.2.2.2.1.2.2.2.1 k u k1 k2 (Or.inr hu1), l2 k (by omega)]
  have leS : QLE QE (qst QE 32 (QE 32 + 1)) := QLE_st QLE_rf (by omega)
  have le34 : QLE Q3 (qst Q4 32 (Q4 32 + 1)) := fun k hk => by
    by_cases y : k = 32
    · rw [y, qst_at]; omega
    · rw [qst_no y, hq7.2 k y]; exact Nat.le_refl _
  have leQ9 : QLE Q Q9 := QLE_tr leQ1 (QLE_tr g6 g6b)
  have leQE : QLE Q QE := QLE_tr leQ9 leE
  have leE4 : QLE QE (qst Q4 32 (Q4 32 + 1)) := QLE_tr leS (QLE_tr leB le34)
  have le94 : QLE Q9 (qst Q4 32 (Q4 32 + 1)) := QLE_tr leE leE4
  have g32 : ∀ k, 23 ≤ k → k ≤ 31 → grp k = 32 := fun k k1 k2 => if_pos ⟨k1, k2⟩
  have LrM : ∀ n, n ∈ Lr ↔ n ∈ L9 := g9
  have XF := XTF_nod (XTF_L (L2 := L2 ++ Lr) XZ3 (fun n hn => by
    rcases List.mem_append.mp hn with y | y
    · exact List.mem_append.mpr (Or.inr y)
    · exact List.mem_append.mpr (Or.inl ((LrM n).mp y)))) hNX F69 h16b
  have n28 : A F 28 (Q4 32) = ((rn : Nat) : Int) := by
    show (F.2.2.1 28 (Q4 32)).toInt = _
    rw [F28, s6.2.2.1 28 _ (Or.inl (by decide)), show WB.2.2.1 28 (Q1 32) = w7.2.2.1 28 (Q1 32) by rw [aB], hQ7.2.1 28 (Q1 32) (by decide) (by show Q1 32 < Q3 32; omega), hV28]
    exact I_ti (by omega) (by omega)
  have n29 : A F 29 rn = A w9 28 (Q1 32) := by
    show (F.2.2.1 29 rn).toInt = (w9.2.2.1 28 (Q1 32)).toInt
    rw [hNX.2.2.1 29 rn (Or.inr (Or.inr (by omega))), s6.2.2.1 29 _ (Or.inl (by decide)), show WB.2.2.1 29 rn = w7.2.2.1 29 rn by rw [aB], hQ7.2.1 29 rn (by decide) (by show rn < Q3 32; omega), hV29, w6E 28 (Q1 32) (by decide) (by show Q1 32 < QE 32; omega) (Or.inl (by decide)), wE9 28 (Q1 32) (by decide) (by show Q1 32 < Q9 32; omega) (Or.inl (by decide))]
  have a24 : b7 ≤ 23990 := hZC.1.2.2.1.2.2
  refine pp_end ⟨b7, cm6, qst Q4 32 (Q4 32 + 1), sc7, Q4 32, max f2 fr + 2, L2 ++ Lr, rfl, ⟨by omega, by rw [qst_at]; omega⟩, XTR_of XF (fun C P R J H fi hx => ?_), ⟨by omega, by omega⟩, ⟨Q4 32, rfl, ⟨by omega, by rw [qst_at]; omega⟩, L2 ++ Lr, ?_, ?_⟩, fun n hn => ?_⟩
  · have hx6 := hx7 _ _ hx
    have hxR := XTF_hx zF hx6
    have hxE : HNX nm (eE2 :: tE2) cmE H := ⟨hxR.1, hxR.2.1, by have := hxR.2.2; omega⟩
    have hx9 : HNX nm (e9 :: t9) cm9 H := HNX_mo (p := m1 + 1) (x := m2) (W := W8) (K := K) (Nk := Nk) (sc2 := ((e.1, eE2.2) :: tE2)) ⟨hd8.1.1, hd8.1.2⟩ (Nat.le_refl _) hxR
    have hxm : HNX nm (e :: t) cm H := XTF_hx XF hx
    have ro : ∀ k i, 23 ≤ k ∧ k ≤ 31 → k ≠ 27 ∧ k ≠ 29 ∧ k ≠ 30 → Q 32 ≤ i → i ≤ Q4 32 → R k i = A F k i := fun k i k1 k2 i1 i2 => FIN_R fi k1 k2 ⟨i1, by rw [qst_at]; omega⟩
    have cz : ∀ j x : Nat, Z.2.2.1 23 j = I (x : Nat) → x ≤ 100000 → a ≤ j → j < b7 → C j = ((x : Nat) : Int) := fun j x hj hx5 j1 j2 => by
      rw [fi.1 j j1 j2]
      show (Z.2.2.1 23 j).toInt = _
      rw [hj]
      exact I_ti (by omega) (by omega)
    have L2n : ∀ n, n < QE 32 + 1 → n ∉ L2 := fun n hn y => by have := rL n y; omega
    have Lrn : ∀ n, Q9 32 ≤ n → n ∉ Lr := fun n hn y => by have := L9r n ((LrM n).mp y); omega
    have fx : FNx w0 fof cvr C P R J m9 w9 (bF + 4) a2 q s1 (qst Q1 32 (Q1 32 + 1)) Q9 lst L9 hs9 last.toList := by
      refine FNx_mo (FNx_0 (hs := []) (ps := []) fi) ⟨by omega, by omega⟩ ⟨Nat.le_refl _, by omega⟩ (QLE_tr leQ1 (QLE_st QLE_rf (by omega))) le94 (fun j j1 j2 j3 => Z9w j j2 (by omega) j3) (fun k u k1 k2 _ hu => p9 k u k1 k2 (by omega)) (fun k n k1 k2 k3 k4 k5 k6 => ?_) (fun n _ hn' => J9 n hn') (fun n n1 n2 => ?_) (fun j hj => by cases hj) (fun j hj => by cases hj)
      · by_cases y : grp k = 32
        · rw [y, eB] at k4
          exact Fr9 k n k1 k5 (Or.inr (by omega)) (Or.inr (by omega)) (Or.inr (by omega)) (Or.inr ⟨by omega, by omega⟩)
        · have nk : ∀ x, 23 ≤ x → x ≤ 31 → k ≠ x := fun x h1 h2 z => y (by rw [z]; exact g32 x h1 h2)
          exact Fr9 k n k1 k5 (Or.inl (nk 28 (by decide) (by decide))) (Or.inl (nk 26 (by decide) (by decide))) (Or.inl (nk 31 (by decide) (by decide))) (Or.inl (nk 25 (by decide) (by decide)))
      · have e30 : A F 30 n = A w9 30 n := congrArg Int32.toInt (Fr9 30 n (by decide) n2 (Or.inl (by decide)) (Or.inl (by decide)) (Or.inl (by decide)) (Or.inl (by decide)))
        rw [e30]
        have m1' : n ∈ L2 ++ Lr ↔ n ∈ L9 := ⟨fun y => by
          rcases List.mem_append.mp y with y | y
          · exact absurd y (L2n n (by omega))
          · exact (LrM n).mp y, fun y => List.mem_append.mpr (Or.inr ((LrM n).mpr y))⟩
        by_cases y : lst = true ∧ n ∈ L9
        · rw [if_pos y, if_pos ⟨y.1, m1'.mpr y.2⟩]
        · rw [if_neg y, if_neg (fun y2 => y ⟨y2.1, m1'.mp y2.2⟩)]
    have fE : FNd w0 fof cvr C P R J mE wE a bE s1 s2 Q9 QE false LE := by
      refine FIN_sub fi ⟨Nat.le_refl _, by omega⟩ ⟨by omega, by omega⟩ leQ9 leE4 (fun j j1 j2 => ZEw j j2) (fun k u k1 k2 u1 u2 => pE k u k1 k2 u1 u2) ⟨fun k n k1 k2 k3 k4 k5 => ?_, fun n _ hn' => JE n hn'⟩ (fun n n1 n2 => ?_)
      · by_cases y : grp k = 32
        · rw [y] at k4
          exact FrE k n k1 k5 (Or.inr (by omega)) (Or.inr (by omega)) (Or.inr (by omega))
        · have nk : ∀ x, 23 ≤ x → x ≤ 31 → k ≠ x := fun x h1 h2 z => y (by rw [z]; exact g32 x h1 h2)
          exact FrE k n k1 k5 (Or.inl (nk 28 (by decide) (by decide))) (Or.inl (nk 26 (by decide) (by decide))) (Or.inl (nk 31 (by decide) (by decide)))
      · have e30 : A F 30 n = A wE 30 n := congrArg Int32.toInt (FrE 30 n (by decide) n2 (Or.inl (by decide)) (Or.inl (by decide)) (Or.inl (by decide)))
        rw [e30, if_neg (fun y => by
          rcases List.mem_append.mp y.2 with y | y
          · exact L2n n (by omega) y
          · exact Lrn n n1 y), if_neg (fun y => by cases y.1)]
    have fB : FNd w0 fof cvr C P R J m6 w6 (a2 + 2) b6 s2 r (qst QE 32 (QE 32 + 1)) Q3 lst L2 := by
      refine FIN_sub fi ⟨by omega, by omega⟩ ⟨by omega, Nat.le_refl _⟩ (QLE_tr leQE leS) le34 (fun j j1 j2 => Z6w j (by omega) j2) (fun k u k1 k2 _ _ => by rw [p6 k (by omega)]) ⟨fun k n k1 k2 k3 k4 k5 => ?_, fun n _ hn' => JB n hn'⟩ (fun n n1 n2 => ?_)
      · by_cases y : grp k = 32
        · rw [y, QS32] at k4
          exact FrB k n k1 k5 (Or.inr (by omega)) (Or.inr (by omega)) (Or.inl k2)
        · have nk : ∀ x, 23 ≤ x → x ≤ 31 → k ≠ x := fun x h1 h2 z => y (by rw [z]; exact g32 x h1 h2)
          exact FrB k n k1 k5 (Or.inl (nk 28 (by decide) (by decide))) (Or.inl (nk 26 (by decide) (by decide))) (Or.inl k2)
      · rw [QS32] at n1
        have e30 : A F 30 n = A w6 30 n := congrArg Int32.toInt (FrB 30 n (by decide) n2 (Or.inl (by decide)) (Or.inl (by decide)) (Or.inl (by decide)))
        rw [e30]
        by_cases y : lst = true ∧ n ∈ L2
        · rw [if_pos y, if_pos ⟨y.1, List.mem_append.mpr (Or.inl y.2)⟩]
        · rw [if_neg y, if_neg (fun y2 => y ⟨y2.1, (List.mem_append.mp y2.2).resolve_right (Lrn n (by omega))⟩)]
    obtain ⟨u1, u2⟩ := g3 C P R J H fx hx9
    obtain ⟨v1', v2'⟩ := tC C P R J H fE hxE
    obtain ⟨b1', b2'⟩ := zC C P R J H fB hx6
    refine ⟨fun u hu1 hu2 => ?_, fun y hy hr => ?_⟩
    · by_cases z : u < s1
      · exact u1 u hu1 z
      by_cases z2 : u < s2
      · exact v1' u (by omega) z2
      · exact b1' u (by omega) hu2
    have yn : y = none := hy.mpr rfl
    subst yn
    have R23a : R 23 (Q 32) = 26 := by
      rw [ro 23 _ (by decide) (by decide) (Nat.le_refl _) (by omega)]
      show (F.2.2.1 23 (Q 32)).toInt = _
      rw [Fr9 23 (Q 32) (by decide) (by show Q 32 < Q9 32; omega) (Or.inl (by decide)) (Or.inl (by decide)) (Or.inl (by decide)) (Or.inl (by decide)), w9o 23 (by decide) (by decide), u23]; rfl
    have R25a : R 25 (Q 32) = ((Q9 32 : Nat) : Int) := by
      rw [ro 25 _ (by decide) (by decide) (Nat.le_refl _) (by omega)]
      show (F.2.2.1 25 (Q 32)).toInt = _
      rw [FrE 25 (Q 32) (by decide) (by show Q 32 < QE 32; omega) (Or.inl (by decide)) (Or.inl (by decide)) (Or.inl (by decide)), tF.2.2.2.2.2.2.1.1.2.1 25 (Q 32) (by decide) (by show Q 32 < Q9 32; omega), sY.2.2.2]
      exact I_ti (by omega) (by omega)
    have N27 : ∀ k, 23 ≤ k → k ≤ 31 → k ≠ 25 → k ≠ 26 → k ≠ 28 → k ≠ 31 → F.2.2.1 k (Q1 32) = ndr k := fun k k1 k2 k25 k26 k28 k31 => by
      have gk := g32 k k1 k2
      rw [Fr9 k (Q1 32) (by rw [gk]; decide) (by rw [gk]; omega) (Or.inl k28) (Or.inl k26) (Or.inl k31) (Or.inl k25)]
      exact g11 k k1 k2 k28
    have R23b : R 23 (Q1 32) = 27 := by
      rw [ro 23 _ (by decide) (by decide) (by omega) (by omega)]
      show (F.2.2.1 23 (Q1 32)).toInt = _
      rw [N27 23 (by decide) (by decide) (by decide) (by decide) (by decide) (by decide), nr.1]; rfl
    have R27b : R 27 (Q1 32) = ((e.1.length : Nat) : Int) := by
      rw [fi.2.2.2.1.2.1 (Q1 32) (by omega) (by rw [qst_at]; omega) (by rw [R23b]; decide) (by rw [R23b]; decide)]
      show (F.2.2.1 27 (Q1 32)).toInt = _
      rw [N27 27 (by decide) (by decide) (by decide) (by decide) (by decide) (by decide), nr.2]
      exact I_ti (by omega) (by omega)
    have R25b : R 25 (Q1 32) = EIx fst (-1) := by
      rw [ro 25 _ (by decide) (by decide) (by omega) (by omega)]
      show (F.2.2.1 25 (Q1 32)).toInt = _
      rw [FrE 25 (Q1 32) (by decide) (by show Q1 32 < QE 32; omega) (Or.inl (by decide)) (Or.inl (by decide)) (Or.inl (by decide)), tF.2.2.2.2.2.2.1.1.2.1 25 (Q1 32) (by decide) (by show Q1 32 < Q9 32; omega), sY.2.2.1 25 _ (Or.inr (by omega)), show YA.2.2.1 25 (Q1 32) = w10.2.2.1 25 (Q1 32) by rw [aA], hw10.2.2.2]
      cases fst with
      | none => rfl
      | some k1 =>
        have := hk1 k1 rfl
        exact I_ti (by omega) (by omega)
    have R26b : R 26 (Q1 32) = ((Q4 32 : Nat) : Int) := by
      rw [ro 26 _ (by decide) (by decide) (by omega) (by omega)]
      show (F.2.2.1 26 (Q1 32)).toInt = _
      rw [hNX.2.2.1 26 _ (Or.inr (Or.inr (by omega))), s6.2.2.2]
      exact I_ti (by omega) (by omega)
    have R31b : R 31 (Q1 32) = ((QE 32 : Nat) : Int) := by
      rw [ro 31 _ (by decide) (by decide) (by omega) (by omega)]
      show (F.2.2.1 31 (Q1 32)).toInt = _
      rw [FrB 31 (Q1 32) (by decide) (by show Q1 32 < Q3 32; omega) (Or.inl (by decide)) (Or.inl (by decide)) (Or.inl (by decide)), zF.2.2.2.2.2.2.1.1.2.1 31 (Q1 32) (by decide) (by show Q1 32 < (qst QE 32 (QE 32 + 1)) 32; omega), s5.2.2.1 31 _ (Or.inl (by decide)), s4.2.2.1 31 _ (Or.inl (by decide)), show WA.2.2.1 31 (Q1 32) = WS.2.2.1 31 (Q1 32) by rw [aS], s3.2.2.2]
      exact I_ti (by omega) (by omega)
    have N28a : ∀ k, 23 ≤ k → k ≤ 31 → F.2.2.1 k (QE 32) = W5.2.2.1 k (QE 32) := fun k k1 k2 => by
      have gk := g32 k k1 k2
      rw [FrB k (QE 32) (by rw [gk]; decide) (by rw [gk]; omega) (Or.inr (by omega)) (Or.inr (by omega)) (Or.inr (by omega)), zF.2.2.2.2.2.2.1.1.2.1 k (QE 32) (by rw [gk]; decide) (by rw [gk]; omega)]
    have N28 : ∀ k, 23 ≤ k → k ≤ 31 → k ≠ 26 → k ≠ 28 → F.2.2.1 k (QE 32) = N3.2.2.1 k (QE 32) := fun k k1 k2 k26 k28 => by
      rw [N28a k k1 k2, s5.2.2.1 k _ (Or.inl k28), s4.2.2.1 k _ (Or.inl k26), show WA.2.2.1 k (QE 32) = WS.2.2.1 k (QE 32) by rw [aS], s3.2.2.1 k _ (Or.inr (by omega)), wr1 k _ (by omega)]
    have R23c : R 23 (QE 32) = 28 := by
      rw [ro 23 _ (by decide) (by decide) (by omega) (by omega)]
      show (F.2.2.1 23 (QE 32)).toInt = _
      rw [N28 23 (by decide) (by decide) (by decide) (by decide), n23]; rfl
    have R25c : R 25 (QE 32) = ((Q1 32 : Nat) : Int) := by
      rw [ro 25 _ (by decide) (by decide) (by omega) (by omega)]
      show (F.2.2.1 25 (QE 32)).toInt = _
      rw [N28 25 (by decide) (by decide) (by decide) (by decide), n25]
      exact I_ti (by omega) (by omega)
    have R27c : R 27 (QE 32) = ((e.1.length : Nat) : Int) := by
      rw [fi.2.2.2.1.2.1 (QE 32) (by omega) (by rw [qst_at]; omega) (by rw [R23c]; decide) (by rw [R23c]; decide)]
      show (F.2.2.1 27 (QE 32)).toInt = _
      rw [N28 27 (by decide) (by decide) (by decide) (by decide), n27]
      exact I_ti (by omega) (by omega)
    have R26c : R 26 (QE 32) = ((QE 32 + 1 : Nat) : Int) := by
      rw [ro 26 _ (by decide) (by decide) (by omega) (by omega)]
      show (F.2.2.1 26 (QE 32)).toInt = _
      rw [N28a 26 (by decide) (by decide), s5.2.2.1 26 _ (Or.inl (by decide)), s4.2.2.2]
      exact I_ti (by omega) (by omega)
    have R23d : R 23 (Q4 32) = 30 := by
      rw [ro 23 _ (by decide) (by decide) (by omega) (Nat.le_refl _)]
      show (F.2.2.1 23 (Q4 32)).toInt = _
      rw [F23]; rfl
    have on7 : Onm nm sc7 = Onm nm (e :: t) := by unfold Onm; rw [same7]; rfl
    obtain ⟨b3, b4⟩ := XB c.2.2.1 hZC XZ3.2.2.1.1 hx h16b
    have cont : CRe C R J none b7 (Q4 32) H (Onm nm sc7) := by
      obtain ⟨d', hd'⟩ := hr
      rw [qst_at] at hd'
      exact cr_1 b3 b4 ⟨d', Or.inr (Or.inr (Or.inr (Or.inr (Or.inr (Or.inr (Or.inr (Or.inr (Or.inr (Or.inr (Or.inr (Or.inr (Or.inr (Or.inr (Or.inr (Or.inr (Or.inr (Or.inr (Or.inr (Or.inr (Or.inr (Or.inr (Or.inr (Or.inr (Or.inr (Or.inr (Or.inr (Or.inr (Or.inr (Or.inr (⟨R23d, hd'⟩))))))))))))))))))))))))))))))⟩
    have rFG := hfg C R J H none (fun j j1 j2 => by
      rw [fi.1 j (by omega) (by omega)]
      show (Z.2.2.1 23 j).toInt = _
      rw [y4 j (fun y => by have := hsb j y; omega)]; rfl) (fun y => ⟨by
        rw [ro 23 _ (by decide) (by decide) (by omega) (by omega)]
        show (F.2.2.1 23 (Q3 32)).toInt = _
        rw [hNX.2.2.1 23 _ (Or.inr (Or.inr (by omega))), s6.2.2.1 23 _ (Or.inl (by decide)), show WB.2.2.1 23 (Q3 32) = w7.2.2.1 23 (Q3 32) by rw [aB]]; rfl, by
        rw [ro 25 _ (by decide) (by decide) (by omega) (by omega)]
        show (F.2.2.1 25 (Q3 32)).toInt = _
        rw [hNX.2.2.1 25 _ (Or.inr (Or.inr (by omega))), s6.2.2.1 25 _ (Or.inl (by decide)), show WB.2.2.1 25 (Q3 32) = w7.2.2.1 25 (Q3 32) by rw [aB]]; rfl⟩) hx6 cont
    obtain ⟨db, hbody⟩ := b2' none ⟨fun _ => rfl, fun _ => rfl⟩ rFG
    rw [QS32] at hbody
    have hch : ∀ h, h ∈ hs9 → C h = ((b7 : Nat) : Int) := fun h hm => by
      have := hsb h hm
      exact cz h b7 (y5 h hm) (by omega) (by omega) (by omega)
    have hz1 : ∃ f, ZRs C R J (CRs C R J f) 3 (bF + 2) H (Onm nm (e :: t)) f a2 (-1) :=
      ⟨1, by omega, Or.inl ⟨rfl, Or.inr (Or.inr (Or.inr ⟨rfl, cz a2 34 ((Z1w a2 (by omega) (fun y => by have := hsb a2 y; omega)).trans z1a) (by omega) (by omega) (by omega), cz (a2 + 1) (bF + 2) ((Z1w (a2 + 1) (by omega) (fun y => by have := hsb _ y; omega)).trans z1b) (by omega) (by omega) (by omega)⟩))⟩⟩
    obtain ⟨fz, hz2⟩ := u2 b7 (Q4 32) (-1) hch R26b (by rw [← on7]; exact cont) (fun l hl => by
      have hl5 := g5 l hl
      have q1le := g6 46 (by decide)
      rw [fi.2.2.2.1.1 45 l (by decide) (by decide) (by decide) (by decide) (by decide) (by show Q 46 ≤ l; omega) (by show l < qst Q4 32 (Q4 32 + 1) 46; have := le94 46 (by decide); omega)]
      show (F.2.2.1 45 l).toInt = _
      rw [Fr9 45 l (by decide) (by show l < Q9 46; omega) (Or.inl (by decide)) (Or.inl (by decide)) (Or.inl (by decide)) (Or.inl (by decide)), hl5.2.2]; rfl) hz1
    have lO : (Onm nm (eE2 :: tE2)).length = eE.1.length := by unfold Onm; rw [List.length_map]; exact eln
    have tkO : (Onm nm (eE2 :: tE2)).take e.1.length = Onm nm (e :: t) := by
      show (eE2.1.map nm).take e.1.length = e.1.map nm
      obtain ⟨l, hl⟩ := preE
      rw [← List.map_take, ← hl, List.take_left]
    have lele : e.1.length ≤ eE.1.length := by have := preE.length_le; omega
    have cF : ∀ j x : Nat, mC.2.2.1 23 (bF + j) = I (x : Nat) → x ≤ 100000 → j < 3 → C (bF + j) = ((x : Nat) : Int) := fun j x h1 h2 h3 => cz (bF + j) x ((ZCw _ (by omega)).trans h1) h2 (by omega) (by omega)
    obtain ⟨x3, x4⟩ := XB c.2.2.1 tF.2.1 tF.2.2.1.1 hxE h16e
    have r28 : CRe C R J none bE (QE 32) H (Onm nm (eE2 :: tE2)) := by
      refine cr_1 x3 x4 ⟨max fz db, Or.inr (Or.inr (Or.inr (Or.inr (Or.inr (Or.inr (Or.inr (Or.inr (Or.inr (Or.inr (Or.inr (Or.inr (Or.inr (Or.inr (Or.inr (Or.inr (Or.inr (Or.inr (Or.inr (Or.inr (Or.inr (Or.inr (Or.inr (Or.inr (Or.inr (Or.inr (Or.inr (Or.inr (Or.inl ⟨R23c, rfl, Q1 32, e.1.length, bF, R25c, R27c, by rw [lO]; exact lele, ?_, cF 0 31 cw.1 (by omega) (by omega), cF 1 1 cw.2.1 (by omega) (by omega), R23b, R31b, R27b, ?_⟩))))))))))))))))))))))))))))⟩
      · rcases fF with ⟨h1, h2⟩ | ⟨h1, h2, h3, h4⟩
        · exact Or.inl ⟨by rw [lO]; omega, h2⟩
        · refine Or.inr ⟨by rw [lO]; exact h1, ?_, ?_, h2⟩
          · exact cz bE 16 ((ZCw _ (by omega)).trans h3) (by omega) (by omega) (by omega)
          · rw [lO]
            exact cz (bE + 1) _ ((ZCw _ (by omega)).trans h4) (by omega) (by omega) (by omega)
      · rw [tkO]
        refine ⟨cF 2 32 cw.2.2.1 (by omega) (by omega), ?_, fun _ => ⟨QE 32, a2 + 2, QE 32 + 1, R31b, ?_, R26c, CR_mo (Nat.le_max_right _ _) hbody⟩, fun z => by rw [R31b] at z; omega⟩
        · rw [R25b]
          exact ZR_mo (fun y a n H O h => CR_mo (Nat.le_max_left _ _) h) (Nat.le_max_left _ _) hz2
        · exact cz (bF + 3) (a2 + 2) ((Z1w _ (by omega) (fun y => by have := hsb _ y; omega)).trans z1h) (by omega) (by omega) (by omega)
    obtain ⟨dE, hE26⟩ := v2' none ⟨fun _ => rfl, fun _ => rfl⟩ r28
    rw [oN] at hE26
    obtain ⟨x1, x2⟩ := XB c.2.2.1 hC hR hxm (show Q 32 < 16000 by omega)
    exact cr_1 x1 x2 ⟨dE, Or.inr (Or.inr (Or.inr (Or.inr (Or.inr (Or.inr (Or.inr (Or.inr (Or.inr (Or.inr (Or.inr (Or.inr (Or.inr (Or.inr (Or.inr (Or.inr (Or.inr (Or.inr (Or.inr (Or.inr (Or.inr (Or.inr (Or.inr (Or.inr (Or.inr (Or.inr (Or.inl ⟨R23a, Q9 32, R25a, hE26⟩))))))))))))))))))))))))))⟩
  · refine Or.inr ⟨rn, L2, Lr, n28, ?_, ?_, rfl⟩
    · rw [n28]
      refine RT_le (f := f2) ?_ (Nat.le_max_left _ _)
      refine RT_w (i := (qst QE 32 (QE 32 + 1)) 32) (by omega) f2 false (Q3 32) _ _ _ (by omega) ?_
      exact (RT_fr (w := w6) (v := F) f2).2 _ rn L2 (fun n n1 n2 => ⟨congrArg Int32.toInt (FrB 23 n (by decide) (by show n < Q3 32; omega) (Or.inl (by decide)) (Or.inl (by decide)) (Or.inl (by decide))), congrArg Int32.toInt (FrB 28 n (by decide) (by show n < Q3 32; omega) (Or.inr (by omega)) (Or.inl (by decide)) (Or.inl (by decide)))⟩) (fun n n1 n2 => congrArg Int32.toInt (FrB 29 n (by decide) (by show n < Q3 32; omega) (Or.inl (by decide)) (Or.inl (by decide)) (Or.inr (by omega)))) z5
    · rw [n29]
      refine RT_le (f := fr) ?_ (Nat.le_max_right _ _)
      refine RT_w (i := Q1 32 + 1) (by omega) fr true (Q9 32) _ _ _ (by omega) ?_
      exact (RT_fr (w := w9) (v := F) fr).1 (Q9 32) (Q9 32) _ Lr (Nat.le_refl _) (fun n n1 n2 => ⟨congrArg Int32.toInt (Fr9 23 n (by decide) n2 (Or.inl (by decide)) (Or.inl (by decide)) (Or.inl (by decide)) (Or.inl (by decide))), congrArg Int32.toInt (Fr9 28 n (by decide) n2 (Or.inr (by omega)) (Or.inl (by decide)) (Or.inl (by decide)) (Or.inl (by decide))), congrArg Int32.toInt (Fr9 29 n (by decide) n2 (Or.inl (by decide)) (Or.inl (by decide)) (Or.inl (by decide)) (Or.inl (by decide)))⟩) g8
  · have e23 : A F 23 (Q4 32) = 30 := congrArg Int32.toInt F23
    rw [e23, if_neg (by decide)]
  · rcases List.mem_append.mp hn with y | y
    · have h1 := rL n y
      have e30 : A F 30 n = A w6 30 n := congrArg Int32.toInt (FrB 30 n (by decide) h1.2 (Or.inl (by decide)) (Or.inl (by decide)) (Or.inl (by decide)))
      rw [e30]; exact z6 n y
    · have h1 := (LrM n).mp y
      have e30 : A F 30 n = A w9 30 n := congrArg Int32.toInt (Fr9 30 n (by decide) (L9r n h1) (Or.inl (by decide)) (Or.inl (by decide)) (Or.inl (by decide)) (Or.inl (by decide)))
      rw [e30]; exact (g10 n h1).2
end
end
section
set_option maxRecDepth 100000
section
variable {α β : Type} {m0 w0 m w m3 w3 v u w1 mS wS : MS} {K nm Nk W W2 : Nat → Nat} {N T D d o a a0 b b0 c cm cm0 cm2 cm3 c1 c2 q q0 r s s1 s2 lo lo0 m1 m2 hi i j f f2 n k kb mb mm kk p p2 σ tk x xa xb M lv y : Nat} {Q Q0 Q2 Q3 Q4 : Nat → Nat} {sc sc0 sc2 sc3 t t2 : SCT} {e e2 : List Nat × List Nat × Nat} {g lst l2 : Bool} {L L1 L2 S : List Nat} {idc fof cvr : Int → Int → Int} {z : Unit} {rt v1 v2 v3 v4 v5 : Int32}
theorem prt_0 {B : Option (MS × β)} {RR : MS → α → MS → β → Prop} {SF : SF_Cm_fun} {fc : MS → Int32 → Option (MS × α)} (h : PP RR (fc m v5) B) : PP RR (bnd (jg_Cm_parts N SF M m v2 v3 v4 v5 (I ((0 : Nat) : Int))) fc) B := by
  cases M with
  | zero => exact pp_nl
  | succ M =>
    show PP RR (bnd (jb_Cm_parts_6 N SF (jg_Cm_parts N SF M) m v2 v3 v4 v5 (I ((0 : Nat) : Int))) fc) B
    unfold jb_Cm_parts_6
    rw [show decide (I ((0 : Nat) : Int) = (0 : Int32)) = true from rfl, br_tq, bnd_s]
    exact h
set_option maxHeartbeats 1000000 in
theorem x_rc1 (c : CTZ m0 w0 K T nm Nk) (cv : CTV m0 w0 K T) (cx : CVX N m0 w0 K T idc fof cvr) (IE : HXE N m0 w0 K T nm Nk fof cvr f) (hf : f ≤ 230) (hn : n ≤ 8015) (h18 : A m0 18 n = ((x : Nat) : Int)) (hx1 : 1 ≤ x) (h19 : A m0 19 n = ((mm : Nat) : Int)) (hE : ORcK m0 1 27 (PEc m0 f o 3) k mm lo m1 xa c1 q s1) (hX : XPcK m0 f (o + 1) 3 x (m1 + 1) m2 c1 c2 s1 s2) (h20 : A m0 20 n = ((mb : Nat) : Int)) (hB : RWcK m0 1 26 (XPcK m0 f (o + 2) 3) kb mb (m2 + 1) hi c2 xb s2 r) (hxb : xb ≤ 8015) (hr4 : r ≤ 400) (k5 : K m1 = 5) (k38 : K m2 = 38) (k11 : K hi = 11) (hiT : hi < T) (hC : XCS m0 nm m a cm sc false) (hR : XRS w0 T w lo Q sc) (hq : Q 56 = q) (htot : tot sc + (hi - lo) ≤ 4000 ∧ sc.length ≤ o + 1) (htk : tk ≤ 4002) : PP (XZ m0 w0 K T nm Nk fof cvr lst false lo (hi + 1) a cm q r Q sc m w) (jm_Cm_receive N (jrc_Cm_fun N D) m (I (n : Nat)) (lsI lst)) (kb_M_receive_0 N (krc_M_behind N d) () w (I (tk : Nat)) (I ((hdS sc).1.length : Nat))) := by
  have t4 := c.2.1.1.1
  have hdX := xp_hd hX
  have hdB := (RW_hdK (XP_bdK _ _ _) hB).1
  unfold HDc at hdB
  have hdE : lo ≤ m1 ∧ xa ≤ c1 ∧ q ≤ s1 := by
    rcases hE with ⟨-, -, z1, z2, z3⟩ | ⟨-, hE⟩
    · omega
    · have := RW_xb PE_bE hE
      unfold HDc at this
      omega
  obtain ⟨e, t, rfl⟩ := PRS_ne hR.1
  have ok : SOK (e :: t) := hR.1.2.2.2.1.2.2.2
  have fr0 := XCS_fr hC
  obtain ⟨q1, q2⟩ := XRS_q hR
  have lT : lo ≤ T := hR.1.2.1.2
  unfold jm_Cm_receive jb_Cm_receive_0
  refine l_ck (fun _ => ?_)
  rw [i_nt2 (show n ≤ 100000 by omega), tre fr0 (by decide) h18, decide_eq_false (fun z => by
    have := (I_eq (x := ((x : Nat) : Int)) (y := 0) (by omega) (by omega) (by decide) (by decide)).mp z
    omega), br_fq, hC.1.2.1.2.2.1]
  unfold jb_Cm_receive_22
  rw [show decide ((1 : Int32) = 0) = false from rfl, br_fq, i_nt2 (show n ≤ 100000 by omega), tre fr0 (by decide) h18]
  refine l_ck (fun _ => ?_)
  refine l_bnd (fun mE zE hEq => ?_)
  obtain ⟨bE, cmE, eE, ue⟩ := ue_all c cv cx f D (o + 1) 3 x (m1 + 1) m2 c1 c2 s1 s2 m a cm e t false false hX (by omega) (by omega) (by omega) hC ok ⟨by omega, by have := htot.2; omega⟩ mE zE hEq
  refine u_fg3 ue ok (fun mF bF hF w1 w2 w3 hcase => ?_)
  have hFC := hF.1
  unfold jb_Cm_receive_48
  refine l_put hFC.1.2.2.1.1 hFC.1.2.2.1.2.2 (fun ha => ?_)
  have k1 := XCS_put (x := 31) hFC ha
  rw [show decide ((1 : Int32) = 0) = false from rfl, br_fq]
  unfold jb_Cm_receive_71
  refine l_put k1.1.2.2.1.1 k1.1.2.2.1.2.2 (fun ha1 => ?_)
  have k2 := XCS_put (x := 1) k1 ha1
  refine l_put k2.1.2.2.1.1 k2.1.2.2.1.2.2 (fun ha2 => ?_)
  have k3 := XCS_put (x := 32) k2 ha2
  unfold jm_Co_hook jb_Co_hook_0
  rw [bnd_as2]
  refine l_put k3.1.2.2.1.1 k3.1.2.2.1.2.2 (fun ha3 => ?_)
  have k4 := XCS_put (x := 0) k3 ha3
  rw [bnd_s]
  have esc : (ptc (ptc mF bF 31) (bF + 1) 1).1 441 = I ((bF + 2 : Nat) : Int) := k2.1.2.2.1.1
  have e441 : (ptc (ptc (ptc (ptc mF bF 31) (bF + 1) 1) (bF + 1 + 1) 32) (bF + 1 + 1 + 1) 0).1 441 = I ((bF + 3 + 1 : Nat) : Int) := k4.1.2.2.1.1
  rw [esc, e441, I_sn]
  have hCC : XCS m0 nm (ptcs mF bF [31, 1, 32, 0]) (bF + 4) cmE (e :: t) false := k4
  have em : ptc (ptc (ptc (ptc mF bF 31) (bF + 1) 1) (bF + 1 + 1) 32) (bF + 1 + 1 + 1) 0 = ptcs mF bF [31, 1, 32, 0] := rfl
  rw [em]
  clear em e441 esc k1 k2 k3 k4
  have cw0 : (ptcs mF bF [31, 1, 32, 0]).2.2.1 23 bF = 31 := ptcs_at (l := [31, 1, 32, 0]) (k := 0) rfl
  have cw1 : (ptcs mF bF [31, 1, 32, 0]).2.2.1 23 (bF + 1) = 1 := ptcs_at (l := [31, 1, 32, 0]) (k := 1) rfl
  have cw2 : (ptcs mF bF [31, 1, 32, 0]).2.2.1 23 (bF + 2) = 32 := ptcs_at (l := [31, 1, 32, 0]) (k := 2) rfl
  have cw3 : (ptcs mF bF [31, 1, 32, 0]).2.2.1 23 (bF + 3) = 0 := ptcs_at (l := [31, 1, 32, 0]) (k := 3) rfl
  have ci : ∀ k, k ≠ 441 → (ptcs mF bF [31, 1, 32, 0]).1 k = mF.1 k := fun k hk => ptcs_i hk
  have cr : ∀ k, k ≠ 23 → (ptcs mF bF [31, 1, 32, 0]).2.2.1 k = mF.2.2.1 k := fun k hk => ptcs_r hk
  have co : ∀ j, j < bF → (ptcs mF bF [31, 1, 32, 0]).2.2.1 23 j = mF.2.2.1 23 j := fun j hj => ptcs_o (Or.inl hj)
  generalize ptcs mF bF [31, 1, 32, 0] = mC at hCC cw0 cw1 cw2 cw3 ci cr co
  have bEF : bE ≤ bF := by rcases hcase with ⟨-, h⟩ | ⟨-, h, -⟩ <;> omega
  have l1 : ∀ k, k ≠ 441 → k ≠ 706 → mC.1 k = mE.1 k := fun k k1 k2 => (ci k k1).trans (w3 k k1 k2)
  have l2 : ∀ k, k ≠ 23 → mC.2.2.1 k = mE.2.2.1 k := fun k k1 => (cr k k1).trans (w2 k k1)
  have l3 : ∀ j, j < bE → mC.2.2.1 23 j = mE.2.2.1 23 j := fun j hj => (co j (by omega)).trans (w1 j hj)
  have fF : (eE.1.length = e.1.length ∧ bF = bE) ∨ (e.1.length < eE.1.length ∧ bF = bE + 2 ∧ mC.2.2.1 23 bE = 16 ∧ mC.2.2.1 23 (bE + 1) = I ((eE.1.length - e.1.length : Nat) : Int)) := by
    rcases hcase with h | ⟨h1, h2, h3, h4⟩
    · exact Or.inl h
    · exact Or.inr ⟨h1, h2, (co bE (by omega)).trans h3, (co (bE + 1) (by omega)).trans h4⟩
  have frC := XCS_fr hCC
  refine l_ck (fun _ => ?_)
  rw [i_nt2 (show n ≤ 100000 by omega), tre frC (by decide) h19]
  unfold kb_M_receive_0
  refine r_nod q1 q2 rfl (nsh htk) (fun h16 => ?_)
  have d0 : NOD w (nwD w (Q 32) 26 (I (tk : Nat))) (Q 32) := NOD_0 q1
  obtain ⟨d1, -⟩ := nwD_at (w := w) (i := Q 32) (k := 26) (t := I (tk : Nat))
  have d9 : (nwD w (Q 32) 26 (I (tk : Nat))).1 69 = I (lo : Nat) := by rw [nwD_i (by decide)]; exact hR.1.2.1.1
  generalize nwD w (Q 32) 26 (I (tk : Nat)) = U1 at d0 d1 d9
  have X1 : XTF m0 w0 K T nm Nk false [] lo lo (bF + 4) (bF + 4) cmE cmE q q Q (qst Q 32 (Q 32 + 1)) (e :: t) (e :: t) mC w mC U1 := XTF_nod (XTF_rf hCC hR hq) d0 d9 h16
  have d32 := d0.2.1
  have e1 : (qst Q 32 (Q 32 + 1)) 32 = Q 32 + 1 := qst_at
  obtain ⟨Q1, hQ1⟩ : ∃ Q1, Q1 = qst Q 32 (Q 32 + 1) := ⟨_, rfl⟩
  rw [← hQ1] at X1 e1
  have hX1 := X1.2.2.1.1
  have hq1 := X1.2.2.1.2
  rw [← e1] at d32
  have nd16 : Q 32 < 16000 := h16
  refine r_nod d32 (by omega) rfl (nsh htk) (fun h16c => ?_)
  have f0 : NOD U1 (nwD U1 (Q1 32) 27 (I (tk : Nat))) (Q1 32) := NOD_0 d32
  obtain ⟨f1, f2, f3, f4, f5, f6, f7, f8⟩ := nwD_at (w := U1) (i := Q1 32) (k := 27) (t := I (tk : Nat))
  have f9 : (nwD U1 (Q1 32) 27 (I (tk : Nat))).1 69 = I (lo : Nat) := by rw [nwD_i (by decide)]; exact d9
  generalize nwD U1 (Q1 32) 27 (I (tk : Nat)) = U at f0 f1 f2 f3 f4 f5 f6 f7 f8 f9
  rw [i_nt2 (p := Q1 32) (by omega)]
  refine r_ck (fun _ => r_lt (r_ck (fun _ => r_lt ?_)))
  have hN0 := NOD_A (k := 27) (x := I ((hdS (e :: t)).1.length : Nat)) f0 (by decide)
  have hN := NOD_A (k := 31) (x := -1) hN0 (by decide)
  have u23 : (upA (upA U 27 (upd (U.2.2.1 27) (Q1 32) (I ((hdS (e :: t)).1.length : Nat)))) 31 (upd ((upA U 27 (upd (U.2.2.1 27) (Q1 32) (I ((hdS (e :: t)).1.length : Nat)))).2.2.1 31) (Q1 32) (-1))).2.2.1 23 (Q1 32) = 27 := by rw [upA_no (by decide), upA_no (by decide)]; exact f1
  have u25 : (upA (upA U 27 (upd (U.2.2.1 27) (Q1 32) (I ((hdS (e :: t)).1.length : Nat)))) 31 (upd ((upA U 27 (upd (U.2.2.1 27) (Q1 32) (I ((hdS (e :: t)).1.length : Nat)))).2.2.1 31) (Q1 32) (-1))).2.2.1 25 (Q1 32) = -1 := by rw [upA_no (by decide), upA_no (by decide)]; exact f3
  have u27 : (upA (upA U 27 (upd (U.2.2.1 27) (Q1 32) (I ((hdS (e :: t)).1.length : Nat)))) 31 (upd ((upA U 27 (upd (U.2.2.1 27) (Q1 32) (I ((hdS (e :: t)).1.length : Nat)))).2.2.1 31) (Q1 32) (-1))).2.2.1 27 (Q1 32) = I (e.1.length : Nat) := by rw [upA_no (by decide), upA_at, upd_at]; rfl
  have u28 : (upA (upA U 27 (upd (U.2.2.1 27) (Q1 32) (I ((hdS (e :: t)).1.length : Nat)))) 31 (upd ((upA U 27 (upd (U.2.2.1 27) (Q1 32) (I ((hdS (e :: t)).1.length : Nat)))).2.2.1 31) (Q1 32) (-1))).2.2.1 28 (Q1 32) = -1 := by rw [upA_no (by decide), upA_no (by decide)]; exact f6
  have u69 : (upA (upA U 27 (upd (U.2.2.1 27) (Q1 32) (I ((hdS (e :: t)).1.length : Nat)))) 31 (upd ((upA U 27 (upd (U.2.2.1 27) (Q1 32) (I ((hdS (e :: t)).1.length : Nat)))).2.2.1 31) (Q1 32) (-1))).1 69 = I (lo : Nat) := f9
  generalize upA (upA U 27 (upd (U.2.2.1 27) (Q1 32) (I ((hdS (e :: t)).1.length : Nat)))) 31 (upd ((upA U 27 (upd (U.2.2.1 27) (Q1 32) (I ((hdS (e :: t)).1.length : Nat)))).2.2.1 31) (Q1 32) (-1)) = U2 at hN u23 u25 u27 u28 u69
  have X0 : XTF m0 w0 K T nm Nk false [] lo lo (bF + 4) (bF + 4) cmE cmE q q Q1 (qst Q1 32 (Q1 32 + 1)) (e :: t) (e :: t) mC U1 mC U2 := XTF_nod (XTF_rf hCC hX1 hq1) hN u69 h16c
  have hX2 := X0.2.2.1.1
  have eB : (qst Q1 32 (Q1 32 + 1)) 32 = Q1 32 + 1 := qst_at
  have hPV : PTVs m0 w0 K T nm Nk fof cvr lst 3 (bF + 2) (Q1 32) (fun k => U2.2.2.1 k (Q1 32)) lo (bF + 4) (bF + 4) cmE q Q1 (qst Q1 32 (Q1 32 + 1)) (e :: t) mC U1 [] [] none none lo (bF + 4) cmE q (qst Q1 32 (Q1 32 + 1)) (e :: t) mC U2 0 := ⟨X0, rfl, PTq_0, Iff.rfl, fun l hl => (by cases hl), ⟨QLE_st QLE_rf (by omega), QLE_rf, Nat.le_refl _, by rw [eB]; omega, Nat.le_refl _, Nat.le_refl _⟩, ⟨fun h hm => (by cases hm), rfl⟩, ⟨⟨1, [], Or.inl ⟨by show (U2.2.2.1 28 (Q1 32)).toInt = -1; rw [u28]; rfl, rfl⟩, fun _ => Iff.rfl⟩, fun n hn => (by cases hn)⟩, fun _ _ _ _ => rfl⟩
  rw [isV_e (k := 5) (s := 0) (XRS_wp c hX2) (by decide) rfl, bnd_s]
  rcases hE with ⟨-, rfl, rfl, rfl, rfl⟩ | ⟨hk0, hE⟩
  · 
    rw [if_pos k5, show decide ((1 : Int32) = 0) = false from rfl, br_fq]
    cases D with
    | zero => exact pp_nl
    | succ D =>
    show PP _ (bnd (jg_Cm_parts N (jrc_Cm_fun N D) N mC (-2) 33 (lsI lst) 0 (I ((0 : Nat) : Int))) _) _
    refine prt_0 ?_
    exact rx_af (w9 := U2) (w10 := U2) c IE hn h20 hX hB hxb hr4 k5 k38 k11 hiT (Nat.le_refl _) hC htot hEq ue l1 l2 l3 fF ⟨cw0, cw1, cw2, cw3⟩ hR hQ1 h16c X1 d1 hPV (fun k hk => (by cases hk)) ⟨u23, u27⟩ ⟨rfl, rfl, fun _ _ _ => rfl, u25⟩
  · obtain ⟨kb5, kb11⟩ := pe_beg c hE (by omega)
    rw [if_neg kb5, show decide ((0 : Int32) = 0) = true from rfl, br_tq, isV_e (k := 11) (s := 6) (XRS_wp c hX2) (by decide) rfl, bnd_s, if_neg kb11, show decide ((0 : Int32) = 0) = true from rfl, br_tq]
    cases D with
    | zero => exact pp_nl
    | succ D =>
    cases d with
    | zero => exact pp_nr
    | succ d =>
    refine pp_bb (pp_mo (R := PLZs m0 w0 K T nm Nk fof cvr lst 3 (bF + 2) (Q1 32) (fun k => U2.2.2.1 k (Q1 32)) lo (bF + 4) (bF + 4) cmE q Q1 (qst Q1 32 (Q1 32 + 1)) (e :: t) mC U1 m1 s1) ?_ (fun m9 v9 w9 r9 hz => ?_))
    · show PP _ (jg_Cm_parts N (jrc_Cm_fun N D) N mC (-2) 33 (lsI lst) 0 (I (mm : Nat))) (br (decide (U2.1 67 = 0)) (kg_M_parts0 N (krc_M_behind N d) N U2 0 (I (Q1 32 : Nat)) (-1) (-1) 1) (kg_M_parts0 N (krc_M_behind N d) N U2 0 (I (Q1 32 : Nat)) (-1) (-1) 0))
      rw [decide_eq_true hX2.1.2.2.1, br_tq]
      exact pt_ll c cv IE hf (by omega) (by omega) ⟨by rw [k5]; exact ⟨rfl, by decide, by decide, by decide⟩, by rw [k5]; decide, by rw [k5]; decide, by omega⟩ ⟨by omega, htot.2⟩ (Or.inr (Or.inr ⟨rfl, rfl, rfl, rfl⟩)) k mm lo xa q N N mC U2 (bF + 4) cmE (qst Q1 32 (Q1 32 + 1)) (e :: t) [] [] none none 0 hE hPV (fun l hl => (by cases hl))
    obtain ⟨a2, cm9, Q9, sc9, L9, hs9, k1, kl, rfl, ⟨hk1, hk1b⟩, hP⟩ := hz
    refine r_ck (fun _ => r_lt ?_)
    exact rx_af c IE hn h20 hX hB hxb hr4 k5 k38 k11 hiT hdE.1 hC htot hEq ue l1 l2 l3 fF ⟨cw0, cw1, cw2, cw3⟩ hR hQ1 h16c X1 d1 hP (fun k hk => by cases hk; exact hk1) ⟨u23, u27⟩ w46_of
end
end
section
set_option maxRecDepth 100000
section
variable {α β : Type} {m0 w0 m w m2 w2 m3 w3 v u w1 mS wS : MS} {K nm Nk W W2 : Nat → Nat} {N T D d o a a0 b b0 c cm cm0 cm2 cm3 q q0 r s lo lo0 mid hi i j f f2 n k kk p p2 σ tk x xa xb xc mm M m1 lv y : Nat} {Q Q0 Q2 Q3 Q4 : Nat → Nat} {sc sc0 sc2 sc3 t t2 : SCT} {e e2 : List Nat × List Nat × Nat} {g lst l2 : Bool} {L L1 L2 S : List Nat} {idc fof cvr : Int → Int → Int} {z : Unit} {rt v1 v2 v3 v4 v5 : Int32}
theorem x_rv1 (c : CTZ m0 w0 K T nm Nk) (cv : CTV m0 w0 K T) (cx : CVX N m0 w0 K T idc fof cvr) (IE : HXE N m0 w0 K T nm Nk fof cvr f) (hf : f ≤ 230) : HXR N m0 w0 K T nm Nk fof cvr (f + 1) := by
  intro D d o n lo hi xa xb q r m w a cm Q sc g lst hE h16 h18n hxb hr4 hiT hC hR hq htot
  have t4 := c.2.1.1.1
  obtain ⟨hdc', -, ho, hE⟩ := hE
  have hd := hdc'
  unfold HDc at hd
  have hn : n ≤ 8015 := by omega
  have h11 : ∃ k mm m1 c1 s1 : Nat, A m0 19 n = ((mm : Nat) : Int) ∧ ORcK m0 1 27 (CSPcK m0 (PAcK m0 f) (XPcK m0 f (o + 2) 3) (XPcK m0 f (o + 1) 3)) k mm (lo + 1) m1 xa c1 q s1 ∧ ((A m0 18 n = 0 ∧ A m0 20 n = 0 ∧ 1 ≤ k ∧ hi = m1 + 1 ∧ s1 = r ∧ (c1 < n ∧ A m0 6 lo = 17 ∧ A m0 6 (hi - 1) = 11 ∧ A m0 17 n = ((lo : Nat) : Int))) ∨ ∃ x m2 c2 s2 kb mb c3 : Nat, 1 ≤ x ∧ A m0 18 n = ((x : Nat) : Int) ∧ XPcK m0 f (o + 1) 3 x (m1 + 1) m2 c1 c2 s1 s2 ∧ A m0 20 n = ((mb : Nat) : Int) ∧ RWcK m0 1 26 (XPcK m0 f (o + 2) 3) kb mb (m2 + 1) (hi - 1) c2 c3 s2 r ∧ (c3 < n ∧ A m0 6 lo = 17 ∧ A m0 6 m1 = 5 ∧ A m0 6 m2 = 38 ∧ A m0 6 (hi - 1) = 11 ∧ A m0 17 n = ((lo : Nat) : Int))) := by
    rcases hE with h | h | h | h | h | h | h | h | h | h | h | h | h | h | h | h | h
    · have := h.1.1; have := h.1.2.1; omega
    · have := h.1; omega
    · have := h.1; omega
    · have := h.1; omega
    · have := h.1; omega
    · have := h.1; omega
    · have := h.1; omega
    · exact h.2
    · have := h.1; omega
    · have := h.1; omega
    · have := h.1; omega
    · have := h.1; omega
    · rcases h.1 with z | z <;> omega
    · have := h.1; omega
    · have := h.1; omega
    · have := h.1; omega
    · have := h.1; omega
  clear hE
  obtain ⟨k, mm, m1, c1, s1, h19, hO, hrest⟩ := h11
  rcases hrest with ⟨h18, -⟩ | ⟨x, m2, c2, s2, kb, mb, c3, hx1, h18, hx, h20, hB, hc, h6, h6m, h6m2, h6b, h17⟩
  · exact absurd h18 h18n
  have e0 : PEc m0 f o 3 = CSPcK m0 (PAcK m0 f) (XPcK m0 f (o + 2) 3) (XPcK m0 f (o + 1) 3) := if_neg (by decide)
  have hdX := xp_hd hx
  have hdB := (RW_hdK (XP_bdK _ _ _) hB).1
  unfold HDc at hdB
  have hdE : lo + 1 ≤ m1 := by
    rcases hO with ⟨-, -, z1, z2, z3⟩ | ⟨-, hO⟩
    · omega
    · have := RW_xb (PE_bE (m0 := m0) (f := f) (o := o) (kd := 3)) (by rw [e0]; exact hO)
      unfold HDc at this
      omega
  have k5 : K m1 = 5 := kA c (by omega : m1 ≤ T) h6m
  have k38 : K m2 = 38 := kA c (by omega : m2 ≤ T) h6m2
  have fr := XCS_fr hC
  have k8 : K lo = 17 := kA c (by omega : lo ≤ T) h6
  have k11 : K (hi - 1) = 11 := kA c (by omega : hi - 1 ≤ T) h6b
  obtain ⟨e, t, rfl⟩ := PRS_ne hR.1
  refine exd_11 hn (tre fr (by decide) h16) (l_id ?_)
  cases D with
  | zero => exact pp_nl
  | succ D =>
  show PP _ (jm_Cm_compound N (jrc_Cm_fun N D) m (I (n : Nat)) (lsI lst)) _
  refine cmd_11 hn (tre fr (by decide) h16) hC.2 (tre fr (by decide) h17) (by omega) (fun hg => l_id ?_)
  subst hg
  cases D with
  | zero => exact pp_nl
  | succ D =>
  show PP _ (jm_Cm_receive N (jrc_Cm_fun N D) m (I (n : Nat)) (lsI lst)) _
  refine al_wrd c hR (Or.inr (Or.inr (Or.inr (Or.inr k8)))) (fun u xx hX hu => ?_)
  rw [decide_eq_false (by omega), br_fq]
  cases d with
  | zero => exact pp_nr
  | succ d =>
  have hi0 : XTR m0 w0 K T nm Nk fof cvr lst false [] lo lo a a cm cm q q Q Q (e :: t) (e :: t) m w m u := XTR_mv (XTR_rf hC hR hq) hX hu (Nat.le_refl _) (fun j a b => by omega)
  have rn := hX.1.2.2.2.1
  have tl : t.length + 1 ≤ 27 := rn.2.1.2
  have h60 : u.2.2.1 60 t.length = I (e.1.length : Nat) := rn.2.2.1.1.1
  have h65 : u.1 65 = I (t.length : Nat) := rn.1
  have hw := XRS_wp c hX
  have h7 : u.2.2.1 7 lo = I ((12 : Nat) : Int) := by
    have := hw.1.2.2 lo (by omega) (by omega)
    rw [k8] at this
    exact this
  show PP _ _ (bnd (kb_M_block_0 N (krc_M_behind N d) () u (I (lo : Nat))) _)
  unfold kb_M_block_0
  rw [h65, hX.1.2.1.1, i_nt2 (p := t.length) (by omega), i_nt2 (p := lo) (by omega), h60, h7, bnd_ck]
  refine r_ck (fun _ => ?_)
  rw [bnd_lt]
  refine r_lt ?_
  rw [bnd_ck]
  refine r_ck (fun _ => ?_)
  rw [bnd_lt]
  refine r_lt ?_
  rw [show decide (I ((12 : Nat) : Int) = (2 : Int32)) = false from rfl, br_fq, show decide (I ((12 : Nat) : Int) = (3 : Int32)) = false from rfl, br_fq, show decide (I ((12 : Nat) : Int) = (8 : Int32)) = false from rfl, br_fq, show decide (I ((12 : Nat) : Int) = (12 : Int32)) = true from rfl, br_tq]
  unfold kb_M_block_49
  have e69 : u.1 69 + 1 = I ((lo + 1 : Nat) : Int) := by rw [hX.1.2.1.1, i_suc]
  rw [e69, show upI u 69 (I ((lo + 1 : Nat) : Int)) = adv u lo from rfl, bnd_lt, lt_e, show decide (I ((12 : Nat) : Int) = (2 : Int32)) = false from rfl, br_fq, show decide (I ((12 : Nat) : Int) = (3 : Int32)) = false from rfl, br_fq]
  have ht := XTR_ad hi0 (by omega) (by omega)
  unfold kb_M_block_131
  rw [show decide (I ((12 : Nat) : Int) = (12 : Int32)) = true from rfl, br_tq, bnd_as2]
  cases d with
  | zero => exact pp_nr
  | succ d =>
  have hh := x_rc1 (N := N) (D := D) (d := d) (lst := lst) (tk := lo) (hi := hi - 1) c cv cx IE hf hn h18 hx1 h19 (by rw [e0]; exact hO) hx h20 hB (by omega) hr4 k5 k38 k11 (by omega) hC ht.2.2.1.1 hq ⟨by omega, htot.2⟩ (by omega)
  refine pp_rb (pp_mo hh (fun m9 z9 w9 r9 hz9 => ?_))
  rw [bnd_s]
  refine pk_some ?_
  have hz2 := XZ_bh ht hz9
  rw [show hi - 1 + 1 = hi by omega] at hz2
  exact XZ_out hz2 (fun Q2 sc2 h => XRS_I h (by decide) (by decide)) rfl (Nat.le_refl _) (fun j a b => by omega)
theorem hx_al2 (c : CTZ m0 w0 K T nm Nk) (cv : CTV m0 w0 K T) (cx : CVX N m0 w0 K T idc fof cvr) (IM : ∀ f, f ≤ 229 → HXE N m0 w0 K T nm Nk fof cvr f → HXS N m0 w0 K T nm Nk fof cvr f → HXW N m0 w0 K T nm Nk fof cvr f → HXM N m0 w0 K T nm Nk fof cvr (f + 1)) : ∀ f, f ≤ 230 → HX0 N m0 w0 K T nm Nk fof cvr f ∧ HXU N m0 w0 K T nm Nk fof cvr f ∧ HXW N m0 w0 K T nm Nk fof cvr f ∧ HXS N m0 w0 K T nm Nk fof cvr f ∧ HXE N m0 w0 K T nm Nk fof cvr f := hx_all c cv cx (fun f hf IE => x_rv1 c cv cx IE (by omega)) IM
end
end
section
set_option maxRecDepth 100000
def HLp : SCT → SCT → Prop
  | [], [] => True
  | e :: t, e2 :: t2 => (e2.1 = e.1 ∧ e2.2.2 = e.2.2 ∧ e.2.1 <+: e2.2.1) ∧ HLp t t2
  | _, _ => False
def hcn : SCT → Nat → Nat
  | [], _ => 0
  | e :: t, s => if s = t.length then e.2.1.length else hcn t s
def B63 (w : MS) (n : Nat) (h : Nat → Nat) : Prop := ∀ s, s < n → w.2.2.1 63 s = I (h s : Nat) ∧ h s ≤ 60
def F62 (n : Nat) (h : Nat → Nat) (u v : MS) : Prop := ∃ h2 : Nat → Nat, B63 v n h2 ∧ (∀ s, h s ≤ h2 s) ∧ ∀ s k, s < n → k < h s → v.2.2.1 62 (1400 * s + k) = u.2.2.1 62 (1400 * s + k)
def H62 (w v : MS) (sc : SCT) : Prop := ∀ s k, s < sc.length → k < hcn sc s → v.2.2.1 62 (1400 * s + k) = w.2.2.1 62 (1400 * s + k)
def RUQ (w0 : MS) (T : Nat) (Q : Nat → Nat) (sc : SCT) (w : MS) (hi : Nat) (Q2 : Nat → Nat) (sc2 : SCT) (w2 : MS) : Prop := XRS w0 T w2 hi Q2 sc2 ∧ XRF w w2 Q Q2 ∧ HLp sc sc2 ∧ H62 w w2 sc
def RUX (w0 : MS) (T : Nat) (Q : Nat → Nat) (sc : SCT) (w : MS) (hi : Nat) (w2 : MS) : Prop := ∃ (Q2 : Nat → Nat) (sc2 : SCT), RUQ w0 T Q sc w hi Q2 sc2 w2
section
variable {α β : Type} {m0 w0 m w m2 w2 m3 w3 v u w1 : MS} {K nm Nk W W2 : Nat → Nat} {N T D d o b c q r s lo mid hi i j f f2 n k kk p p2 σ tk x xa xb xc M M1 M2 y : Nat} {Q Q2 Q3 : Nat → Nat} {sc sc0 sc2 sc3 t t2 : SCT} {e e2 : List Nat × List Nat × Nat} {g lst own : Bool} {rt v1 v2 v3 v4 v5 t0 xx : Int32} {RR : MS → α → MS → β → Prop} {RX : MS → α → MS → Int32 → Prop} {A' : Option (MS × α)} {S : SG_M_behind} {QU : MS → β → Prop} {X : Option (MS × β)} {ff : Nat → Int32}
theorem rv_pk (h : PP (fun (_ : MS) (_ : Unit) w r => QU w r) (some (u, ())) X) : PK QU X := fun w r e => h u () w r rfl e
theorem HLp_rf : ∀ {sc : SCT}, HLp sc sc
  | [] => trivial
  | _ :: _ => ⟨⟨rfl, rfl, List.prefix_rfl⟩, HLp_rf⟩
theorem HLp_tr : ∀ {a b c : SCT}, HLp a b → HLp b c → HLp a c
  | [], [], [], _, _ => trivial
  | [], [], _ :: _, _, h => h.elim
  | [], _ :: _, _, h, _ => h.elim
  | _ :: _, [], _, h, _ => h.elim
  | _ :: _, _ :: _, [], _, h => h.elim
  | _ :: _, _ :: _, _ :: _, h, k => ⟨⟨k.1.1.trans h.1.1, k.1.2.1.trans h.1.2.1, h.1.2.2.trans k.1.2.2⟩, HLp_tr h.2 k.2⟩
theorem HLp_hld : ∀ {sc : SCT}, HLp sc (hld x sc)
  | [] => trivial
  | e :: t => by
    unfold hld
    split
    · exact HLp_rf
    · split
      · refine ⟨⟨rfl, rfl, ?_⟩, HLp_hld⟩
        show e.2.1 <+: (if e.2.1.length < 60 then e.2.1 ++ [x] else e.2.1)
        split
        · exact List.prefix_append _ _
        · exact List.prefix_rfl
      · exact HLp_rf
theorem HLp_len : ∀ {a b : SCT}, HLp a b → b.length = a.length
  | [], [], _ => rfl
  | [], _ :: _, h => h.elim
  | _ :: _, [], h => h.elim
  | _ :: t, _ :: t2, h => congrArg Nat.succ (HLp_len h.2)
theorem HLp_hcn : ∀ {a b : SCT}, HLp a b → ∀ s, hcn a s ≤ hcn b s
  | [], [], _, _ => Nat.le_refl _
  | [], _ :: _, h, _ => h.elim
  | _ :: _, [], h, _ => h.elim
  | e :: t, e2 :: t2, h, s => by
    have hl := HLp_len h.2
    show (if s = t.length then e.2.1.length else hcn t s) ≤ (if s = t2.length then e2.2.1.length else hcn t2 s)
    rw [hl]
    by_cases z : s = t.length
    · rw [if_pos z, if_pos z]; exact h.1.2.2.length_le
    · rw [if_neg z, if_neg z]; exact HLp_hcn h.2 s
theorem H62_tr (h : H62 w v sc) (k : H62 v u sc2) (hl : HLp sc sc2) : H62 w u sc := fun s j h1 h2 => (k s j (by rw [HLp_len hl]; exact h1) (Nat.lt_of_lt_of_le h2 (HLp_hcn hl s))).trans (h s j h1 h2)
theorem H62_e (h : H62 w v sc) (e : u.2.2.1 62 = v.2.2.1 62) : H62 w u sc := fun s j h1 h2 => by rw [e]; exact h s j h1 h2
theorem H62_rf : H62 w w sc := fun _ _ _ _ => rfl
theorem hcn_B : ∀ {sc : SCT} {n : Nat}, SOK sc → RNl w sc → sc.length = n → B63 w n (hcn sc)
  | [], n, _, _, hl => fun s hs => by
    have : n = 0 := hl.symm
    omega
  | e :: t, n, ok, h, hl => fun s hs => by
    have hl : t.length + 1 = n := hl
    show w.2.2.1 63 s = I ((if s = t.length then e.2.1.length else hcn t s : Nat) : Int) ∧ (if s = t.length then e.2.1.length else hcn t s) ≤ 60
    by_cases z : s = t.length
    · rw [if_pos z, z]
      exact ⟨h.1.2.2.1, ok.1.2.2.1⟩
    · rw [if_neg z]
      exact hcn_B ok.2 h.2 rfl s (by omega)
theorem f62_lp {S : SG_M_found} {xf : Int32} (hn : n ≤ 27) (hS : ∀ (u : MS) (s : Nat) (h : Nat → Nat), B63 u n h → s < n → PK (fun v _ => F62 n h u v) (S u (I (s : Nat)) xf)) : ∀ (M : Nat) (u : MS) (s : Nat) (h : Nat → Nat) (v4 : Int32), B63 u n h → s < n → PK (fun v _ => F62 n h u v) (gg_M_found N S M u (I (s : Nat)) xf v4)
  | 0, _, _, _, _, _, _ => pk_none
  | M + 1, u, s, h, v4, hB, hs => by
    show PK _ (fb_M_found_17 N S (gg_M_found N S M) u (I (s : Nat)) xf v4)
    have rf : F62 n h u u := ⟨h, hB, fun _ => Nat.le_refl _, fun _ _ _ _ => rfl⟩
    unfold fb_M_found_17
    refine pk_ck (fun _ => pk_br (fun _ => pk_br (fun _ => pk_some rf) (fun z => ?_)) (fun _ => pk_ck (fun _ => pk_br (fun _ => pk_some rf) (fun _ => f62_lp hn hS M u s h _ hB hs))))
    have z := of_decide_eq_false z
    have s0 : s ≠ 0 := fun y => z (by rw [y]; rfl)
    rw [show I (s : Nat) - 1 = I ((s - 1 : Nat) : Int) by rw [lit1q, I_sub]; congr 1; omega]
    refine pk_bnd (pk_mo (hS u (s - 1) h hB (by omega)) (fun u1 r1 hz => ?_))
    obtain ⟨h2, b2, l2, f2⟩ := hz
    refine pk_br (fun _ => pk_some ⟨h2, b2, l2, f2⟩) (fun _ => pk_ck (fun _ => ?_))
    obtain ⟨c1, c2⟩ := b2 s hs
    rw [i_nt2 (p := s) (by omega), c1, show (60 : Int32) = I 60 from rfl, decL (by omega) (by omega) (by omega) (by omega)]
    refine pk_br (fun y => ?_) (fun _ => pk_some ⟨h2, b2, l2, f2⟩)
    have y := of_decide_eq_true y
    have h60 : h2 s < 60 := by omega
    have e1 : (1400 : Int32) * I (s : Nat) + I (h2 s : Nat) = I ((1400 * s + h2 s : Nat) : Int) := by
      rw [show (1400 : Int32) = I 1400 from rfl, I_mul, I_add]
      congr 1
    have e3 : ∀ g : Nat → Int32, (upA u1 61 g).2.2.1 63 s = I (h2 s : Nat) := fun g => by rw [upA_no (by decide)]; exact c1
    have e4 : ∀ g g2 : Nat → Int32, (upA (upA u1 61 g) 62 g2).2.2.1 63 s = I (h2 s : Nat) := fun g g2 => by rw [upA_no (by decide)]; exact e3 g
    refine pk_ck (fun _ => pk_ck (fun _ => pk_ltq (pk_ck (fun _ => pk_ck (fun _ => pk_ltq (pk_ck (fun _ => pk_ck (fun _ => pk_ltq (pk_ck (fun _ => pk_some ?_)))))))))) 
    rw [e1, i_nt2 (p := 1400 * s + h2 s) (by omega), e3, e1, i_nt2 (p := 1400 * s + h2 s) (by omega), e4, i_suc]
    refine ⟨fun j => if j = s then h2 s + 1 else h2 j, fun j hj => ?_, fun j => ?_, fun j k hj hk => ?_⟩
    · show (upA _ 63 _).2.2.1 63 j = I ((if j = s then h2 s + 1 else h2 j : Nat) : Int) ∧ (if j = s then h2 s + 1 else h2 j) ≤ 60
      rw [upA_at]
      by_cases q : j = s
      · rw [if_pos q, q, upd_at]; exact ⟨rfl, by omega⟩
      · rw [if_neg q, upd_no q, upA_no (by decide), upA_no (by decide)]
        exact b2 j hj
    · show h j ≤ if j = s then h2 s + 1 else h2 j
      by_cases q : j = s
      · rw [if_pos q, q]; have := l2 s; omega
      · rw [if_neg q]; exact l2 j
    · rw [upA_no (by decide), upA_at, upA_no (by decide)]
      have lj := l2 j
      have bj := (b2 j hj).2
      rw [upd_no (fun q => by
        by_cases qq : j = s
        · rw [qq] at q hk lj; omega
        · omega)]
      exact f2 j k hj hk
theorem f62_d {xf : Int32} (hn : n ≤ 27) : ∀ (d : Nat) (u : MS) (s : Nat) (h : Nat → Nat), B63 u n h → s < n → PK (fun v _ => F62 n h u v) (rc_M_found N d u (I (s : Nat)) xf)
  | 0, _, _, _, _, _ => pk_none
  | d + 1, u, s, h, hB, hs => by
    show PK _ (fm_M_found N (rc_M_found N d) u (I (s : Nat)) xf)
    unfold fm_M_found fb_M_found_0
    have bi : PK (fun v (_ : Int32) => v = u) (fm_M_boundIn N u (I (s : Nat)) xf) := by
      unfold fm_M_boundIn fb_M_boundIn_0
      have lp : ∀ (M : Nat) (k : Int32), PK (fun v (_ : Int32) => v = u) (gg_M_boundIn N M u (I (s : Nat)) xf k) := fun M => by
        induction M with
        | zero => exact fun _ => pk_none
        | succ M ih =>
          intro k
          show PK _ (fb_M_boundIn_2 N (gg_M_boundIn N M) u (I (s : Nat)) xf k)
          unfold fb_M_boundIn_2
          exact pk_ck (fun _ => pk_br (fun _ => pk_some rfl) (fun _ => pk_ck (fun _ => pk_br (fun _ => pk_some rfl) (fun _ => ih _))))
      exact lp N _
    refine pk_bnd (pk_mo bi (fun v r q => ?_))
    subst q
    exact pk_br (fun _ => f62_lp hn (f62_d hn d) N v s h _ hB hs) (fun _ => pk_some ⟨h, hB, fun _ => Nat.le_refl _, fun _ _ _ _ => rfl⟩)
theorem RUQ_rf (h : XRS w0 T w p Q sc) : RUQ w0 T Q sc w p Q sc w := ⟨h, XFR_rf, HLp_rf, H62_rf⟩
theorem RUQ_tr (h : RUQ w0 T Q sc w p Q2 sc2 w2) (k : RUQ w0 T Q2 sc2 w2 hi Q3 sc3 w3) : RUQ w0 T Q sc w hi Q3 sc3 w3 := ⟨k.1, XFR_tr h.2.1 k.2.1, HLp_tr h.2.2.1 k.2.2.1, H62_tr h.2.2.2 k.2.2.2 h.2.2.1⟩
theorem RUQ_ad (h : RUQ w0 T Q sc w p Q2 sc2 w2) (hp : p < T) : RUQ w0 T Q sc w (p + 1) Q2 sc2 (adv w2 p) := ⟨XRS_ad h.1 hp, ⟨QRR_e h.2.1.1 rfl rfl, h.2.1.2⟩, h.2.2.1, H62_e h.2.2.2 rfl⟩
theorem XRS_A31 (h : XRS w0 T w p Q sc) (hk : 23 ≤ k ∧ k ≤ 31) : XRS w0 T (upA w k ff) p Q sc := ⟨PRS_x h.1 (fun _ _ => rfl) (fun j hj => upA_no (by omega)) h.1.2.1.1, h.2⟩
theorem RUQ_nod (h : RUQ w0 T Q sc w p Q2 sc2 w2) (hN : NOD w2 v (Q2 32)) (h69 : v.1 69 = I (hi : Nat)) (hh : hi ≤ T) (h16 : Q2 32 < 16000) : RUQ w0 T Q sc w hi (qst Q2 32 (Q2 32 + 1)) sc2 v :=
  RUQ_tr h ⟨XRS_n h.1 hN.1 (fun k hk => funext (fun j => hN.2.2.1 k j (by omega))) h69 hh hN.2.1 (by omega), ⟨QRR_N hN (Nat.le_refl _), QLE_st QLE_rf (by omega), qst_no (by decide), qst_no (by decide), qst_no (by decide)⟩, HLp_rf, fun s j _ _ => hN.2.2.1 62 _ (by omega)⟩
theorem al_nmx (c : CTZ m0 w0 K T nm Nk) (hR : XRS w0 T w lo Q sc) (hk : K lo = 3) (hh : ∀ v rt, lo < T → RUX w0 T Q sc w (lo + 1) v → PP RX A' (some (v, rt))) : PP RX A' (km_M_alone N S w (I (lo : Nat))) := by
  have hw := XRS_wp c hR
  have hl : lo < T := c.2.1.1.lt hR.1.2.1.2 (by omega) (by omega)
  have t4 := c.2.1.1.1
  obtain ⟨-, c7, cx, cu⟩ := c.2.2.2 lo hl hk
  obtain ⟨a, b, -⟩ := tkd_6 c hR
  obtain ⟨n1, n2⟩ := XRS_q hR
  have s4 : decide (w.2.2.1 6 lo = 4) = decide (K lo = 1) := srt_dc hw srK_4
  have s1 : decide (w.2.2.1 6 lo = 1) = decide (K lo = 2) := srt_dc hw srK_1
  have s5 : decide (w.2.2.1 6 lo = 5) = decide (K lo = 4) := srt_dc hw srK_5
  have s2 : decide (w.2.2.1 6 lo = 2) = decide (K lo = 3) := srt_dc hw srK_2
  unfold km_M_alone kb_M_alone_0
  rw [b, s4, s1, s5, s2]
  refine r_ck (fun _ => ?_)
  rw [decide_eq_false (by omega), br_fq]
  refine r_ck (fun _ => ?_)
  rw [decide_eq_false (by omega), br_fq]
  refine r_ck (fun _ => ?_)
  rw [decide_eq_false (by omega), br_fq]
  refine r_ck (fun _ => ?_)
  rw [decide_eq_true hk, br_tq]
  refine r_nod n1 n2 rfl (nsh (by omega)) (fun h16 => ?_)
  have d0 : NOD w (nwD w (Q 32) 3 (I (lo : Nat))) (Q 32) := NOD_0 n1
  have d2 : (nwD w (Q 32) 3 (I (lo : Nat))).1 69 = I (lo : Nat) := by rw [nwD_i (by decide)]; exact hR.1.2.1.1
  have d4 : (nwD w (Q 32) 3 (I (lo : Nat))).2.2.1 7 lo = I (Nk lo : Nat) := by rw [nwD_r (by decide), XRS_7 hR]; exact c7
  have d6 := RUQ_nod (RUQ_rf hR) d0 d2 hR.1.2.1.2 h16
  generalize nwD w (Q 32) 3 (I (lo : Nat)) = u at d0 d2 d4 d6
  have f213 : ∀ (y : MS) (sc2 : SCT) (t0 : Int32), RUQ w0 T Q sc w lo (qst Q 32 (Q 32 + 1)) sc2 y → PP RX A' (kb_M_alone_213 N S () y (I (Q 32 : Nat)) t0) := fun y sc2 t0 hy => by
    unfold kb_M_alone_213 kb_M_alone_361
    rw [i_nt2 (p := Q 32) (by omega)]
    refine r_ck (fun _ => r_lt ?_)
    have y1 : RUQ w0 T Q sc w lo (qst Q 32 (Q 32 + 1)) sc2 (upA y 25 (upd (y.2.2.1 25) (Q 32) t0)) := ⟨XRS_A31 hy.1 (by decide), ⟨QRR_A hy.2.1.1 (by decide) (Nat.le_refl _), hy.2.1.2⟩, hy.2.2.1, H62_e hy.2.2.2 (upA_no (by decide))⟩
    have e69 : (upA y 25 (upd (y.2.2.1 25) (Q 32) t0)).1 69 + 1 = I ((lo + 1 : Nat) : Int) := by rw [y1.1.1.2.1.1, i_suc]
    rw [e69]
    exact r_lt (hh _ _ hl ⟨_, _, RUQ_ad y1 hl⟩)
  have f201 : ∀ (y : MS) (sc2 : SCT) (t0 : Int32), RUQ w0 T Q sc w lo (qst Q 32 (Q 32 + 1)) sc2 y → PP RX A' (kb_M_alone_201 N S () y (I (lo : Nat)) (I (Q 32 : Nat)) t0) := fun y sc2 t0 hy => by
    unfold kb_M_alone_201
    exact r_br (fun _ => r_rul (fun v hv => f213 v sc2 t0 ⟨RUL_x hv hy.1, ⟨QRR_e hy.2.1.1 (by rw [hv.2]) (by rw [hv.2]), hy.2.1.2⟩, hy.2.2.1, H62_e hy.2.2.2 (by rw [hv.2])⟩)) (fun _ => f213 y sc2 t0 hy)
  rw [d2]
  cases hx : fm_M_isUnderscore N u (I (lo : Nat)) with
  | none => exact pp_nr
  | some z =>
    obtain ⟨z1, z2⟩ := z
    obtain ⟨rfl, q⟩ := und_p (N := N) cx (by omega) d4 z1 z2 hx
    rw [bnd_s]
    refine r_br (fun _ => ?_) (fun _ => f201 _ _ _ d6)
    have hn := d6.1.1.2.2.2.1
    obtain ⟨e, t, rfl⟩ := PRS_ne hR.1
    have h65 : z1.1 65 = I (t.length : Nat) := hn.1
    rw [d2, i_nt (p := lo) (by omega), d4, h65]
    refine r_ck (fun _ => ?_)
    cases hy : fr_M_found N z1 (I (t.length : Nat)) (I (Nk lo : Nat)) with
    | none => exact pp_nr
    | some y =>
      obtain ⟨y1, y2⟩ := y
      have fd := fnx_d (N := N) cx 30 (e :: t) z1 hn.2.2.1 d6.1.1.2.2.2.2.1 hn.2.2.2 (fun z => by cases z) hn.2.1.2 y1 y2 hy
      have f9 := yv9_fr_M_found (u0 := z1) Kv9_rf y1 y2 hy
      rw [bnd_s]
      rcases fd with ⟨e1, rfl, e3⟩ | ⟨e1, e2, e3, e4, e5, e6, i, e7, e8⟩
      · exact f201 _ _ _ d6
      refine f201 y1 (hld (Nk lo) (e :: t)) y2 ?_
      have rn : RNs y1 (hld (Nk lo) (e :: t)) := ⟨by rw [hld_len, e3.1 65]; exact hn.1, by rw [hld_len]; exact hn.2.1, e5, hld_ok hn.2.2.2⟩
      have D6 := d6.1.1
      have h62 : H62 w y1 (e :: t) := by
        obtain ⟨h2, -, -, f2⟩ := f62_d (N := N) (n := t.length + 1) hn.2.1.2 30 z1 t.length (hcn (e :: t)) (hcn_B (sc := e :: t) hn.2.2.2 hn.2.2.1 rfl) (by omega) y1 y2 hy
        exact fun s j h1 h3 => (f2 s j h1 h3).trans (d6.2.2.2 s j h1 h3)
      refine ⟨⟨⟨⟨fun k hk => by rw [e3.1]; exact D6.1.1 k hk, fun k hk => ?_⟩, ⟨by rw [e3.1]; exact D6.2.1.1, D6.2.1.2⟩, by rw [e3.1]; exact D6.2.2.1, rn, e6, by rw [e3.1]; exact D6.2.2.2.2.2⟩, fun k hk => by rw [e3.1]; exact d6.1.2 k hk⟩, ⟨?_, d6.2.1.2⟩, HLp_hld, h62⟩
      · have : k < 23 := by unfold TRW at hk; simp only [List.mem_cons, List.not_mem_nil, or_false] at hk; omega
        rw [e3.2 k (by omega)]; exact D6.1.2 k hk
      · obtain ⟨q1, q2, q3⟩ := d6.2.1.1
        have gr : ∀ k, grp k ≠ 0 → k < 59 ∨ 64 < k := fun k hk => by
          unfold grp at hk
          by_cases z : 59 ≤ k ∧ k ≤ 64
          · exfalso
            rw [if_neg (by omega), if_neg (by omega), if_neg (by omega), if_neg (by omega), if_neg (by omega), if_neg (by omega), if_neg (by omega), if_neg (by omega)] at hk
            exact hk rfl
          · omega
        refine ⟨fun k a1 a2 a3 => by rw [e3.2 k (by omega)]; exact q1 k a1 a2 a3, fun k q a1 a2 => by rw [e3.2 k (by have := gr k a1; omega)]; exact q2 k q a1 a2, fun k q a1 => by rw [f9.1]; exact q3 k q a1⟩
theorem al_lfx (c : CTZ m0 w0 K T nm Nk) (hR : XRS w0 T w lo Q sc) (hk : 1 ≤ K lo ∧ K lo ≤ 4) : PK (fun v _ => lo < T ∧ RUX w0 T Q sc w (lo + 1) v) (km_M_alone N S w (I (lo : Nat))) := by
  refine rv_pk (u := w0) ?_
  by_cases h3 : K lo = 3
  · exact al_nmx c hR h3 (fun v rt h1 h2 => pp_end ⟨h1, h2⟩)
  by_cases h4 : K lo = 4
  · exact al_str c hR h4 (fun v h16 hl hN h69 _ _ _ => pp_end ⟨hl, _, _, RUQ_nod (RUQ_rf hR) hN h69 hl h16⟩)
  · exact al_num c hR (by omega) (fun v h16 hl hN h69 _ _ _ _ => pp_end ⟨hl, _, _, RUQ_nod (RUQ_rf hR) hN h69 hl h16⟩)
def SVd (w v : MS) (Q : Nat → Nat) (L : Nat) : Prop := (Q 75 + 8 ≤ 400 ∧ Q 77 + 54 ≤ 3300) ∧ SVC w v (Q 75) (Q 77) L ∧ v.2.2.1 74 (Q 75 + 1) = w.1 39 ∧ v.2.2.1 74 (Q 75 + 2) = w.1 46 ∧ v.2.2.1 74 (Q 75 + 3) = w.1 56 ∧ v.2.2.1 74 (Q 75 + 4) = w.1 58 ∧ v.2.2.1 74 (Q 75 + 5) = w.1 71
theorem sv_y {F : MS → Unit → Option (MS × β)} {R : MS → α → MS → β → Prop} {X : Option (MS × α)} (hR : XRS w0 T w p Q sc) (h : ∀ v, XRS w0 T v p (QSV Q) sc → QRR Q w v → (∀ k, k ≠ 74 → k ≠ 76 → v.2.2.1 k = w.2.2.1 k) → (v.2.2.2 = w.2.2.2) → (∀ k, k ≠ 75 → k ≠ 77 → v.1 k = w.1 k) → SVd w v Q sc.length → PP R X (F v ())) : PP R X (bnd (fm_M_save N w) F) := by
  intro m9 z9 w9 r9 x1 x2
  have q75 := hR.2 75 (by decide)
  have q77 := hR.2 77 (by decide)
  refine (pk_bnd (Q := fun w9 r9 => R m9 z9 w9 r9) (fun v z hv => ?_)) w9 r9 x2
  have a1 := save_p (N := N) hR.1.2.2.2.1 v z hv
  have k1 := (yv9_fm_M_save (u0 := w) Kv9_rf v z hv).1
  obtain ⟨a, b, ⟨s1, s2, s3, s4⟩, ⟨s5, s6⟩, s7, s8, s9, s10, s11⟩ := a1
  have ea : a = Q 75 := by
    have := (I_eq (x := ((a : Nat) : Int)) (y := ((Q 75 : Nat) : Int)) (by omega) (by omega) (by omega) (by omega)).mp (s1.symm.trans q75.1)
    omega
  have eb : b = Q 77 := by
    have := (I_eq (x := ((b : Nat) : Int)) (y := ((Q 77 : Nat) : Int)) (by omega) (by omega) (by omega) (by omega)).mp (s2.symm.trans q77.1)
    omega
  subst ea
  subst eb
  have b1 := sv2 (N := N) q75.1 (by omega) v z hv
  refine fun w9 r9 x2 => h v ⟨?_, fun k hk => ?_⟩ ⟨fun k z1 z2 z3 => ?_, fun k n z1 z2 => ?_, fun k n _ => by rw [k1]⟩ s8 k1 s7 ⟨⟨s3, s4⟩, s11, b1⟩ m9 z9 w9 r9 x1 x2
  · rw [QSV_n (by decide) (by decide)]
    exact PRS_x hR.1 (fun k hk => s7 k (by rintro rfl; revert hk; decide) (by rintro rfl; revert hk; decide)) (fun k hk => s8 k (by omega) (by omega)) (by rw [s7 69 (by decide) (by decide)]; exact hR.1.2.1.1)
  · by_cases h1 : k = 75
    · rw [h1, QSV_75]; exact ⟨s5, by omega⟩
    by_cases h2 : k = 77
    · rw [h2, QSV_77]; exact ⟨s6, by omega⟩
    rw [QSV_n h1 h2, s7 k h1 h2]; exact hR.2 k hk
  · exact s8 k (fun e => by rw [e] at z1; exact absurd z1 (by decide)) (fun e => by rw [e] at z1; exact absurd z1 (by decide))
  · by_cases h1 : k = 74
    · subst h1; exact s9 n z2
    by_cases h2 : k = 76
    · subst h2; exact s10 n z2
    rw [s8 k h1 h2]
end
end
section
set_option maxRecDepth 100000
section
variable {α β : Type} {m0 w0 m w m2 w2 m3 w3 v u w1 : MS} {K nm Nk W W2 : Nat → Nat} {N T D d o b c q r s lo mid hi i j f f2 n k kk p p2 σ tk x xa xb xc M M1 M2 y : Nat} {Q Q2 Q3 : Nat → Nat} {sc sc0 sc2 sc3 t t2 : SCT} {e e2 : List Nat × List Nat × Nat} {g lst own : Bool} {rt v1 v2 v3 v4 v5 t0 xx : Int32} {RR : MS → α → MS → β → Prop} {RX : MS → α → MS → Int32 → Prop} {A' : Option (MS × α)} {m1 lv : Nat} {L L1 L2 : List Nat} {S : SG_M_behind}
theorem w2_sgn2 {S : SG_M_behind} {v1 : Int32} (c : CTZ m0 w0 K T nm Nk) (hR : XRS w0 T w lo Q sc) (hp : Q 83 = p) (hk : K lo = 14 ∨ K lo = 34) (h : ∀ M u, p < 3000 → XRS w0 T u (lo + 1) (qst Q 83 (p + 1)) sc → QRR Q w u → u.2.2.1 62 = w.2.2.1 62 → u.2.2.1 79 p = 7 → u.2.2.1 80 p = I (lo : Nat) → PP RX A' ((kg_M_worked N S M).2 u v1)) : PP RX A' ((kg_M_worked N S M).2 w v1) := by
  have t4 := c.2.1.1.1
  have hl : lo < T := c.2.1.1.lt hR.1.2.1.2 (by omega) (by omega)
  have h83 : w.1 83 = I (p : Nat) ∧ p ≤ 24000 := by have := hR.2 83 (by decide); rw [hp] at this; exact this
  cases M with
  | zero => exact pp_nr
  | succ M =>
    have hw := XRS_wp c hR
    have e45 : PP RX A' (kb_M_worked_45 N S (kg_M_worked N S M) w v1) := by
      unfold kb_M_worked_45 kb_M_worked_102
      rw [h83.1, i_nt2 (p := p) (by omega)]
      refine r_ck (fun zp => r_lt ?_)
      have hp3 : p < 3000 := by
        have := (I_inb (n := ln 79) (x := ((p : Nat) : Int)) (by omega) (by omega)).mp zp
        have l79 : ln 79 = 3000 := rfl
        omega
      have e1 : ∀ gg, (upA w 79 gg).1 83 = I (p : Nat) := fun _ => h83.1
      have e2 : ∀ gg, (upA w 79 gg).1 69 = I (lo : Nat) := fun _ => hR.1.2.1.1
      rw [e1, e2, i_nt2 (p := p) (by omega), nsh (by omega)]
      refine r_ck (fun _ => r_lt (r_lt (r_lt ?_)))
      have e3 : (upA (upA w 79 (upd (w.2.2.1 79) p (vp_nar .byte 7))) 80 (upd ((upA w 79 (upd (w.2.2.1 79) p (vp_nar .byte 7))).2.2.1 80) p (I (lo : Nat)))).1 83 + 1 = I ((p + 1 : Nat) : Int) := by
        show w.1 83 + 1 = _
        rw [h83.1, i_suc]
      rw [e3]
      have hQ : QRR Q w (upI (upA (upA w 79 (upd (w.2.2.1 79) p (vp_nar .byte 7))) 80 (upd ((upA w 79 (upd (w.2.2.1 79) p (vp_nar .byte 7))).2.2.1 80) p (I (lo : Nat)))) 83 (I ((p + 1 : Nat) : Int))) := QRR_I (QRR_A (QRR_A QRR_rf (by decide) (by show Q 83 ≤ p; omega)) (by decide) (by show Q 83 ≤ p; omega))
      have r62 : (upI (upA (upA w 79 (upd (w.2.2.1 79) p (vp_nar .byte 7))) 80 (upd ((upA w 79 (upd (w.2.2.1 79) p (vp_nar .byte 7))).2.2.1 80) p (I (lo : Nat)))) 83 (I ((p + 1 : Nat) : Int))).2.2.1 62 = w.2.2.1 62 := by
        show (upA (upA w 79 _) 80 _).2.2.1 62 = _
        rw [upA_no (by decide), upA_no (by decide)]
      have r79 : (upI (upA (upA w 79 (upd (w.2.2.1 79) p (vp_nar .byte 7))) 80 (upd ((upA w 79 (upd (w.2.2.1 79) p (vp_nar .byte 7))).2.2.1 80) p (I (lo : Nat)))) 83 (I ((p + 1 : Nat) : Int))).2.2.1 79 p = 7 := by
        show (upA (upA w 79 _) 80 _).2.2.1 79 p = 7
        rw [upA_no (by decide), upA_at, upd_at]; rfl
      have r80 : (upI (upA (upA w 79 (upd (w.2.2.1 79) p (vp_nar .byte 7))) 80 (upd ((upA w 79 (upd (w.2.2.1 79) p (vp_nar .byte 7))).2.2.1 80) p (I (lo : Nat)))) 83 (I ((p + 1 : Nat) : Int))).2.2.1 80 p = I (lo : Nat) := by
        show (upA (upA w 79 _) 80 _).2.2.1 80 p = _
        rw [upA_at, upd_at]
      have hX : XRS w0 T (upI (upA (upA w 79 (upd (w.2.2.1 79) p (vp_nar .byte 7))) 80 (upd ((upA w 79 (upd (w.2.2.1 79) p (vp_nar .byte 7))).2.2.1 80) p (I (lo : Nat)))) 83 (I ((p + 1 : Nat) : Int))) lo (qst Q 83 (p + 1)) sc := by
        refine ⟨?_, QMK_st (w := upA (upA w 79 (upd (w.2.2.1 79) p (vp_nar .byte 7))) 80 (upd ((upA w 79 (upd (w.2.2.1 79) p (vp_nar .byte 7))).2.2.1 80) p (I (lo : Nat)))) hR.2 (by omega)⟩
        rw [qst_no (by decide)]
        exact PRS_x hR.1 (fun k hk => upI_ne (by rintro rfl; revert hk; decide)) (fun k hk => by
          show (upA (upA w 79 _) 80 _).2.2.1 k = _
          rw [upA_no (by omega), upA_no (by omega)]) (by rw [upI_ne (by decide)]; exact hR.1.2.1.1)
      generalize upI (upA (upA w 79 (upd (w.2.2.1 79) p (vp_nar .byte 7))) 80 (upd ((upA w 79 (upd (w.2.2.1 79) p (vp_nar .byte 7))).2.2.1 80) p (I (lo : Nat)))) 83 (I ((p + 1 : Nat) : Int)) = V at hQ r62 r79 r80 hX
      have e4 : V.1 69 + 1 = I ((lo + 1 : Nat) : Int) := by rw [hX.1.2.1.1, i_suc]
      rw [e4]
      have hA := XRS_ad hX hl
      rw [show upI V 69 (I ((lo + 1 : Nat) : Int)) = adv V lo from rfl, bU_m (XRS_wp c hA), bnd_s]
      cases bUK (K (lo + 1)) with
      | false =>
        rw [show decide (b2c false = 0) = true from rfl, br_tq]
        exact pp_nr
      | true =>
        rw [show decide (b2c true = 0) = false from rfl, br_fq]
        refine r_opens ?_
        exact h M _ hp3 (XRS_I (k := 70) hA (by decide) (by decide)) hQ r62 r79 r80
    show PP RX A' (kb_M_worked_20 N S (kg_M_worked N S M) w v1)
    unfold kb_M_worked_20
    rw [decide_eq_true hR.1.2.2.1, br_tq, isS_e (k := 34) (s := 19) hw (by decide) rfl, bnd_s]
    rcases hk with hk | hk
    · rw [if_neg (by omega), show decide ((0 : Int32) = 0) = true from rfl, br_tq, isV_e (k := 14) (s := 9) hw (by decide) rfl, if_pos hk, bnd_s, show decide ((1 : Int32) = 0) = false from rfl, br_fq]
      exact e45
    · rw [if_pos hk, show decide ((1 : Int32) = 0) = false from rfl, br_fq]
      exact e45
theorem ru_prim (c : CTZ m0 w0 K T nm Nk) (hR : XRS w0 T w lo Q sc) (hl : lo < T) (hnc : ¬ (K lo = 2 ∧ K (lo + 1) = 20)) (k20 : K hi ≠ 20) (hA : ∀ d, PK (fun v _ => RUX w0 T Q sc w hi v) (km_M_alone N (krc_M_behind N d) w (I (lo : Nat)))) : PK (fun v _ => RUX w0 T Q sc w hi v) (km_M_primary N (krc_M_behind N d) w) := by
  have t4 := c.2.1.1.1
  have hw := XRS_wp c hR
  have h69 := hR.1.2.1.1
  obtain ⟨-, b1, -⟩ := tkd_6 c hR
  have s1 : decide (w.2.2.1 6 lo = 1) = decide (K lo = 2) := srt_dc hw srK_1
  refine rv_pk (u := w0) ?_
  unfold km_M_primary kb_M_primary_0
  rw [decide_eq_true hR.1.2.2.1, br_tq, b1, s1, h69, i_suc, i_nt (p := lo + 1) (by omega)]
  have e122 : PP (fun (_ : MS) (_ : Unit) v (_ : Int32) => RUX w0 T Q sc w hi v) (some (w0, ())) (kb_M_primary_122 N (krc_M_behind N d) (kg_M_primary N (krc_M_behind N d) N) w (I (lo : Nat))) := by
    unfold kb_M_primary_122
    cases d with
    | zero => exact pp_nr
    | succ d =>
      refine r_bnd (pk_mo (hA d) (fun v rt hz => ?_))
      obtain ⟨Q2, sc2, hX⟩ := hz
      exact prim_end c hX.1 k20 (pp_end ⟨_, _, hX⟩)
  refine r_ck (fun _ => ?_)
  by_cases z : K lo = 2
  · rw [decide_eq_true z, br_tq]
    exact r_opn hw.1 (by omega) (fun y => absurd ⟨z, y⟩ hnc) (fun _ => e122)
  · rw [decide_eq_false z, br_fq]
    exact e122
theorem ru_wk (c : CTZ m0 w0 K T nm Nk) (hR : XRS w0 T w lo Q sc) (k14 : K lo ≠ 14) (k34 : K lo ≠ 34) (hcl : rkK (K hi) = 0) (hP : ∀ d, PK (fun v _ => RUX w0 T Q sc w hi v) (km_M_primary N (krc_M_behind N d) w)) : PK (fun v _ => RUX w0 T Q sc w hi v) (km_M_worked N (krc_M_behind N d) w) := by
  refine rv_pk (u := w0) (wk_0 hR (fun M => w2_prim c hR k14 k34 (fun M => ?_)))
  unfold kb_M_worked_109
  cases d with
  | zero => exact pp_nr
  | succ d =>
  refine r_bnd (pk_mo (hP d) (fun v rt hz => ?_))
  obtain ⟨Q2, sc2, hX⟩ := hz
  show PP _ _ (br (decide (v.1 67 = 0)) (bnd (fm_M_level N v) (fun u15 r15 => kb_M_worked_129 N (krc_M_behind N (d + 1)) (kg_M_worked N (krc_M_behind N (d + 1)) M) u15 (I (Q 83 : Nat)) rt r15)) (kb_M_worked_129 N (krc_M_behind N (d + 1)) (kg_M_worked N (krc_M_behind N (d + 1)) M) v (I (Q 83 : Nat)) rt 0))
  refine wkg_e (XRS_wp c hX.1) hX.1.1.2.2.1 (fun M2 => ?_)
  have e83 : Q2 83 = Q 83 := hX.2.1.2.2.2.2
  have h83 := hX.1.2 83 (by decide)
  rw [e83] at h83
  rw [hcl]
  refine rdc_0 h83.1 h83.2 ?_
  unfold wkG
  rw [if_pos rfl]
  exact pp_end ⟨_, _, hX⟩
theorem ru_neg (c : CTZ m0 w0 K T nm Nk) (hR : XRS w0 T w lo Q sc) (h34 : K lo = 34) (k1 : K (lo + 1) = 1) (hcl : K (lo + 2) ≠ 20 ∧ rkK (K (lo + 2)) = 0) : PK (fun v _ => RUX w0 T Q sc w (lo + 2) v) (km_M_worked N (krc_M_behind N d) w) := by
  have t4 := c.2.1.1.1
  have hlo : lo ≤ T := hR.1.2.1.2
  refine rv_pk (u := w0) (wk_0 hR (fun M => w2_sgn2 c hR rfl (Or.inr h34) (fun M u hp3 hX hQ h62 h79 h80 => ?_)))
  refine w2_prim c hX (by omega) (by omega) (fun M => ?_)
  unfold kb_M_worked_109
  cases d with
  | zero => exact pp_nr
  | succ d =>
  have hl1 : lo + 1 < T := c.2.1.1.lt hX.1.2.1.2 (by omega) (by omega)
  refine r_bnd (pk_mo (ru_prim (d := d) (hi := lo + 2) c hX hl1 (by omega) hcl.1 (fun d => pk_mo (al_lfx c hX (by omega)) (fun v _ h => h.2))) (fun v rt hz => ?_))
  obtain ⟨Q2, sc2, hV⟩ := hz
  show PP _ _ (br (decide (v.1 67 = 0)) (bnd (fm_M_level N v) (fun u15 r15 => kb_M_worked_129 N (krc_M_behind N (d + 1)) (kg_M_worked N (krc_M_behind N (d + 1)) M) u15 (I (Q 83 : Nat)) rt r15)) (kb_M_worked_129 N (krc_M_behind N (d + 1)) (kg_M_worked N (krc_M_behind N (d + 1)) M) v (I (Q 83 : Nat)) rt 0))
  refine wkg_e (XRS_wp c hV.1) hV.1.1.2.2.1 (fun M2 => ?_)
  have q83 : qst Q 83 (Q 83 + 1) 83 = Q 83 + 1 := qst_at
  have e83 : Q2 83 = Q 83 + 1 := by have := hV.2.1.2.2.2.2; rw [q83] at this; exact this
  have h83 := hV.1.2 83 (by decide)
  rw [e83] at h83
  have kp := hV.2.1.1.2.1
  have e79 : v.2.2.1 79 (Q 83) = 7 := by rw [kp 79 (Q 83) (by decide) (by show Q 83 < qst Q 83 (Q 83 + 1) 83; omega)]; exact h79
  have e80 : v.2.2.1 80 (Q 83) = I (lo : Nat) := by rw [kp 80 (Q 83) (by decide) (by show Q 83 < qst Q 83 (Q 83 + 1) 83; omega)]; exact h80
  rw [hcl.2]
  refine redd_7 (tok := lo) (XRS_wp c hV.1).1 hlo hp3 h83.1 (Nat.le_refl _) e79 e80 (by decide) (Or.inr h34) (fun M' xx => ?_)
  rw [if_neg (by omega)]
  have hV1 : XRS w0 T (upI v 83 (I (Q 83 : Nat))) (lo + 2) (qst Q2 83 (Q 83)) sc2 := by
    refine ⟨?_, QMK_st hV.1.2 (by omega)⟩
    rw [qst_no (by decide)]
    exact PRS_x hV.1.1 (fun k hk => upI_ne (by rintro rfl; revert hk; decide)) (fun _ _ => rfl) (by rw [upI_ne (by decide)]; exact hV.1.1.2.1.1)
  have hV2 : RUQ w0 T Q sc w (lo + 2) (qst Q2 83 (Q 83)) sc2 (upI (upI v 83 (I (Q 83 : Nat))) 70 xx) := by
    refine ⟨XRS_I hV1 (by decide) (by decide), ⟨QRR_e (QRR_tr hQ hV.2.1.1 (QLE_st QLE_rf (by omega))) rfl rfl, fun k hk => ?_, ?_, ?_, qst_at⟩, hV.2.2.1, fun s j h1 h2 => (hV.2.2.2 s j h1 h2).trans (congrFun h62 _)⟩
    · by_cases z : k = 83
      · rw [z, qst_at]; exact Nat.le_refl _
      · rw [qst_no z]
        have := hV.2.1.2.1 k hk
        rw [qst_no z] at this
        exact this
    · rw [qst_no (by decide), hV.2.1.2.2.1, qst_no (by decide)]
    · rw [qst_no (by decide), hV.2.1.2.2.2.1, qst_no (by decide)]
  generalize upI (upI v 83 (I (Q 83 : Nat))) 70 xx = V at hV2
  obtain ⟨n1, n2⟩ := XRS_q hV2.1
  refine r_nod n1 n2 rfl (nsh (by omega)) (fun h16 => ?_)
  have hN := RUQ_nod (hi := lo + 2) hV2 (NOD_0 n1 (kd := 8) (tk := I (lo : Nat))) (by rw [nwD_i (by decide)]; exact hV2.1.1.2.1.1) hl1 h16
  have g83 : (nwD V (qst Q2 83 (Q 83) 32) 8 (I (lo : Nat))).1 83 = I (Q 83 : Nat) := by
    have := (hN.1.2 83 (by decide)).1
    exact this.trans (by rw [show qst (qst Q2 83 (Q 83)) 32 (qst Q2 83 (Q 83) 32 + 1) 83 = Q 83 from (qst_no (by decide)).trans qst_at])
  refine rdc_0 g83 (by omega) ?_
  unfold wkG
  rw [if_pos rfl]
  exact pp_end ⟨_, _, hN⟩
end
end
section
set_option maxRecDepth 100000
def HRW (N : Nat) (m0 w0 : MS) (K : Nat → Nat) (T f : Nat) : Prop := ∀ (d n lo hi xa xb q r : Nat) (w : MS) (Q : Nat → Nat) (sc : SCT), PAcK m0 f n lo hi xa xb q r → (K hi ≠ 20 ∧ hi ≤ T ∧ rkK (K hi) = 0) → XRS w0 T w lo Q sc → PK (fun v _ => RUX w0 T Q sc w hi v) (km_M_worked N (krc_M_behind N d) w)
def HRE (N : Nat) (m0 w0 : MS) (K : Nat → Nat) (T f : Nat) : Prop := ∀ (d n lo hi xa xb q r : Nat) (w : MS) (Q : Nat → Nat) (sc : SCT), PAcK m0 f n lo hi xa xb q r → (NEC (K hi) ∧ hi ≤ T) → XRS w0 T w lo Q sc → PK (fun v _ => RUX w0 T Q sc w hi v) ((krc_M_behind N d).2.2.2.2.2.2.2.2.2.2.2.2.2.1 w)
section
variable {α β : Type} {m0 w0 m w m2 w2 m3 w3 v u w1 wS : MS} {K nm Nk W W2 : Nat → Nat} {N T D d o b c q r s lo mid hi i j f f2 n k kk p p2 σ tk x xa xb xc M M1 M2 y : Nat} {Q Q0 Q2 Q3 : Nat → Nat} {sc sc0 sc2 sc3 t t2 : SCT} {e e2 : List Nat × List Nat × Nat} {g lst own : Bool} {rt v1 v2 v3 v4 v5 t0 xx : Int32} {RR : MS → α → MS → Int32 → Prop} {A' : Option (MS × α)} {S : SG_M_behind} {G : MS → Int32 → Int32 → Int32 → Int32 → Int32 → Int32 → Option (MS × Int32)}
theorem RUX_mk (hz : RUX w0 T (QSV Q) sc w1 hi w2) (hQ : QRR Q w w1) (h62 : w1.2.2.1 62 = w.2.2.1 62) {F : MS → Unit → Option (MS × Int32)} (hF : ∀ v, F v () = some (v, rt)) : PK (fun v _ => RUX w0 T Q sc w hi v) (bnd (fm_M_forgetSaved N w2) F) := by
  obtain ⟨Q3, sc3, z1, z2, z3⟩ := hz
  have hm := z2.2.2
  rw [QSV_75, QSV_77, QSV_n (by decide) (by decide)] at hm
  refine fgs_x z1 ⟨hm.1, hm.2.1⟩ (fun v hv hv2 => ?_)
  rw [hF v]
  have e2 : ∀ k, k ≠ 75 → k ≠ 77 → qst (qst Q3 75 (Q 75)) 77 (Q 77) k = Q3 k := fun k h1 h2 => (qst_no h2).trans (qst_no h1)
  refine pk_some ⟨_, sc3, hv, ⟨?_, fun k hk => ?_, (qst_no (by decide)).trans qst_at, qst_at, (e2 83 (by decide) (by decide)).trans hm.2.2⟩, z3.1, fun s j h1 h3 => by
    have := z3.2 s j h1 h3
    rw [h62] at this
    rw [hv2]
    exact this⟩
  · exact QRR_e (QRR_tr hQ z2.1 QSV_le) (by rw [hv2]) (by rw [hv2])
  · by_cases h1 : k = 75
    · rw [h1, qst_no (by decide), qst_at]; exact Nat.le_refl _
    by_cases h2 : k = 77
    · rw [h2, qst_at]; exact Nat.le_refl _
    rw [e2 k h1 h2]
    have := z2.2.1 k hk
    rw [QSV_n h1 h2] at this
    exact this
theorem ru_smp (c : CTZ m0 w0 K T nm Nk) (IW : HRW N m0 w0 K T f) (hE : PAcK m0 f n lo hi xa xb q r) (hcl : NEC (K hi) ∧ hi ≤ T) (hR : XRS w0 T w lo Q sc) : PK (fun v _ => RUX w0 T Q sc w hi v) (km_M_simple N (krc_M_behind N d) w) := by
  refine rv_pk (u := w0) ?_
  unfold km_M_simple kb_M_simple_0
  refine sv_y hR (fun v hX hQ s8 _ _ _ => ?_)
  cases d with
  | zero => exact pp_nr
  | succ d =>
  refine r_bnd (pk_mo (IW d n lo hi xa xb q r v (QSV Q) sc hE ⟨hcl.1.2.1, hcl.2, hcl.1.1⟩ hX) (fun w2 rt hz => ?_))
  have hz' := hz
  obtain ⟨Q2, sc2, hX2, -⟩ := hz'
  unfold kb_M_simple_39 kb_M_simple_97
  rw [decide_eq_true hX2.1.2.2.1, br_tq, isS_e (k := 30) (s := 11) (XRS_wp c hX2) (by decide) rfl, if_neg hcl.1.2.2.1, bnd_s, show decide ((0 : Int32) = 0) = true from rfl, br_tq, decide_eq_true hX2.1.2.2.1, br_tq, isS_e (k := 36) (s := 21) (XRS_wp c hX2) (by decide) rfl, if_neg hcl.1.2.2.2, bnd_s, show decide ((0 : Int32) = 0) = true from rfl, br_tq]
  exact pp_l (RUX_mk hz hQ (s8 62 (by decide) (by decide)) (fun v => rfl))
theorem ru_exp (c : CTZ m0 w0 K T nm Nk) (IW : HRW N m0 w0 K T f) : HRE N m0 w0 K T f := by
  intro d n lo hi xa xb q r w Q sc hE hcl hR
  cases d with
  | zero => exact pk_none
  | succ d =>
  refine rv_pk (u := w0) ?_
  show PP _ _ (km_M_expression N (krc_M_behind N d) w)
  have h9 : K lo ≠ 9 := Kne c hR.1.2.1.2 (by have := pa_beg9 hE; exact this)
  have hR1 := XRS_I (k := 70) (x := w.1 70 + 1) hR (by decide) (by decide)
  have e31 : PP (fun (_ : MS) (_ : Unit) v (_ : Int32) => RUX w0 T Q sc w hi v) (some (w0, ())) (kb_M_expression_31 N (krc_M_behind N d) () w) := by
    unfold kb_M_expression_31
    refine r_opens ?_
    rw [isV_e (k := 9) (s := 4) (XRS_wp c hR1) (by decide) rfl, bnd_s, if_neg h9, show decide ((0 : Int32) = 0) = true from rfl, br_tq]
    cases d with
    | zero => exact pp_nr
    | succ d =>
    refine r_bnd (pk_mo (ru_smp (d := d) c IW hE hcl hR1) (fun v rt hz => ?_))
    unfold kb_M_expression_137
    obtain ⟨Q2, sc2, hX⟩ := hz
    refine r_lt (pp_end ⟨Q2, sc2, XRS_I hX.1 (by decide) (by decide), ⟨QRR_e hX.2.1.1 rfl rfl, hX.2.1.2⟩, hX.2.2.1, H62_e hX.2.2.2 rfl⟩)
  unfold km_M_expression kb_M_expression_0
  rw [decide_eq_true hR.1.2.2.1, br_tq, bU_m (XRS_wp c hR), bnd_s, isV_e (k := 9) (s := 4) (XRS_wp c hR) (by decide) rfl, bnd_s, if_neg h9]
  cases bUK (K lo) with
  | false =>
    rw [show decide (b2c false = 0) = true from rfl, br_tq, show decide ((0 : Int32) = 0) = true from rfl, br_tq]
    exact pp_nr
  | true =>
    rw [show decide (b2c true = 0) = false from rfl, br_fq]
    exact e31
theorem ru_125 (c : CTZ m0 w0 K T nm Nk) (h : RUQ w0 T Q0 sc0 wS mid Q2 sc2 w2) (hk : (K mid = 23 ∧ v3 = 3) ∨ (K mid = 25 ∧ v3 = 5)) (hlo : lo ≤ 4000) : PP (fun (_ : MS) (_ : α) v (_ : Int32) => RUX w0 T Q0 sc0 wS (mid + 1) v) A' (kb_M_row_125 N S G w2 (I (lo : Nat)) v2 v3 v4 v5) := by
  have hR := h.1
  have t4 := c.2.1.1.1
  have hl : mid < T := c.2.1.1.lt hR.1.2.1.2 (by omega) (by omega)
  have hA := RUQ_ad h hl
  obtain ⟨n1, n2⟩ := XRS_q hA.1
  have e140 : ∀ t1 : Int32, t1 = 4 ∨ t1 = 5 → PP (fun (_ : MS) (_ : α) v (_ : Int32) => RUX w0 T Q0 sc0 wS (mid + 1) v) A' (kb_M_row_140 N S G (adv w2 mid) (I (lo : Nat)) v4 v5 t1) := fun t1 ht => by
    unfold kb_M_row_140
    refine r_n2 n1 n2 (by rcases ht with rfl | rfl <;> rfl) (by omega) (fun v h16 hN h69 _ _ _ _ _ _ _ _ => ?_)
    exact pp_r (fun _ _ _ => ⟨_, _, RUQ_nod hA hN (h69.trans upI_at) hl h16⟩)
  have e2 : PP (fun (_ : MS) (_ : α) v (_ : Int32) => RUX w0 T Q0 sc0 wS (mid + 1) v) A' (br (decide (v2 = 0)) (kb_M_row_140 N S G (adv w2 mid) (I (lo : Nat)) v4 v5 5) (kb_M_row_140 N S G (adv w2 mid) (I (lo : Nat)) v4 v5 4)) := r_br (fun _ => e140 5 (Or.inr rfl)) (fun _ => e140 4 (Or.inl rfl))
  unfold kb_M_row_125
  rcases hk with ⟨hk, rfl⟩ | ⟨hk, rfl⟩
  · exact need_k (XRS_wp c hR) hR.1.2.2.1 (k := 23) (by decide) rfl (fun _ => e2)
  · exact need_k (XRS_wp c hR) hR.1.2.2.1 (k := 25) (by decide) rfl (fun _ => e2)
theorem ru_row (c : CTZ m0 w0 K T nm Nk) (IE : HRE N m0 w0 K T f) (hcl : (NEC (K hi) ∧ hi ≤ T) ∧ K hi ≠ 26)
    (hend : ∀ M2 w2 Q2 sc2, RUQ w0 T Q0 sc0 wS hi Q2 sc2 w2 → PP RR A' (kg_M_row N (krc_M_behind N d) M2 w2 v1 v2 v3 (I (kk : Nat)) v5 0)) :
    ∀ (k n lo xa q M j : Nat) (w : MS) (Q : Nat → Nat) (sc : SCT), RWcK m0 1 26 (PAcK m0 f) k n lo hi xa xb q r → RUQ w0 T Q0 sc0 wS lo Q sc w → j + k = kk → PP RR A' (kg_M_row N (krc_M_behind N d) M w v1 v2 v3 (I (j : Nat)) v5 1)
  | 0, _, _, _, _, _, _, _, _, _, h, _, _ => h.elim
  | k + 1, n, lo, xa, q, 0, j, w, Q, sc, _, _, _ => pp_nr
  | k + 1, n, lo, xa, q, M + 1, j, w, Q, sc, h, ht, hj => by
    obtain ⟨mid, c1, s1, hE, h⟩ := h
    have hd := PA_bdK _ _ _ _ _ _ _ _ hE
    unfold HDc at hd
    have hdm : mid ≤ hi := by
      rcases h with ⟨-, -, rfl, rfl, rfl⟩ | ⟨-, n2, -, h3⟩
      · exact Nat.le_refl _
      · have := (RW_hdK (PA_bdK _) h3).1
        unfold HDc at this
        omega
    have hcm : NEC (K mid) ∧ mid ≤ T := by
      rcases h with ⟨-, -, rfl, -⟩ | ⟨⟨-, h2⟩, -⟩
      · exact hcl.1
      · have := hcl.1.2
        exact ⟨by rw [kA c (by omega) (h2 rfl)]; exact NEC_k.1, by omega⟩
    show PP RR _ (kb_M_row_50 N (krc_M_behind N d) (kg_M_row N (krc_M_behind N d) M) w v1 v2 v3 (I (j : Nat)) v5 1)
    unfold kb_M_row_50
    rw [show decide ((1 : Int32) = 0) = false from rfl, br_fq, decide_eq_true ht.1.1.2.2.1, br_tq]
    refine r_bnd (pk_mo (IE d n lo mid xa c1 q s1 w Q sc hE hcm ht.1) (fun w2 rt hz => ?_))
    obtain ⟨Q2, sc2, hz⟩ := hz
    have ht2 := RUQ_tr ht hz
    have hR2 := ht2.1
    have hw2 := XRS_wp c hR2
    refine r_92 hw2 hR2.1.2.2.1 (fun z => ?_) (fun z => ?_)
    · rcases h with ⟨rfl, h21, rfl, rfl, rfl⟩ | ⟨⟨h1, h2⟩, n2, h21, h3⟩
      · exact absurd z hcl.2
      · have hl : mid < T := c.2.1.1.lt hR2.1.2.1.2 (by omega) (by omega)
        exact ru_row c IE hcl hend k n2 (mid + 1) c1 s1 M (j + 1) (adv w2 mid) Q2 sc2 h3 (RUQ_ad ht2 hl) (by omega)
    · rcases h with ⟨rfl, h21, rfl, rfl, rfl⟩ | ⟨⟨h1, h2⟩, n2, h21, h3⟩
      · rw [show j + 1 = kk by omega]
        exact hend M w2 Q2 sc2 ht2
      · exact absurd (kA c hR2.1.2.1.2 (h2 rfl)) z
theorem ru_grp (c : CTZ m0 w0 K T nm Nk) (IE : HRE N m0 w0 K T f) (hR : XRS w0 T w lo Q sc) (hE : PAcK m0 f x (lo + 1) (hi - 1) xa xb q r) (h6 : A m0 6 lo = 20) (h6b : A m0 6 (hi - 1) = 21) (hiT : hi ≤ T) : PK (fun v _ => RUX w0 T Q sc w hi v) (km_M_alone N (krc_M_behind N d) w (I (lo : Nat))) := by
  have t4 := c.2.1.1.1
  have hd := PA_bdK _ _ _ _ _ _ _ _ hE
  unfold HDc at hd
  have k20 : K lo = 20 := kA c (by omega : lo ≤ T) h6
  have k21 : K (hi - 1) = 21 := kA c (by omega : hi - 1 ≤ T) h6b
  refine rv_pk (u := w0) (al_par c hR k20 ?_)
  have hA := RUQ_ad (RUQ_rf hR) (show lo < T by omega)
  refine r_bnd (pk_mo (IE d x (lo + 1) (hi - 1) xa xb q r (adv w lo) Q sc hE ⟨by rw [k21]; exact NEC_k.2.2.2.1, by omega⟩ hA.1) (fun w2 rt hz => ?_))
  obtain ⟨Q2, sc2, hz⟩ := hz
  have h2 := RUQ_ad (RUQ_tr hA hz) (show hi - 1 < T by omega)
  rw [show hi - 1 + 1 = hi by omega] at h2
  exact r_bnd (pk_ndS c hz.1 (k := 21) (by decide) rfl (fun _ => pp_end ⟨_, _, h2⟩))
theorem ru_tup (c : CTZ m0 w0 K T nm Nk) (IE : HRE N m0 w0 K T f) (hR : XRS w0 T w lo Q sc) (hT : TUcK m0 (PAcK m0 f) n lo hi xa q r) (hlh : lo + 2 ≤ hi) (hiT : hi ≤ T) : PK (fun v _ => RUX w0 T Q sc w hi v) (km_M_alone N (krc_M_behind N d) w (I (lo : Nat))) := by
  obtain ⟨k, m1, c1, h18, h19, ⟨hk8, h6, h6b⟩, hE, hc1⟩ := hT
  have t4 := c.2.1.1.1
  have k22 : K lo = 22 := kA c (by omega : lo ≤ T) h6
  have k23 : K (hi - 1) = 23 := kA c (by omega : hi - 1 ≤ T) h6b
  have hw := XRS_wp c hR
  have hl : lo < T := by omega
  refine rv_pk (u := w0) (al_row c hR (Or.inl k22) (r_id ?_))
  cases d with
  | zero => exact pp_nr
  | succ d =>
  show PP _ _ (kb_M_row_0 N (krc_M_behind N d) (kg_M_row N (krc_M_behind N d) N) w (I (lo : Nat)))
  unfold kb_M_row_0 kb_M_row_15
  rw [isS_e (k := 22) (s := 2) hw (by decide) rfl, if_pos k22, bnd_s, show decide ((1 : Int32) = 0) = false from rfl, br_fq]
  have e1 : w.1 69 + 1 = I ((lo + 1 : Nat) : Int) := by rw [hR.1.2.1.1, i_suc]
  rw [lt_e, e1]
  have ht := RUQ_ad (RUQ_rf hR) hl
  have hA := ht.1
  have hwA := XRS_wp c hA
  rw [show upI w 69 (I ((lo + 1 : Nat) : Int)) = adv w lo from rfl, decide_eq_true hA.1.2.2.1, br_tq, isS_e (k := 23) (s := 3) hwA (by decide) rfl, bnd_s]
  rcases hE with ⟨rfl, rfl, h1, h2, h3⟩ | ⟨h1, hE⟩
  · rw [if_pos (by rw [h1]; exact k23), show decide ((1 : Int32) = 0) = false from rfl, br_fq]
    have := ru_125 (N := N) (S := krc_M_behind N d) (G := kg_M_row N (krc_M_behind N d) N) (v2 := 1) (v3 := 3) (v4 := 0) (v5 := 0) (A' := some (w0, ())) (lo := lo) c ht (Or.inl ⟨by rw [h1]; exact k23, rfl⟩) (by omega)
    rw [show lo + 1 + 1 = hi by omega] at this
    exact this
  · have k23n : K (lo + 1) ≠ 23 := Kne c (by omega) (rw_k1 hE).2.1
    rw [if_neg k23n, show decide ((0 : Int32) = 0) = true from rfl, br_tq]
    refine ru_row (hi := hi - 1) (kk := k) c IE ⟨⟨by rw [k23]; exact NEC_k.2.2.2.2.1, by omega⟩, by omega⟩ (fun M2 w2 Q2 sc2 ht2 => ?_) k m1 (lo + 1) xa q N 0 (adv w lo) Q sc hE ht (by omega)
    cases M2 with
    | zero => exact pp_nr
    | succ M2 =>
      show PP _ _ (kb_M_row_50 N (krc_M_behind N d) (kg_M_row N (krc_M_behind N d) M2) w2 (I (lo : Nat)) 1 3 (I (k : Nat)) 0 0)
      unfold kb_M_row_50 kb_M_row_103
      rw [show decide ((0 : Int32) = 0) = true from rfl, br_tq, show decide ((1 : Int32) = 0) = false from rfl, br_fq]
      have := ru_125 (N := N) (S := krc_M_behind N d) (G := kg_M_row N (krc_M_behind N d) M2) (v2 := 1) (v3 := 3) (v4 := I (k : Nat)) (v5 := 0) (A' := some (w0, ())) (lo := lo) c ht2 (Or.inl ⟨k23, rfl⟩) (by omega)
      rw [show hi - 1 + 1 = hi by omega] at this
      exact this
theorem ru_103 (c : CTZ m0 w0 K T nm Nk) (IE : HRE N m0 w0 K T f) (ht : RUQ w0 T Q0 sc0 wS mid Q2 sc2 w2) (hlo : lo < mid) (k25 : K (hi - 1) = 25) (hiT : hi ≤ T) {c1 : Nat} (hT : (A m0 20 n = 0 ∧ hi = mid + 1 ∧ s = r ∧ c1 < n) ∨ ((1 ≤ k ∧ A m0 6 mid = 29) ∧ ∃ x c2 : Nat, A m0 20 n = ((x : Nat) : Int) ∧ PAcK m0 f x (mid + 1) (hi - 1) c1 c2 s r ∧ c2 < n)) : PP (fun (_ : MS) (_ : Unit) v (_ : Int32) => RUX w0 T Q0 sc0 wS hi v) (some (w0, ())) (kb_M_row_103 N (krc_M_behind N d) G w2 (I (lo : Nat)) 0 5 v4 0) := by
  have hR2 := ht.1
  have t4 := c.2.1.1.1
  have hw2 := XRS_wp c hR2
  unfold kb_M_row_103
  rw [show decide ((0 : Int32) = 0) = true from rfl, br_tq, tkS_e (k := 29) (s := 9) hw2 hR2.1.2.2.1 (by decide) rfl]
  rcases hT with ⟨h20, rfl, rfl, -⟩ | ⟨⟨h1, h29⟩, x, c2, h20, hE, hc2⟩
  · have k25 : K mid = 25 := k25
    rw [if_neg (by omega), bnd_s, show decide ((0 : Int32) = 0) = true from rfl, br_tq]
    exact ru_125 c ht (Or.inr ⟨k25, rfl⟩) (by omega)
  · have hd := PA_bdK _ _ _ _ _ _ _ _ hE
    unfold HDc at hd
    have k29 : K mid = 29 := kA c (by omega) h29
    have hl : mid < T := by omega
    rw [if_pos k29, bnd_s, show decide ((1 : Int32) = 0) = false from rfl, br_fq]
    have hA := RUQ_ad ht hl
    refine r_bnd (pk_mo (IE d x (mid + 1) (hi - 1) c1 c2 s r (adv w2 mid) Q2 sc2 hE ⟨by rw [k25]; exact NEC_k.2.2.2.2.2.1, by omega⟩ hA.1) (fun w3 rt hz => ?_))
    obtain ⟨Q3, sc3, hz⟩ := hz
    have := ru_125 (N := N) (S := krc_M_behind N d) (G := G) (v2 := 0) (v3 := 5) (v4 := v4) (v5 := 1) (A' := some (w0, ())) (lo := lo) c (RUQ_tr hA hz) (Or.inr ⟨k25, rfl⟩) (by omega)
    rw [show hi - 1 + 1 = hi by omega] at this
    exact this
theorem ru_lst (c : CTZ m0 w0 K T nm Nk) (IE : HRE N m0 w0 K T f) (hR : XRS w0 T w lo Q sc) (hT : TLcK m0 (PAcK m0 f) n lo hi xa q r) (hiT : hi ≤ T) : PK (fun v _ => RUX w0 T Q sc w hi v) (km_M_alone N (krc_M_behind N d) w (I (lo : Nat))) := by
  obtain ⟨k, m1, mid, c1, s1, h18, h19, ⟨hk8, h6, h6b⟩, hE, hT⟩ := hT
  have t4 := c.2.1.1.1
  have bd : lo < mid ∧ mid < hi := by
    have h1 := OR_hdK (PA_bdK _) hE
    rcases hT with ⟨-, h2, h3, h4⟩ | ⟨-, x, c2, -, hx, h2⟩
    · omega
    · have := PA_bdK _ _ _ _ _ _ _ _ hx
      unfold HDc at this
      omega
  have k24 : K lo = 24 := kA c (by omega : lo ≤ T) h6
  have k25 : K (hi - 1) = 25 := kA c (by omega : hi - 1 ≤ T) h6b
  have hw := XRS_wp c hR
  have hl : lo < T := by omega
  refine rv_pk (u := w0) (al_row c hR (Or.inr k24) (r_id ?_))
  cases d with
  | zero => exact pp_nr
  | succ d =>
  show PP _ _ (kb_M_row_0 N (krc_M_behind N d) (kg_M_row N (krc_M_behind N d) N) w (I (lo : Nat)))
  unfold kb_M_row_0 kb_M_row_15
  rw [isS_e (k := 22) (s := 2) hw (by decide) rfl, if_neg (by omega), bnd_s, show decide ((0 : Int32) = 0) = true from rfl, br_tq]
  have e1 : w.1 69 + 1 = I ((lo + 1 : Nat) : Int) := by rw [hR.1.2.1.1, i_suc]
  rw [lt_e, e1]
  have ht := RUQ_ad (RUQ_rf hR) hl
  have hA := ht.1
  have hwA := XRS_wp c hA
  rw [show upI w 69 (I ((lo + 1 : Nat) : Int)) = adv w lo from rfl, decide_eq_true hA.1.2.2.1, br_tq, isS_e (k := 25) (s := 5) hwA (by decide) rfl, bnd_s]
  rcases hE with ⟨rfl, rfl, h1, h2, h3⟩ | ⟨h1, hE⟩
  · subst h1
    rcases hT with ⟨h20, hh, hs, h4⟩ | ⟨⟨h, -⟩, -⟩
    · have k25' : K (lo + 1) = 25 := by rw [show lo + 1 = hi - 1 by omega]; exact k25
      rw [if_pos k25', show decide ((1 : Int32) = 0) = false from rfl, br_fq]
      have := ru_125 (N := N) (S := krc_M_behind N d) (G := kg_M_row N (krc_M_behind N d) N) (v2 := 0) (v3 := 5) (v4 := 0) (v5 := 0) (A' := some (w0, ())) (lo := lo) c ht (Or.inr ⟨k25', rfl⟩) (by omega)
      rw [show lo + 1 + 1 = hi by omega] at this
      exact this
    · omega
  · have k25n : K (lo + 1) ≠ 25 := Kne c (by omega) (rw_k1 hE).2.2.1
    have ncl : NEC (K mid) ∧ K mid ≠ 26 := by
      rcases hT with ⟨-, hh, -, -⟩ | ⟨⟨-, h29⟩, -⟩
      · rw [show mid = hi - 1 by omega, k25]
        exact ⟨NEC_k.2.2.2.2.2.1, by decide⟩
      · have : K mid = 29 := kA c (by omega) h29
        rw [this]
        exact ⟨NEC_k.2.2.2.2.2.2.1, by decide⟩
    rw [if_neg k25n, show decide ((0 : Int32) = 0) = true from rfl, br_tq]
    refine ru_row (hi := mid) (kk := k) c IE ⟨⟨ncl.1, by omega⟩, ncl.2⟩ (fun M2 w2 Q2 sc2 ht2 => ?_) k m1 (lo + 1) xa q N 0 (adv w lo) Q sc hE ht (by omega)
    cases M2 with
    | zero => exact pp_nr
    | succ M2 =>
      show PP _ _ (kb_M_row_50 N (krc_M_behind N d) (kg_M_row N (krc_M_behind N d) M2) w2 (I (lo : Nat)) 0 5 (I (k : Nat)) 0 0)
      unfold kb_M_row_50
      rw [show decide ((0 : Int32) = 0) = true from rfl, br_tq]
      exact ru_103 (n := n) (k := k) c IE ht2 bd.1 k25 hiT hT
theorem ru_all (c : CTZ m0 w0 K T nm Nk) : ∀ f, HRW N m0 w0 K T f
  | 0 => fun d n lo hi xa xb q r w Q sc h => h.elim
  | f + 1 => by
    have IE := ru_exp c (ru_all c f)
    intro d n lo hi xa xb q r w Q sc h hcl hR
    have t4 := c.2.1.1.1
    have hd := PA_bdK _ _ _ _ _ _ _ _ h
    unfold HDc at hd
    obtain ⟨-, -, -, h⟩ := h
    rcases h with ⟨⟨-, h1, -⟩, rfl⟩ | ⟨-, n1, -, -, -, h2, rfl, h4⟩ | ⟨-, n1, c1, -, pa, hc1, h2, h3⟩ | ⟨-, h⟩ | ⟨-, h⟩
    · have hk : 1 ≤ K lo ∧ K lo ≤ 4 := by
        have e := c.1.2 lo (by omega)
        have k46 := c.1.1.k46 (show lo ≤ T by omega)
        have : A m0 6 lo = ((K lo : Nat) : Int) := by
          show (m0.2.2.1 6 lo).toInt = _
          rw [e]
          exact I_ti (by omega) (by omega)
        omega
      exact ru_wk c hR (by omega) (by omega) hcl.2.2 (fun d => ru_prim c hR (by omega) (fun z => hcl.1 z.2) hcl.1 (fun d => pk_mo (al_lfx c hR hk) (fun v _ h => h.2)))
    · have k34 : K lo = 34 := kA c (by omega) h4
      have k1 : K (lo + 1) = 1 := kA c (by omega) h2
      exact ru_neg c hR k34 k1 ⟨hcl.1, hcl.2.2⟩
    · have k20 : K lo = 20 := kA c (by omega) h2
      exact ru_wk c hR (by omega) (by omega) hcl.2.2 (fun d => ru_prim c hR (by omega) (fun z => by omega) hcl.1 (fun d => ru_grp c IE hR pa h2 h3 hcl.2.1))
    · have hlh : lo + 2 ≤ hi := by
        obtain ⟨kk, n1, c1, e18, e19, ⟨hkk, k22, k23⟩, hO, hcn⟩ := h
        by_cases z : hi = lo + 1
        · rw [z, show lo + 1 - 1 = lo by omega] at k23
          omega
        · omega
      have k22 : K lo = 22 := by
        obtain ⟨kk, n1, c1, e18, e19, ⟨hkk, k22, k23⟩, hO, hcn⟩ := h
        exact kA c (by omega) k22
      exact ru_wk c hR (by omega) (by omega) hcl.2.2 (fun d => ru_prim c hR (by omega) (fun z => by omega) hcl.1 (fun d => ru_tup c IE hR h hlh hcl.2.1))
    · have k24 : K lo = 24 := by
        obtain ⟨kk, n1, mid, c1, s1, e18, e19, ⟨hkk, k22, k23⟩, hO, hcn⟩ := h
        exact kA c (by omega) k22
      exact ru_wk c hR (by omega) (by omega) hcl.2.2 (fun d => ru_prim c hR (by omega) (fun z => by omega) hcl.1 (fun d => ru_lst c IE hR h hcl.2.1))
end
end
section
set_option maxRecDepth 100000
def RPX (w0 : MS) (T : Nat) (nm Nk K : Nat → Nat) (lo hi pi : Nat) (sc : SCT) (w w2 : MS) (r : Int32) : Prop := ∃ (pn pj : Nat) (sc2 : SCT) (W : Nat → Nat), r = I (pn : Nat) ∧ (pi ≤ pn ∧ pn < pj) ∧ PRd w0 T w2 hi pj sc2 ∧ HDw false nm Nk K W lo hi sc sc2 ∧ RFP w w2 pi
def HRP (N : Nat) (m0 w0 : MS) (K : Nat → Nat) (T : Nat) (nm Nk : Nat → Nat) (f : Nat) : Prop := ∀ (d n lo hi xa xb q r : Nat) (w : MS) (pi : Nat) (sc : SCT), PAcK m0 f n lo hi xa xb q r → PRd w0 T w lo pi sc → PK (fun v rr => RPX w0 T nm Nk K lo hi pi sc w v rr) ((krc_M_rowPattern N d).2 w 0)
section
variable {α β : Type} {m0 w0 m w m2 w2 m3 w3 v u w1 wS : MS} {K nm Nk W W2 : Nat → Nat} {N T D d o b c q r s lo lo0 mid hi i j f f2 n k kk kd cl p p2 σ tk xa xb xc M M1 M2 y pi pj rt : Nat} {Q Q0 Q2 Q3 : Nat → Nat} {sc sc0 sc2 sc3 t t2 : SCT} {e e2 : List Nat × List Nat × Nat} {g lst own : Bool} {rr x v1 v2 v3 v4 v5 v6 t0 xx : Int32} {RR : MS → α → MS → Int32 → Prop} {A' : Option (MS × α)} {S : SG_M_rowPattern} {G : MS → Int32 → Int32 → Int32 → Int32 → Int32 → Int32 → Int32 → Option (MS × Int32)}
theorem rpu_fin (c : CTZ m0 w0 K T nm Nk) (hlo : lo < T) (hk : K lo = kd) (hd : RKD kd cl x v2 v3) (hp5 : pi < 5000) (hlh : lo + 2 ≤ hi) (hR : PRd w0 T w3 (hi - 1) pj sc3) (hpj : pi < pj) (hH : ∃ W, HDw false nm Nk K W (lo + 1) (hi - 1) sc sc3) (hf2 : RFP (wRW w pi x lo) w3 pi) : PP (fun (_ : MS) (_ : α) v r => RPX w0 T nm Nk K lo hi pi sc w (upI v 70 (v.1 70 - 1)) r) A' (kb_M_rowPattern_194 N S G w3 v3 (I (pi : Nat)) v6) := by
  have hkk : K lo ≠ 3 := by rcases hd with h | h <;> omega
  obtain ⟨W, hH⟩ := hH
  unfold kb_M_rowPattern_194
  refine r_ck (fun _ => r_lt ?_)
  rw [i_nt2 (by omega)]
  have hR4 : PRd w0 T (upA w3 35 (upd (w3.2.2.1 35) pi v6)) (hi - 1) pj sc3 := PRS_k hR (fun _ _ _ _ => rfl) (fun k hk => upA_no (by omega)) hR.2.1.1 hR.2.1.2 hR.2.2.2.2.2.1 hR.2.2.2.2.2.2
  have hf4 : RFP (wRW w pi x lo) (upA w3 35 (upd (w3.2.2.1 35) pi v6)) pi := RFP_A hf2 (by decide) (Nat.le_refl _)
  generalize upA w3 35 (upd (w3.2.2.1 35) pi v6) = w4 at hR4 hf4
  refine need_k (k := cl) (PRS_w c hR4) hR4.2.2.1 (by rcases hd with h | h <;> omega) (by rcases hd with h | h <;> rw [h.2.1, h.2.2.2.2] <;> rfl) (fun k1 => ?_)
  have hk1 : K (hi - 1) ≠ 3 := by rcases hd with h | h <;> omega
  have hl2 : hi - 1 < T := c.1.1.lt hR4.2.1.2 (by rcases hd with h | h <;> omega) (by rcases hd with h | h <;> omega)
  have p1 := PRS_ad hR4 hl2
  rw [show hi - 1 + 1 = hi by omega] at p1
  have n20 : ∀ j, lo ≤ j → j < lo + 1 → K j ≠ 3 := fun j a b => by rw [show j = lo by omega]; exact hkk
  have n21 : ∀ j, hi - 1 ≤ j → j < hi → K j ≠ 3 := fun j a b => by rw [show j = hi - 1 by omega]; exact hk1
  refine pp_r (fun _ _ _ => ⟨pi, pj, sc3, W, rfl, ⟨Nat.le_refl _, hpj⟩, PRS_70 p1, HDw_tr (by omega) (by omega) (HDw_gap n20) (HDw_tr (by omega) (by omega) hH (HDw_gap n21)), cl70 ?_⟩)
  exact RFP_I (RFP_tr (RFP_I (RFP_P RFP_rf (Nat.le_refl _)) (Or.inr (Or.inr rfl))) hf4 (Nat.le_refl _)) (Or.inr (Or.inr rfl))
theorem rpu_lp (c : CTZ m0 w0 K T nm Nk) (IH : HRP N m0 w0 K T nm Nk f) (hrt : rt < 5000) (hK : hi ≤ T → K hi ≠ 26) (hkk : kk ≤ 8)
    (hend : ∀ M2 w2 pj sc2 last, PRd w0 T w2 hi pj sc2 → (∃ W, HDw false nm Nk K W lo0 hi sc0 sc2) → RFP wS w2 rt → rt < last → last < pj → PP RR A' (kb_M_rowPattern_151 N (krc_M_rowPattern N d) (kg_M_rowPattern N (krc_M_rowPattern N d) M2) w2 0 v2 v3 (I (rt : Nat)) (I (last : Nat)) (I (kk : Nat)))) :
    ∀ (k n lo xa q M2 j : Nat) (w : MS) (pi : Nat) (sc : SCT) (v5 : Int32), RWcK m0 1 26 (PAcK m0 f) k n lo hi xa xb q r → PRd w0 T w lo pi sc → lo0 ≤ lo → (∃ W, HDw false nm Nk K W lo0 lo sc0 sc) → RFP wS w rt → rt < pi → (v5 = -1 ∨ ∃ last : Nat, v5 = I (last : Nat) ∧ rt < last ∧ last < pi) → j + k = kk → PP RR A' (kg_M_rowPattern N (krc_M_rowPattern N d) M2 w 0 v2 v3 (I (rt : Nat)) v5 (I (j : Nat)) 1)
  | 0, _, _, _, _, _, _, _, _, _, _, h, _, _, _, _, _, _, _ => h.elim
  | k + 1, n, lo, xa, q, 0, j, w, pi, sc, v5, _, _, _, _, _, _, _, _ => pp_nr
  | k + 1, n, lo, xa, q, M2 + 1, j, w, pi, sc, v5, h, hR, hl0, hH, hF, hrp, h5, hjk => by
    obtain ⟨mid, c1, s1, e, h⟩ := h
    have hd := PA_bdK _ _ _ _ _ _ _ _ e
    unfold HDc at hd
    have t4 := c.2.1.1.1
    show PP RR _ (kb_M_rowPattern_66 N (krc_M_rowPattern N d) (kg_M_rowPattern N (krc_M_rowPattern N d) M2) w 0 v2 v3 (I (rt : Nat)) v5 (I (j : Nat)) 1)
    unfold kb_M_rowPattern_66
    rw [show decide ((1 : Int32) = 0) = false from rfl, br_fq, decide_eq_true hR.2.2.1, br_tq]
    refine r_bnd (pk_mo (IH d n lo mid xa c1 q s1 w pi sc e hR) (fun w2 rr hz => ?_))
    obtain ⟨pn, pj, sc2, W2, rfl, hpn, hR2, hH2, hF2⟩ := hz
    obtain ⟨W, hH⟩ := hH
    have hHD : ∃ W, HDw false nm Nk K W lo0 mid sc0 sc2 := ⟨_, mrw_tr hl0 (by omega) hH hH2⟩
    have hFD := RFP_tr hF hF2 (by omega)
    have pj5 := hR2.2.2.2.2.2.2
    have main : ∀ w3 : MS, PRd w0 T w3 mid pj sc2 → RFP wS w3 rt → PP RR A' (kb_M_rowPattern_112 N (krc_M_rowPattern N d) (kg_M_rowPattern N (krc_M_rowPattern N d) M2) w3 0 v2 v3 (I (rt : Nat)) (I (j : Nat)) (I (pn : Nat))) := fun w3 hR3 hF3 => by
      have hw3 := PRS_w c hR3
      have h67 := hR3.2.2.1
      have e140 : PP RR A' (kb_M_rowPattern_140 N (krc_M_rowPattern N d) (kg_M_rowPattern N (krc_M_rowPattern N d) M2) w3 0 v2 v3 (I (rt : Nat)) (I (pn : Nat)) (I ((j + 1 : Nat) : Int))) := by
        unfold kb_M_rowPattern_140
        rw [tkS_e (k := 26) (s := 6) hw3 h67 (by decide) rfl]
        rcases h with ⟨h1, h2, h3, h4, h6⟩ | ⟨⟨h1, hsep⟩, n2, h2, h3⟩
        · subst h3
          rw [if_neg (hK hR3.2.1.2), bnd_s]
          cases M2 with
          | zero => exact pp_nr
          | succ M2 =>
            show PP RR _ (kb_M_rowPattern_66 N (krc_M_rowPattern N d) (kg_M_rowPattern N (krc_M_rowPattern N d) M2) w3 0 v2 v3 (I (rt : Nat)) (I (pn : Nat)) (I ((j + 1 : Nat) : Int)) 0)
            unfold kb_M_rowPattern_66
            rw [show decide ((0 : Int32) = 0) = true from rfl, br_tq]
            have ej : j + 1 = kk := by omega
            rw [ej]
            exact hend M2 w3 pj sc2 pn hR3 hHD hF3 (by omega) hpn.2
        · have k26 : K mid = 26 := kA c hR3.2.1.2 (hsep rfl)
          have hl : mid < T := c.2.1.1.lt hR3.2.1.2 (by omega) (by omega)
          rw [if_pos k26, bnd_s]
          obtain ⟨W3, hHD⟩ := hHD
          exact rpu_lp c IH hrt hK hkk hend k n2 (mid + 1) c1 s1 M2 (j + 1) (adv w3 mid) pj sc2 (I (pn : Nat)) h3 (PRS_ad hR3 hl) (by omega) ⟨W3, HDo_ext hHD (by omega) (by omega)⟩ (RFP_I hF3 (Or.inr (Or.inr rfl))) (by omega) (Or.inr ⟨pn, rfl, by omega, hpn.2⟩) (by omega)
      unfold kb_M_rowPattern_112
      rw [i_suc]
      refine r_br (fun _ => ?_) (fun _ => e140)
      rw [isS_e (k := 26) (s := 6) hw3 (by decide) rfl, bnd_s]
      by_cases z : K mid = 26
      · rw [if_pos z, show decide ((1 : Int32) = 0) = false from rfl, br_fq]
        exact pp_nr
      · rw [if_neg z, show decide ((0 : Int32) = 0) = true from rfl, br_tq]
        exact e140
    rcases h5 with rfl | ⟨last, rfl, l1, l2⟩
    · rw [show decide ((-1 : Int32) = -1) = true from rfl, br_tq]
      refine r_ck (fun _ => r_lt ?_)
      rw [i_nt2 (by omega)]
      exact main _ (PRS_k hR2 (fun _ _ _ _ => rfl) (fun k hk => upA_no (by omega)) hR2.2.1.1 hR2.2.1.2 hR2.2.2.2.2.2.1 hR2.2.2.2.2.2.2) (RFP_A hFD (by decide) (Nat.le_refl _))
    · rw [decide_eq_false (nat_ne2 (by omega)), br_fq]
      refine r_ck (fun _ => r_lt ?_)
      rw [i_nt2 (by omega)]
      exact main _ (PRS_k hR2 (fun _ _ _ _ => rfl) (fun k hk => upA_no (by omega)) hR2.2.1.1 hR2.2.1.2 hR2.2.2.2.2.2.1 hR2.2.2.2.2.2.2) (RFP_A hFD (by decide) (by omega))
theorem rpu_leaf (c : CTZ m0 w0 K T nm Nk) (hR : PRd w0 T w lo pi sc) (hk : 1 ≤ K lo ∧ K lo ≤ 4) : PK (fun v rr => RPX w0 T nm Nk K lo (lo + 1) pi sc w v rr) (km_M_patternAt N S w 0) := by
  refine rv_pk (u := w0) ?_
  obtain ⟨e, t, rfl⟩ := PRS_ne hR
  by_cases z3 : K lo = 3
  · refine rp_name (own := false) c hR z3 rfl (fun w2 sc2 r1 r2 hl h5 r37 => ?_)
    obtain ⟨-, r3⟩ := r37
    have ok := hR.2.2.2.1.2.2.2
    have tl : t.length + 1 ≤ 27 := hR.2.2.2.1.2.1.2
    obtain ⟨c7, d7, cx, cu⟩ := c.2.2.2 lo hl z3
    have el : (e :: t).length = t.length + 1 := rfl
    rcases r3 with ⟨a1, rfl, -⟩ | ⟨a1, rfl, -⟩
    · refine pp_end ⟨pi, pi + 1, e :: t, fun _ => t.length, rfl, ⟨Nat.le_refl _, by omega⟩, r1, ⟨HDo_no (fun j a b _ => ?_), fun _ => ⟨fun j a b _ => ?_, NWX_rf⟩⟩, r2⟩
      · show _ ≤ t.length + 1 ∧ t.length ≤ 32
        omega
      · have : j = lo := by omega
        subst this
        exact ⟨fun z => absurd a1 z, fun _ => by show _ ≤ t.length + 1; omega⟩
    · exact pp_end ⟨pi, pi + 1, _, fun _ => rfL false (Nk lo) (e :: t), rfl, ⟨Nat.le_refl _, by omega⟩, r1, rfP_dw ok rfl z3 a1 rfl (by omega), r2⟩
  · refine rp_leaf c hR (by omega) (fun w2 r1 r2 _ h5 r37 => ?_)
    exact pp_end ⟨pi, pi + 1, e :: t, fun _ => 0, rfl, ⟨Nat.le_refl _, by omega⟩, r1, HDw_gap (fun j a b => by rw [show j = lo by omega]; exact z3), r2⟩
theorem rpu_neg (c : CTZ m0 w0 K T nm Nk) (hR : PRd w0 T w lo pi sc) (k0 : K lo = 34) (k1 : K (lo + 1) = 1) : PK (fun v rr => RPX w0 T nm Nk K lo (lo + 2) pi sc w v rr) (km_M_patternAt N S w 0) := by
  refine rv_pk (u := w0) (rp_neg c hR k0 k1 (fun w2 r1 r2 _ h5 r3 => ?_))
  exact pp_end ⟨pi, pi + 1, sc, fun _ => 0, rfl, ⟨Nat.le_refl _, by omega⟩, r1, HDw_gap (fun j a b => by
    by_cases z : j = lo
    · rw [z]; omega
    · rw [show j = lo + 1 by omega]; omega), r2⟩
theorem rpu_grp (c : CTZ m0 w0 K T nm Nk) (IH : HRP N m0 w0 K T nm Nk f) (hR : PRd w0 T w lo pi sc) (pa : PAcK m0 f n (lo + 1) (hi - 1) xa xb q r) (h60 : A m0 6 lo = 20) (h61 : A m0 6 (hi - 1) = 21) : PK (fun v rr => RPX w0 T nm Nk K lo hi pi sc w v rr) (km_M_patternAt N (krc_M_rowPattern N d) w 0) := by
  have hd := PA_bdK _ _ _ _ _ _ _ _ pa
  unfold HDc at hd
  have k0 : K lo = 20 := kA c hR.2.1.2 h60
  have hl : lo < T := c.1.1.lt hR.2.1.2 (by omega) (by omega)
  have t4 := c.1.1.1
  refine rv_pk (u := w0) (kpA (PRS_w c hR) hR.2.2.1 (by rw [k0]; rfl) ?_)
  rw [if_neg (by omega)]
  have hM := PRS_70 (x := w.1 70 + 1) hR
  have cl : ∀ (v : MS) (pi : Nat), RFP (upI w 70 (w.1 70 + 1)) v pi → RFP w (upI v 70 (v.1 70 - 1)) pi := fun v pi h => cl70 h
  generalize upI w 70 (w.1 70 + 1) = M at hM cl
  have hM1 := PRS_w c hM
  obtain ⟨-, b0, -⟩ := WP_i hM1
  have s2 : decide (M.2.2.1 6 lo = 2) = decide (K lo = 3) := srt_dc hM1 srK_2
  have s4 : decide (M.2.2.1 6 lo = 4) = decide (K lo = 1) := srt_dc hM1 srK_4
  have s1 : decide (M.2.2.1 6 lo = 1) = decide (K lo = 2) := srt_dc hM1 srK_1
  have s5 : decide (M.2.2.1 6 lo = 5) = decide (K lo = 4) := srt_dc hM1 srK_5
  unfold kpB
  refine r_ck (fun _ => ?_)
  rw [b0, s2, decide_eq_false (by omega), br_fq, show decide ((0 : Int32) = 0) = true from rfl, br_tq]
  refine r_ck (fun _ => ?_)
  rw [s4, decide_eq_false (by omega), br_fq]
  refine r_ck (fun _ => ?_)
  rw [s1, decide_eq_false (by omega), br_fq]
  refine r_ck (fun _ => ?_)
  rw [s5, decide_eq_false (by omega), br_fq, tkS_e (k := 20) (s := 0) hM1 hM.2.2.1 (by decide) rfl, if_pos k0, bnd_s, show decide ((1 : Int32) = 0) = false from rfl, br_fq]
  have hA := PRS_ad hM hl
  refine r_bnd (pk_mo (IH d n (lo + 1) (hi - 1) xa xb q r (adv M lo) pi sc pa hA) (fun w2 rr h => ?_))
  obtain ⟨pn, pj, sc2, W, rfl, e2, e5, e7, e10⟩ := h
  unfold kb_M_patternAt_388
  refine need_k (PRS_w c e5) e5.2.2.1 (k := 21) (by decide) rfl (fun k21 => r_lt ?_)
  have hl2 : hi - 1 < T := c.1.1.lt e5.2.1.2 (by omega) (by omega)
  have f1 : RFP M (adv w2 (hi - 1)) pi := RFP_I (RFP_tr (RFP_I RFP_rf (Or.inr (Or.inr rfl))) e10 (Nat.le_refl _)) (Or.inr (Or.inr rfl))
  have n20 : ∀ j, lo ≤ j → j < lo + 1 → K j ≠ 3 := fun j a b => by rw [show j = lo by omega]; omega
  have n21 : ∀ j, hi - 1 ≤ j → j < hi → K j ≠ 3 := fun j a b => by rw [show j = hi - 1 by omega]; omega
  have p1 := PRS_ad e5 hl2
  rw [show hi - 1 + 1 = hi by omega] at p1
  exact pp_end ⟨pn, pj, sc2, W, rfl, e2, PRS_70 p1, HDw_tr (by omega) (by omega) (HDw_gap n20) (HDw_tr (by omega) (by omega) e7 (HDw_gap n21)), cl _ _ f1⟩
theorem wRW_f : RFP (wRW w pi x lo) (wRW w pi x lo) pi := RFP_rf
theorem rpu_tup (c : CTZ m0 w0 K T nm Nk) (IH : HRP N m0 w0 K T nm Nk f) (hR : PRd w0 T w lo pi sc) (hT : TUcK m0 (PAcK m0 f) n lo hi xa q r) (hlh : lo + 2 ≤ hi) : PK (fun v rr => RPX w0 T nm Nk K lo hi pi sc w v rr) (km_M_patternAt N (krc_M_rowPattern N d) w 0) := by
  obtain ⟨kk, n1, c1, e18, e19, ⟨hkk, k22, k23⟩, hO, hcn⟩ := hT
  have k0 : K lo = 22 := kA c hR.2.1.2 k22
  refine rv_pk (u := w0) (rr_start (x := 5) (v2 := 1) (v3 := 3) c hR k0 (Or.inl ⟨rfl, rfl, rfl, rfl, rfl⟩) (fun d2 hl h5 hS => ?_))
  rcases hO with ⟨y1, y2, y3, y4, y5⟩ | ⟨y1, hrw⟩
  · have k1 : K (lo + 1) = 23 := by rw [y3]; exact kA c (by rw [← y3]; exact hS.2.1.2) k23
    rw [if_pos k1]
    have hS2 := hS
    rw [y3] at hS2
    exact rpu_fin (kd := 22) (cl := 23) (x := 5) (v2 := 1) c hl k0 (Or.inl ⟨rfl, rfl, rfl, rfl, rfl⟩) h5 hlh hS2 (by omega) ⟨fun _ => 0, HDw_gap (fun j a b => by omega)⟩ RFP_rf
  · have k1 : K (lo + 1) ≠ 23 := Kne c hS.2.1.2 (rw_k1 hrw).2.1
    rw [if_neg k1]
    refine rpu_lp (lo0 := lo + 1) (sc0 := sc) (wS := wRW w pi 5 lo) (kk := kk) (xb := c1) (hi := hi - 1) (r := r) c IH h5 (fun h => by have := kA (k := 23) c h k23; omega) hkk (fun M2 w2 pj sc2 last h1 h2 h3 h4 h6 => ?_) kk n1 (lo + 1) xa q N 0 _ (pi + 1) sc (-1) hrw hS (Nat.le_refl _) ⟨fun _ => 0, HDw_gap (fun j a b => by omega)⟩ RFP_rf (by omega) (Or.inl rfl) (by omega)
    unfold kb_M_rowPattern_151
    rw [show decide ((1 : Int32) = 0) = false from rfl, br_fq]
    exact rpu_fin (kd := 22) (cl := 23) (x := 5) (v2 := 1) c hl k0 (Or.inl ⟨rfl, rfl, rfl, rfl, rfl⟩) h5 hlh h1 (by omega) h2 h3
theorem rpu_lst (c : CTZ m0 w0 K T nm Nk) (IH : HRP N m0 w0 K T nm Nk f) (hR : PRd w0 T w lo pi sc) (hT : TLcK m0 (PAcK m0 f) n lo hi xa q r) : PK (fun v rr => RPX w0 T nm Nk K lo hi pi sc w v rr) (km_M_patternAt N (krc_M_rowPattern N d) w 0) := by
  obtain ⟨kk, n1, mid, c1, s1, e18, e19, ⟨hkk, k24, k25⟩, hO, hB⟩ := hT
  have bd : lo < mid ∧ mid < hi := by
    have h1 := OR_hdK (PA_bdK _) hO
    rcases hB with ⟨-, h2, h3, h4⟩ | ⟨-, x, c2, -, hx, h2⟩
    · omega
    · have := PA_bdK _ _ _ _ _ _ _ _ hx
      unfold HDc at this
      omega
  have k0 : K lo = 24 := kA c hR.2.1.2 k24
  refine rv_pk (u := w0) (rr_start (x := 6) (v2 := 0) (v3 := 5) c hR k0 (Or.inr ⟨rfl, rfl, rfl, rfl, rfl⟩) (fun d2 hl h5 hS => ?_))
  rcases hO with ⟨y1, y2, y3, y4, y5⟩ | ⟨y1, hrw⟩
  · rcases hB with ⟨h20, hm, -, -⟩ | ⟨⟨h1, -⟩, -⟩
    · have k1 : K (lo + 1) = 25 := by
        have e : lo + 1 = hi - 1 := by omega
        rw [e]
        exact kA c (by rw [← e]; exact hS.2.1.2) k25
      rw [if_pos k1]
      have hS2 := hS
      rw [show lo + 1 = hi - 1 by omega] at hS2
      exact rpu_fin (kd := 24) (cl := 25) (x := 6) (v2 := 0) c hl k0 (Or.inr ⟨rfl, rfl, rfl, rfl, rfl⟩) h5 (by omega) hS2 (by omega) ⟨fun _ => 0, HDw_gap (fun j a b => by omega)⟩ RFP_rf
    · omega
  · have k1 : K (lo + 1) ≠ 25 := Kne c hS.2.1.2 (rw_k1 hrw).2.2.1
    rw [if_neg k1]
    refine rpu_lp (lo0 := lo + 1) (sc0 := sc) (wS := wRW w pi 6 lo) (kk := kk) (xb := c1) (hi := mid) (r := s1) c IH h5 (fun h => ?_) hkk (fun M2 w2 pj sc2 last h1 h2 h3 h4 h6 => ?_) kk n1 (lo + 1) xa q N 0 _ (pi + 1) sc (-1) hrw hS (Nat.le_refl _) ⟨fun _ => 0, HDw_gap (fun j a b => by omega)⟩ RFP_rf (by omega) (Or.inl rfl) (by omega)
    · rcases hB with ⟨-, hm, -, -⟩ | ⟨⟨-, h29⟩, -⟩
      · have := kA (k := 25) (p := mid) c h (by rw [show mid = hi - 1 by omega]; exact k25)
        omega
      · have := kA (k := 29) (p := mid) c h h29
        omega
    · have hw2 := PRS_w c h1
      unfold kb_M_rowPattern_151
      rw [show decide ((0 : Int32) = 0) = true from rfl, br_tq, tkS_e (k := 29) (s := 9) hw2 h1.2.2.1 (by decide) rfl]
      rcases hB with ⟨h20, hm, -, -⟩ | ⟨⟨-, h29⟩, x, c2, h20, hE, hc2⟩
      · have := kA (k := 25) (p := mid) c h1.2.1.2 (by rw [show mid = hi - 1 by omega]; exact k25)
        rw [if_neg (by omega), bnd_s, show decide ((0 : Int32) = 0) = true from rfl, br_tq]
        rw [show mid = hi - 1 by omega] at h1 h2
        exact rpu_fin (kd := 24) (cl := 25) (x := 6) (v2 := 0) c hl k0 (Or.inr ⟨rfl, rfl, rfl, rfl, rfl⟩) h5 (by omega) h1 (by omega) h2 h3
      · have k29 := kA (k := 29) (p := mid) c h1.2.1.2 h29
        have hl2 : mid < T := c.2.1.1.lt h1.2.1.2 (by omega) (by omega)
        have hdx := PA_bdK _ _ _ _ _ _ _ _ hE
        unfold HDc at hdx
        rw [if_pos k29, bnd_s, show decide ((1 : Int32) = 0) = false from rfl, br_fq]
        refine r_bnd (pk_mo (IH d2 x (mid + 1) (hi - 1) c1 c2 s1 r (adv w2 mid) pj sc2 hE (PRS_ad h1 hl2)) (fun w3 rr hz => ?_))
        obtain ⟨pn, pj3, sc3, W3, rfl, hpn, g1, g2, g3⟩ := hz
        have pj5 := h1.2.2.2.2.2.2
        rw [decide_eq_false (nat_ne2 (by omega)), br_fq]
        refine r_ck (fun _ => r_lt ?_)
        rw [i_nt2 (by omega)]
        unfold kb_M_rowPattern_186
        refine r_ck (fun _ => r_lt ?_)
        rw [i_nt2 (by omega), show vp_nar .boolean 1 = 1 from rfl]
        have q5 : PRd w0 T (upA w3 37 (upd (w3.2.2.1 37) last (I (pn : Nat)))) (hi - 1) pj3 sc3 := PRS_k g1 (fun _ _ _ _ => rfl) (fun k hk => upA_no (by omega)) g1.2.1.1 g1.2.1.2 g1.2.2.2.2.2.1 g1.2.2.2.2.2.2
        have q8 : RFP (wRW w pi 6 lo) (upA w3 37 (upd (w3.2.2.1 37) last (I (pn : Nat)))) pi := RFP_A (RFP_tr h3 (RFP_tr (RFP_I RFP_rf (Or.inr (Or.inr rfl))) g3 (Nat.le_refl _)) (by omega)) (by decide) (by omega)
        generalize upA w3 37 (upd (w3.2.2.1 37) last (I (pn : Nat))) = w4 at q5 q8
        have s5 : PRd w0 T (upA w4 38 (upd (w4.2.2.1 38) pi 1)) (hi - 1) pj3 sc3 := PRS_k q5 (fun _ _ _ _ => rfl) (fun k hk => upA_no (by omega)) q5.2.1.1 q5.2.1.2 q5.2.2.2.2.2.1 q5.2.2.2.2.2.2
        have s8 : RFP (wRW w pi 6 lo) (upA w4 38 (upd (w4.2.2.1 38) pi 1)) pi := RFP_A q8 (by decide) (Nat.le_refl _)
        generalize upA w4 38 (upd (w4.2.2.1 38) pi 1) = w5 at s5 s8
        obtain ⟨W, h2⟩ := h2
        have gap : ∀ j, mid ≤ j → j < mid + 1 → K j ≠ 3 := fun j a b => by rw [show j = mid by omega]; omega
        have hHD : HDw false nm Nk K (mrw (mid + 1) W W3) (lo + 1) (hi - 1) sc sc3 := mrw_tr (by omega) (by omega) (HDw_tr (by omega) (by omega) h2 (HDw_gap gap)) g2
        exact rpu_fin (kd := 24) (cl := 25) (x := 6) (v2 := 0) c hl k0 (Or.inr ⟨rfl, rfl, rfl, rfl, rfl⟩) h5 (by omega) s5 (by omega) ⟨_, hHD⟩ s8
theorem rpu_all (c : CTZ m0 w0 K T nm Nk) : ∀ f, HRP N m0 w0 K T nm Nk f
  | 0 => fun d n lo hi xa xb q r w pi sc h => h.elim
  | f + 1 => fun d n lo hi xa xb q r w pi sc h hR => by
    cases d with
    | zero => exact pk_none
    | succ d =>
      have hd := PA_bdK _ _ _ _ _ _ _ _ h
      unfold HDc at hd
      show PK _ (km_M_patternAt N (krc_M_rowPattern N d) w 0)
      obtain ⟨-, -, -, h⟩ := h
      rcases h with ⟨⟨-, h1, -⟩, rfl⟩ | ⟨-, n1, -, -, -, h2, rfl, h4⟩ | ⟨-, n1, c1, -, pa, hc1, h2, h3⟩ | ⟨-, h⟩ | ⟨-, h⟩
      · have hk : 1 ≤ K lo ∧ K lo ≤ 4 := by
          have e := c.1.2 lo hR.2.1.2
          have k46 := c.1.1.k46 hR.2.1.2
          have : A m0 6 lo = ((K lo : Nat) : Int) := by
            show (m0.2.2.1 6 lo).toInt = _
            rw [e]
            exact I_ti (by omega) (by omega)
          omega
        exact rpu_leaf c hR hk
      · have k0 : K lo = 34 := kA c hR.2.1.2 h4
        have hl : lo < T := c.1.1.lt hR.2.1.2 (by omega) (by omega)
        exact rpu_neg c hR k0 (kA c hl h2)
      · exact rpu_grp c (rpu_all c f) hR pa h2 h3
      · have hlh : lo + 2 ≤ hi := by
          obtain ⟨kk, n1, c1, e18, e19, ⟨hkk, k22, k23⟩, hO, hcn⟩ := h
          by_cases z : hi = lo + 1
          · rw [z, show lo + 1 - 1 = lo by omega] at k23
            omega
          · omega
        exact rpu_tup c (rpu_all c f) hR h hlh
      · exact rpu_lst c (rpu_all c f) hR h
end
end
section
set_option maxRecDepth 100000
def TKbk (w u x : MS) (L : Nat) : Prop := TBK w u x (L + 1) ∧ (x.1 39 = w.1 39 ∧ x.1 46 = w.1 46 ∧ x.1 56 = w.1 56 ∧ x.1 58 = w.1 58 ∧ x.1 71 = w.1 71) ∧ x.2.2.2 = u.2.2.2
def HEq2 : SCT → SCT → Prop
  | [], [] => True
  | e :: t, e2 :: t2 => e2.2.1 = e.2.1 ∧ HEq2 t t2
  | _, _ => False
def HPre : SCT → SCT → Prop
  | [], [] => True
  | e :: t, e2 :: t2 => e.2.1 <+: e2.2.1 ∧ HPre t t2
  | _, _ => False
section
variable {α β : Type} {m0 w0 m w m2 w2 m3 w3 v u w1 wS x y : MS} {K nm Nk W W1 W2 : Nat → Nat} {N T D d o b c q r s lo lo0 mid hi i j f f2 n k kk p p2 p3 σ tk xa xb xc M M1 M2 pi pj L : Nat} {Q Q0 Q2 Q3 : Nat → Nat} {sc sc0 sc2 sc3 t t1 t2 : SCT} {e e1 e2 : List Nat × List Nat × Nat} {v1 v2 v3 v4 v5 v6 t0 xx : Int32} {RR : MS → α → MS → β → Prop} {RX : MS → α → MS → Int32 → Prop} {A' : Option (MS × α)} {S : SG_M_behind} {l l2 : List Nat}
theorem SVd_fr (h : SVd w v Q L) (h74 : ∀ j, j < Q 75 + 8 → u.2.2.1 74 j = v.2.2.1 74 j) (h76 : ∀ j, j < Q 77 + 54 → u.2.2.1 76 j = v.2.2.1 76 j) (hL : L ≤ 27) : SVd w u Q L := by
  obtain ⟨h1, ⟨c1, c2, c3, c4⟩, h3, h4, h5, h6, h7⟩ := h
  refine ⟨h1, ⟨by rw [h74 _ (by omega)]; exact c1, by rw [h74 _ (by omega)]; exact c2, by rw [h74 _ (by omega)]; exact c3, fun i hi => ?_⟩, by rw [h74 _ (by omega)]; exact h3, by rw [h74 _ (by omega)]; exact h4, by rw [h74 _ (by omega)]; exact h5, by rw [h74 _ (by omega)]; exact h6, by rw [h74 _ (by omega)]; exact h7⟩
  rw [h76 _ (by omega), h76 _ (by omega)]
  exact c4 i hi
theorem tb_x {F : MS → Unit → Option (MS × β)} (h65 : u.1 65 = I ((L : Nat) : Int)) (hL : L ≤ 26) (h75 : u.1 75 = I ((Q 75 + 8 : Nat) : Int)) (h77 : u.1 77 = I ((Q 77 + 54 : Nat) : Int)) (hs : SVd w u Q (L + 1)) (h : ∀ x, TKbk w u x L → PP RR A' (F x ())) : PP RR A' (bnd (fm_M_takeBack N u) F) := by
  obtain ⟨⟨b1, b2⟩, c1, c3, c4, c5, c6, c7⟩ := hs
  refine r_bnd (fun x z hx => h x ?_)
  have a1 := tb_p (N := N) h65 hL h75 b1 h77 (by omega) c1 x z hx
  obtain ⟨d1, d2, d3, d4, d5⟩ := tb2 (N := N) h75 b1 x z hx
  exact ⟨a1, ⟨d1.trans c3, d2.trans c4, d3.trans c5, d4.trans c6, d5.trans c7⟩, (yv9_fm_M_takeBack (u0 := u) Kv9_rf x z hx).1⟩
theorem RNl_b1 : ∀ {a b : SCT}, RNl w a → RNl u b → HLp a b → (∀ i, i < a.length → x.2.2.1 60 i = w.2.2.1 60 i ∧ x.2.2.1 63 i = w.2.2.1 63 i) → x.2.2.1 59 = u.2.2.1 59 → x.2.2.1 61 = u.2.2.1 61 → x.2.2.1 64 = u.2.2.1 64 → RNl x a
  | [], [], _, _, _, _, _, _, _ => trivial
  | [], _ :: _, _, _, h, _, _, _, _ => h.elim
  | _ :: _, [], _, _, h, _, _, _, _ => h.elim
  | e :: t, e2 :: t2, ha, hb, hl, h1, h2, h3, h4 => by
    have ln := HLp_len hl.2
    obtain ⟨a1, a2, a3, a4, a5⟩ := ha.1
    obtain ⟨b1, b2, b3, b4, b5⟩ := hb.1
    rw [ln] at b2 b4 b5
    obtain ⟨c1, c2⟩ := h1 t.length (by show t.length < t.length + 1; omega)
    obtain ⟨l1, l2, l3⟩ := hl.1
    exact ⟨⟨by rw [c1]; exact a1, fun k y hy => by rw [h2]; exact b2 k y (by rw [l1]; exact hy), by rw [c2]; exact a3, fun k y hy => by rw [h3]; exact b4 k y (pre_get l3 hy), by rw [h4, b5, l2]⟩, RNl_b1 ha.2 hb.2 hl.2 (fun i hi => h1 i (by show i < t.length + 1; omega)) h2 h3 h4⟩
theorem RNl_b2 : ∀ {a b : SCT}, RNl w a → RNl y b → BDs a b → (∀ i, i < a.length → x.2.2.1 60 i = w.2.2.1 60 i ∧ x.2.2.1 63 i = y.2.2.1 63 i) → x.2.2.1 59 = y.2.2.1 59 → x.2.2.1 61 = y.2.2.1 61 → x.2.2.1 64 = y.2.2.1 64 → RNl x b
  | [], [], _, _, _, _, _, _, _ => trivial
  | [], _ :: _, _, _, h, _, _, _, _ => h.elim
  | _ :: _, [], _, _, h, _, _, _, _ => h.elim
  | e :: t, e2 :: t2, ha, hb, hl, h1, h2, h3, h4 => by
    have ln := (BDs_len hl.2).1
    obtain ⟨a1, a2, a3, a4, a5⟩ := ha.1
    obtain ⟨b1, b2, b3, b4, b5⟩ := hb.1
    obtain ⟨c1, c2⟩ := h1 t.length (by show t.length < t.length + 1; omega)
    obtain ⟨l1, l2⟩ := hl.1
    refine ⟨?_, RNl_b2 ha.2 hb.2 hl.2 (fun i hi => h1 i (by show i < t.length + 1; omega)) h2 h3 h4⟩
    rw [ln] at b1 b2 b3 b4 b5 ⊢
    exact ⟨by rw [c1, a1, l1], fun k y hy => by rw [h2]; exact b2 k y hy, by rw [c2]; exact b3, fun k y hy => by rw [h3]; exact b4 k y hy, by rw [h4]; exact b5⟩
theorem HFl_62 : ∀ {sc : SCT}, HFl w sc → H62 w x sc → HFl x sc
  | [], _, _ => trivial
  | e :: t, h, h2 => ⟨fun k y hk => by
    have kl := (List.getElem?_eq_some_iff.mp hk).1
    obtain ⟨i, i1, i2⟩ := h.1 k y hk
    refine ⟨i, ?_, i2⟩
    rw [h2 t.length k (by show t.length < t.length + 1; omega) (by show k < if t.length = t.length then e.2.1.length else hcn t t.length; rw [if_pos rfl]; exact kl)]
    exact i1, HFl_62 h.2 (fun s k hs hk => h2 s k (by show s < t.length + 1; omega) (by show k < if s = t.length then e.2.1.length else hcn t s; rw [if_neg (by omega)]; exact hk))⟩
theorem SOK_b2 (h : SOK (e :: t)) (h1 : SOK (e1 :: t1)) (hp : e.1 <+: e1.1) : SOK ((e.1, e1.2.1, e1.2.2) :: t1) := ⟨⟨h.1.1, h.1.2.1, h1.1.2.2.1, Nat.le_trans hp.length_le h1.1.2.2.2.1, h1.1.2.2.2.2.1, h1.1.2.2.2.2.2.1, h1.1.2.2.2.2.2.2⟩, h1.2⟩
theorem QRR_n (h1 : ∀ k, k ≠ 60 → k ≠ 63 → k ≠ 78 → u.2.2.1 k = v.2.2.1 k) (h2 : u.2.2.2 = v.2.2.2) : QRR Q v u := by
  refine ⟨fun k a1 a2 a3 => h1 k (by omega) (by omega) a3, fun k q a1 _ => ?_, fun k q _ => by rw [h2]⟩
  have gr : k ≠ 60 ∧ k ≠ 63 ∧ k ≠ 78 := ⟨fun z => a1 (by rw [z]; rfl), fun z => a1 (by rw [z]; rfl), fun z => a1 (by rw [z]; rfl)⟩
  rw [h1 k gr.1 gr.2.1 gr.2.2]
theorem mt_75 (h65 : u.1 65 = I ((L : Nat) : Int)) (hL : L ≤ 26) (h : ∀ (u2 : MS) (M : Nat), u2.1 = u.1 → (∀ k, k ≠ 78 → u2.2.2.1 k = u.2.2.1 k) → u2.2.2.2 = u.2.2.2 → (∀ i, i ≤ L → u2.2.2.1 78 i = u.2.2.1 63 i) → PP RX A' (bnd (fm_M_takeBack N u2) (fun u12 _ => (kg_M_matched N S M).2 u12 v1 v2 0))) : ∀ (M i : Nat) (r : MS), i ≤ L + 1 → r.1 = u.1 → (∀ k, k ≠ 78 → r.2.2.1 k = u.2.2.1 k) → r.2.2.2 = u.2.2.2 → (∀ j, j < i → r.2.2.1 78 j = u.2.2.1 63 j) → PP RX A' ((kg_M_matched N S M).1 r v1 v2 (I (i : Nat)))
  | 0, _, _, _, _, _, _, _ => pp_nr
  | M + 1, i, r, hi, e1, e2, e3, e4 => by
    show PP RX A' (kb_M_matched_75 N S (kg_M_matched N S M) r v1 v2 (I (i : Nat)))
    unfold kb_M_matched_75
    rw [e1, h65, decL (by omega) (by omega) (by omega) (by omega)]
    by_cases z : L < i
    · rw [decide_eq_true (by omega), br_tq]
      exact h r M e1 e2 e3 (fun j hj => e4 j (by omega))
    · rw [decide_eq_false (by omega), br_fq]
      refine r_ck (fun _ => r_ck (fun _ => r_lt ?_))
      rw [i_nt2 (p := i) (by omega), i_suc]
      refine mt_75 h65 hL h M (i + 1) _ (by omega) e1 (fun k hk => by rw [upA_no hk]; exact e2 k hk) e3 (fun j hj => ?_)
      rw [upA_at]
      by_cases y : j = i
      · rw [y, upd_at, e2 63 (by decide)]
      · rw [upd_no y]; exact e4 j (by omega)
theorem mt_111 (h65 : u.1 65 = I ((L : Nat) : Int)) (hL : L ≤ 26) (h : ∀ (u2 : MS) (G : (MS → Int32 → Int32 → Int32 → Option (MS × Int32)) × (MS → Int32 → Int32 → Int32 → Option (MS × Int32))), u2.1 = u.1 → (∀ k, k ≠ 63 → u2.2.2.1 k = u.2.2.1 k) → u2.2.2.2 = u.2.2.2 → (∀ i, i ≤ L → u2.2.2.1 63 i = u.2.2.1 78 i) → PP RX A' (br (decide ((u2.1 73) = 0)) (kb_M_matched_154 N S G u2 v1 v2) (bnd (fm_M_rule N u2 7 v2) (fun u10 _ => kb_M_matched_154 N S G u10 v1 v2)))) : ∀ (M i : Nat) (r : MS), i ≤ L + 1 → r.1 = u.1 → (∀ k, k ≠ 63 → r.2.2.1 k = u.2.2.1 k) → r.2.2.2 = u.2.2.2 → (∀ j, j < i → r.2.2.1 63 j = u.2.2.1 78 j) → PP RX A' ((kg_M_matched N S M).2 r v1 v2 (I (i : Nat)))
  | 0, _, _, _, _, _, _, _ => pp_nr
  | M + 1, i, r, hi, e1, e2, e3, e4 => by
    show PP RX A' (kb_M_matched_111 N S (kg_M_matched N S M) r v1 v2 (I (i : Nat)))
    unfold kb_M_matched_111
    rw [show decide (r.1 65 < I (i : Nat)) = decide (((L : Nat) : Int) < ((i : Nat) : Int)) by rw [e1, h65, decL (by omega) (by omega) (by omega) (by omega)]]
    by_cases z : L < i
    · rw [decide_eq_true (by omega), br_tq]
      exact h r _ e1 e2 e3 (fun j hj => e4 j (by omega))
    · rw [decide_eq_false (by omega), br_fq]
      refine r_ck (fun _ => r_ck (fun _ => r_lt ?_))
      rw [i_nt2 (p := i) (by omega), i_suc]
      refine mt_111 h65 hL h M (i + 1) _ (by omega) e1 (fun k hk => by rw [upA_no hk]; exact e2 k hk) e3 (fun j hj => ?_)
      rw [upA_at]
      by_cases y : j = i
      · rw [y, upd_at, e2 78 (by decide)]
      · rw [upd_no y]; exact e4 j (by omega)
theorem hdc_cg : ∀ (n p : Nat) (l : List Nat), (∀ j, p ≤ j → j < p + n → K j = 3 → (W1 j < L ↔ W2 j < L)) → hdc Nk K W2 L n p l = hdc Nk K W1 L n p l
  | 0, _, _, _ => rfl
  | n + 1, p, l, h => by
    show hdc Nk K W2 L n (p + 1) _ = hdc Nk K W1 L n (p + 1) _
    have e : (if K p = 3 ∧ W2 p < L ∧ Nk p ∉ l ∧ l.length < 60 then l ++ [Nk p] else l) = (if K p = 3 ∧ W1 p < L ∧ Nk p ∉ l ∧ l.length < 60 then l ++ [Nk p] else l) := by
      by_cases z : K p = 3
      · have := h p (Nat.le_refl _) (by omega) z
        by_cases z1 : W1 p < L
        · have z2 := this.mp z1
          by_cases z3 : Nk p ∉ l ∧ l.length < 60
          · rw [if_pos ⟨z, z2, z3⟩, if_pos ⟨z, z1, z3⟩]
          · rw [if_neg (fun q => z3 q.2.2), if_neg (fun q => z3 q.2.2)]
        · rw [if_neg (fun q => z1 (this.mpr q.2.1)), if_neg (fun q => z1 q.2.1)]
      · rw [if_neg (fun q => z q.1), if_neg (fun q => z q.1)]
    rw [e]
    exact hdc_cg n (p + 1) _ (fun j a b c => h j (by omega) (by omega) c)
theorem HDo_cg : ∀ {a b : SCT}, (∀ j, p ≤ j → j < p2 → K j = 3 → ∀ L, L < a.length → (W1 j < L ↔ W2 j < L)) → (∀ j, p ≤ j → j < p2 → K j = 3 → W2 j ≤ 32) → HDo Nk K W1 p p2 a b → HDo Nk K W2 p p2 a b
  | [], [], _, h2, _ => h2
  | [], _ :: _, _, _, h => h.elim
  | _ :: _, [], _, _, h => h.elim
  | e :: t, e2 :: t2, h1, h2, h => by
    have el : (e :: t).length = t.length + 1 := rfl
    refine ⟨?_, HDo_cg (fun j a b c L hL => h1 j a b c L (by omega)) h2 h.2⟩
    rw [h.1]
    exact (hdc_cg (p2 - p) p e.2.1 (fun j a b c => h1 j a (by omega) c t.length (by omega))).symm
theorem hdc_idem : ∀ (n p : Nat) (l l2 : List Nat), hdc Nk K W L n p l <+: l2 → hdc Nk K W L n p l2 = l2
  | 0, _, _, _, _ => rfl
  | n + 1, p, l, l2, h => by
    have h : hdc Nk K W L n (p + 1) (if K p = 3 ∧ W p < L ∧ Nk p ∉ l ∧ l.length < 60 then l ++ [Nk p] else l) <+: l2 := h
    show hdc Nk K W L n (p + 1) (if K p = 3 ∧ W p < L ∧ Nk p ∉ l2 ∧ l2.length < 60 then l2 ++ [Nk p] else l2) = l2
    have e : (if K p = 3 ∧ W p < L ∧ Nk p ∉ l2 ∧ l2.length < 60 then l2 ++ [Nk p] else l2) = l2 := by
      refine if_neg (fun z => ?_)
      have pre : (if K p = 3 ∧ W p < L ∧ Nk p ∉ l ∧ l.length < 60 then l ++ [Nk p] else l) <+: l2 := (hdc_pre n (p + 1) _).trans h
      by_cases y : Nk p ∉ l ∧ l.length < 60
      · rw [if_pos ⟨z.1, z.2.1, y⟩] at pre
        exact z.2.2.1 (pre.subset (List.mem_append_right _ (List.mem_singleton.mpr rfl)))
      · rw [if_neg (fun q => y q.2.2)] at pre
        by_cases y1 : Nk p ∈ l
        · exact z.2.2.1 (pre.subset y1)
        · have := pre.length_le
          exact y ⟨y1, by omega⟩
    rw [e]
    exact hdc_idem n (p + 1) _ l2 h
theorem HPre_of : ∀ {a b : SCT}, HDo Nk K W p p2 a b → HPre a b
  | [], [], _ => trivial
  | [], _ :: _, h => h.elim
  | _ :: _, [], h => h.elim
  | e :: t, e2 :: t2, h => ⟨by rw [h.1]; exact hdc_pre _ _ _, HPre_of h.2⟩
theorem HDo_idem : ∀ {a b c d : SCT}, HDo Nk K W p p2 a b → HPre b c → HDo Nk K W p p2 c d → HEq2 c d
  | [], [], [], [], _, _, _ => trivial
  | [], [], [], _ :: _, _, _, h => h.elim
  | [], [], _ :: _, _, _, h, _ => h.elim
  | [], _ :: _, _, _, h, _, _ => h.elim
  | _ :: _, [], _, _, h, _, _ => h.elim
  | _ :: _, _ :: _, [], _, _, h, _ => h.elim
  | _ :: _, _ :: _, _ :: _, [], _, _, h => h.elim
  | ea :: ta, eb :: tb, ec :: tc, ed :: td, h1, h2, h3 => by
    have l1 := HDo_len h1.2
    have l3 := HDo_len h3.2
    have l2 : tc.length = tb.length := by
      have : ∀ {b c : SCT}, HPre b c → c.length = b.length := fun {b} => by
        induction b with
        | nil => intro c h; cases c with
          | nil => rfl
          | cons _ _ => exact h.elim
        | cons _ t ih => intro c h; cases c with
          | nil => exact h.elim
          | cons _ t2 => exact congrArg Nat.succ (ih h.2)
      exact this h2.2
    refine ⟨?_, HDo_idem h1.2 h2.2 h3.2⟩
    rw [h3.1, show tc.length = ta.length by omega]
    exact hdc_idem (p2 - p) p ea.2.1 ec.2.1 (by rw [← h1.1]; exact h2.1)
theorem HDo_eq : ∀ {a c d : SCT}, HDo Nk K W p p2 a c → HEq2 c d → HDo Nk K W p p2 a d
  | [], [], [], h, _ => h
  | [], [], _ :: _, _, h => h.elim
  | [], _ :: _, _, h, _ => h.elim
  | _ :: _, [], _, h, _ => h.elim
  | _ :: _, _ :: _, [], _, h => h.elim
  | ea :: ta, ec :: tc, ed :: td, h, k => ⟨by rw [k.1]; exact h.1, HDo_eq h.2 k.2⟩
theorem WCN_lt (h1 : WCN Nk K nm W1 p p2 sc) (h2 : WCN Nk K nm W2 p p2 sc) : ∀ j, p ≤ j → j < p2 → K j = 3 → ∀ L, L < sc.length → (W1 j < L ↔ W2 j < L) := fun j a b c L hL => by
  obtain ⟨f1, f2⟩ := h1 j a b c
  obtain ⟨g1, g2⟩ := h2 j a b c
  by_cases z : nm (Nk j) = 0 ∨ fnb (Nk j) sc = false
  · have := f2 z
    have := g2 z
    omega
  · have n0 : nm (Nk j) ≠ 0 := fun q => z (Or.inl q)
    have fb : fnb (Nk j) sc = true := by
      cases q : fnb (Nk j) sc with
      | false => exact absurd (Or.inr q) z
      | true => rfl
    rw [f1 n0 fb, g1 n0 fb]
end
end
section
set_option maxRecDepth 100000
section
variable {α β : Type} {m0 w0 m w m2 w2 m3 w3 v u w1 mS wS x1 x2 y1 : MS} {K nm Nk W WE W1 W2 : Nat → Nat} {N T D d o a a0 b b0 b5 b7 c cm cm0 cm2 cm3 cm5 cm7 q q0 r s lo lo0 mid hi i j f f2 n k kk p p2 σ tk x y xa xb xc M L pi pj pn : Nat} {Q Q0 Q2 Q3 Q4 Q5 : Nat → Nat} {sc sc0 sc2 sc3 sc5 sc7 t t1 t2 : SCT} {e e1 e2 : List Nat × List Nat × Nat} {g lst : Bool} {idc fof cvr : Int → Int → Int} {z : Unit} {rt v1 v2 v3 v4 v5 xx : Int32} {A' : Option (MS × α)} {RR : MS → α → MS → β → Prop} {RX : MS → α → MS → Int32 → Prop}
theorem tb_P (hT : TKbk w u x1 L) (hU : PRd w0 T u p pj sc2) (hn : RNs x1 sc) (hf : HFl x1 sc) (h39 : w.1 39 = I (pi : Nat) ∧ pi ≤ 5000) : PRd w0 T x1 p pi sc := by
  obtain ⟨h1, ⟨h2, -⟩, h3⟩ := hT
  obtain ⟨-, i1, r1, -, -⟩ := h1
  refine ⟨⟨fun k hk => ?_, fun k hk => ?_⟩, ⟨by rw [i1 69 (by decide)]; exact hU.2.1.1, hU.2.1.2⟩, by rw [i1 67 (by decide)]; exact hU.2.2.1, hn, hf, by rw [h2]; exact h39.1, h39.2⟩
  · rw [i1 k (by
      unfold TIN at hk
      simp only [List.mem_cons, List.not_mem_nil, or_false] at hk ⊢
      omega)]
    exact hU.1.1 k hk
  · have : k < 33 := by unfold TRW at hk; simp only [List.mem_cons, List.not_mem_nil, or_false] at hk; omega
    rw [r1 k (by omega) (by omega)]; exact hU.1.2 k hk
theorem PRd_to (h : PRd w0 T w p pi sc) (hl : lo ≤ T) : PRd w0 T (upI w 69 (I (lo : Nat))) lo pi sc := PRS_k h (fun k h1 h2 h3 => upI_ne h3) (fun _ _ => rfl) upI_at hl (by rw [upI_ne (by decide)]; exact h.2.2.2.2.2.1) h.2.2.2.2.2.2
theorem mt_rd (c : CTZ m0 w0 K T nm Nk) (hx : PAcK m0 f x lo mid xa xc q q) (hR : XRS w0 T w lo Q (e :: t)) (hX2 : XRS w0 T w2 mid Q2 sc2) (hQv : QRR Q w v) (s8 : ∀ k, k ≠ 74 → k ≠ 76 → v.2.2.1 k = w.2.2.1 k) (hF2 : XRF v w2 (QSV Q) Q2) (hL2 : HLp (e :: t) sc2) (h62 : H62 v w2 (e :: t)) (hSV : SVd w v Q (t.length + 1)) (km : K mid = 30)
    (h : ∀ (x4 : MS) (e1 : List Nat × List Nat × Nat) (t1 : SCT) (W1 : Nat → Nat), XRS w0 T x4 (mid + 1) (QSV Q) ((e.1, e1.2.1, e1.2.2) :: t1) → QRR (QSV Q) v x4 → e.1 <+: e1.1 → BDs t t1 → HDo Nk K W1 lo mid (e :: t) ((e.1, e1.2.1, e1.2.2) :: t1) → WCN Nk K nm W1 lo mid (e :: t) → PP RX A' (bnd ((krc_M_behind N d).1 x4) (fun u2 r2 => br (decide ((u2.1 67) = 0)) (lt (upI u2 69 (I (lo : Nat))) (fun w3 => lt (upI w3 70 ((w3.1 70) - 1)) (fun w4 => bnd (kr_M_patternAt N w4 0) (fun u5 r5 => lt (upI u5 70 ((u5.1 70) + 1)) (fun w6 => lt (upI w6 69 (u2.1 69)) (fun w7 => bnd (fm_M_node N w7 16 (I (mid : Nat))) (fun u8 r8 => ck (inb r8 (ln 25)) (lt (upA u8 25 (upd (u8.2.2.1 25) r8.toNatClampNeg r5)) (fun w9 => some (w9, r8)))))))))) (some (u2, (-1)))))) : PP RX A' (km_M_matched N (krc_M_behind N d) w2 (I (lo : Nat))) := by
  have t4 := c.2.1.1.1
  have hdx := PA_bdK _ _ _ _ _ _ _ _ hx
  unfold HDc at hdx
  have hn := hR.1.2.2.2.1
  have hl27 : t.length + 1 ≤ 27 := hn.2.1.2
  have hn2 := hX2.1.2.2.2.1
  have len2 := HLp_len hL2
  have el : (e :: t).length = t.length + 1 := rfl
  have u65 : w2.1 65 = I (t.length : Nat) := by rw [hn2.1, len2]; rfl
  have m75 : w2.1 75 = I ((Q 75 + 8 : Nat) : Int) := by
    have h1 := (hX2.2 75 (by decide)).1
    rw [hF2.2.2.1, QSV_75] at h1
    exact h1
  have m77 : w2.1 77 = I ((Q 77 + 54 : Nat) : Int) := by
    have h1 := (hX2.2 77 (by decide)).1
    rw [hF2.2.2.2.1, QSV_77] at h1
    exact h1
  have m83 : w2.1 83 = I (Q 83 : Nat) := by
    have h1 := (hX2.2 83 (by decide)).1
    rw [hF2.2.2.2.2, QSV_n (by decide) (by decide)] at h1
    exact h1
  have hS2 : SVd w w2 Q (t.length + 1) := SVd_fr hSV (fun j hj => hF2.1.2.1 74 j (by decide) (by show j < QSV Q 75; rw [QSV_75]; exact hj)) (fun j hj => hF2.1.2.1 76 j (by decide) (by show j < QSV Q 77; rw [QSV_77]; exact hj)) hl27
  have ok := hn.2.2.2
  unfold km_M_matched kb_M_matched_0
  refine tb_x u65 (by omega) m75 m77 hS2 (fun x1 hx1 => ?_)
  have hT := hx1.1
  have r1 : ∀ k, k ≠ 60 → k ≠ 63 → x1.2.2.1 k = w2.2.2.1 k := hT.2.2.1
  have n1 : RNs x1 (e :: t) := ⟨by rw [hT.2.1 65 (by decide), u65]; rfl, hn.2.1, RNl_b1 hn.2.2.1 hn2.2.2.1 hL2 (fun i hi => hT.2.2.2.1 i hi) (r1 59 (by decide) (by decide)) (r1 61 (by decide) (by decide)) (r1 64 (by decide) (by decide)), ok⟩
  have f1 : HFl x1 (e :: t) := HFl_62 hR.1.2.2.2.2.1 (fun s j h1 h2 => by rw [r1 62 (by decide) (by decide), h62 s j h1 h2, s8 62 (by decide) (by decide)])
  have p1 := tb_P hx1 hX2.1 n1 f1 hR.1.2.2.2.2.2
  rw [lt_e, lt_e]
  have p2 : PRd w0 T (upI (upI x1 69 (I (lo : Nat))) 70 ((upI x1 69 (I (lo : Nat))).1 70 - 1)) lo (Q 39) (e :: t) := PRS_70 (PRd_to p1 hR.1.2.1.2)
  have i2 : ∀ k, k ≠ 69 → k ≠ 70 → (upI (upI x1 69 (I (lo : Nat))) 70 ((upI x1 69 (I (lo : Nat))).1 70 - 1)).1 k = x1.1 k := fun k k1 k2 => by rw [upI_ne k2, upI_ne k1]
  have r2 : (upI (upI x1 69 (I (lo : Nat))) 70 ((upI x1 69 (I (lo : Nat))).1 70 - 1)).2 = x1.2 := rfl
  generalize upI (upI x1 69 (I (lo : Nat))) 70 ((upI x1 69 (I (lo : Nat))).1 70 - 1) = xs at p2 i2 r2
  unfold kr_M_patternAt
  refine r_bnd (pk_mo (rpu_all c f _ x lo mid xa xc q q xs (Q 39) (e :: t) hx p2) (fun y rr hz => ?_))
  obtain ⟨pn1, pj1, sc1, W1, rfl, -, p3, ⟨hd1, hw1⟩, rf1⟩ := hz
  obtain ⟨wc1, nw1⟩ := hw1 rfl
  rw [lt_e]
  have p4 := PRS_70 (x := y.1 70 + 1) p3
  have i4 : ∀ k, k ≠ 70 → (upI y 70 (y.1 70 + 1)).1 k = y.1 k := fun k hk => upI_ne hk
  have r4 : (upI y 70 (y.1 70 + 1)).2 = y.2 := rfl
  generalize upI y 70 (y.1 70 + 1) = ys at p4 i4 r4
  rw [decide_eq_true p4.2.2.1, br_tq, show decide (ys.1 69 = w2.1 69) = true from decide_eq_true (p4.2.1.1.trans hX2.1.2.1.1.symm), br_tq]
  obtain ⟨e1, t1, rfl⟩ := PRS_ne p4
  have bd := nw1.2.1
  have len1 := (BDs_len bd).1
  have iy : ∀ k, k ∉ [32, 39, 46, 56, 58, 66, 69, 70, 71, 72] → ys.1 k = w2.1 k := fun k hk => by
    simp only [List.mem_cons, List.not_mem_nil, or_false] at hk
    rw [i4 k (by omega), rf1.1 k (by omega) (by omega) (by omega), i2 k (by omega) (by omega), hT.2.1 k (by simp only [List.mem_cons, List.not_mem_nil, or_false]; omega)]
  have ry : ∀ k, k < 33 ∨ (38 < k ∧ k < 59) ∨ 64 < k → ys.2.2.1 k = w2.2.2.1 k := fun k hk => by
    rw [r4, rf1.2.1 k hk, r2, r1 k (by omega) (by omega)]
  have y65 : ys.1 65 = I (t.length : Nat) := (iy 65 (by decide)).trans u65
  rw [hX2.1.2.1.1]
  refine mt_75 (u := ys) y65 (by omega) (fun u2 M a1 a2 a3 a4 => ?_) N 0 ys (by omega) rfl (fun _ _ => rfl) rfl (fun j hj => absurd hj (by omega))
  have hS3 : SVd w u2 Q (t.length + 1) := SVd_fr hS2 (fun j _ => by rw [a2 74 (by decide), ry 74 (by omega)]) (fun j _ => by rw [a2 76 (by decide), ry 76 (by omega)]) hl27
  refine tb_x (by rw [a1]; exact y65) (by omega) (by rw [a1, iy 75 (by decide)]; exact m75) (by rw [a1, iy 77 (by decide)]; exact m77) hS3 (fun x2 hx2 => ?_)
  have hT2 := hx2.1
  have r5 : ∀ k, k ≠ 60 → k ≠ 63 → x2.2.2.1 k = u2.2.2.1 k := hT2.2.2.1
  have x65 : x2.1 65 = I (t.length : Nat) := by rw [hT2.2.1 65 (by decide), a1]; exact y65
  refine mt_111 (u := x2) x65 (by omega) (fun u3 G b1 b2 b3 b4 => ?_) M 0 x2 (by omega) rfl (fun _ _ => rfl) rfl (fun j hj => absurd hj (by omega))
  have i3 : ∀ k, k ∉ [32, 39, 46, 56, 58, 66, 71, 72] → u3.1 k = ys.1 k := fun k hk => by rw [b1, hT2.2.1 k hk, a1]
  have r3 : ∀ k, k ≠ 60 → k ≠ 63 → k ≠ 78 → u3.2.2.1 k = ys.2.2.1 k := fun k k1 k2 k3 => by rw [b2 k k2, r5 k k1 k2, a2 k k3]
  have h63 : ∀ i, i < t.length + 1 → u3.2.2.1 63 i = ys.2.2.1 63 i := fun i hi => by rw [b4 i (by omega), r5 78 (by decide) (by decide), a4 i (by omega)]
  have h60 : ∀ i, i < t.length + 1 → u3.2.2.1 60 i = w.2.2.1 60 i := fun i hi => by rw [b2 60 (by decide)]; exact (hT2.2.2.2.1 i hi).1
  have n4 := p4.2.2.2.1
  obtain ⟨y59, y61, y64, y62⟩ : u3.2.2.1 59 = ys.2.2.1 59 ∧ u3.2.2.1 61 = ys.2.2.1 61 ∧ u3.2.2.1 64 = ys.2.2.1 64 ∧ u3.2.2.1 62 = ys.2.2.1 62 := ⟨r3 59 (by decide) (by decide) (by decide), r3 61 (by decide) (by decide) (by decide), r3 64 (by decide) (by decide) (by decide), r3 62 (by decide) (by decide) (by decide)⟩
  have nM : RNs u3 ((e.1, e1.2.1, e1.2.2) :: t1) := by
    refine ⟨?_, ⟨by show 1 ≤ t1.length + 1; omega, by show t1.length + 1 ≤ 27; omega⟩, ⟨?_, RNl_b2 hn.2.2.1.2 n4.2.2.1.2 bd (fun i hi => ⟨h60 i (by omega), h63 i (by omega)⟩) y59 y61 y64⟩, SOK_b2 ok n4.2.2.2 nw1.1⟩
    · show u3.1 65 = I ((t1.length + 1 - 1 : Nat) : Int)
      rw [b1, x65, show t1.length + 1 - 1 = t.length by omega]
    · obtain ⟨c1, c2, c3, c4, c5⟩ := n4.2.2.1.1
      obtain ⟨d1, d2, -⟩ := hn.2.2.1.1
      rw [len1] at c1 c2 c3 c4 c5 ⊢
      exact ⟨by rw [h60 _ (by omega)]; exact d1, fun k y hk => by rw [y59]; exact c2 k y (pre_get nw1.1 hk), by rw [h63 _ (by omega)]; exact c3, fun k y hk => by rw [y61]; exact c4 k y hk, by rw [y64]; exact c5⟩
  have fM : HFl u3 ((e.1, e1.2.1, e1.2.2) :: t1) := by
    have := HFl_fr (v := u3) n4.2.2.2 p4.2.2.2.2.1 (fun j _ => by rw [y62])
    exact ⟨this.1, this.2⟩
  have hm39 : u3.1 39 = I (Q 39 : Nat) ∧ Q 39 ≤ 5000 := ⟨by rw [b1, hx2.2.1.1]; exact hR.1.2.2.2.2.2.1, hR.1.2.2.2.2.2.2⟩
  have pM : PRd w0 T u3 mid (Q 39) ((e.1, e1.2.1, e1.2.2) :: t1) := by
    refine ⟨⟨fun k hk => ?_, fun k hk => ?_⟩, ⟨by rw [i3 69 (by decide)]; exact p4.2.1.1, p4.2.1.2⟩, by rw [i3 67 (by decide)]; exact p4.2.2.1, nM, fM, hm39⟩
    · rw [i3 k (by
        unfold TIN at hk
        simp only [List.mem_cons, List.not_mem_nil, or_false] at hk ⊢
        omega)]
      exact p4.1.1 k hk
    · have : k < 33 := by unfold TRW at hk; simp only [List.mem_cons, List.not_mem_nil, or_false] at hk; omega
      rw [r3 k (by omega) (by omega) (by omega)]; exact p4.1.2 k hk
  have xM : XRS w0 T u3 mid (QSV Q) ((e.1, e1.2.1, e1.2.2) :: t1) := by
    refine ⟨by rw [QSV_n (by decide) (by decide)]; exact pM, fun k hk => ?_⟩
    have kc : k = 32 ∨ k = 39 ∨ k = 46 ∨ k = 56 ∨ k = 58 ∨ k = 75 ∨ k = 77 ∨ k = 83 := by
      unfold MKs at hk
      simp only [List.mem_cons, List.not_mem_nil, or_false] at hk
      exact hk
    have q75 := (hR.2 75 (by decide)).2
    have b400 := hSV.1
    have old : ∀ k, k ∈ MKs → k ≠ 75 → k ≠ 77 → u3.1 k = w.1 k → u3.1 k = I (QSV Q k : Nat) ∧ QSV Q k ≤ 24000 := fun k hk k1 k2 he => by
      rw [QSV_n k1 k2, he]; exact hR.2 k hk
    rcases kc with rfl | rfl | rfl | rfl | rfl | rfl | rfl | rfl
    · exact old 32 hk (by decide) (by decide) (by rw [b1]; exact hT2.1.1)
    · exact old 39 hk (by decide) (by decide) (by rw [b1]; exact hx2.2.1.1)
    · exact old 46 hk (by decide) (by decide) (by rw [b1]; exact hx2.2.1.2.1)
    · exact old 56 hk (by decide) (by decide) (by rw [b1]; exact hx2.2.1.2.2.1)
    · exact old 58 hk (by decide) (by decide) (by rw [b1]; exact hx2.2.1.2.2.2.1)
    · rw [QSV_75, i3 75 (by decide), iy 75 (by decide)]; exact ⟨m75, by omega⟩
    · rw [QSV_77, i3 77 (by decide), iy 77 (by decide)]; exact ⟨m77, by omega⟩
    · rw [QSV_n (by decide) (by decide), i3 83 (by decide), iy 83 (by decide)]; exact ⟨m83, (hR.2 83 (by decide)).2⟩
  have qM : QRR (QSV Q) v u3 := by
    have q1 : QRR (QSV Q) w2 x1 := QRR_n (fun k k1 k2 _ => r1 k k1 k2) hx1.2.2
    have q2 : QRR (QSV Q) xs y := QRR_P rf1 (by rw [QSV_n (by decide) (by decide)]; exact Nat.le_refl _)
    have q3 : QRR (QSV Q) ys u3 := QRR_n r3 (by rw [b3, hx2.2.2, a3])
    have q12 : QRR (QSV Q) v xs := QRR_e (QRR_tr hF2.1 q1 QLE_rf) (by rw [r2]) (by rw [r2])
    have q13 : QRR (QSV Q) v ys := QRR_e (QRR_tr q12 q2 QLE_rf) (by rw [r4]) (by rw [r4])
    exact QRR_tr q13 q3 QLE_rf
  have hdM : HDo Nk K W1 lo mid (e :: t) ((e.1, e1.2.1, e1.2.2) :: t1) := ⟨hd1.1, hd1.2⟩
  have hmT : mid < T := c.2.1.1.lt hX2.1.2.1.2 (by omega) (by omega)
  have e154 : ∀ u4, RULd u3 u4 → PP RX A' (kb_M_matched_154 N (krc_M_behind N d) G u4 (I (lo : Nat)) (I (mid : Nat))) := fun u4 hu => by
    have X4 := XRS_ad (RUL_x hu xM) hmT
    unfold kb_M_matched_154
    rw [i_suc, lt_e]
    exact h (adv u4 mid) e1 t1 W1 X4 (QRR_e qM (by show u4.2.2.1 = _; rw [hu.2]) (by show u4.2.2.2 = _; rw [hu.2])) nw1.1 bd hdM wc1
  exact r_br (fun _ => e154 u3 RUL_rf) (fun _ => r_rul (fun u4 hu => e154 u4 hu))
end
end
section
set_option maxRecDepth 100000
section
variable {α β : Type} {m0 w0 m w m2 w2 m3 w3 v u w1 mS wS x1 x2 y1 : MS} {K nm Nk W WE W1 W2 : Nat → Nat} {N T D d o a a0 b b0 b5 b7 c cm cm0 cm2 cm3 cm5 cm7 q q0 r s lo lo0 mid hi i j f f2 n k kk p p2 σ tk x y xa xb xc M L pi pj pn : Nat} {Q Q0 Q2 Q3 Q4 Q5 : Nat → Nat} {sc sc0 sc2 sc3 sc5 sc7 t t1 t2 : SCT} {e e1 e2 : List Nat × List Nat × Nat} {g lst : Bool} {idc fof cvr : Int → Int → Int} {z : Unit} {rt v1 v2 v3 v4 v5 xx : Int32} {A' : Option (MS × α)} {RR : MS → α → MS → β → Prop} {RX : MS → α → MS → Int32 → Prop}
theorem XRS_to (h : XRS w0 T w p Q sc) (hl : lo ≤ T) : XRS w0 T (upI w 69 (I (lo : Nat))) lo Q sc := ⟨PRd_to h.1 hl, QMK_I h.2 (by decide)⟩
set_option maxHeartbeats 1000000 in
theorem mt_end (c : CTZ m0 w0 K T nm Nk) (cv : CTV m0 w0 K T) (hf : f ≤ 230) (hn : n ≤ 8015) (h18 : A m0 18 n = ((x : Nat) : Int)) (hx : PAcK m0 f x lo mid xa xc q0 q0) (hxc : xc ≤ 8015) (km : K mid = 30) (hlm : lo < mid ∧ mid < hi ∧ hi ≤ T) (hC : XCS m0 nm m a cm (e :: t) false) (hQ56 : Q 56 = q) (htot : tot (e :: t) + (hi - lo) ≤ 4000) (bd : BDs t t1) (hdM : HDo Nk K W1 lo mid (e :: t) ((e.1, e1.2.1, e1.2.2) :: t1)) (wc1 : WCN Nk K nm W1 lo mid (e :: t)) {v3s m5 u5 : MS} (hqv : QRR (QSV Q) v v3s) (tE : XTR m0 w0 K T nm Nk fof cvr lst false [] (mid + 1) hi a b5 cm cm5 q r (QSV Q) Q5 ((e.1, e1.2.1, e1.2.2) :: t1) sc5 m v3s m5 u5)
    {RF : MS → Unit → MS → Int32 → Prop} (hF : ∀ m9 v9 i, XZ m0 w0 K T nm Nk fof cvr lst false lo hi a cm q r (QSV Q) (e :: t) m v m9 () v9 (I (i : Nat)) → PP RF (some (m9, ())) (some (v9, I (i : Nat)))) : PP RF (bnd (jm_Co_put N m5 20) (fun u103 _ => ck (inb (I (n : Nat)) 8016) (bnd (jr_Cm_pattern N u103 (u103.2.2.1 18 n)) (fun u110 _ => bnd (jm_Co_put N u110 8) (fun u112 _ => some (u112, ())))))) (br (decide ((u5.1 67) = 0)) (lt (upI u5 69 (I (lo : Nat))) (fun w3 => lt (upI w3 70 ((w3.1 70) - 1)) (fun w4 => bnd (kr_M_patternAt N w4 0) (fun u6 r6 => lt (upI u6 70 ((u6.1 70) + 1)) (fun w6 => lt (upI w6 69 (u5.1 69)) (fun w7 => bnd (fm_M_node N w7 16 (I (mid : Nat))) (fun u8 r8 => ck (inb r8 (ln 25)) (lt (upA u8 25 (upd (u8.2.2.1 25) r8.toNatClampNeg r6)) (fun w9 => some (w9, r8)))))))))) (some (u5, (-1)))) := by
  have t4 := c.2.1.1.1
  have hdx := PA_bdK _ _ _ _ _ _ _ _ hx
  unfold HDc at hdx
  have hC5 := tE.2.1
  have hX5 := tE.2.2.1.1
  have lE := tE.1
  have totE := tE.2.2.2.1
  obtain ⟨WE, ⟨hdE, hnE⟩, h42E⟩ := tE.2.2.2.2.1
  have nwE := (hnE rfl).2
  have len5 := NWX_len nwE
  have totM : tot ((e.1, e1.2.1, e1.2.2) :: t1) = tot (e :: t) := by
    show tot t1 + e.1.length = tot t + e.1.length
    rw [(BDs_len bd).2]
  have lenM : ((e.1, e1.2.1, e1.2.2) :: t1).length = (e :: t).length := by
    show t1.length + 1 = t.length + 1
    rw [(BDs_len bd).1]
  refine l_put hC5.1.2.2.1.1 hC5.1.2.2.1.2.2 (fun ha => l_ck (fun _ => ?_))
  have k1 := XCS_put (x := 20) hC5 ha
  rw [tre (XCS_fr k1) (by decide) h18]
  unfold jr_Cm_pattern
  rw [decide_eq_true hX5.1.2.2.1, br_tq, lt_e, lt_e]
  have X6 := XRS_I (k := 70) (x := (upI u5 69 (I (lo : Nat))).1 70 - 1) (XRS_to (lo := lo) hX5 (by omega)) (by decide) (by decide)
  have r6 : (upI (upI u5 69 (I (lo : Nat))) 70 ((upI u5 69 (I (lo : Nat))).1 70 - 1)).2 = u5.2 := rfl
  generalize upI (upI u5 69 (I (lo : Nat))) 70 ((upI u5 69 (I (lo : Nat))).1 70 - 1) = u6 at X6 r6
  unfold kr_M_patternAt
  refine pp_bb (pp_mo (pt_all c cv f _ _ x lo mid xa xc q0 q0 (ptc m5 b5 20) u6 (b5 + 1) cm5 (Q5 39) sc5 false 0 hx hxc k1.1 X6.1 (by omega) rfl) (fun m7 z w7 rt7 hz7 => ?_))
  obtain ⟨pn, b7, pj, cm7, sc7, W2, rfl, h2, h3, h4, h5, ⟨h6, h6t⟩, ⟨hd7, hn7⟩, h8, h9, h10, h11⟩ := hz7
  obtain ⟨wc7, nw7⟩ := hn7 rfl
  have k7 : XCS m0 nm m7 b7 cm7 sc7 false := ⟨h4, by rw [h9.1 712 (by decide) (by decide)]; exact k1.2⟩
  have len7 := NWX_len nw7
  have pj5 : pj ≤ 5000 := h5.2.2.2.2.2.2
  have cm57 : cm5 ≤ cm7 := by
    cases sc5 with
    | nil => exact h6.elim
    | cons e5 t5 =>
      cases sc7 with
      | nil => exact h6.elim
      | cons e7 t7 => exact h6.2.2
  refine l_put k7.1.2.2.1.1 k7.1.2.2.1.2.2 (fun ha7 => ?_)
  have k8 := XCS_put (x := 8) k7 ha7
  rw [lt_e, lt_e, hX5.1.2.1.1]
  have M7 : QMK w7 (qst Q5 39 pj) := fun k hk => by
    by_cases y : k = 39
    · subst y
      rw [qst_at]
      exact ⟨h5.2.2.2.2.2.1, by omega⟩
    · rw [qst_no y, h10.1 k y (by rintro rfl; revert hk; decide) (by rintro rfl; revert hk; decide)]
      exact X6.2 k hk
  have X7 : XRS w0 T w7 mid (qst Q5 39 pj) sc7 := ⟨by rw [qst_at]; exact h5, M7⟩
  have X8 := XRS_to (lo := hi) (XRS_I (k := 70) (x := w7.1 70 + 1) X7 (by decide) (by decide)) (by omega)
  have r8 : (upI (upI w7 70 (w7.1 70 + 1)) 69 (I (hi : Nat))).2 = w7.2 := rfl
  generalize upI (upI w7 70 (w7.1 70 + 1)) 69 (I (hi : Nat)) = u8 at X8 r8
  obtain ⟨n1, n2⟩ := XRS_q X8
  have q32 : qst Q5 39 pj 32 = Q5 32 := qst_no (by decide)
  rw [q32] at n1 n2
  refine r_nod n1 n2 rfl (nsh (by omega)) (fun h16 => ?_)
  have d0 : NOD u8 (nwD u8 (Q5 32) 16 (I (mid : Nat))) (Q5 32) := NOD_0 n1
  obtain ⟨d1, d2, d3, d4, d5, d6, d7, d8⟩ := nwD_at (w := u8) (i := Q5 32) (k := 16) (t := I (mid : Nat))
  have d9 : (nwD u8 (Q5 32) 16 (I (mid : Nat))).1 69 = I (hi : Nat) := by rw [nwD_i (by decide)]; exact X8.1.2.1.1
  generalize nwD u8 (Q5 32) 16 (I (mid : Nat)) = U at d0 d1 d2 d3 d4 d5 d6 d7 d8 d9
  rw [i_nt2 (p := Q5 32) (by omega)]
  refine r_ck (fun _ => ?_)
  rw [lt_e]
  have hN : NOD u8 (upA U 25 (upd (U.2.2.1 25) (Q5 32) (I (pn : Nat)))) (Q5 32) := NOD_A d0 (by decide)
  have v23 : A (upA U 25 (upd (U.2.2.1 25) (Q5 32) (I (pn : Nat)))) 23 (Q5 32) = 16 := by
    show ((upA U 25 _).2.2.1 23 (Q5 32)).toInt = _
    rw [upA_no (by decide), d1]; rfl
  have v28 : A (upA U 25 (upd (U.2.2.1 25) (Q5 32) (I (pn : Nat)))) 28 (Q5 32) = -1 := by
    show ((upA U 25 _).2.2.1 28 (Q5 32)).toInt = _
    rw [upA_no (by decide), d6]; rfl
  have v25 : A (upA U 25 (upd (U.2.2.1 25) (Q5 32) (I (pn : Nat)))) 25 (Q5 32) = ((pn : Nat) : Int) := by
    show ((upA U 25 _).2.2.1 25 (Q5 32)).toInt = _
    rw [upA_at, upd_at]
    exact I_ti (by omega) (by omega)
  have v69 : (upA U 25 (upd (U.2.2.1 25) (Q5 32) (I (pn : Nat)))).1 69 = I (hi : Nat) := d9
  generalize upA U 25 (upd (U.2.2.1 25) (Q5 32) (I (pn : Nat))) = V at hN v23 v28 v25 v69
  have e8 : ptc m7 b7 8 = ptcs m7 b7 [8] := rfl
  refine hF _ V (Q5 32) ?_
  have leE := tE.2.2.2.2.2.2.1
  have XF8 : XRF u5 u8 Q5 (qst Q5 39 pj) := ⟨QRR_e (QRR_tr (Q2 := Q5) (QRR_e (u := u6) QRR_rf (by rw [r6]) (by rw [r6])) (QRR_P h10 (Nat.le_refl _)) QLE_rf) (by rw [r8]) (by rw [r8]), QLE_st QLE_rf (by omega), by rw [qst_no (by decide), qst_no (by decide), qst_no (by decide)]; exact ⟨rfl, rfl, rfl⟩⟩
  have XFV : XRF u5 V Q5 (qst (qst Q5 39 pj) 32 (Q5 32 + 1)) := XFR_tr XF8 (XFR_N hN q32)
  have XV : XRS w0 T V hi (qst (qst Q5 39 pj) 32 (Q5 32 + 1)) sc7 := XRS_n X8 hN.1 (fun k hk => funext (fun j => hN.2.2.1 k j (by omega))) v69 (by omega) hN.2.1 (by omega)
  have q9_32 : qst (qst Q5 39 pj) 32 (Q5 32 + 1) 32 = Q5 32 + 1 := qst_at
  have q9_39 : qst (qst Q5 39 pj) 32 (Q5 32 + 1) 39 = pj := (qst_no (by decide)).trans qst_at
  have q9_56 : qst (qst Q5 39 pj) 32 (Q5 32 + 1) 56 = Q5 56 := (qst_no (by decide)).trans (qst_no (by decide))
  have gap : ∀ j, mid ≤ j → j < mid + 1 → K j ≠ 3 := fun j j1 j2 => by rw [show j = mid by omega]; omega
  have nwM : NWd (e :: t) ((e.1, e1.2.1, e1.2.2) :: t1) := ⟨List.prefix_rfl, bd, fun x hx => Or.inl hx⟩
  have nw5 : NWd (e :: t) sc5 := NWX_tr nwM nwE
  have wcV : WCN Nk K nm W2 lo mid (e :: t) := WCN_cat (p2 := lo) (fun j j1 j2 => by omega) wc7 nw5
  have hd2 : HDo Nk K W2 lo mid (e :: t) ((e.1, e1.2.1, e1.2.2) :: t1) := HDo_cg (WCN_lt wc1 wcV) (HDo_bd hd7) hdM
  have heq : HEq2 sc5 sc7 := HDo_idem hd2 (HPre_of hdE) hd7
  have hdA : HDo Nk K (mrw (mid + 1) W2 WE) lo hi (e :: t) sc7 := HDo_eq (HDo_tr (p2 := mid + 1) (by omega) (by omega) (HDo_w (fun j _ j2 => if_pos j2) (HDo_tr (p2 := mid) (by omega) (by omega) hd2 (HDo_gap gap))) (HDo_w (fun j j1 _ => if_neg (by omega)) hdE)) heq
  have h42 : (ptc m7 b7 8).2.2.1 42 = wup (m.2.2.1 42) K (mrw (mid + 1) W2 WE) lo hi := by
    rw [ptc_r (by decide), h8, ptc_r (by decide), h42E, ← wup_ex1 (p := mid) (lo0 := lo) (by omega) (by omega), wup_swx (by omega) (by omega)]
  have b57 : b5 + 1 < b7 := h3
  have code5 : ∀ j, j < b5 → (ptc m7 b7 8).2.2.1 23 j = m5.2.2.1 23 j := fun j hj => by rw [ptc_o (by omega), h9.2.2.1 j (by omega), ptc_o (by omega)]
  have fcA : XFC m (ptc m7 b7 8) a q r ((e :: t).length - 1) := by
    have s1 := tE.2.2.2.2.2.1
    rw [lenM] at s1
    have s2 : XFC m5 m7 b5 r r ((e :: t).length - 1) := by
      have z1 : XFC m5 (ptc m5 b5 20) b5 r r ((e :: t).length - 1) := XFC_put XFC_rf (Nat.le_refl _)
      have z2 : XFC (ptc m5 b5 20) m7 (b5 + 1) r r (sc5.length - 1) := XFC_P h9
      rw [len5, lenM] at z2
      exact XFC_tr z1 z2 (by omega) (Nat.le_refl _) (Nat.le_refl _)
    exact XFC_put (XFC_tr s1 s2 lE.2.1 lE.2.2.2 (Nat.le_refl _)) (by omega)
  have q5le : QSV Q 32 ≤ Q5 32 := leE.2.1 32 (by decide)
  refine ⟨b7 + 1, cm7, qst (qst Q5 39 pj) 32 (Q5 32 + 1), sc7, Q5 32, 2, [], rfl, ⟨q5le, by rw [q9_32]; omega⟩, ⟨⟨by omega, by omega, by omega, lE.2.2.2⟩, k8, ⟨XV, by rw [q9_56]; exact tE.2.2.1.2⟩, by omega, ⟨_, ⟨hdA, fun o => ⟨trivial, NWX_tr nw5 nw7⟩⟩, h42⟩, fcA, ?_, fun y => (by cases y), fun n hn => (by cases hn), fun C P R J H fi hx => ?_⟩, ⟨by omega, by omega⟩, RTd_1 v28 ⟨by rw [v23]; decide, by rw [v23]; decide⟩ rfl ⟨q5le, by rw [q9_32]; omega⟩, fun n hn => (by cases hn)⟩
  · refine ⟨QRR_tr hqv (QRR_tr leE.1 XFV.1 leE.2.1) QLE_rf, QLE_tr leE.2.1 XFV.2.1, XFV.2.2.1.trans leE.2.2.1, XFV.2.2.2.1.trans leE.2.2.2.1, XFV.2.2.2.2.trans leE.2.2.2.2⟩
  · have hx5 : HNX nm sc5 cm5 H := HNX_mo hd7 cm57 hx
    have f1 : FNd w0 fof cvr C P R J m5 u5 a b5 q r (QSV Q) Q5 lst [] := by
      refine FIN_sub fi ⟨Nat.le_refl _, by omega⟩ ⟨Nat.le_refl _, Nat.le_refl _⟩ QLE_rf XFV.2.1 (fun j _ z => code5 j z) (fun k u z1 z2 z3 z4 => ?_) (SAM_q XFV.1) (fun n z1 z2 => ?_)
      · rw [ptc_r (by omega), h9.2.1 k (by omega) (by omega) (by omega) (by omega), ptc_r (by omega)]
      · have e30 : A V 30 n = A u5 30 n := congrArg Int32.toInt (XFV.1.2.1 30 n (by decide) z2)
        rw [e30]
    obtain ⟨g1, g2⟩ := tE.2.2.2.2.2.2.2.2.2 C P R J H f1 hx5
    refine ⟨g1, fun y hy hr => g2 y hy ?_⟩
    have y0 : y = none := hy.mpr rfl
    have gc := fi.1
    have ro : ∀ k, 23 ≤ k ∧ k ≤ 31 → k ≠ 27 ∧ k ≠ 29 ∧ k ≠ 30 → R k (Q5 32) = A V k (Q5 32) := fun k k1 k2 => FIN_R fi k1 k2 ⟨q5le, by rw [q9_32]; omega⟩
    have R23 := (ro 23 (by decide) (by decide)).trans v23
    have R25 := (ro 25 (by decide) (by decide)).trans v25
    have c0 : C b5 = 20 := by
      rw [gc b5 (by omega) (by omega)]
      show ((ptc m7 b7 8).2.2.1 23 b5).toInt = _
      rw [ptc_o (by omega), h9.2.2.1 b5 (by omega), ptc_n]; rfl
    have c8 : C b7 = 8 := by
      rw [gc b7 (by omega) (by omega)]
      show ((ptc m7 b7 8).2.2.1 23 b7).toInt = _
      rw [ptc_n]; rfl
    have gc7 : AGC C m7 (b5 + 1) b7 := fun k j1 j2 => by
      rw [gc k (by omega) (by omega)]
      show ((ptc m7 b7 8).2.2.1 23 k).toInt = _
      rw [ptc_o (by omega)]; rfl
    have vr : ∀ k j, 31 < k → V.2.2.1 k j = w7.2.2.1 k j := fun k j hk => by rw [hN.2.2.1 k j (by omega), r8]
    have le39 : QSV Q 39 ≤ Q5 39 := leE.2.1 39 (by decide)
    have gp : AGP R J w7 (Q5 39) pj pn := FNd_AGP fi (fun j j1 j2 => ⟨by omega, by rw [q9_39]; exact j2, fun k k3 k4 k5 => vr k j (by omega), by rw [hN.2.2.2, r8], fun _ => vr 37 j (by omega)⟩)
    have pt := h11 C R J H gc7 fi.2.2.1 gp hx.1
    obtain ⟨b1, b2⟩ := XB c.2.2.1 hC5 hX5 hx5 h16
    obtain ⟨d, hd⟩ := hr
    rw [q9_32] at hd
    exact cr_1 b1 b2 ⟨d, Or.inr (Or.inr (Or.inr (Or.inr (Or.inr (Or.inr (Or.inr (Or.inr (Or.inr (Or.inr (Or.inr (Or.inr (Or.inr (Or.inr (Or.inr (Or.inr (Or.inl ⟨R23, y0, c0, pn, b7, Onm nm sc7, R25, PT_mo hf pt, c8, hd⟩))))))))))))))))⟩
end
end
section
set_option maxRecDepth 100000
section
variable {α β : Type} {m0 w0 m w m2 w2 m3 w3 v u w1 mS wS : MS} {K nm Nk W WE W1 W2 : Nat → Nat} {N T D d o a b c cm q q0 r s lo lo0 mid hi i j f f2 n k kk p p2 σ tk x y xa xb xc M L : Nat} {Q Q0 Q2 Q3 : Nat → Nat} {sc sc0 sc2 sc3 t t1 t2 : SCT} {e e1 e2 : List Nat × List Nat × Nat} {g lst : Bool} {idc fof cvr : Int → Int → Int}
theorem x_mat (c : CTZ m0 w0 K T nm Nk) (cv : CTV m0 w0 K T) (IS : HXS N m0 w0 K T nm Nk fof cvr f) (hf : f ≤ 230) : HXM N m0 w0 K T nm Nk fof cvr (f + 1) := by
  intro D d o n lo hi xa xb q r m w a cm Q sc g lst hE h16 hxb hr4 hcl hC hR hq htot
  have t4 := c.2.1.1.1
  have hd := xp_hd hE
  have fr := XCS_fr hC
  have hn : n ≤ 8015 := by omega
  obtain ⟨-, ⟨tk, h17, htk⟩, -, h4⟩ := hE
  have h4' : ∃ x y mid c c2 : Nat, A m0 18 n = ((x : Nat) : Int) ∧ PAcK m0 f x lo mid xa c q q ∧ A m0 19 n = ((y : Nat) : Int) ∧ XPcK m0 f (o + 1) 3 y (mid + 1) hi c c2 q r ∧ (c2 < n ∧ A m0 6 mid = 30 ∧ A m0 6 (mid + 1) ≠ 9) := by
    rcases h4 with h | h | h | h | h | h | h | h | h | h | h | h | h | h | h | h | h
    · have := h.1.1; have := h.1.2.1; omega
    · have := h.1; omega
    · have := h.1; omega
    · have := h.1; omega
    · have := h.1; omega
    · have := h.1; omega
    · have := h.1; omega
    · have := h.1; omega
    · have := h.1; omega
    · have := h.1; omega
    · have := h.1; omega
    · have := h.1; omega
    · rcases h.1 with z | z <;> omega
    · have := h.1; omega
    · exact h.2.2
    · have := h.1; omega
    · have := h.1; omega
  clear h4
  obtain ⟨x, y, mid, c1, c2, h18, hx, h19, hy, hc2, k30, k9⟩ := h4'
  have hdx := PA_bdK _ _ _ _ _ _ _ _ hx
  unfold HDc at hdx
  have hdy := xp_hd hy
  have km : K mid = 30 := kA c (by omega) k30
  obtain ⟨e, t, rfl⟩ := PRS_ne hR.1
  unfold km_M_simple kb_M_simple_0
  refine sv_y hR (fun v hX hQ s8 sj s7 hSV => ?_)
  cases d with
  | zero => exact pp_nr
  | succ d =>
  cases D with
  | zero => exact pp_nl
  | succ D =>
  show PP _ (jm_Cm_expression N (jrc_Cm_fun N D) m (I (n : Nat)) (lsI lst)) _
  refine exd_20 hn (tre fr (by decide) h16) (l_id ?_)
  cases D with
  | zero => exact pp_nl
  | succ D =>
  show PP _ (jm_Cm_compound N (jrc_Cm_fun N D) m (I (n : Nat)) (lsI lst)) _
  refine cmd_20 hn (tre fr (by decide) h16) hC.2 (tre fr (by decide) h17) (by omega) (fun hg => l_ck (fun _ => ?_))
  subst hg
  rw [tre fr (by decide) h19]
  refine r_bnd (pk_mo (ru_all (N := N) c f d x lo mid xa c1 q q v (QSV Q) (e :: t) hx ⟨by omega, by omega, by rw [km]; rfl⟩ hX) (fun w2 rt hz => ?_))
  obtain ⟨Q2, sc2, hX2, hF2, hL2, h622⟩ := hz
  rw [decide_eq_true hX2.1.2.2.1, br_tq, isS_e (k := 30) (s := 11) (XRS_wp c hX2) (by decide) rfl, if_pos km, bnd_s, show decide ((1 : Int32) = 0) = false from rfl, br_fq, hR.1.2.1.1]
  refine pp_rb ?_
  show PP _ _ (km_M_matched N (krc_M_behind N d) w2 (I (lo : Nat)))
  refine mt_rd c hx hR hX2 hQ s8 hF2 hL2 h622 hSV km (fun x4 e1 t1 W1 X4 q4 pre bd hdM wc1 => ?_)
  have totM : tot ((e.1, e1.2.1, e1.2.2) :: t1) = tot (e :: t) := by
    show tot t1 + e.1.length = tot t + e.1.length
    rw [(BDs_len bd).2]
  have lenM : ((e.1, e1.2.1, e1.2.2) :: t1).length = (e :: t).length := by
    show t1.length + 1 = t.length + 1
    rw [(BDs_len bd).1]
  have hCM : XCS m0 nm m a cm ((e.1, e1.2.1, e1.2.2) :: t1) false := XCS_eq hC rfl bd
  have q56 : QSV Q 56 = q := by rw [QSV_n (by decide) (by decide)]; exact hq
  refine pp_bb (pp_mo (x_bh (o := o + 1) (lst := false) c IS hy k9 (by omega) hr4 hcl hCM X4 q56 ⟨by omega, by omega⟩) (fun m5 z5 u5 rt5 hz5 => ?_))
  obtain ⟨b5, cm5, Q5, sc5, tE⟩ := XZ_tr (lst := lst) hz5 (XTR_rf hCM X4 q56)
  refine mt_end c cv hf hn h18 hx (by omega) km ⟨by omega, by omega, by omega⟩ hC hq htot.1 bd hdM wc1 q4 tE (fun m9 v9 i hz9 => pp_end ?_)
  unfold kb_M_simple_97
  exact XZ_mk hz9 hQ (fun v => rfl)
theorem hx_fin (c : CTZ m0 w0 K T nm Nk) (cv : CTV m0 w0 K T) (cx : CVX N m0 w0 K T idc fof cvr) (f : Nat) (hf : f ≤ 230) : HXE N m0 w0 K T nm Nk fof cvr f := (hx_al2 c cv cx (fun f hf _ IS _ => x_mat c cv IS (by omega)) f hf).2.2.2.2
end
end
section
set_option maxRecDepth 100000
def k36r (N : Nat) (G : (MS → Int32 → Int32 → Int32 → Option (MS × Unit)) × (MS → Int32 → Int32 → Int32 → Option (MS × Unit))) (t v1 v2 : Int32) (u12 : MS) (r12 : Int32) : Option (MS × Unit) := br (decide (v2 = (-1))) (ck (inb t (ln 7)) (ck (inb v1 (ln 47)) (lt (upA u12 47 (upd (u12.2.2.1 47) v1.toNatClampNeg (u12.2.2.1 7 t.toNatClampNeg))) (fun w14 => ck (inb r12 (ln 41)) (ck (inb v1 (ln 48)) (lt (upA w14 48 (upd (w14.2.2.1 48) v1.toNatClampNeg (w14.2.2.1 41 r12.toNatClampNeg))) (fun w15 => ck (inb v1 (ln 50)) (lt (upA w15 50 (upd (w15.2.2.1 50) v1.toNatClampNeg r12)) (fun w16 => kb_M_function0_205 N G w16 v1 r12))))))))) (ck (inb v2 (ln 45)) (lt (upA u12 45 (upd (u12.2.2.1 45) v2.toNatClampNeg r12)) (fun w13 => ck (inb t (ln 7)) (ck (inb v1 (ln 47)) (br (decide ((w13.2.2.1 7 t.toNatClampNeg) = (w13.2.2.1 47 v1.toNatClampNeg))) (ck (inb r12 (ln 41)) (ck (inb v1 (ln 48)) (br (decide ((w13.2.2.1 41 r12.toNatClampNeg) = (w13.2.2.1 48 v1.toNatClampNeg))) (kb_M_function0_205 N G w13 v1 r12) (kb_M_function0_198 N G w13 v1 t r12)))) (kb_M_function0_198 N G w13 v1 t r12))))))
def RSTd (w v : MS) (p : Nat) : Prop := (∀ k, k ≠ 69 → k ≠ 65 → v.1 k = w.1 k) ∧ (∀ k, k ≠ 60 → k ≠ 63 → k ≠ 64 → v.2.2.1 k = w.2.2.1 k) ∧ (v.1 69 = I ((p + 1 : Nat) : Int) ∧ v.1 65 = 0 ∧ v.2.2.1 60 0 = 0 ∧ v.2.2.1 63 0 = 0 ∧ v.2.2.1 64 0 = 0) ∧ v.2.2.2 = w.2.2.2
def XRn (w0 : MS) (T : Nat) (w : MS) (p : Nat) (Q : Nat → Nat) : Prop := Ktc w0 w ∧ (w.1 69 = I (p : Nat) ∧ p ≤ T) ∧ w.1 67 = 0 ∧ (w.1 39 = I (Q 39 : Nat) ∧ Q 39 ≤ 5000) ∧ QMK w Q
section
variable {α β : Type} {m0 w0 m w m2 w2 v u : MS} {K nm Nk W : Nat → Nat} {N T f p lo q k n kl i : Nat} {Q : Nat → Nat} {sc : SCT} {x v1 v2 v4 v5 t r12 : Int32} {RU : MS → α → MS → Unit → Prop} {A' : Option (MS × α)} {G : (MS → Int32 → Int32 → Int32 → Option (MS × Unit)) × (MS → Int32 → Int32 → Int32 → Option (MS × Unit))}
theorem cl_lv {m0 : MS} {n lo hi a b q r : Nat} (h : CLScK m0 n lo hi a b q r) : ∃ k ph, (k ≤ 6 ∧ A m0 6 (lo + 1) = 20 ∧ A m0 6 ph = 21) ∧ PRTcK m0 (PAcK m0 103) (XPcK m0 103 2 3) (XPcK m0 103 1 3) k n (lo + 2) ph (ph + 1) hi a b q r := by
  obtain ⟨h1, h2, h3, h4, k, ph, h5, h6⟩ := h
  have kn : KNc m0 m0 a b n := ⟨⟨rfl, rfl⟩, fun _ _ _ => ⟨⟨rfl, rfl, rfl, rfl, rfl⟩, fun _ => rfl⟩⟩
  exact ⟨k, ph, h5, PRT_kK (PA_kK (by decide)) (XP_kK (by decide) (Nat.le_refl _)) (XP_kK (by decide) (Nat.le_refl _)) (PA_bdK _) (XP_bdK _ _ _) (XP_bdK _ _ _) h6 kn⟩
theorem XRn_of (h : XRS w0 T w p Q sc) : XRn w0 T w p Q := ⟨h.1.1, h.1.2.1, h.1.2.2.1, h.1.2.2.2.2.2, h.2⟩
theorem XRn_wp (c : CTZ m0 w0 K T nm Nk) (h : XRn w0 T w p Q) : WP w K T p := ⟨⟨c.2.1.1, by rw [h.1.2 6 (by decide)]; exact c.2.1.2.1, by rw [h.1.2 7 (by decide)]; exact c.2.1.2.2⟩, h.2.1⟩
theorem XRn_y (h : XRn w0 T w p Q) (hi : ∀ k, k ≠ 71 → k ≠ 72 → v.1 k = w.1 k) (hr : ∀ k, k < 23 → v.2.2.1 k = w.2.2.1 k) : XRn w0 T v p Q := by
  obtain ⟨h1, h2, h3, h4, h5⟩ := h
  refine ⟨⟨fun k hk => ?_, fun k hk => ?_⟩, ⟨by rw [hi 69 (by decide) (by decide)]; exact h2.1, h2.2⟩, by rw [hi 67 (by decide) (by decide)]; exact h3, ⟨by rw [hi 39 (by decide) (by decide)]; exact h4.1, h4.2⟩, fun k hk => ?_⟩
  · rw [hi k (by rintro rfl; revert hk; decide) (by rintro rfl; revert hk; decide)]; exact h1.1 k hk
  · have : k < 23 := by unfold TRW at hk; simp only [List.mem_cons, List.not_mem_nil, or_false] at hk; omega
    rw [hr k this]; exact h1.2 k hk
  · rw [hi k (by rintro rfl; revert hk; decide) (by rintro rfl; revert hk; decide)]; exact h5 k hk
theorem XRn_rul (h : RULd w v) (hR : XRn w0 T w p Q) : XRn w0 T v p Q := XRn_y hR h.1 (fun k _ => by rw [h.2])
theorem XRn_ad (h : XRn w0 T w p Q) (hp : p < T) : XRn w0 T (adv w p) (p + 1) Q := by
  obtain ⟨h1, h2, h3, h4, h5⟩ := h
  have e : ∀ k, k ≠ 69 → (adv w p).1 k = w.1 k := fun k hk => upI_ne hk
  exact ⟨⟨fun k hk => by rw [e k (by rintro rfl; revert hk; decide)]; exact h1.1 k hk, h1.2⟩, ⟨upI_at, hp⟩, by rw [e 67 (by decide)]; exact h3, ⟨by rw [e 39 (by decide)]; exact h4.1, h4.2⟩, fun k hk => by rw [e k (by rintro rfl; revert hk; decide)]; exact h5 k hk⟩
theorem RST_x (h : RSTd w v p) (hR : XRn w0 T w p Q) (hp : p + 1 ≤ T) : XRS w0 T v (p + 1) Q [([], [], 0)] := by
  obtain ⟨h1, h2, ⟨h3, h4, h5, h6, h7⟩, h8⟩ := h
  obtain ⟨g1, g2, g3, g6, g7⟩ := hR
  refine ⟨⟨⟨fun k hk => ?_, fun k hk => ?_⟩, ⟨h3, hp⟩, by rw [h1 67 (by decide) (by decide)]; exact g3, ⟨h4, ⟨by decide, by decide⟩, ⟨⟨h5, fun k x hk => (by cases hk), h6, fun k x hk => (by cases hk), h7⟩, trivial⟩, ⟨⟨List.nodup_nil, fun x hx => (by cases hx), by decide, by decide, by decide, fun x hx => (by cases hx), List.nodup_nil⟩, trivial⟩⟩, ⟨fun k x hk => (by cases hk), trivial⟩, by rw [h1 39 (by decide) (by decide)]; exact g6.1, g6.2⟩, fun k hk => ?_⟩
  · rw [h1 k (by rintro rfl; revert hk; decide) (by rintro rfl; revert hk; decide)]; exact g1.1 k hk
  · have : k < 33 := by unfold TRW at hk; simp only [List.mem_cons, List.not_mem_nil, or_false] at hk; omega
    rw [h2 k (by omega) (by omega) (by omega)]; exact g1.2 k hk
  · rw [h1 k (by rintro rfl; revert hk; decide) (by rintro rfl; revert hk; decide)]; exact g7 k hk
theorem RUL_tr (h : RULd w v) (k : RULd v u) : RULd w u := ⟨fun j h1 h2 => (k.1 j h1 h2).trans (h.1 j h1 h2), k.2.trans h.2⟩
theorem r_36 (c : CTZ m0 w0 K T nm Nk) (hR : XRn w0 T w lo Q) (k2 : K lo = 2) (h : ∀ v, lo < T → RSTd w v lo → PP RU A' (bnd (kr_M_clause N v (I (lo : Nat))) (fun u12 r12 => k36r N G (I (lo : Nat)) v1 v2 u12 r12))) : PP RU A' (kb_M_function0_36 N G w v1 v2 1) := by
  have hw := XRn_wp c hR
  have hl : lo < T := c.2.1.1.lt hR.2.1.2 (by omega) (by omega)
  have s1 : decide (w.2.2.1 6 lo = 1) = decide (K lo = 2) := srt_dc hw srK_1
  have t4 := c.2.1.1.1
  unfold kb_M_function0_36
  rw [show decide ((1 : Int32) = 0) = false from rfl, br_fq, decide_eq_true hR.2.2.1, br_tq, hR.2.1.1, i_nt2 (p := lo) (by omega), s1, decide_eq_true k2, br_tq, i_suc]
  refine r_ck (fun _ => r_lt (r_lt (r_ck (fun _ => r_lt (r_ck (fun _ => r_lt (r_ck (fun _ => r_lt ?_))))))))
  have := h (upA (upA (upA (upI (upI w 69 (I ((lo + 1 : Nat) : Int))) 65 0) 60 (upd ((upI (upI w 69 (I ((lo + 1 : Nat) : Int))) 65 0).2.2.1 60) (0 : Int32).toNatClampNeg 0)) 63 (upd ((upA (upI (upI w 69 (I ((lo + 1 : Nat) : Int))) 65 0) 60 (upd ((upI (upI w 69 (I ((lo + 1 : Nat) : Int))) 65 0).2.2.1 60) (0 : Int32).toNatClampNeg 0)).2.2.1 63) (0 : Int32).toNatClampNeg 0)) 64 (upd ((upA (upA (upI (upI w 69 (I ((lo + 1 : Nat) : Int))) 65 0) 60 (upd ((upI (upI w 69 (I ((lo + 1 : Nat) : Int))) 65 0).2.2.1 60) (0 : Int32).toNatClampNeg 0)) 63 (upd ((upA (upI (upI w 69 (I ((lo + 1 : Nat) : Int))) 65 0) 60 (upd ((upI (upI w 69 (I ((lo + 1 : Nat) : Int))) 65 0).2.2.1 60) (0 : Int32).toNatClampNeg 0)).2.2.1 63) (0 : Int32).toNatClampNeg 0)).2.2.1 64) (0 : Int32).toNatClampNeg 0)) hl ⟨fun k h1 h2 => ?_, fun k h1 h2 h3 => ?_, ⟨?_, ?_, ?_, ?_, ?_⟩, rfl⟩
  · unfold k36r at this
    rw [i_nt2 (p := lo) (by omega)] at this
    exact this
  · show (upI (upI w 69 _) 65 0).1 k = _
    rw [upI_ne h2, upI_ne h1]
  · rw [upA_no h3, upA_no h2, upA_no h1]; rfl
  · show (upI (upI w 69 (I ((lo + 1 : Nat) : Int))) 65 0).1 69 = _
    rw [upI_ne (by decide), upI_at]
  · show (upI (upI w 69 (I ((lo + 1 : Nat) : Int))) 65 0).1 65 = _
    exact upI_at
  · rw [upA_no (by decide), upA_no (by decide), upA_at]; exact upd_at
  · rw [upA_no (by decide), upA_at]; exact upd_at
  · rw [upA_at]; exact upd_at
theorem r_205 (hw : ∀ u, u.1 = w.1 → u.2.2.1 6 = w.2.2.1 6 → u.2.2.1 7 = w.2.2.1 7 → WP u K T p) (h67 : w.1 67 = 0) (h1 : ∀ u, u.1 = w.1 → (∀ k, k ≠ 51 → u.2.2.1 k = w.2.2.1 k) → u.2.2.2 = w.2.2.2 → PP RU A' (if K p = 27 then G.1 (adv u p) v1 v5 1 else G.1 u v1 v5 0)) : PP RU A' (kb_M_function0_205 N G w v1 v5) := by
  unfold kb_M_function0_205
  refine r_ck (fun _ => r_ck (fun _ => r_lt ?_))
  have h2 := h1 (upA w 51 (upd (w.2.2.1 51) v1.toNatClampNeg ((w.2.2.1 51 v1.toNatClampNeg) + 1))) rfl (fun k hk => upA_no hk) rfl
  have hV := hw (upA w 51 (upd (w.2.2.1 51) v1.toNatClampNeg ((w.2.2.1 51 v1.toNatClampNeg) + 1))) rfl (upA_no (by decide)) (upA_no (by decide))
  have h7 : (upA w 51 (upd (w.2.2.1 51) v1.toNatClampNeg ((w.2.2.1 51 v1.toNatClampNeg) + 1))).1 67 = 0 := h67
  generalize upA w 51 (upd (w.2.2.1 51) v1.toNatClampNeg ((w.2.2.1 51 v1.toNatClampNeg) + 1)) = V at h2 hV h7
  rw [tkS_e (k := 27) (s := 7) hV h7 (by decide) rfl]
  by_cases z : K p = 27
  · rw [if_pos z] at h2 ⊢
    exact h2
  · rw [if_neg z] at h2 ⊢
    exact h2
theorem pdo_id : PK (fun v (_ : Int32) => v = u) (fm_M_predefinedOf N u v1 v2) := by
  have lp : ∀ M : Nat, (∀ a b c d : Int32, PK (fun v (_ : Int32) => v = u) ((gg_M_predefinedOf N M).1 u a b c d)) ∧ (∀ a b c d e f g : Int32, PK (fun v (_ : Int32) => v = u) ((gg_M_predefinedOf N M).2 u a b c d e f g)) := fun M => by
    induction M with
    | zero => exact ⟨fun _ _ _ _ => pk_none, fun _ _ _ _ _ _ _ => pk_none⟩
    | succ M ih =>
      refine ⟨fun a b c d => ?_, fun a b c d e f g => ?_⟩
      · show PK _ (fb_M_predefinedOf_5 N (gg_M_predefinedOf N M) u a b c d)
        unfold fb_M_predefinedOf_5 fb_M_predefinedOf_58 fb_M_predefinedOf_59
        exact pk_br (fun _ => pk_some rfl) (fun _ => pk_ck (fun _ => pk_ltq (pk_ck (fun _ => pk_br (fun _ => pk_ck (fun _ => pk_ck (fun _ => pk_br (fun _ => ih.2 _ _ _ _ _ _ _) (fun _ => ih.2 _ _ _ _ _ _ _)))) (fun _ => ih.2 _ _ _ _ _ _ _)))))
      · show PK _ (fb_M_predefinedOf_64 N (gg_M_predefinedOf N M) u a b c d e f g)
        unfold fb_M_predefinedOf_64 fb_M_predefinedOf_117 fb_M_predefinedOf_109
        have e1 : ∀ z x y k l : Int32, PK (fun v (_ : Int32) => v = u) (br (decide (z = 0)) ((gg_M_predefinedOf N M).1 u x y k l) (some (u, d))) := fun z x y k l => pk_br (fun _ => ih.1 _ _ _ _) (fun _ => pk_some rfl)
        exact pk_br (fun _ => e1 _ _ _ _ _) (fun _ => pk_br (fun _ => e1 _ _ _ _ _) (fun _ => pk_ck (fun _ => pk_ck (fun _ => pk_ck (fun _ => pk_br (fun _ => ih.2 _ _ _ _ _ _ _) (fun _ => ih.2 _ _ _ _ _ _ _))))))
  exact (lp N).1 _ _ _ _
theorem r_264 : ∀ (M : Nat) (u : MS) (v4 v5 : Int32), (∀ v, RULd u v → PP RU A' (some (v, ()))) → PP RU A' ((kg_M_function0 N M).2 u v1 v4 v5)
  | 0, _, _, _, _ => pp_nr
  | M + 1, u, v4, v5, h => by
    show PP RU A' (kb_M_function0_264 N (kg_M_function0 N M) u v1 v4 v5)
    unfold kb_M_function0_264 kb_M_function0_341 kb_M_function0_308 kb_M_function0_309
    have e0 := h u RUL_rf
    refine r_br (fun _ => r_br (fun _ => e0) (fun _ => r_br (fun _ => r_ck (fun _ => r_rul (fun v hv => h v hv))) (fun _ => e0))) (fun _ => r_ck (fun _ => r_ck (fun _ => r_br (fun _ => r_ck (fun _ => r_ck (fun _ => r_br (fun _ => r_264 M u _ _ h) (fun _ => r_264 M u _ _ h)))) (fun _ => r_264 M u _ _ h))))
theorem r_228 (c : CTZ m0 w0 K T nm Nk) (hR : XRn w0 T w p Q) (h : K p = 28 → ∀ v, RULd (adv w p) v → PP RU A' (some (v, ()))) {M : Nat} : PP RU A' ((kg_M_function0 N M).1 w v1 v2 0) := by
  cases M with
  | zero => exact pp_nr
  | succ M =>
  show PP RU A' (kb_M_function0_36 N (kg_M_function0 N M) w v1 v2 0)
  unfold kb_M_function0_36 kb_M_function0_228 kb_M_function0_259
  rw [show decide ((0 : Int32) = 0) = true from rfl, br_tq]
  refine need_k (XRn_wp c hR) hR.2.2.1 (k := 28) (by decide) rfl (fun k28 => r_ck (fun _ => r_ck (fun _ => r_bnd (pk_mo pdo_id (fun v _ hv => ?_)))))
  subst hv
  exact r_br (fun _ => r_264 M _ _ _ (h k28)) (fun _ => r_264 M _ _ _ (h k28))
end
end
section
set_option maxRecDepth 100000
def FNA (w0 : MS) (fof cvr : Int → Int → Int) (a0 a q0 q k1 kl cm : Nat) (Q0 Q : Nat → Nat) (m w : MS) : Prop := ∀ (C : Nat → Int) (P R : Nat → Nat → Int) (J : Nat → Int64), FNx w0 fof cvr C P R J m w a0 a q0 q Q0 Q false [] [] [kl] → cm ≤ 40 → (∀ u, q0 ≤ u → u < q → FUX C P R J u) ∧ ((∃ f, ZRs C R J (CRs C R J f) 0 0 [] [] f a (R 45 kl)) → ∃ f, ZRs C R J (CRs C R J f) 0 0 [] [] f a0 ((k1 : Nat) : Int))
def FNI (m0 w0 : MS) (T : Nat) (nm : Nat → Nat) (fof cvr : Int → Int → Int) (f a0 q0 : Nat) (Q0 : Nat → Nat) (mS wS : MS) (last : Option Nat) (m w : MS) (p a cm q : Nat) (Q : Nat → Nat) (sc : SCT) : Prop := XCS m0 nm m a cm [([], [], 0)] false ∧ (XRn w0 T w p Q ∧ Q 56 = q) ∧ (a0 ≤ a ∧ q0 ≤ q ∧ QLE Q0 Q) ∧ XFC mS m a0 q0 q 0 ∧ ((∀ k n, grp k ≠ 0 → n < Q0 (grp k) → w.2.2.1 k n = wS.2.2.1 k n) ∧ ∀ n, n < Q0 39 → w.2.2.2 34 n = wS.2.2.2 34 n) ∧ (w.1 52 = wS.1 52 ∧ ∀ k n, 47 ≤ k → k ≤ 50 → n ≠ f → w.2.2.1 k n = wS.2.2.1 k n) ∧ ((last = none ∧ a = a0 ∧ q = q0 ∧ Q = Q0) ∨ ∃ k1 kl : Nat, last = some kl ∧ (Q0 46 ≤ kl ∧ kl < Q 46 ∧ kl < 16000 ∧ k1 < 16000) ∧ (w.2.2.1 50 f = I (k1 : Nat) ∧ w.2.2.1 48 f = m0.2.2.1 25 f ∧ w.2.2.1 45 kl = -1) ∧ FNA w0 fof cvr a0 a q0 q k1 kl cm Q0 Q m w)
section
variable {m0 w0 m w m2 w2 m3 w3 w6 v u mS wS : MS} {K nm Nk W : Nat → Nat} {N T f p lo hi q r k n k0 k1 kl i a a0 b cm cm2 q0 : Nat} {Q Q0 Q2 : Nat → Nat} {sc sc2 : SCT} {fof cvr : Int → Int → Int}
theorem HNX_0 (h : (hdS sc).2.1 = []) (hc : cm ≤ 40) : HNX nm sc cm [] := ⟨⟨by rw [h]; exact List.prefix_rfl, by decide⟩, List.nodup_nil, hc⟩
theorem FNA_0 (h : CLM w0 nm fof cvr a b cm2 q r k0 Q Q2 sc2 m2 w2) (hh : (hdS sc2).2.1 = []) (hw : ∀ k n, grp k ≠ 0 → w6.2.2.1 k n = w2.2.2.1 k n) (hj : w6.2.2.2 = w2.2.2.2) : FNA w0 fof cvr a b q r k0 k0 cm2 Q Q2 m2 w6 := fun C P R J fi hc => by
  have f1 : FNx w0 fof cvr C P R J m2 w2 a b q r Q Q2 false [] [] [k0] := FNx_mo fi ⟨Nat.le_refl _, Nat.le_refl _⟩ ⟨Nat.le_refl _, Nat.le_refl _⟩ QLE_rf QLE_rf (fun _ _ _ _ => rfl) (fun _ _ _ _ _ _ => rfl) (fun k n g0 _ _ _ _ _ => hw k n g0) (fun n _ _ => by rw [hj]) (fun n _ _ => by rw [show A w6 30 n = A w2 30 n from congrArg Int32.toInt (hw 30 n (by decide))]) (fun j hm _ _ => hm) (fun j hm _ _ => hm)
  exact h C P R J [] false f1 (HNX_0 hh hc)
theorem FNA_1 (old : FNA w0 fof cvr a0 a q0 q k1 kl cm Q0 Q m w) (h : CLM w0 nm fof cvr a b cm2 q r k0 Q Q2 sc2 m2 w2) (hh : (hdS sc2).2.1 = []) (hcm : cm ≤ cm2) (ha : a0 ≤ a ∧ a ≤ b) (hq : q0 ≤ q ∧ q ≤ r) (l1 : QLE Q0 Q) (l2 : QLE Q Q2) (hx : XFC m m2 a q r 0) (hw : ∀ k n, grp k ≠ 0 → (k = 45 → n ≠ kl) → w6.2.2.1 k n = w2.2.2.1 k n) (hj : w6.2.2.2 = w2.2.2.2) (hw2 : ∀ k n, grp k ≠ 0 → n < Q (grp k) → w2.2.2.1 k n = w.2.2.1 k n) (hj2 : ∀ n, n < Q 39 → w2.2.2.2 34 n = w.2.2.2 34 n) (hkl : Q0 46 ≤ kl ∧ kl < Q 46) (hk0 : Q 46 ≤ k0 ∧ k0 < Q2 46 ∧ k0 < 16000) (h45 : w6.2.2.1 45 kl = I (k0 : Nat)) : FNA w0 fof cvr a0 b q0 r k1 k0 cm2 Q0 Q2 m2 w6 := fun C P R J fi hc => by
  have f1 : FNx w0 fof cvr C P R J m2 w2 a b q r Q Q2 false [] [] [k0] := FNx_mo fi ⟨ha.1, Nat.le_refl _⟩ ⟨hq.1, Nat.le_refl _⟩ l1 QLE_rf (fun _ _ _ _ => rfl) (fun _ _ _ _ _ _ => rfl) (fun k n g0 _ _ n1 _ _ => hw k n g0 (fun e => by
    subst e
    have n1 : Q 46 ≤ n := n1
    omega)) (fun n _ _ => by rw [hj]) (fun n _ _ => by rw [show A w6 30 n = A w2 30 n from congrArg Int32.toInt (hw 30 n (by decide) (fun e => by cases e))]) (fun j hm _ _ => hm) (fun j hm _ _ => hm)
  have f0 : FNx w0 fof cvr C P R J m w a0 a q0 q Q0 Q false [] [] [kl] := FNx_mo fi ⟨Nat.le_refl _, ha.2⟩ ⟨Nat.le_refl _, hq.2⟩ QLE_rf l2 (fun j _ z _ => hx.2.2.1 j z) (fun k u z1 z2 _ z4 => hx.2.2.2.1 k u z1 z2 (Or.inl z4)) (fun k n g0 _ _ _ n2 n3 => by rw [hw k n g0 (fun e => by have := n3 e; simpa using this)]; exact hw2 k n g0 n2) (fun n _ n2 => by rw [hj]; exact hj2 n n2) (fun n _ n2 => by rw [show A w6 30 n = A w 30 n from congrArg Int32.toInt ((hw 30 n (by decide) (fun e => by cases e)).trans (hw2 30 n (by decide) n2))]) (fun j hm _ _ => (by cases hm)) (fun j hm _ j2 => by
    have : j = k0 := by simpa using hm
    omega)
  obtain ⟨n1, n2⟩ := h C P R J [] false f1 (HNX_0 hh hc)
  obtain ⟨o1, o2⟩ := old C P R J f0 (by omega)
  have r45 : R 45 kl = ((k0 : Nat) : Int) := by
    have hne : kl ∉ [k0] := fun y => by
      have := List.mem_singleton.mp y
      omega
    have lt2 : kl < Q2 46 := by omega
    rw [fi.2.2.2.1.1 45 kl (by decide) (by decide) (by decide) (by decide) (by decide) hkl.1 lt2 (fun _ => hne)]
    show (w6.2.2.1 45 kl).toInt = _
    rw [h45]
    exact I_ti (by omega) (by omega)
  refine ⟨fun u u1 u2 => ?_, fun hz => o2 ?_⟩
  · by_cases z : u < q
    · exact o1 u u1 z
    · exact n1 u (by omega) u2
  · rw [r45]
    exact n2 hz
end
end
section
set_option maxRecDepth 100000
section
variable {α β : Type} {m0 w0 m w m2 w2 m3 w3 w6 v u mS wS : MS} {K nm Nk W : Nat → Nat} {N T f p lo hi q r k n k0 k1 kl i a a0 b cm cm2 q0 xa xb M M2 : Nat} {Q Q0 Q2 : Nat → Nat} {sc sc2 : SCT} {idc fof cvr : Int → Int → Int} {last : Option Nat} {RU : MS → Unit → MS → Unit → Prop}
set_option maxHeartbeats 1000000 in
theorem fn_cls (c : CTZ m0 w0 K T nm Nk) (cv : CTV m0 w0 K T) (cx : CVX N m0 w0 K T idc fof cvr) (hE : CLScK m0 n lo hi xa xb q r) (hxb : xb ≤ 8015) (hr4 : r ≤ 400) (hcl : (K hi = 27 ∨ K hi = 28) ∧ hi ≤ T) (hI : FNI m0 w0 T nm fof cvr f a0 q0 Q0 mS wS last m w lo a cm q Q sc) (hf : f ≤ 666)
    (h : ∀ m2 w2 b cm2 Q2 sc2, FNI m0 w0 T nm fof cvr f a0 q0 Q0 mS wS (some (Q 46)) m2 w2 hi b cm2 r Q2 sc2 → PP RU (jg_Cm_oneFunction N M m2 (I (f : Nat)) (m2.2.2.1 21 n)) (if K hi = 27 then (kg_M_function0 N M2).1 (adv w2 hi) (I (f : Nat)) (optI (some (Q 46))) 1 else (kg_M_function0 N M2).1 w2 (I (f : Nat)) (optI (some (Q 46))) 0)) : PP RU (jg_Cm_oneFunction N (M + 1) m (I (f : Nat)) (I (n : Nat))) ((kg_M_function0 N (M2 + 1)).1 w (I (f : Nat)) (optI last) 1) := by
  have t4 := c.2.1.1.1
  have hd := hE.1
  unfold HDc at hd
  have h17 := hE.2.2.1
  have k2 : K lo = 2 := kA c (by omega) hE.2.2.2.1
  have hlh := hE.2.1
  obtain ⟨kk, ph, ⟨hkk, h20, h21⟩, hP⟩ := cl_lv hE
  have hPa := hP
  obtain ⟨-, -, -, p0, xc, gx, mid, xd, s, kb, mb, xe, ⟨h18, hpa⟩, ⟨-, hg⟩, ⟨-, hB⟩, ⟨hxe, -⟩⟩ := hPa
  have hB1 := (RW_hdK (XP_bdK _ _ _) hB).1
  unfold HDc at hB1
  have hpb := OR_hdK (PA_bdK _) hpa
  have hn : n ≤ 8015 := by omega
  have hph : (mid ≤ hi ∧ ph + 1 ≤ mid) ∧ xc ≤ 8015 := by
    have h1 := hP.1
    rcases hg with ⟨-, y2, y3, -⟩ | ⟨-, kg, y3⟩
    · omega
    · have := (RW_hdK (XP_bdK _ _ _) y3).1
      unfold HDc at this
      omega
  clear hg
  obtain ⟨hC, ⟨hR, hq56⟩, ⟨ha0, hq0, hQ0⟩, hx, hold, htab, hlast⟩ := hI
  have fr := XCS_fr hC
  show PP RU (jb_Cm_oneFunction_129 N (jg_Cm_oneFunction N M) m (I (f : Nat)) (I (n : Nat))) (kb_M_function0_36 N (kg_M_function0 N M2) w (I (f : Nat)) (optI last) 1)
  unfold jb_Cm_oneFunction_129
  rw [decide_eq_false (fun z => by
    have := (I_eq (x := ((n : Nat) : Int)) (y := 0) (by omega) (by omega) (by decide) (by decide)).mp z
    omega), br_fq, i_nt2 (p := n) (by omega), tre fr (by decide) h18, tre fr (by decide) h17]
  refine l_ck (fun _ => l_ck (fun _ => ?_))
  refine l_bnd (pk_mo (len_j (N := N) fr (b := xc) hph.2 hpa) (fun v x hv => ?_))
  obtain ⟨rfl, rfl⟩ := hv
  rw [i_nt2 (p := lo) (by omega), i_nt2 (p := f) (by omega)]
  have e198 : ∀ B, PP RU (jb_Cm_oneFunction_198 N (jg_Cm_oneFunction N M) v (I (f : Nat)) (I (n : Nat)) (I (lo : Nat)) (I (kk : Nat))) B := fun B => by
    unfold jb_Cm_oneFunction_198
    exact l_flt (tk := lo) (k := 4) rfl rfl (by omega) (by decide)
  refine l_ck (fun _ => l_ck (fun _ => l_br (fun _ => l_ck (fun _ => l_br (fun z25 => ?_) (fun _ => e198 _))) (fun _ => e198 _)))
  have z25 := of_decide_eq_true z25
  unfold jb_Cm_oneFunction_205
  refine l_ck (fun _ => ?_)
  rw [i_nt2 (p := lo) (by omega), i_nt2 (p := n) (by omega)]
  have el := pk_ln cv fr (show lo < T by omega)
  generalize v.2.2.1 8 lo = line at el
  refine r_36 c hR k2 (fun u hlT hu => ?_)
  have hX := RST_x hu hR (by omega)
  have k20 : K (lo + 1) = 20 := kA c (by omega) h20
  have k21 : K ph = 21 := kA c (by omega) h21
  have hnc : NEC (K hi) ∧ K hi ≠ 26 := by
    rcases hcl.1 with z | z
    · rw [z]; exact ⟨NEC_k.2.1, by decide⟩
    · rw [z]; exact ⟨NEC_k.2.2.1, by decide⟩
  have IE := hx_fin c cv cx 103 (by decide)
  have main := cls_x (D := 300) (d := 300) (m := v) (w := u) (tk := lo) (line := line) (lo := lo + 1) (hi := hi) (kk := kk) (n := n) (ph := ph) (xa := xa) (xb := xb) (r := r) (o := 1) (o2 := 2) c cv IE (by decide) hC rfl hX hq56 k20 hP k21 (by have := hpb.2.1; omega) hxb hr4 ⟨hnc.1, hnc.2, hcl.2⟩ hkk ⟨by show 0 + 0 + (hi - (lo + 1)) ≤ 4000; omega, Nat.zero_le _, Nat.zero_le _⟩ el (by omega)
  have main2 : PP (fun m2 z w2 r9 => CLZs m0 w0 K T nm Nk fof cvr kk (lo + 1) hi a cm q r Q [([], [], 0)] v u m2 z w2 r9 ∧ Kdc u w2) (jr_Cm_clause N v (I (n : Nat)) (I (kk : Nat)) line) (kr_M_clause N u (I (lo : Nat))) := fun m9 z9 w9 r9 e1 e2 => ⟨main m9 z9 w9 r9 e1 e2, yd_fr_M_clause Kd_rf w9 r9 (yl_fr_M_clause w9 r9 e2)⟩
  refine pp_bb (pp_mo main2 (fun m2 z w2 r9 hz => ?_))
  obtain ⟨⟨b, cm2, Q2, e2, t2, rfl, h1, h2, h3, h4, ⟨W, hdo, h42⟩, h5, h6, ⟨h7, h7b⟩, h8, h9, h10⟩, hk⟩ := hz
  have t20 : t2 = [] := by
    cases t2 with
    | nil => rfl
    | cons _ _ => have h7 : _ + 1 + 1 = 1 := h7; omega
  subst t20
  have held : e2.2.1 = [] := by
    have : e2.2.1 = hdc Nk K W 0 (hi - (lo + 1)) (lo + 1) [] := hdo.1
    rw [this]
    exact hdc_no _ _ _ (fun _ _ _ _ => Nat.zero_le _)
  have cC : XCS m0 nm m2 b cm2 [([], [], 0)] false := XCS_eq h2 rfl BDs_rf
  have h5' : XFC v m2 a q r 0 := h5
  have le2 := h6.2.1
  have uw : ∀ k n, grp k ≠ 0 → u.2.2.1 k n = w.2.2.1 k n := fun k n g0 => by
    rw [hu.2.1 k (fun e => g0 (by rw [e]; rfl)) (fun e => g0 (by rw [e]; rfl)) (fun e => g0 (by rw [e]; rfl))]
  have w2w : ∀ k n, grp k ≠ 0 → n < Q (grp k) → w2.2.2.1 k n = w.2.2.1 k n := fun k n g0 g1 => (h6.1.2.1 k n g0 g1).trans (uw k n g0)
  have j2w : ∀ n, n < Q 39 → w2.2.2.2 34 n = w.2.2.2 34 n := fun n hn => by rw [h6.1.2.2 34 n (Or.inr hn), hu.2.2.2]
  have u52 : u.1 52 = w.1 52 := hu.1 52 (by decide) (by decide)
  have w52 : w2.1 52 = wS.1 52 := hk.1.trans (u52.trans htab.1)
  have wtb : ∀ k n, 47 ≤ k → k ≤ 50 → n ≠ f → w2.2.2.1 k n = wS.2.2.1 k n := fun k n k1 k2 hn => by
    rw [hk.2 k k1 (by omega), hu.2.1 k (by omega) (by omega) (by omega)]
    exact htab.2 k n k1 k2 hn
  have go : ∀ (w5 : MS) (kl : Option Nat), (∀ k, k ≠ 71 → k ≠ 72 → w5.1 k = w2.1 k) → (∀ k n, (k ≠ 45 ∨ kl ≠ some n) → (k < 47 ∨ 51 < k ∨ (k ≤ 50 ∧ n ≠ f)) → w5.2.2.1 k n = w2.2.2.1 k n) → w5.2.2.2 = w2.2.2.2 → (∃ k1 : Nat, k1 < 16000 ∧ w5.2.2.1 50 f = I (k1 : Nat) ∧ w5.2.2.1 48 f = m0.2.2.1 25 f ∧ (∀ i, kl = some i → Q0 46 ≤ i ∧ i < Q 46) ∧ ∀ w6 : MS, (∀ k n, k ≠ 51 → w6.2.2.1 k n = w5.2.2.1 k n) → w6.2.2.2 = w5.2.2.2 → FNA w0 fof cvr a0 b q0 r k1 (Q 46) cm2 Q0 Q2 m2 w6) → PP RU (ck (inb (I (n : Nat)) 8016) (jg_Cm_oneFunction N M m2 (I (f : Nat)) (m2.2.2.1 21 n))) (kb_M_function0_205 N (kg_M_function0 N M2) w5 (I (f : Nat)) (I (Q 46 : Nat))) := fun w5 kl g1 g2 g3 g4 => by
    obtain ⟨k1, g4, g5, g6, gi, g7⟩ := g4
    refine l_ck (fun _ => ?_)
    have X5 : XRn w0 T w5 hi Q2 := XRn_y (XRn_of h3.1) g1 (fun k hk' => funext (fun n => g2 k n (by omega) (by omega)))
    refine r_205 (K := K) (T := T) (p := hi) (fun u' v1 v2 v3 => ?_) X5.2.2.1 (fun w6 v1 v2 v3 => ?_)
    · have := XRn_wp c X5
      exact ⟨⟨this.1.1, by rw [v2]; exact this.1.2.1, by rw [v3]; exact this.1.2.2⟩, by rw [v1]; exact this.2.1, this.2.2⟩
    · have X6 : XRn w0 T w6 hi Q2 := XRn_y X5 (fun k _ _ => by rw [v1]) (fun k hk' => v2 k (by omega))
      refine h m2 w6 b cm2 Q2 [e2] ⟨cC, ⟨X6, h3.2⟩, ⟨by omega, by omega, QLE_tr hQ0 le2⟩, XFC_tr hx h5' ha0 hq0 h1.2.2.2, ⟨fun k n g0 hn => ?_, fun n hn => ?_⟩, ⟨?_, fun k n k1 k2 hn => ?_⟩, Or.inr ⟨k1, Q 46, rfl, ⟨hQ0 46 (by decide), h8.1, h8.2.1, g4⟩, ⟨by rw [v2 50 (by decide)]; exact g5, by rw [v2 48 (by decide)]; exact g6, ?_⟩, g7 w6 (fun k n hk' => by rw [v2 k hk']) v3⟩⟩
      · have gk : k < 47 ∨ 51 < k := by
          by_cases y : 47 ≤ k ∧ k ≤ 51
          · exfalso
            unfold grp at g0
            rw [if_neg (by omega), if_neg (by omega), if_neg (by omega), if_neg (by omega), if_neg (by omega), if_neg (by omega), if_neg (by omega), if_neg (by omega)] at g0
            exact g0 rfl
          · omega
        rw [v2 k (by omega), g2 k n (by
          by_cases y : k = 45
          · refine Or.inr (fun e => ?_)
            have := (gi n e).1
            subst y
            have hn : n < Q0 46 := hn
            omega
          · exact Or.inl y) (by omega), w2w k n g0 (Nat.lt_of_lt_of_le hn (hQ0 _ (grp_m g0)))]
        exact hold.1 k n g0 hn
      · rw [v3, g3, j2w n (Nat.lt_of_lt_of_le hn (hQ0 39 (by decide)))]
        exact hold.2 n hn
      · rw [v1, g1 52 (by decide) (by decide)]; exact w52
      · rw [v2 k (by omega), g2 k n (by omega) (by omega)]
        exact wtb k n k1 k2 hn
      · rw [v2 45 (by decide), g2 45 (Q 46) (Or.inr (fun e => by have := (gi _ e).2; omega)) (by omega)]
        exact h8.2.2.1
  unfold k36r
  have n45 : ∀ i : Nat, i < 16000 → I (i : Nat) ≠ (-1 : Int32) := fun i hi z => nat_ne2 (by omega) z
  have h25 : I (kk : Nat) = m0.2.2.1 25 f := by
    rw [z25]; exact congrFun (fr.2 25 (by omega)) f
  rcases hlast with ⟨rfl, rfl, rfl, rfl⟩ | ⟨k1, kl, rfl, hkl, hrow, hA⟩
  · rw [show decide (optI none = (-1 : Int32)) = true from rfl, br_tq]
    rw [i_nt2 (p := f) (by omega), i_nt2 (p := Q 46) (by omega), i_nt2 (p := lo) (by omega)]
    refine r_ck (fun _ => r_ck (fun _ => r_lt (r_ck (fun _ => r_ck (fun _ => r_lt (r_ck (fun _ => r_lt ?_)))))))
    have r41 : (upA w2 47 (upd (w2.2.2.1 47) f (w2.2.2.1 7 lo))).2.2.1 41 (Q 46) = I (kk : Nat) := by rw [upA_no (by decide)]; exact h8.2.2.2
    rw [r41]
    have rr : ∀ k n, (k < 47 ∨ 51 < k ∨ (k ≤ 50 ∧ n ≠ f)) → (upA (upA (upA w2 47 (upd (w2.2.2.1 47) f (w2.2.2.1 7 lo))) 48 (upd ((upA w2 47 (upd (w2.2.2.1 47) f (w2.2.2.1 7 lo))).2.2.1 48) f (I (kk : Nat)))) 50 (upd ((upA (upA w2 47 (upd (w2.2.2.1 47) f (w2.2.2.1 7 lo))) 48 (upd ((upA w2 47 (upd (w2.2.2.1 47) f (w2.2.2.1 7 lo))).2.2.1 48) f (I (kk : Nat)))).2.2.1 50) f (I (Q 46 : Nat)))).2.2.1 k n = w2.2.2.1 k n := fun k n hkn => by
      by_cases y50 : k = 50
      · subst y50; rw [upA_at, upd_no (by omega), upA_no (by decide), upA_no (by decide)]
      rw [upA_no y50]
      by_cases y48 : k = 48
      · subst y48; rw [upA_at, upd_no (by omega), upA_no (by decide)]
      rw [upA_no y48]
      by_cases y47 : k = 47
      · subst y47; rw [upA_at, upd_no (by omega)]
      rw [upA_no y47]
    refine go _ none (fun _ _ _ => rfl) (fun k n _ hkn => rr k n hkn) rfl ⟨Q 46, h8.2.1, by rw [upA_at, upd_at], by rw [upA_no (by decide), upA_at, upd_at]; exact h25, fun i e => (by cases e), fun w6 v1 v2 => ?_⟩
    refine FNA_0 h10 held (fun k n g0 => ?_) (by rw [v2]; rfl)
    have gk : k < 47 ∨ 51 < k := by
      by_cases y : 47 ≤ k ∧ k ≤ 51
      · exfalso
        unfold grp at g0
        rw [if_neg (by omega), if_neg (by omega), if_neg (by omega), if_neg (by omega), if_neg (by omega), if_neg (by omega), if_neg (by omega), if_neg (by omega)] at g0
        exact g0 rfl
      · omega
    rw [v1 k n (by omega)]
    exact rr k n (by omega)
  · rw [show optI (some kl) = I (kl : Nat) from rfl, decide_eq_false (n45 kl hkl.2.2.1), br_fq, i_nt2 (p := kl) (by omega)]
    refine r_ck (fun _ => r_lt ?_)
    have rr : ∀ k n, k ≠ 45 ∨ n ≠ kl → (upA w2 45 (upd (w2.2.2.1 45) kl (I (Q 46 : Nat)))).2.2.1 k n = w2.2.2.1 k n := fun k n hkn => by
      by_cases y : k = 45
      · subst y; rw [upA_at, upd_no (by omega)]
      · rw [upA_no y]
    have r45 : (upA w2 45 (upd (w2.2.2.1 45) kl (I (Q 46 : Nat)))).2.2.1 45 kl = I (Q 46 : Nat) := by rw [upA_at, upd_at]
    have ii : (upA w2 45 (upd (w2.2.2.1 45) kl (I (Q 46 : Nat)))).1 = w2.1 := rfl
    have jj : (upA w2 45 (upd (w2.2.2.1 45) kl (I (Q 46 : Nat)))).2.2.2 = w2.2.2.2 := rfl
    generalize upA w2 45 (upd (w2.2.2.1 45) kl (I (Q 46 : Nat))) = w5 at rr r45 ii jj
    have go2 : ∀ w5b, RULd w5 w5b → PP RU (ck (inb (I (n : Nat)) 8016) (jg_Cm_oneFunction N M m2 (I (f : Nat)) (m2.2.2.1 21 n))) (kb_M_function0_205 N (kg_M_function0 N M2) w5b (I (f : Nat)) (I (Q 46 : Nat))) := fun w5b hb => by
      have rb : w5b.2.2.1 = w5.2.2.1 := by rw [hb.2]
      have jb : w5b.2.2.2 = w5.2.2.2 := by rw [hb.2]
      have keep : ∀ k, k = 48 ∨ k = 50 → w5b.2.2.1 k f = w.2.2.1 k f := fun k hk' => by
        rw [rb, rr k f (by omega), hk.2 k (by omega) (by omega), hu.2.1 k (by omega) (by omega) (by omega)]
      refine go w5b (some kl) (fun k k1 k2 => by rw [hb.1 k k1 k2, ii]) (fun k n hkn _ => by
        rw [rb]
        refine rr k n ?_
        rcases hkn with z | z
        · exact Or.inl z
        · exact Or.inr (fun e => z (by rw [e]))) (by rw [jb, jj]) ⟨k1, hkl.2.2.2, by rw [keep 50 (by omega)]; exact hrow.1, by rw [keep 48 (by omega)]; exact hrow.2.1, fun i e => by
          injection e with e
          omega, fun w6 v1 v2 => ?_⟩
      refine FNA_1 hA h10 held h1.2.2.1 ⟨ha0, by omega⟩ ⟨hq0, h1.2.2.2⟩ hQ0 le2 h5' (fun k n g0 hkn => ?_) (by rw [v2, jb, jj]) w2w j2w ⟨hkl.1, hkl.2.1⟩ ⟨Nat.le_refl _, h8.1, h8.2.1⟩ (by rw [v1 45 kl (by decide), rb]; exact r45)
      have gk : k ≠ 51 := fun e => g0 (by rw [e]; rfl)
      rw [v1 k n gk, rb]
      refine rr k n ?_
      by_cases y : k = 45
      · exact Or.inr (hkn y)
      · exact Or.inl y
    refine r_ck (fun _ => r_ck (fun _ => r_br (fun _ => r_ck (fun _ => r_ck (fun _ => r_br (fun _ => go2 w5 RUL_rf) (fun _ => ?_)))) (fun _ => ?_)))
    · unfold kb_M_function0_198
      exact r_rul (fun v' hv' => go2 v' hv')
    · unfold kb_M_function0_198
      exact r_rul (fun v' hv' => go2 v' hv')
end
end
section
set_option maxRecDepth 100000
def FNRq (m0 w0 : MS) (T : Nat) (nm : Nat → Nat) (fof cvr : Int → Int → Int) (f a0 q0 : Nat) (Q0 : Nat → Nat) (mS wS : MS) (p r : Nat) (m w : MS) : Prop := ∃ (a cm : Nat) (Q : Nat → Nat), XCS m0 nm m a cm [([], [], 0)] false ∧ (XRn w0 T w p Q ∧ Q 56 = r) ∧ (a0 ≤ a ∧ q0 ≤ r ∧ QLE Q0 Q) ∧ XFC mS m a0 q0 r 0 ∧ ((∀ k n, grp k ≠ 0 → n < Q0 (grp k) → w.2.2.1 k n = wS.2.2.1 k n) ∧ ∀ n, n < Q0 39 → w.2.2.2 34 n = wS.2.2.2 34 n) ∧ (w.1 52 = wS.1 52 ∧ ∀ k n, 47 ≤ k → k ≤ 50 → n ≠ f → w.2.2.1 k n = wS.2.2.1 k n) ∧ ∃ k1 : Nat, k1 < 16000 ∧ w.2.2.1 50 f = I (k1 : Nat) ∧ w.2.2.1 48 f = m0.2.2.1 25 f ∧ ∀ (C : Nat → Int) (P R : Nat → Nat → Int) (J : Nat → Int64), FNx w0 fof cvr C P R J m w a0 a q0 r Q0 Q false [] [] [] → (∀ u, q0 ≤ u → u < r → FUX C P R J u) ∧ ∃ g, ZRs C R J (CRs C R J g) 0 0 [] [] g a0 ((k1 : Nat) : Int)
section
variable {α β : Type} {m0 w0 m w m2 w2 m3 w3 v u mS wS : MS} {K nm Nk W : Nat → Nat} {N T f p p0 lo hi q r n n0 k k0 k1 kl i a a0 b cm cm2 q0 xa xb kc first : Nat} {Q Q0 Q2 : Nat → Nat} {sc sc2 : SCT} {idc fof cvr : Int → Int → Int} {RU : MS → Unit → MS → Unit → Prop}
theorem FNI_ad (h : FNI m0 w0 T nm fof cvr f a0 q0 Q0 mS wS (some kl) m w p a cm q Q sc) (hp : p < T) : FNI m0 w0 T nm fof cvr f a0 q0 Q0 mS wS (some kl) m (adv w p) (p + 1) a cm q Q sc := by
  obtain ⟨h1, h2, h3, h4, h5, h6, h7⟩ := h
  refine ⟨h1, ⟨XRn_ad h2.1 hp, h2.2⟩, h3, h4, h5, ⟨(show (adv w p).1 52 = w.1 52 from upI_ne (by decide)).trans h6.1, h6.2⟩, ?_⟩
  rcases h7 with ⟨z, -⟩ | ⟨k1, kl2, z1, z2, z3, z4⟩
  · cases z
  · exact Or.inr ⟨k1, kl2, z1, z2, z3, fun C P R J fi hc => z4 C P R J fi hc⟩
theorem fnq_lp (c : CTZ m0 w0 K T nm Nk) (cv : CTV m0 w0 K T) (cx : CVX N m0 w0 K T idc fof cvr) (hxb : xb ≤ 8015) (hr4 : r ≤ 400) (hcl : K hi = 28 ∧ hi ≤ T) (hf : f ≤ 666)
    (hend : ∀ M M2 m2 w2 b cm2 Q2 sc2 kl, FNI m0 w0 T nm fof cvr f a0 q0 Q0 mS wS (some kl) m2 w2 hi b cm2 r Q2 sc2 → PP RU (jg_Cm_oneFunction N M m2 (I (f : Nat)) (I ((0 : Nat) : Int))) ((kg_M_function0 N M2).1 w2 (I (f : Nat)) (I (kl : Nat)) 0)) :
    ∀ (k n lo xa q M M2 : Nat) (last : Option Nat) (m w : MS) (a cm : Nat) (Q : Nat → Nat) (sc : SCT), RWcK m0 1 27 (CLScK m0) k n lo hi xa xb q r → FNI m0 w0 T nm fof cvr f a0 q0 Q0 mS wS last m w lo a cm q Q sc → PP RU (jg_Cm_oneFunction N M m (I (f : Nat)) (I (n : Nat))) ((kg_M_function0 N M2).1 w (I (f : Nat)) (optI last) 1)
  | 0, _, _, _, _, _, _, _, _, _, _, _, _, _, h, _ => h.elim
  | k + 1, n, lo, xa, q, 0, M2, last, m, w, a, cm, Q, sc, _, _ => pp_nl
  | k + 1, n, lo, xa, q, M + 1, 0, last, m, w, a, cm, Q, sc, _, _ => pp_nr
  | k + 1, n, lo, xa, q, M + 1, M2 + 1, last, m, w, a, cm, Q, sc, h, hI => by
    obtain ⟨mid, c1, s1, hE, h⟩ := h
    have hd := CLS_bdK _ _ _ _ _ _ _ hE
    unfold HDc at hd
    have hdm : mid ≤ hi ∧ c1 ≤ xb ∧ s1 ≤ r := by
      rcases h with ⟨-, -, rfl, rfl, rfl⟩ | ⟨-, n2, -, h3⟩
      · exact ⟨Nat.le_refl _, Nat.le_refl _, Nat.le_refl _⟩
      · have := (RW_hdK CLS_bdK h3).1
        unfold HDc at this
        omega
    have hcm : K mid = 27 ∨ K mid = 28 := by
      rcases h with ⟨-, -, rfl, -⟩ | ⟨⟨-, h2⟩, -⟩
      · exact Or.inr hcl.1
      · exact Or.inl (kA c (by omega) (h2 rfl))
    refine fn_cls c cv cx hE (by omega) (by omega) ⟨hcm, by omega⟩ hI hf (fun m2 w2 b cm2 Q2 sc2 hI2 => ?_)
    have fr2 := XCS_fr hI2.1
    rcases h with ⟨rfl, h21, rfl, rfl, rfl⟩ | ⟨⟨h1, h2⟩, n2, h21, h3⟩
    · rw [if_neg (by omega), tre fr2 (by decide) (v := ((0 : Nat) : Int)) h21]
      exact hend M M2 m2 w2 b cm2 Q2 sc2 _ hI2
    · have k27 : K mid = 27 := kA c (by omega) (h2 rfl)
      have hl : mid < T := by
        have := (RW_hdK CLS_bdK h3).1
        unfold HDc at this
        omega
      rw [if_pos k27, tre fr2 (by decide) h21]
      exact fnq_lp c cv cx hxb hr4 hcl hf hend k n2 (mid + 1) c1 s1 M M2 _ m2 (adv w2 mid) b cm2 Q2 sc2 h3 (FNI_ad hI2 hl)
theorem fn_fin (c : CTZ m0 w0 K T nm Nk) (hI : FNI m0 w0 T nm fof cvr f a0 q0 Q0 mS wS (some kl) m w p a cm r Q sc) (h : K p = 28 → ∀ m2 w2, p < T → FNRq m0 w0 T nm fof cvr f a0 q0 Q0 mS wS (p + 1) r m2 w2 → PP RU (some (m2, ())) (some (w2, ()))) {M M2 : Nat} : PP RU (jg_Cm_oneFunction N M m (I (f : Nat)) (I ((0 : Nat) : Int))) ((kg_M_function0 N M2).1 w (I (f : Nat)) (I (kl : Nat)) 0) := by
  obtain ⟨hC, ⟨hR, hq56⟩, ⟨ha0, hq0, hQ0⟩, hx, hold, htab, hlast⟩ := hI
  cases M with
  | zero => exact pp_nl
  | succ M =>
  show PP RU (jb_Cm_oneFunction_129 N (jg_Cm_oneFunction N M) m (I (f : Nat)) (I ((0 : Nat) : Int))) _
  unfold jb_Cm_oneFunction_129 jb_Cm_oneFunction_263
  rw [show decide (I ((0 : Nat) : Int) = (0 : Int32)) = true from rfl, br_tq]
  refine l_put hC.1.2.2.1.1 hC.1.2.2.1.2.2 (fun ha => ?_)
  have k1' := XCS_put (x := 36) hC ha
  have e268 : ∀ (u : MS) B, PP RU (jb_Cm_oneFunction_268 N (jg_Cm_oneFunction N M) u 1) B := fun u B => by
    unfold jb_Cm_oneFunction_268
    rw [show decide ((1 : Int32) = 0) = false from rfl]
    exact pp_nl
  refine l_br (fun z711 => l_ck (fun _ => l_br (fun z40 => ?_) (fun _ => e268 _ _))) (fun _ => e268 _ _)
  have z711 := of_decide_eq_true z711
  have z40 := of_decide_eq_true z40
  have h41 : (ptc m a 36).2.2.1 41 0 = I (cm : Nat) := k1'.1.2.2.2.2.1
  have cmb : cm ≤ 4000 := k1'.1.2.2.2.2.2.1
  have cm40 : cm ≤ 40 := by
    rw [show (0 : Int32).toNatClampNeg = 0 from rfl, h41] at z40
    have := (I_le (x := ((cm : Nat) : Int)) (y := 40) (by omega) (by omega) (by decide) (by decide)).mp z40
    omega
  unfold jb_Cm_oneFunction_268 hb_Cm_oneFunction_268
  rw [show decide ((0 : Int32) = 0) = true from rfl, ck_t, show isb 0 = true from rfl, ck_t, lt_e, upI_id z711]
  refine r_228 c hR (fun k28 v hv => ?_)
  have hpT : p < T := c.2.1.1.lt hR.2.1.2 (by omega) (by omega)
  have XV := XRn_rul hv (XRn_ad hR hpT)
  have rv : v.2.2.1 = w.2.2.1 := by rw [hv.2]; rfl
  have jv : v.2.2.2 = w.2.2.2 := by rw [hv.2]; rfl
  rcases hlast with ⟨z, -⟩ | ⟨k1, kl2, z1, hkl, hrow, hA⟩
  · cases z
  injection z1 with z1
  subst z1
  refine h k28 _ v hpT ⟨a + 1, cm, Q, k1', ⟨XV, hq56⟩, ⟨by omega, hq0, hQ0⟩, XFC_put hx ha0, ⟨fun k n g0 hn => by rw [rv]; exact hold.1 k n g0 hn, fun n hn => by rw [jv]; exact hold.2 n hn⟩, ⟨by
    rw [hv.1 52 (by decide) (by decide)]
    exact (show (adv w p).1 52 = w.1 52 from upI_ne (by decide)).trans htab.1, fun k n k1 k2 hn => by rw [rv]; exact htab.2 k n k1 k2 hn⟩, k1, hkl.2.2.2, by rw [rv]; exact hrow.1, by rw [rv]; exact hrow.2.1, fun C P R J fi => ?_⟩
  have f1 : FNx w0 fof cvr C P R J m w a0 a q0 r Q0 Q false [] [] [kl] := FNx_mo fi ⟨Nat.le_refl _, by omega⟩ ⟨Nat.le_refl _, Nat.le_refl _⟩ QLE_rf QLE_rf (fun j _ z _ => ptc_o (by omega)) (fun k u z1 z2 _ _ => by rw [ptc_r (by omega)]) (fun k n _ _ _ _ _ _ => by rw [rv]) (fun n _ _ => by rw [jv]) (fun n _ _ => by rw [show A v 30 n = A w 30 n from by unfold A; rw [rv]]) (fun j hm _ _ => hm) (fun j hm _ _ => (by cases hm))
  obtain ⟨n1, n2⟩ := hA C P R J f1 cm40
  refine ⟨n1, n2 ⟨1, ?_⟩⟩
  have r45 : R 45 kl = -1 := by
    rw [fi.2.2.2.1.1 45 kl (by decide) (by decide) (by decide) (by decide) (by decide) hkl.1 hkl.2.1 (fun _ y => by cases y)]
    show (v.2.2.1 45 kl).toInt = _
    rw [rv, hrow.2.2]; rfl
  have c36 : C a = 36 := by
    rw [fi.1 a ha0 (by omega) (fun y => by cases y)]
    show ((ptc m a 36).2.2.1 23 a).toInt = _
    rw [ptc_n]; rfl
  rw [r45]
  exact ⟨by omega, Or.inl ⟨rfl, Or.inl ⟨rfl, c36⟩⟩⟩
end
end
section
set_option maxRecDepth 100000
def Q00 : Nat → Nat := fun _ => 0
def PGd (m0 w0 : MS) (T : Nat) (nm : Nat → Nat) (fof cvr : Int → Int → Int) (g p q : Nat) (m w : MS) : Prop := ∃ (a : Nat) (Q : Nat → Nat), FRC m0 m ∧ (m.1 441 = I (a : Nat) ∧ 1 ≤ a ∧ a ≤ 23990) ∧ (m.1 712 = 0 ∧ m.1 713 = 0) ∧ (m.2.2.1 27 = m0.2.2.1 27 ∧ m.1 449 = m0.1 449) ∧ (XRn w0 T w p Q ∧ Q 56 = q) ∧ w.1 52 = I (g : Nat) ∧ ∀ (C : Nat → Int) (P R : Nat → Nat → Int) (J : Nat → Int64), FNx w0 fof cvr C P R J m w 1 a 0 q Q00 Q false [] [] [] → (∀ u, u < q → FUX C P R J u) ∧ ∀ f, f < g → ∃ e k1 : Nat, m.2.2.1 29 f = I (e : Nat) ∧ e ≤ 23990 ∧ w.2.2.1 50 f = I (k1 : Nat) ∧ k1 < 16000 ∧ w.2.2.1 48 f = m0.2.2.1 25 f ∧ ∃ g2, ZRs C R J (CRs C R J g2) 0 0 [] [] g2 e ((k1 : Nat) : Int)
section
variable {α β : Type} {m0 w0 m w m2 w2 m3 w3 v u mS wS : MS} {K nm Nk W : Nat → Nat} {N T f p p0 lo hi q r n n0 k k0 k1 kl i a a0 b cm cm2 q0 xa xb kc first g G : Nat} {Q Q0 Q2 : Nat → Nat} {sc sc2 : SCT} {idc fof cvr : Int → Int → Int} {RU : MS → Unit → MS → Unit → Prop}
theorem FN_fn {u : MS} : ∀ {g p n q : Nat}, FNScK u g p n q → ∃ pp nn qq : Nat → Nat, (pp 0 = 0 ∧ nn 0 = 0 ∧ qq 0 = 0) ∧ (pp g = p ∧ nn g = n ∧ qq g = q) ∧ (∀ i, i ≤ g → 5 * qq i ≤ pp i ∧ nn i ≤ 2 * pp i ∧ pp i ≤ p) ∧ ∀ i, i < g → ∃ kc k first : Nat, (pp i + 6 ≤ pp (i + 1) ∧ A u 6 (pp (i + 1) - 1) = 28) ∧ RWcK u 1 27 (CLScK u) kc first (pp i) (pp (i + 1) - 1) (nn i) (nn (i + 1)) (qq i) (qq (i + 1)) ∧ (A u 27 i = ((first : Nat) : Int) ∧ A u 25 i = ((k : Nat) : Int) ∧ k ≤ 6 ∧ A u 24 i = A u 7 (pp i))
  | 0, p, n, q, h => by
    obtain ⟨rfl, rfl, rfl⟩ := h
    exact ⟨fun _ => 0, fun _ => 0, fun _ => 0, ⟨rfl, rfl, rfl⟩, ⟨rfl, rfl, rfl⟩, fun i _ => ⟨Nat.le_refl _, Nat.le_refl _, Nat.le_refl _⟩, fun i hi => absurd hi (by omega)⟩
  | g + 1, p, n, q, h => by
    obtain ⟨p0, n0, q0, kc, k, first, h1, h2, h3, h4⟩ := h
    obtain ⟨pp, nn, qq, ⟨a1, a2, a3⟩, ⟨b1, b2, b3⟩, c1, d1⟩ := FN_fn h1
    have hd := (RW_hdK CLS_bdK h3).1
    unfold HDc at hd
    have c0 := c1 g (Nat.le_refl _)
    rw [b1, b2, b3] at c0
    refine ⟨fun i => if i ≤ g then pp i else p, fun i => if i ≤ g then nn i else n, fun i => if i ≤ g then qq i else q, ⟨?_, ?_, ?_⟩, ⟨?_, ?_, ?_⟩, fun i hi => ?_, fun i hi => ?_⟩
    · show (if 0 ≤ g then pp 0 else p) = 0
      rw [if_pos (by omega)]; exact a1
    · show (if 0 ≤ g then nn 0 else n) = 0
      rw [if_pos (by omega)]; exact a2
    · show (if 0 ≤ g then qq 0 else q) = 0
      rw [if_pos (by omega)]; exact a3
    · show (if g + 1 ≤ g then pp (g + 1) else p) = p
      rw [if_neg (by omega)]
    · show (if g + 1 ≤ g then nn (g + 1) else n) = n
      rw [if_neg (by omega)]
    · show (if g + 1 ≤ g then qq (g + 1) else q) = q
      rw [if_neg (by omega)]
    · show 5 * (if i ≤ g then qq i else q) ≤ (if i ≤ g then pp i else p) ∧ (if i ≤ g then nn i else n) ≤ 2 * (if i ≤ g then pp i else p) ∧ (if i ≤ g then pp i else p) ≤ p
      by_cases z : i ≤ g
      · rw [if_pos z, if_pos z, if_pos z]
        have := c1 i z
        omega
      · rw [if_neg z, if_neg z, if_neg z]
        omega
    · show ∃ kc k first : Nat, ((if i ≤ g then pp i else p) + 6 ≤ (if i + 1 ≤ g then pp (i + 1) else p) ∧ A u 6 ((if i + 1 ≤ g then pp (i + 1) else p) - 1) = 28) ∧ RWcK u 1 27 (CLScK u) kc first (if i ≤ g then pp i else p) ((if i + 1 ≤ g then pp (i + 1) else p) - 1) (if i ≤ g then nn i else n) (if i + 1 ≤ g then nn (i + 1) else n) (if i ≤ g then qq i else q) (if i + 1 ≤ g then qq (i + 1) else q) ∧ (A u 27 i = ((first : Nat) : Int) ∧ A u 25 i = ((k : Nat) : Int) ∧ k ≤ 6 ∧ A u 24 i = A u 7 (if i ≤ g then pp i else p))
      rw [if_pos (show i ≤ g by omega), if_pos (show i ≤ g by omega), if_pos (show i ≤ g by omega)]
      by_cases z : i < g
      · rw [if_pos (show i + 1 ≤ g by omega), if_pos (show i + 1 ≤ g by omega), if_pos (show i + 1 ≤ g by omega)]
        exact d1 i z
      · have : i = g := by omega
        subst this
        rw [if_neg (by omega), if_neg (by omega), if_neg (by omega), b1, b2, b3]
        exact ⟨kc, k, first, h2, h3, h4⟩
set_option maxHeartbeats 1000000 in
theorem fun_pp {A' : MS → Unit → Option (MS × Int32)} {B' : MS → Unit → Option (MS × Unit)} {RZ : MS → Int32 → MS → Unit → Prop} (c : CTZ m0 w0 K T nm Nk) (cv : CTV m0 w0 K T) (cx : CVX N m0 w0 K T idc fof cvr) (hT : T ≤ 1500) (hE : RWcK m0 1 27 (CLScK m0) kc first p0 (p - 1) n0 n q0 q) (h28 : p0 + 6 ≤ p ∧ A m0 6 (p - 1) = 28) (hpT : p ≤ T) (h27 : A m0 27 f = ((first : Nat) : Int)) (hn : n ≤ 8015) (hq : q ≤ 400) (hf : f < 666) (hG : PGd m0 w0 T nm fof cvr f p0 q0 m w) (h : ∀ m2 w2, PGd m0 w0 T nm fof cvr (f + 1) p q m2 w2 → PP RZ (A' m2 ()) (B' w2 ())) : PP RZ (bnd (jm_Cm_oneFunction N m (I (f : Nat))) A') (bnd (km_M_function0 N w) B') := by
  obtain ⟨a, Q, fr, ⟨h441, ha1, ha2⟩, ⟨h712, h713⟩, ⟨r27, i449⟩, ⟨hR, hq56⟩, h52, hM⟩ := hG
  have hd := (RW_hdK CLS_bdK hE).1
  unfold HDc at hd
  have e27 : m.2.2.1 27 f = I (first : Nat) := by
    rw [r27]
    show m0.2.2.1 27 f = _
    rw [I_of (m0.2.2.1 27 f)]
    exact congrArg I h27
  have h17 : A m0 17 first = ((p0 : Nat) : Int) := by
    cases kc with
    | zero => exact hE.elim
    | succ kc =>
      obtain ⟨m1, c1, s1, e, -⟩ := hE
      exact e.2.2.1
  have k28 : K (p - 1) = 28 := kA c (by omega) h28.2
  unfold jm_Cm_oneFunction jb_Cm_oneFunction_0
  rw [i_nt2 (p := f) (by omega), e27, bnd_ck]
  refine l_ck (fun _ => ?_)
  rw [bnd_ck]
  refine l_ck (fun _ => ?_)
  rw [bnd_ck]
  refine l_ck (fun _ => ?_)
  rw [bnd_ck]
  refine l_ck (fun _ => ?_)
  rw [i_nt2 (p := first) (by omega), tre fr (by decide) h17, bnd_as2, I_of (m.2.2.1 24 f), I_of (m.2.2.1 25 f)]
  have e73 : ∀ B, PP RZ (bnd (jb_Cm_oneFunction_73 N (jg_Cm_oneFunction N N) m (I (f : Nat)) (I (p0 : Nat))) A') B := fun B => by
    unfold jb_Cm_oneFunction_73
    rw [bnd_as2]
    exact l_flt (tk := p0) (k := 4) rfl rfl (by omega) (by decide)
  refine l_bnd (pk_mo (cx.2.1 m _ _ fr) (fun v r hv => ?_))
  obtain ⟨rfl, -⟩ := hv
  rw [bnd_br]
  refine l_br (fun _ => ?_) (fun _ => e73 _)
  rw [bnd_ck]
  refine l_ck (fun _ => ?_)
  rw [bnd_ck]
  refine l_ck (fun _ => ?_)
  rw [bnd_as2, I_of (v.2.2.1 24 f), I_of (v.2.2.1 25 f)]
  refine l_bnd (pk_mo (cx.1 v _ _ fr) (fun v2 r2 hv => ?_))
  obtain ⟨rfl, -⟩ := hv
  rw [bnd_br]
  refine l_br (fun _ => ?_) (fun _ => e73 _)
  unfold jb_Cm_oneFunction_79
  rw [bnd_lt, lt_e, bnd_lt, lt_e, bnd_ck]
  refine l_ck (fun _ => ?_)
  rw [bnd_lt, lt_e, bnd_ck]
  refine l_ck (fun _ => ?_)
  rw [bnd_lt, lt_e, bnd_ck, i_nt2 (p := f) (by omega)]
  refine l_ck (fun _ => ?_)
  rw [bnd_lt, lt_e, bnd_ck, show (0 : Int32).toNatClampNeg = 0 from rfl]
  refine l_ck (fun _ => ?_)
  have x441 : ∀ g1 g2, (upA (upA (upI (upI v2 709 0) 706 0) 40 g1) 41 g2).1 441 = I (a : Nat) := fun _ _ => by
    show (upI (upI v2 709 0) 706 0).1 441 = _
    rw [upI_ne (by decide), upI_ne (by decide)]; exact h441
  rw [x441]
  have mi : ∀ g1 g2 g3 k, k ≠ 709 → k ≠ 706 → (upA (upA (upA (upI (upI v2 709 0) 706 0) 40 g1) 41 g2) 29 g3).1 k = v2.1 k := fun _ _ _ k k1 k2 => by
    show (upI (upI v2 709 0) 706 0).1 k = _
    rw [upI_ne k2, upI_ne k1]
  have mr : ∀ g1 g2 g3 k, k ≠ 40 → k ≠ 41 → k ≠ 29 → (upA (upA (upA (upI (upI v2 709 0) 706 0) 40 g1) 41 g2) 29 g3).2.2.1 k = v2.2.2.1 k := fun _ _ _ k k1 k2 k3 => by
    rw [upA_no k3, upA_no k2, upA_no k1]; rfl
  have m709 : ∀ g1 g2 g3, (upA (upA (upA (upI (upI v2 709 0) 706 0) 40 g1) 41 g2) 29 g3).1 709 = 0 := fun _ _ _ => by
    show (upI (upI v2 709 0) 706 0).1 709 = _
    rw [upI_ne (by decide), upI_at]
  have m706 : ∀ g1 g2 g3, (upA (upA (upA (upI (upI v2 709 0) 706 0) 40 g1) 41 g2) 29 g3).1 706 = 0 := fun _ _ _ => by
    show (upI (upI v2 709 0) 706 0).1 706 = _
    rw [upI_at]
  have m40 : ∀ g1 g2 g3, (upA (upA (upA (upI (upI v2 709 0) 706 0) 40 (upd g1 0 0)) 41 g2) 29 g3).2.2.1 40 0 = 0 := fun _ _ _ => by
    rw [upA_no (by decide), upA_no (by decide), upA_at, upd_at]
  have m41 : ∀ g1 g2 g3, (upA (upA (upA (upI (upI v2 709 0) 706 0) 40 g1) 41 (upd g2 0 0)) 29 g3).2.2.1 41 0 = 0 := fun _ _ _ => by
    rw [upA_no (by decide), upA_at, upd_at]
  have m29 : ∀ g1 g2 x, (upA (upA (upA (upI (upI v2 709 0) 706 0) 40 g1) 41 g2) 29 (upd ((upA (upA (upI (upI v2 709 0) 706 0) 40 g1) 41 g2).2.2.1 29) f x)).2.2.1 29 f = x ∧ ∀ j, j ≠ f → (upA (upA (upA (upI (upI v2 709 0) 706 0) 40 g1) 41 g2) 29 (upd ((upA (upA (upI (upI v2 709 0) 706 0) 40 g1) 41 g2).2.2.1 29) f x)).2.2.1 29 j = v2.2.2.1 29 j := fun g1 g2 x => ⟨by rw [upA_at, upd_at], fun j hj => by rw [upA_at, upd_no hj, upA_no (by decide), upA_no (by decide)]; rfl⟩
  have mi' := mi (upd ((upI (upI v2 709 0) 706 0).2.2.1 40) 0 0) (upd ((upA (upI (upI v2 709 0) 706 0) 40 (upd ((upI (upI v2 709 0) 706 0).2.2.1 40) 0 0)).2.2.1 41) 0 0)
  have mr' := mr (upd ((upI (upI v2 709 0) 706 0).2.2.1 40) 0 0) (upd ((upA (upI (upI v2 709 0) 706 0) 40 (upd ((upI (upI v2 709 0) 706 0).2.2.1 40) 0 0)).2.2.1 41) 0 0)
  have mi2 := mi' (upd ((upA (upA (upI (upI v2 709 0) 706 0) 40 (upd ((upI (upI v2 709 0) 706 0).2.2.1 40) 0 0)) 41 (upd ((upA (upI (upI v2 709 0) 706 0) 40 (upd ((upI (upI v2 709 0) 706 0).2.2.1 40) 0 0)).2.2.1 41) 0 0)).2.2.1 29) f (I (a : Nat)))
  have mr2 := mr' (upd ((upA (upA (upI (upI v2 709 0) 706 0) 40 (upd ((upI (upI v2 709 0) 706 0).2.2.1 40) 0 0)) 41 (upd ((upA (upI (upI v2 709 0) 706 0) 40 (upd ((upI (upI v2 709 0) 706 0).2.2.1 40) 0 0)).2.2.1 41) 0 0)).2.2.1 29) f (I (a : Nat)))
  have m7092 := m709 (upd ((upI (upI v2 709 0) 706 0).2.2.1 40) 0 0) (upd ((upA (upI (upI v2 709 0) 706 0) 40 (upd ((upI (upI v2 709 0) 706 0).2.2.1 40) 0 0)).2.2.1 41) 0 0) (upd ((upA (upA (upI (upI v2 709 0) 706 0) 40 (upd ((upI (upI v2 709 0) 706 0).2.2.1 40) 0 0)) 41 (upd ((upA (upI (upI v2 709 0) 706 0) 40 (upd ((upI (upI v2 709 0) 706 0).2.2.1 40) 0 0)).2.2.1 41) 0 0)).2.2.1 29) f (I (a : Nat)))
  have m7062 := m706 (upd ((upI (upI v2 709 0) 706 0).2.2.1 40) 0 0) (upd ((upA (upI (upI v2 709 0) 706 0) 40 (upd ((upI (upI v2 709 0) 706 0).2.2.1 40) 0 0)).2.2.1 41) 0 0) (upd ((upA (upA (upI (upI v2 709 0) 706 0) 40 (upd ((upI (upI v2 709 0) 706 0).2.2.1 40) 0 0)) 41 (upd ((upA (upI (upI v2 709 0) 706 0) 40 (upd ((upI (upI v2 709 0) 706 0).2.2.1 40) 0 0)).2.2.1 41) 0 0)).2.2.1 29) f (I (a : Nat)))
  have m402 := m40 ((upI (upI v2 709 0) 706 0).2.2.1 40) (upd ((upA (upI (upI v2 709 0) 706 0) 40 (upd ((upI (upI v2 709 0) 706 0).2.2.1 40) 0 0)).2.2.1 41) 0 0) (upd ((upA (upA (upI (upI v2 709 0) 706 0) 40 (upd ((upI (upI v2 709 0) 706 0).2.2.1 40) 0 0)) 41 (upd ((upA (upI (upI v2 709 0) 706 0) 40 (upd ((upI (upI v2 709 0) 706 0).2.2.1 40) 0 0)).2.2.1 41) 0 0)).2.2.1 29) f (I (a : Nat)))
  have m412 := m41 (upd ((upI (upI v2 709 0) 706 0).2.2.1 40) 0 0) ((upA (upI (upI v2 709 0) 706 0) 40 (upd ((upI (upI v2 709 0) 706 0).2.2.1 40) 0 0)).2.2.1 41) (upd ((upA (upA (upI (upI v2 709 0) 706 0) 40 (upd ((upI (upI v2 709 0) 706 0).2.2.1 40) 0 0)) 41 (upd ((upA (upI (upI v2 709 0) 706 0) 40 (upd ((upI (upI v2 709 0) 706 0).2.2.1 40) 0 0)).2.2.1 41) 0 0)).2.2.1 29) f (I (a : Nat)))
  have m292 := m29 (upd ((upI (upI v2 709 0) 706 0).2.2.1 40) 0 0) (upd ((upA (upI (upI v2 709 0) 706 0) 40 (upd ((upI (upI v2 709 0) 706 0).2.2.1 40) 0 0)).2.2.1 41) 0 0) (I (a : Nat))
  clear mi mr m709 m706 m40 m41 m29 mi' mr' x441
  generalize upA (upA (upA (upI (upI v2 709 0) 706 0) 40 (upd ((upI (upI v2 709 0) 706 0).2.2.1 40) 0 0)) 41 (upd ((upA (upI (upI v2 709 0) 706 0) 40 (upd ((upI (upI v2 709 0) 706 0).2.2.1 40) 0 0)).2.2.1 41) 0 0)) 29 (upd ((upA (upA (upI (upI v2 709 0) 706 0) 40 (upd ((upI (upI v2 709 0) 706 0).2.2.1 40) 0 0)) 41 (upd ((upA (upI (upI v2 709 0) 706 0) 40 (upd ((upI (upI v2 709 0) 706 0).2.2.1 40) 0 0)).2.2.1 41) 0 0)).2.2.1 29) f (I (a : Nat))) = m1 at mi2 mr2 m7092 m7062 m402 m412 m292
  have fr1 : FRC m0 m1 := ⟨fun k hk => by rw [mi2 k (by omega) (by omega)]; exact fr.1 k hk, fun k hk => by rw [mr2 k (by omega) (by omega) (by omega)]; exact fr.2 k hk⟩
  have X1 : XCS m0 nm m1 a 0 [([], [], 0)] false := ⟨⟨fr1, ⟨m7092, ⟨by decide, by decide⟩, m7062, by decide, m402, fun k x hk => (by cases hk), trivial⟩, ⟨by rw [mi2 441 (by decide) (by decide)]; exact h441, ha1, ha2⟩, by rw [mi2 713 (by decide) (by decide), h713]; rfl, m412, by decide, by decide⟩, by rw [mi2 712 (by decide) (by decide), h712]; rfl⟩
  have e271 : m1.2.2.1 27 f = I (first : Nat) := by rw [mr2 27 (by decide) (by decide) (by decide)]; exact e27
  rw [e271]
  unfold km_M_function0 kb_M_function0_0
  rw [bnd_lt, lt_e, h52, i_suc, bnd_ck, i_nt2 (p := f) (by omega)]
  refine r_ck (fun _ => ?_)
  rw [bnd_lt, lt_e, bnd_ck]
  refine r_ck (fun _ => ?_)
  rw [bnd_lt, lt_e]
  have wi' : ∀ g1 g2 k, k ≠ 52 → (upA (upA (upI w 52 (I ((f + 1 : Nat) : Int))) 49 g1) 51 g2).1 k = w.1 k := fun _ _ k hk => by
    show (upI w 52 _).1 k = _
    rw [upI_ne hk]
  have w52 : ∀ g1 g2, (upA (upA (upI w 52 (I ((f + 1 : Nat) : Int))) 49 g1) 51 g2).1 52 = I ((f + 1 : Nat) : Int) := fun _ _ => by
    show (upI w 52 _).1 52 = _
    exact upI_at
  have wr : ∀ g1 g2 k, k ≠ 49 → k ≠ 51 → (upA (upA (upI w 52 (I ((f + 1 : Nat) : Int))) 49 g1) 51 g2).2.2.1 k = w.2.2.1 k := fun _ _ k k1 k2 => by
    rw [upA_no k2, upA_no k1]; rfl
  have wj : ∀ g1 g2, (upA (upA (upI w 52 (I ((f + 1 : Nat) : Int))) 49 g1) 51 g2).2.2.2 = w.2.2.2 := fun _ _ => rfl
  have w69 : (upI w 52 (I ((f + 1 : Nat) : Int))).1 69 = I (p0 : Nat) := by rw [upI_ne (by decide)]; exact hR.2.1.1
  rw [w69]
  have wi2 := wi' (upd ((upI w 52 (I ((f + 1 : Nat) : Int))).2.2.1 49) f (I (p0 : Nat))) (upd ((upA (upI w 52 (I ((f + 1 : Nat) : Int))) 49 (upd ((upI w 52 (I ((f + 1 : Nat) : Int))).2.2.1 49) f (I (p0 : Nat)))).2.2.1 51) f 0)
  have w522 := w52 (upd ((upI w 52 (I ((f + 1 : Nat) : Int))).2.2.1 49) f (I (p0 : Nat))) (upd ((upA (upI w 52 (I ((f + 1 : Nat) : Int))) 49 (upd ((upI w 52 (I ((f + 1 : Nat) : Int))).2.2.1 49) f (I (p0 : Nat)))).2.2.1 51) f 0)
  have wr2 := wr (upd ((upI w 52 (I ((f + 1 : Nat) : Int))).2.2.1 49) f (I (p0 : Nat))) (upd ((upA (upI w 52 (I ((f + 1 : Nat) : Int))) 49 (upd ((upI w 52 (I ((f + 1 : Nat) : Int))).2.2.1 49) f (I (p0 : Nat)))).2.2.1 51) f 0)
  have wj2 := wj (upd ((upI w 52 (I ((f + 1 : Nat) : Int))).2.2.1 49) f (I (p0 : Nat))) (upd ((upA (upI w 52 (I ((f + 1 : Nat) : Int))) 49 (upd ((upI w 52 (I ((f + 1 : Nat) : Int))).2.2.1 49) f (I (p0 : Nat)))).2.2.1 51) f 0)
  clear wi' w52 wr wj
  generalize upA (upA (upI w 52 (I ((f + 1 : Nat) : Int))) 49 (upd ((upI w 52 (I ((f + 1 : Nat) : Int))).2.2.1 49) f (I (p0 : Nat)))) 51 (upd ((upA (upI w 52 (I ((f + 1 : Nat) : Int))) 49 (upd ((upI w 52 (I ((f + 1 : Nat) : Int))).2.2.1 49) f (I (p0 : Nat)))).2.2.1 51) f 0) = w1 at wi2 w522 wr2 wj2
  have Y1 : XRn w0 T w1 p0 Q := by
    obtain ⟨h1, h2, h3, h4, h5⟩ := hR
    refine ⟨⟨fun k hk => ?_, fun k hk => ?_⟩, ⟨by rw [wi2 69 (by decide)]; exact h2.1, h2.2⟩, by rw [wi2 67 (by decide)]; exact h3, ⟨by rw [wi2 39 (by decide)]; exact h4.1, h4.2⟩, fun k hk => ?_⟩
    · rw [wi2 k (by rintro rfl; revert hk; decide)]; exact h1.1 k hk
    · have : k < 23 := by unfold TRW at hk; simp only [List.mem_cons, List.not_mem_nil, or_false] at hk; omega
      rw [wr2 k (by omega) (by omega)]; exact h1.2 k hk
    · rw [wi2 k (by rintro rfl; revert hk; decide)]; exact h5 k hk
  have gr : ∀ k, grp k ≠ 0 → k ≠ 49 ∧ k ≠ 51 := fun k g0 => ⟨fun e => g0 (by rw [e]; rfl), fun e => g0 (by rw [e]; rfl)⟩
  refine pp_bb ?_
  have hI0 : FNI m0 w0 T nm fof cvr f a q0 Q m1 w1 none m1 w1 p0 a 0 q0 Q [] := ⟨X1, ⟨Y1, hq56⟩, ⟨Nat.le_refl _, Nat.le_refl _, QLE_rf⟩, XFC_rf, ⟨fun _ _ _ _ => rfl, fun _ _ => rfl⟩, ⟨rfl, fun _ _ _ _ _ => rfl⟩, Or.inl ⟨rfl, rfl, rfl, rfl⟩⟩
  refine fnq_lp (xb := n) (r := q) (hi := p - 1) (f := f) (RU := fun m2 z w2 z2 => PP RZ (A' m2 z) (B' w2 z2)) c cv cx hn hq ⟨k28, by omega⟩ (by omega) (fun M M2 m2 w2 b cm2 Q2 sc2 kl hI => ?_) kc first p0 n0 q0 N N none m1 w1 a 0 Q [] hE hI0
  refine fn_fin c hI (fun _ m3 w3 hp3 hz => pp_end ?_)
  rw [show p - 1 + 1 = p by omega] at hz
  obtain ⟨a3, cm3, Q3, g1, ⟨g2, g2b⟩, ⟨g3, g3b, g3c⟩, g4, g5, g6, k1, g7, g8, g9, g10⟩ := hz
  refine h m3 w3 ⟨a3, Q3, XCS_fr g1, g1.1.2.2.1, ⟨of_decide_eq_true (by have := g1.2; exact this), of_decide_eq_true (by have := g1.1.2.2.2.1; exact this)⟩, ?_, ⟨g2, g2b⟩, g6.1.trans w522, fun C P R J fi => ?_⟩
  · exact ⟨by rw [g4.2.1 27 (by decide) (by decide) (by decide), mr2 27 (by decide) (by decide) (by decide)]; exact r27, by rw [g4.1 449 (by decide) (by decide), mi2 449 (by decide) (by decide)]; exact i449⟩
  · have le0 : QLE Q00 Q := fun _ _ => Nat.zero_le _
    have f1 : FNx w0 fof cvr C P R J v2 w 1 a 0 q0 Q00 Q false [] [] [] := FNx_mo fi ⟨Nat.le_refl _, g3⟩ ⟨Nat.le_refl _, g3b⟩ QLE_rf g3c (fun j _ z _ => by rw [g4.2.2.1 j z, mr2 23 (by decide) (by decide) (by decide)]) (fun k u z1 z2 _ z4 => by rw [g4.2.2.2.1 k u z1 z2 (Or.inl z4), mr2 k (by omega) (by omega) (by omega)]) (fun k n g0 _ _ _ n2 _ => by rw [g5.1 k n g0 n2, wr2 k (gr k g0).1 (gr k g0).2]) (fun n _ n2 => by rw [g5.2 n n2, wj2]) (fun n _ n2 => by rw [show A w3 30 n = A w 30 n from congrArg Int32.toInt ((g5.1 30 n (by decide) n2).trans (by rw [wr2 30 (by decide) (by decide)]))]) (fun j hm _ _ => hm) (fun j hm _ _ => hm)
    have f2 : FNx w0 fof cvr C P R J m3 w3 a a3 q0 q Q Q3 false [] [] [] := FNx_mo fi ⟨ha1, Nat.le_refl _⟩ ⟨Nat.zero_le _, Nat.le_refl _⟩ le0 QLE_rf (fun _ _ _ _ => rfl) (fun _ _ _ _ _ _ => rfl) (fun _ _ _ _ _ _ _ _ => rfl) (fun _ _ _ => rfl) (fun _ _ _ => rfl) (fun j hm _ _ => hm) (fun j hm _ _ => hm)
    obtain ⟨o1, o2⟩ := hM C P R J f1
    obtain ⟨n1, n2⟩ := g10 C P R J f2
    refine ⟨fun u hu => ?_, fun f' hf' => ?_⟩
    · by_cases z : u < q0
      · exact o1 u z
      · exact n1 u (by omega) hu
    · by_cases z : f' = f
      · subst z
        exact ⟨a, k1, by rw [g4.2.1 29 (by decide) (by decide) (by decide)]; exact m292.1, ha2, g8, g7, g9, n2⟩
      · obtain ⟨e, kk1, y1, y2, y3, y4, y5, y6⟩ := o2 f' (by omega)
        exact ⟨e, kk1, by rw [g4.2.1 29 (by decide) (by decide) (by decide), m292.2 f' z]; exact y1, y2, by rw [g6.2 50 f' (by decide) (by decide) z, wr2 50 (by decide) (by decide)]; exact y3, y4, by rw [g6.2 48 f' (by decide) (by decide) z, wr2 48 (by decide) (by decide)]; exact y5, y6⟩
end
end
section
set_option maxRecDepth 100000
section
variable {α β : Type} {m0 w0 m w m2 w2 m3 w3 v u : MS} {K nm Nk : Nat → Nat} {N T f p q n k i a g G M M2 : Nat} {Q Q0 Q2 : Nat → Nat} {sc sc2 : SCT} {idc fof cvr : Int → Int → Int}
def PGZ (m0 w0 : MS) (T : Nat) (nm : Nat → Nat) (fof cvr : Int → Int → Int) (G q : Nat) (m : MS) (_ : Int32) (w : MS) (_ : Unit) : Prop := PGd m0 w0 T nm fof cvr G T q m w
theorem cmq_end {S : MS → Int32 → Option (MS × Int32)} {R : MS → Int32 → MS → Unit → Prop} (h : ∀ r, R m r w ()) (h442 : decide (m.1 442 ≤ I (i : Nat)) = true) : PP R (jb_Cm_compile_23 N S m (I (i : Nat))) (some (w, ())) := by
  have e : ∀ r : Int32, PP R (some (m, r)) (some (w, ())) := fun r => pp_end (h r)
  have e124 : ∀ t : Int32, PP R (jb_Cm_compile_124 N S m t) (some (w, ())) := fun t => by
    unfold jb_Cm_compile_124 jb_Cm_compile_136 jb_Cm_compile_142
    exact l_br (fun _ => l_br (fun _ => e _) (fun _ => e _)) (fun _ => e _)
  unfold jb_Cm_compile_23 jb_Cm_compile_119
  rw [h442, br_tq]
  exact l_br (fun _ => l_br (fun _ => e124 _) (fun _ => l_br (fun _ => e124 _) (fun _ => l_br (fun _ => e124 _) (fun _ => e124 _)))) (fun _ => l_ck (fun _ => e _))
theorem pgq_lp (c : CTZ m0 w0 K T nm Nk) (cv : CTV m0 w0 K T) (cx : CVX N m0 w0 K T idc fof cvr) (hT : T ≤ 1500) (kT : K T = 0) (h442 : m0.1 442 = I (G : Nat)) (hG : G ≤ 666) {pp nn qq : Nat → Nat} (hb : ∀ i, i ≤ G → 5 * qq i ≤ pp i ∧ nn i ≤ 2 * pp i ∧ pp i ≤ T) (hpG : pp G = T) (hs : ∀ i, i < G → ∃ kc k first : Nat, (pp i + 6 ≤ pp (i + 1) ∧ A m0 6 (pp (i + 1) - 1) = 28) ∧ RWcK m0 1 27 (CLScK m0) kc first (pp i) (pp (i + 1) - 1) (nn i) (nn (i + 1)) (qq i) (qq (i + 1)) ∧ (A m0 27 i = ((first : Nat) : Int) ∧ A m0 25 i = ((k : Nat) : Int) ∧ k ≤ 6 ∧ A m0 24 i = A m0 7 (pp i))) : ∀ (d M M2 i : Nat) (m w : MS), i + d = G → PGd m0 w0 T nm fof cvr i (pp i) (qq i) m w → PP (PGZ m0 w0 T nm fof cvr G (qq G)) (jg_Cm_compile N M m (I (i : Nat))) (kg_M_program N M2 w (if i < G then 1 else 0))
  | _, 0, _, _, _, _, _, _ => pp_nl
  | _, _ + 1, 0, _, _, _, _, _ => pp_nr
  | 0, M + 1, M2 + 1, i, m, w, hi, h => by
    have ei : i = G := by omega
    subst ei
    rw [if_neg (by omega)]
    show PP _ (jb_Cm_compile_23 N (jg_Cm_compile N M) m (I (i : Nat))) (kb_M_program_52 N (kg_M_program N M2) w 0)
    unfold kb_M_program_52 kb_M_program_95
    rw [show decide ((0 : Int32) = 0) = true from rfl, br_tq]
    have h' := h
    rw [hpG] at h'
    obtain ⟨a, Q, fr, -⟩ := h
    exact cmq_end (fun r => h') (decide_eq_true (by rw [fr.1 442 (by omega), h442]; exact (I_le (x := ((i : Nat) : Int)) (y := ((i : Nat) : Int)) (by omega) (by omega) (by omega) (by omega)).mpr (by omega)))
  | d + 1, M + 1, M2 + 1, i, m, w, hi, h => by
    obtain ⟨kc, k, first, h28, hE, h27, h25, hk, h24⟩ := hs i (by omega)
    have b1 := hb (i + 1) (by omega)
    have h0 := h
    obtain ⟨a, Q, fr, -, -, -, ⟨hR, -⟩, -⟩ := h0
    rw [if_pos (by omega)]
    show PP _ (jb_Cm_compile_23 N (jg_Cm_compile N M) m (I (i : Nat))) (kb_M_program_52 N (kg_M_program N M2) w 1)
    unfold jb_Cm_compile_23 kb_M_program_52
    rw [decide_eq_false (fun z => by
      rw [fr.1 442 (by omega), h442] at z
      have := (I_le (x := ((G : Nat) : Int)) (y := ((i : Nat) : Int)) (by omega) (by omega) (by omega) (by omega)).mp z
      omega), br_fq, show decide ((1 : Int32) = 0) = false from rfl, br_fq, decide_eq_true hR.2.2.1, br_tq]
    refine fun_pp c cv cx hT hE h28 b1.2.2 h27 (by omega) (by omega) (by omega) h (fun m2 w2 h2 => ?_)
    have h2' := h2
    obtain ⟨a2, Q2, -, -, -, -, ⟨hR2, -⟩, -⟩ := h2'
    have hw2 := XRn_wp c hR2
    have t4 := c.2.1.1.1
    have s0 : decide (w2.2.2.1 6 (pp (i + 1)) = 0) = decide (K (pp (i + 1)) = 0) := srt_dc hw2 srK_0
    rw [decide_eq_true hR2.2.2.1, br_tq, hR2.2.1.1, i_nt2 (p := pp (i + 1)) (by omega), s0, i_suc]
    refine r_ck (fun _ => ?_)
    unfold kb_M_program_90 kb_M_program_91
    have rc := pgq_lp c cv cx hT kT h442 hG hb hpG hs d M M2 (i + 1) m2 w2 (by omega) h2
    by_cases z : i + 1 < G
    · rw [if_pos z] at rc
      obtain ⟨kc2, k2, first2, hh, hE2, -⟩ := hs (i + 1) z
      have k2 : K (pp (i + 1)) = 2 := by
        cases kc2 with
        | zero => exact hE2.elim
        | succ kc2 =>
          obtain ⟨m1, c1, s1, e, -⟩ := hE2
          exact kA c (by omega) e.2.2.2.1
      rw [decide_eq_false (by omega), br_fq]
      exact rc
    · rw [if_neg z] at rc
      have e1 : i + 1 = G := by omega
      rw [e1, hpG, kT, show decide ((0 : Nat) = 0) = true from rfl, br_tq]
      rw [e1] at rc
      exact rc
theorem cmp_prg (c : CTZ m0 w0 K T nm Nk) (cv : CTV m0 w0 K T) (cx : CVX N m0 w0 K T idc fof cvr) (hT : T ≤ 1500) (kT : K T = 0) (h442 : m0.1 442 = I (G : Nat)) (hG : 1 ≤ G ∧ G ≤ 666) (h441 : m0.1 441 = 1) (hF : FNScK m0 G T n q) (h67 : w0.1 67 = 0) (hq : w0.1 75 = 0 ∧ w0.1 77 = 0 ∧ w0.1 83 = 0) : PP (PGZ m0 w0 T nm fof cvr G q) (jm_Cm_compile N m0) (km_M_program N w0) := by
  obtain ⟨pp, nn, qq, ⟨a1, a2, a3⟩, ⟨b1, b2, b3⟩, c1, d1⟩ := FN_fn hF
  unfold jm_Cm_compile jb_Cm_compile_0 km_M_program kb_M_program_0
  simp only [lt_e]
  have mi : ∀ k, k < 700 → (upI (upI (upI (upI m0 714 1000000000) 711 0) 712 0) 713 0).1 k = m0.1 k := fun k hk => by rw [upI_ne (by omega), upI_ne (by omega), upI_ne (by omega), upI_ne (by omega)]
  have mi2 : ∀ k, 720 ≤ k → (upI (upI (upI (upI m0 714 1000000000) 711 0) 712 0) 713 0).1 k = m0.1 k := fun k hk => by rw [upI_ne (by omega), upI_ne (by omega), upI_ne (by omega), upI_ne (by omega)]
  have m2' : (upI (upI (upI (upI m0 714 1000000000) 711 0) 712 0) 713 0).1 712 = 0 := by rw [upI_ne (by decide), upI_at]
  have m3' : (upI (upI (upI (upI m0 714 1000000000) 711 0) 712 0) 713 0).1 713 = 0 := upI_at
  have mr : (upI (upI (upI (upI m0 714 1000000000) 711 0) 712 0) 713 0).2 = m0.2 := rfl
  generalize upI (upI (upI (upI m0 714 1000000000) 711 0) 712 0) 713 0 = m1 at mi mi2 m2' m3' mr
  have wi : ∀ k, k ∉ [69, 70, 32, 39, 46, 52, 56, 58, 66, 73] → (upI (upI (upI (upI (upI (upI (upI (upI (upI (upI w0 69 0) 70 0) 32 0) 39 0) 46 0) 52 0) 56 0) 58 0) 66 0) 73 0).1 k = w0.1 k := fun k hk => by
    simp only [List.mem_cons, List.not_mem_nil, or_false] at hk
    rw [upI_ne (by omega), upI_ne (by omega), upI_ne (by omega), upI_ne (by omega), upI_ne (by omega), upI_ne (by omega), upI_ne (by omega), upI_ne (by omega), upI_ne (by omega), upI_ne (by omega)]
  have wz : ∀ k, k ∈ [69, 70, 32, 39, 46, 52, 56, 58, 66, 73] → (upI (upI (upI (upI (upI (upI (upI (upI (upI (upI w0 69 0) 70 0) 32 0) 39 0) 46 0) 52 0) 56 0) 58 0) 66 0) 73 0).1 k = 0 := fun k hk => by
    simp only [List.mem_cons, List.not_mem_nil, or_false] at hk
    rcases hk with rfl | rfl | rfl | rfl | rfl | rfl | rfl | rfl | rfl | rfl <;> rfl
  have wr : (upI (upI (upI (upI (upI (upI (upI (upI (upI (upI w0 69 0) 70 0) 32 0) 39 0) 46 0) 52 0) 56 0) 58 0) 66 0) 73 0).2 = w0.2 := rfl
  generalize upI (upI (upI (upI (upI (upI (upI (upI (upI (upI w0 69 0) 70 0) 32 0) 39 0) 46 0) 52 0) 56 0) 58 0) 66 0) 73 0 = w1 at wi wz wr
  have g0 : PGd m0 w0 T nm fof cvr 0 (pp 0) (qq 0) m1 w1 := by
    refine ⟨1, Q00, ⟨fun k hk => ?_, fun k _ => by rw [mr]⟩, ⟨by rw [mi 441 (by decide)]; exact h441, Nat.le_refl _, by decide⟩, ⟨m2', m3'⟩, ⟨by rw [mr], mi 449 (by decide)⟩, ⟨⟨⟨fun k hk => ?_, fun k _ => by rw [wr]⟩, ⟨by rw [a1]; exact wz 69 (by decide), by rw [a1]; exact Nat.zero_le _⟩, by rw [wi 67 (by decide)]; exact h67, ⟨wz 39 (by decide), Nat.zero_le _⟩, fun k hk => ⟨?_, Nat.zero_le _⟩⟩, by rw [a3]; rfl⟩, wz 52 (by decide), fun C P R J fi => ⟨fun u hu => by rw [a3] at hu; omega, fun f hf => by omega⟩⟩
    · rcases hk with hk | hk | hk
      · exact mi k (by omega)
      · exact mi k (by omega)
      · exact mi2 k hk.1
    · rw [wi k (by
        unfold TIN at hk
        simp only [List.mem_cons, List.not_mem_nil, or_false] at hk ⊢
        omega)]
    · unfold MKs at hk
      simp only [List.mem_cons, List.not_mem_nil, or_false] at hk
      rcases hk with rfl | rfl | rfl | rfl | rfl | rfl | rfl | rfl
      · exact wz 32 (by decide)
      · exact wz 39 (by decide)
      · exact wz 46 (by decide)
      · exact wz 56 (by decide)
      · exact wz 58 (by decide)
      · rw [wi 75 (by decide)]; exact hq.1
      · rw [wi 77 (by decide)]; exact hq.2.1
      · rw [wi 83 (by decide)]; exact hq.2.2
  have := pgq_lp (N := N) c cv cx hT kT h442 hG.2 (pp := pp) (nn := nn) (qq := qq) c1 b1 d1 G N N 0 m1 w1 (by omega) g0
  rw [if_pos (by omega), b3] at this
  exact this
end
end
section
set_option maxRecDepth 100000
def fixI (a b : Nat → Int32) (x y : Int32) : Nat → Nat → Int
  | 0, _ => -1
  | d + 1, j => if a j = x ∧ b j = y then ((j : Nat) : Int) else fixI a b x y d (j + 1)
def id36 (o : Option Nat) (y : Int32) : Int := match o with
  | none => -1
  | some i => if i = 7 ∧ y = 2 then 29 else if takL.getD i 0 = y then ((i : Nat) : Int) else -1
def p36 (d : Int) : Int := if d ≤ 7 then d else if d = 29 then 8 else d + 1
def ixI (m : MS) (fa : Nat → Nat) (na : Nat) (x : Int32) : Option Nat := if 0 ≤ x.toInt ∧ x.toInt < ((na : Nat) : Int) then ix36 m fa x.toInt.toNat else none
def fofX (m : MS) (g : Nat) (α k : Int) : Int := fixI (m.2.2.1 24) (m.2.2.1 25) (I α) (I k) g 0
def idX (m : MS) (fa : Nat → Nat) (na : Nat) (α k : Int) : Int := id36 (ixI m fa na (I α)) (I k)
def cvX (m : MS) (fa : Nat → Nat) (na g : Nat) (α k : Int) : Int := if idX m fa na α k = -1 then fofX m g α k else 2000 + p36 (idX m fa na α k)
section
variable {m0 w0 m w v u m2 : MS} {K : Nat → Nat} {N T g n j k M na a : Nat} {x y r : Int32} {p q p' q' : Nat → Int32} {fa : Nat → Nat}
theorem fix_n : ∀ {d j : Nat}, (∀ i, j ≤ i → i < j + d → ¬ (p i = x ∧ q i = y)) → fixI p q x y d j = -1
  | 0, _, _ => rfl
  | d + 1, j, h => by
    show (if p j = x ∧ q j = y then ((j : Nat) : Int) else fixI p q x y d (j + 1)) = -1
    rw [if_neg (h j (Nat.le_refl _) (by omega))]
    exact fix_n (fun i h1 h2 => h i (by omega) (by omega))
theorem fix_s {i : Nat} : ∀ {d j : Nat}, j ≤ i → i < j + d → (p i = x ∧ q i = y) → (∀ k, j ≤ k → k < i → ¬ (p k = x ∧ q k = y)) → fixI p q x y d j = ((i : Nat) : Int)
  | 0, _, h1, h2, _, _ => by omega
  | d + 1, j, h1, h2, h3, h4 => by
    show (if p j = x ∧ q j = y then ((j : Nat) : Int) else fixI p q x y d (j + 1)) = _
    by_cases z : j = i
    · subst z; rw [if_pos h3]
    · rw [if_neg (h4 j (Nat.le_refl _) (by omega))]
      exact fix_s (by omega) (by omega) h3 (fun k h5 h6 => h4 k (by omega) h6)
theorem fix_r : ∀ {d j : Nat}, fixI p q x y d j = -1 ∨ ∃ i : Nat, fixI p q x y d j = ((i : Nat) : Int) ∧ j ≤ i ∧ i < j + d
  | 0, _ => Or.inl rfl
  | d + 1, j => by
    have e : fixI p q x y (d + 1) j = (if p j = x ∧ q j = y then ((j : Nat) : Int) else fixI p q x y d (j + 1)) := rfl
    rw [e]
    by_cases z : p j = x ∧ q j = y
    · rw [if_pos z]; exact Or.inr ⟨j, rfl, Nat.le_refl _, by omega⟩
    · rw [if_neg z]
      have hr : fixI p q x y d (j + 1) = -1 ∨ ∃ i : Nat, fixI p q x y d (j + 1) = ((i : Nat) : Int) ∧ j + 1 ≤ i ∧ i < j + 1 + d := fix_r
      rcases hr with h | ⟨i, h1, h2, h3⟩
      · exact Or.inl h
      · exact Or.inr ⟨i, h1, by omega, by omega⟩
theorem fix_cg : ∀ {d j : Nat}, (∀ i, j ≤ i → i < j + d → p i = p' i ∧ q i = q' i) → fixI p q x y d j = fixI p' q' x y d j
  | 0, _, _ => rfl
  | d + 1, j, h => by
    show (if p j = x ∧ q j = y then ((j : Nat) : Int) else fixI p q x y d (j + 1)) = (if p' j = x ∧ q' j = y then ((j : Nat) : Int) else fixI p' q' x y d (j + 1))
    have h0 := h j (Nat.le_refl _) (by omega)
    rw [h0.1, h0.2, fix_cg (fun i h1 h2 => h i (by omega) (by omega))]
theorem fof_c (h : m.1 442 = I (g : Nat)) (hg : g ≤ 700) : PK (fun v r => v = m ∧ r = I (fixI (m.2.2.1 24) (m.2.2.1 25) x y g 0)) (hm_Co_seek N m x y) := by
  have hs : PK _ (hm_Co_seek N m x y) := seek_p (N := N) (x := x) (y := y) h hg N 0 (Nat.zero_le _) (fun i hi => absurd hi (by omega))
  refine pk_mo hs (fun v r hv => ⟨hv.1, ?_⟩)
  rcases hv.2 with ⟨r1, r2⟩ | ⟨i, i1, i2, i3, i4⟩
  · rw [r1, fix_n (fun i _ hi => r2 i (by omega))]; rfl
  · rw [i2, fix_s (Nat.zero_le _) (by omega) i3 (fun k _ hk => i4 k hk)]
theorem fofx_lp (h : w.1 52 = I (g : Nat)) (hg : g ≤ 1000) : ∀ (M d j : Nat), j + d = g → PK (fun v r => v = w ∧ r = I (fixI (w.2.2.1 47) (w.2.2.1 48) x y d j)) (gg_M_functionOf N M w x y (I (j : Nat)))
  | 0, _, _, _ => pk_none
  | M + 1, d, j, hj => by
    show PK _ (fb_M_functionOf_2 N (gg_M_functionOf N M) w x y (I (j : Nat)))
    unfold fb_M_functionOf_2 fb_M_functionOf_32
    rw [h, decide_eq_decide.mpr (I_le (x := (g : Nat)) (y := (j : Nat)) (by omega) (by omega) (by omega) (by omega)), tnI (n := j) rfl (by omega), i_suc]
    cases d with
    | zero =>
      rw [decide_eq_true (by omega), br_tq]
      exact pk_some ⟨rfl, rfl⟩
    | succ d =>
      rw [decide_eq_false (by omega), br_fq]
      have e : fixI (w.2.2.1 47) (w.2.2.1 48) x y (d + 1) j = (if w.2.2.1 47 j = x ∧ w.2.2.1 48 j = y then ((j : Nat) : Int) else fixI (w.2.2.1 47) (w.2.2.1 48) x y d (j + 1)) := rfl
      have nx : ¬ (w.2.2.1 47 j = x ∧ w.2.2.1 48 j = y) → PK (fun v r => v = w ∧ r = I (fixI (w.2.2.1 47) (w.2.2.1 48) x y (d + 1) j)) (gg_M_functionOf N M w x y (I ((j + 1 : Nat) : Int))) := fun hz => by
        rw [e, if_neg hz]
        exact fofx_lp h hg M d (j + 1) (by omega)
      refine pk_ck (fun _ => pk_br (fun z1 => pk_ck (fun _ => pk_br (fun z2 => ?_) (fun z2 => nx (fun q => of_decide_eq_false z2 q.2)))) (fun z1 => nx (fun q => of_decide_eq_false z1 q.1)))
      rw [e, if_pos ⟨of_decide_eq_true z1, of_decide_eq_true z2⟩]
      exact pk_some ⟨rfl, rfl⟩
theorem fofx_p (h : w.1 52 = I (g : Nat)) (hg : g ≤ 1000) : PK (fun v r => v = w ∧ r = I (fixI (w.2.2.1 47) (w.2.2.1 48) x y g 0)) (fm_M_functionOf N w x y) := fofx_lp h hg N g 0 (by omega)
theorem ix_lt {i : Nat} (h : ix36 m fa a = some i) : i < 29 ∧ MC36 m fa a i := ⟨List.mem_range.mp (List.mem_of_find?_eq_some h), mc36_e.mp (List.find?_some h)⟩
theorem ixI_lt {i : Nat} (h : ixI m fa na x = some i) : i < 29 := by
  unfold ixI at h
  split at h
  · exact (ix_lt h).1
  · cases h
theorem id36_r {o : Option Nat} (ho : ∀ i, o = some i → i < 29) : id36 o y = -1 ∨ (0 ≤ id36 o y ∧ id36 o y < 30) := by
  cases o with
  | none => exact Or.inl rfl
  | some i =>
    have := ho i rfl
    show (if i = 7 ∧ y = 2 then (29 : Int) else if takL.getD i 0 = y then ((i : Nat) : Int) else -1) = -1 ∨ (0 ≤ (if i = 7 ∧ y = 2 then (29 : Int) else if takL.getD i 0 = y then ((i : Nat) : Int) else -1) ∧ (if i = 7 ∧ y = 2 then (29 : Int) else if takL.getD i 0 = y then ((i : Nat) : Int) else -1) < 30)
    split
    · exact Or.inr ⟨by decide, by decide⟩
    · split
      · exact Or.inr ⟨by omega, by omega⟩
      · exact Or.inl rfl
theorem p36_r {d : Int} (h : 0 ≤ d ∧ d < 30) : 0 ≤ p36 d ∧ p36 d < 30 ∧ d = (if p36 d ≤ 7 then p36 d else if p36 d = 8 then 29 else p36 d - 1) := by
  unfold p36
  by_cases z : d ≤ 7
  · rw [if_pos z, if_pos z]; exact ⟨by omega, by omega, rfl⟩
  · rw [if_neg z]
    by_cases z2 : d = 29
    · rw [if_pos z2, if_neg (by omega), if_pos rfl]; exact ⟨by omega, by omega, z2⟩
    · rw [if_neg z2, if_neg (by omega), if_neg (by omega)]; exact ⟨by omega, by omega, by omega⟩
theorem pre_x (c : CW36 m) (h : ATf m w fa na) : PK (fun v r => v = m ∧ r = I (id36 (ixI m fa na x) y)) (hm_Cm_predefinedOf N m x y) := by
  have na5 := h.1.2.2.2.2
  have sk : PK (fun v r => v = m ∧ ((r = -1 ∧ ixI m fa na x = none) ∨ ∃ k : Nat, k < 29 ∧ r = I (k : Nat) ∧ ixI m fa na x = some k)) (hm_Wo_seekIn N m 1 36 x) := by
    by_cases z : 0 ≤ x.toInt ∧ x.toInt < ((na : Nat) : Int)
    · have ex : x = I ((x.toInt.toNat : Nat) : Int) := by rw [Int.toNat_of_nonneg z.1]; exact I_of x
      have e : ixI m fa na x = ix36 m fa x.toInt.toNat := if_pos z
      rw [e]
      have := skin_p (N := N) (a := x.toInt.toNat) c h (by omega)
      rw [← ex] at this
      exact this
    · have e : ixI m fa na x = none := if_neg z
      show PK _ (hb_Wo_seekIn_0 N () m 1 36 x)
      unfold hb_Wo_seekIn_0 hb_Wo_seekIn_12 hb_Wo_seekIn_45
      refine pk_br (fun _ => pk_some ⟨rfl, Or.inl ⟨rfl, e⟩⟩) (fun z1 => pk_br (fun z2 => absurd ?_ z) (fun _ => pk_some ⟨rfl, Or.inl ⟨rfl, e⟩⟩))
      have z1 := of_decide_eq_false z1
      have z2 := of_decide_eq_true z2
      rw [show m.1 (20 * 1 + 2) = I (na : Nat) from h.1.1, Int32.lt_iff_toInt_lt, I_ti (by omega) (by omega)] at z2
      rw [Int32.lt_iff_toInt_lt, show (0 : Int32).toInt = 0 from rfl] at z1
      exact ⟨by omega, z2⟩
  unfold hm_Cm_predefinedOf hb_Cm_predefinedOf_0
  refine pk_bnd (pk_mo sk (fun v r hv => ?_))
  obtain ⟨rfl, hv⟩ := hv
  have e27 : PK (fun v2 r2 => v2 = v ∧ ((r = -1 → r2 = -1) ∧ ∀ k : Nat, k < 29 → r = I (k : Nat) → r2 = if takL.getD k 0 = y then I (k : Nat) else -1)) (hb_Cm_predefinedOf_27 N () v y r) := by
    unfold hb_Cm_predefinedOf_27 hb_Cm_predefinedOf_53 hb_Cm_predefinedOf_54
    have ne : ∀ k : Nat, k < 29 → I (k : Nat) ≠ (-1 : Int32) := fun k hk z => absurd ((I_eq (x := (k : Nat)) (y := (-1 : Int)) (by omega) (by omega) (by omega) (by omega)).mp (z.trans (show (-1 : Int32) = I (-1) from rfl))) (by omega)
    refine pk_br (fun z => pk_some ⟨rfl, fun _ => rfl, fun k hk e => absurd (e.symm.trans (of_decide_eq_true z)) (ne k hk)⟩) (fun z => pk_br (fun z2 => pk_some ⟨rfl, fun _ => rfl, fun k hk e => ?_⟩) (fun z2 => pk_ck (fun _ => pk_br (fun z3 => pk_some ⟨rfl, fun e => absurd e (of_decide_eq_false z), fun k hk e => ?_⟩) (fun z3 => pk_some ⟨rfl, fun _ => rfl, fun k hk e => ?_⟩))))
    · exfalso
      have z2 := of_decide_eq_true z2
      rw [e] at z2
      have := (I_le (x := (29 : Int)) (y := (k : Nat)) (by omega) (by omega) (by omega) (by omega)).mp z2
      omega
    · have z3 := of_decide_eq_true z3
      rw [e, tnI (n := k) rfl (by omega)] at z3
      rw [if_pos z3]; exact e
    · have z3 := of_decide_eq_false z3
      rw [e, tnI (n := k) rfl (by omega)] at z3
      rw [if_neg z3]
  have d7 : ∀ k : Nat, k < 29 → (I (k : Nat) = (7 : Int32) ↔ k = 7) := fun k hk => (I_eq (x := (k : Nat)) (y := (7 : Int)) (by omega) (by omega) (by omega) (by omega)).trans (by omega)
  rcases hv with ⟨r1, r2⟩ | ⟨k, k1, k2, k3⟩
  · have e1 : id36 (ixI v fa na x) y = -1 := by rw [r2]; rfl
    rw [e1]
    refine pk_br (fun z => absurd ((r1.symm.trans (of_decide_eq_true z))) (by decide)) (fun _ => pk_mo e27 (fun v2 r2 hv => ⟨hv.1, hv.2.1 r1⟩))
  · have e1 : id36 (ixI v fa na x) y = if k = 7 ∧ y = 2 then 29 else if takL.getD k 0 = y then ((k : Nat) : Int) else -1 := by rw [k3]; rfl
    rw [e1]
    have go : ¬ (k = 7 ∧ y = 2) → PK (fun v2 r2 => v2 = v ∧ r2 = I (if k = 7 ∧ y = 2 then 29 else if takL.getD k 0 = y then ((k : Nat) : Int) else -1)) (hb_Cm_predefinedOf_27 N () v y r) := fun hn => pk_mo e27 (fun v2 r2 hv => ⟨hv.1, by
      rw [hv.2.2 k k1 k2, if_neg hn]
      split <;> rfl⟩)
    refine pk_br (fun z => pk_br (fun z2 => pk_some ⟨rfl, ?_⟩) (fun z2 => go (fun q => of_decide_eq_false z2 q.2))) (fun z => go (fun q => of_decide_eq_false z (k2.trans ((d7 k k1).mpr q.1))))
    rw [if_pos ⟨(d7 k k1).mp (k2.symm.trans (of_decide_eq_true z)), of_decide_eq_true z2⟩]; rfl
theorem ixI_cg (h2 : m.2.2.1 2 = m0.2.2.1 2) : ixI m fa na x = ixI m0 fa na x := by
  unfold ixI ix36 mc36
  rw [h2]
theorem CVX_mk (h442 : m0.1 442 = I (g : Nat)) (hg : g ≤ 666) (c : CW36 m0) (h : ATf m0 w fa na) : CVX N m0 w0 K T (idX m0 fa na) (fofX m0 g) (cvX m0 fa na g) := by
  refine ⟨fun m α k fr => ?_, fun m α k fr => ?_, fun α k _ => ?_⟩
  · have c' : CW36 m := CW36_k c (fr.1 722 (by omega)) (fr.2 37 (by omega)) (fr.2 38 (by omega))
    have h' : ATf m w fa na := ATf_k h (fr.1 22 (by omega)) (fr.2 2 (by omega)) (fr.2 3 (by omega)) rfl rfl rfl
    have := pre_x (N := N) (x := I α) (y := I k) c' h'
    rw [ixI_cg (fr.2 2 (by omega))] at this
    exact this
  · have := fof_c (N := N) (m := m) (g := g) (x := I α) (y := I k) (by rw [fr.1 442 (by omega)]; exact h442) (by omega)
    rw [fr.2 24 (by omega), fr.2 25 (by omega)] at this
    exact this
  · have f1 := fix_r (p := m0.2.2.1 24) (q := m0.2.2.1 25) (x := I α) (y := I k) (d := g) (j := 0)
    have i1 := id36_r (y := I k) (o := ixI m0 fa na (I α)) (fun i e => ixI_lt e)
    refine ⟨?_, fun _ _ => ⟨i1, fun ne => ?_, fun e _ => if_pos e⟩⟩
    · show -1 ≤ fixI (m0.2.2.1 24) (m0.2.2.1 25) (I α) (I k) g 0 ∧ fixI (m0.2.2.1 24) (m0.2.2.1 25) (I α) (I k) g 0 < 2000
      rcases f1 with e | ⟨i, e, _, hi⟩
      · rw [e]; omega
      · rw [e]; omega
    · have e : cvX m0 fa na g α k = 2000 + p36 (idX m0 fa na α k) := if_neg ne
      have i2 : 0 ≤ idX m0 fa na α k ∧ idX m0 fa na α k < 30 := by
        rcases i1 with i1 | i1
        · exact absurd i1 ne
        · exact i1
      obtain ⟨q1, q2, q3⟩ := p36_r i2
      rw [e]
      refine ⟨by omega, ?_⟩
      unfold PDs
      rw [show 2000 + p36 (idX m0 fa na α k) - 2000 = p36 (idX m0 fa na α k) by omega]
      exact ⟨⟨q1, q2⟩, q3, rfl⟩
end
end
