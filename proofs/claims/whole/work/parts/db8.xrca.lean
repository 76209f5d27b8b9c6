/-! RECEIVE with `after`, both: behind the parts -/
set_option maxRecDepth 100000
section
variable {α β : Type} {m0 w0 m w m2' w2 m3 w3 v u w1 mC mE m9 w9 w10 U1 : MS} {K nm Nk W W2 : Nat → Nat} {N T D d o a aC a2 b b' bE bF b0 c cm cm0 cm2 cm3 cmE cm9 c1 c2 q q0 r s s1 s2 lo lo0 m1 m2 hi i j f f2 n k kb mb kE kk p p2 σ tk x xa xb : Nat} {ndr : Nat → Int32} {Q Q1 Q9 QE Q2 Q3 : Nat → Nat} {sc sc0 sc2 sc9 scE t t2 t9 tE : SCT} {e e2 e9 eE : List Nat × List Nat × Nat} {g lst : Bool} {L LE L9 hs9 : List Nat} {fst last : Option Nat} {fof cvr : Int → Int → Int} {v2 v3 v9 : Int32} {zE : Unit} {RR : MS → α → MS → Int32 → Prop} {A' : Option (MS × α)}
theorem r_67 {S : SG_M_behind} (c : CTZ m0 w0 K T nm Nk) (hX : XRS w0 T w p Q sc) (k5 : K p = 5) (h : PP RR A' (kb_M_receive_98 N S () w v2 v3 (I (i : Nat)))) : PP RR A' (kb_M_receive_67 N S () w v2 v3 (I (i : Nat))) := by
  unfold kb_M_receive_67
  rw [decide_eq_true hX.1.2.2.1, br_t]
  refine r_ck (fun _ => r_br (fun _ => ?_) (fun _ => h))
  rw [isV_e (k := 5) (s := 0) (XRS_wp c hX) (by decide) rfl, bnd_s, if_pos k5, show decide ((1 : Int32) = 0) = false from rfl, br_f]
  exact h
set_option maxHeartbeats 1000000 in
theorem rx_af (c : CTZ m0 w0 K T nm Nk) (IE : HXE N m0 w0 K T nm Nk fof cvr f) (hn : n ≤ 8015) (h20 : A m0 20 n = ((mb : Nat) : Int)) (hX : XPcK m0 f (o + 1) 3 x (m1 + 1) m2 c1 c2 s1 s2) (hB : RWcK m0 1 26 (XPcK m0 f (o + 2) 3) kb mb (m2 + 1) hi c2 xb s2 r) (hxb : xb ≤ 8015) (hr4 : r ≤ 400) (k5 : K m1 = 5) (k38 : K m2 = 38) (k11 : K hi = 11) (hiT : hi < T) (hlm : lo ≤ m1) (hC : XCS m0 nm m a cm (e :: t) false) (htot : tot (e :: t) + (hi - lo) ≤ 4000 ∧ (e :: t).length ≤ o + 1)
    (hEq : (jrc_Cm_fun N D).2.2.2.2.2.2.2.2.2.2.1 m (I (x : Nat)) 0 = some (mE, zE)) (ue : UXQ m0 nm t false kE m a cm e mE bE cmE eE) (l1 : ∀ k, k ≠ 441 → k ≠ 706 → mC.1 k = mE.1 k) (l2 : ∀ k, k ≠ 23 → mC.2.2.1 k = mE.2.2.1 k) (l3 : ∀ j, j < bE → mC.2.2.1 23 j = mE.2.2.1 23 j) (fF : (eE.1.length = e.1.length ∧ bF = bE) ∨ (e.1.length < eE.1.length ∧ bF = bE + 2 ∧ mC.2.2.1 23 bE = 16 ∧ mC.2.2.1 23 (bE + 1) = I ((eE.1.length - e.1.length : Nat) : Int))) (cw : mC.2.2.1 23 bF = 31 ∧ mC.2.2.1 23 (bF + 1) = 1 ∧ mC.2.2.1 23 (bF + 2) = 32 ∧ mC.2.2.1 23 (bF + 3) = 0)
    (hR : XRS w0 T w lo Q (e :: t)) (hQ1 : Q1 = qst Q 32 (Q 32 + 1)) (nd16 : Q1 32 < 16000) (X1 : XTF m0 w0 K T nm Nk false [] lo lo (bF + 4) (bF + 4) cmE cmE q q Q Q1 (e :: t) (e :: t) mC w mC U1) (u23 : U1.2.2.1 23 (Q 32) = 26)
    (hP : PTVs m0 w0 K T nm Nk fof cvr lst 3 (bF + 2) (Q1 32) ndr lo (bF + 4) (bF + 4) cmE q Q1 (qst Q1 32 (Q1 32 + 1)) (e :: t) mC U1 L9 hs9 fst last m1 a2 cm9 s1 Q9 sc9 m9 w9 v9) (hk1 : ∀ k, fst = some k → k ≤ 24000) (nr : ndr 23 = 27 ∧ ndr 27 = I (e.1.length : Nat)) (hw10 : W46 w9 w10 25 (Q1 32) (optI fst)) :
    PP (XZ m0 w0 K T nm Nk fof cvr lst false lo (hi + 1) a cm q r Q (e :: t) m w) (bnd (jm_Co_put N m9 34) (fun u22 _ => bnd (jm_Co_put N u22 (I ((bF + 2 : Nat) : Int))) (fun u25 _ => bnd (hm_Co_arrive N u25 (I ((bF + 3 : Nat) : Int))) (fun u28 _ => br (decide ((1 : Int32) = 0)) (jb_Cm_receive_173 N (jrc_Cm_fun N D) () u28 v9) (ck (inb (I (n : Nat)) 8016) (bnd ((jrc_Cm_fun N D).2.2.2.1 u28 (u28.2.2.1 20 n) (lsI lst)) (fun u35 _ => bnd (jm_Cm_forget N u35 (I (tot (e :: t) : Nat))) (fun u36 _ => jb_Cm_receive_173 N (jrc_Cm_fun N D) () u36 v9))))))))  (kb_M_receive_67 N (krc_M_behind N d) () w10 (I (e.1.length : Nat)) (I (Q 32 : Nat)) (I (Q1 32 : Nat))) := by
  have t4 := c.2.1.1.1
  have inj : ∀ x y : Nat, x ≤ 100000 → y ≤ 100000 → I (x : Nat) = I (y : Nat) → x = y := fun x y h1 h2 h => by
    have := congrArg Int32.toInt h
    rw [I_ti (by omega) (by omega), I_ti (by omega) (by omega)] at this
    omega
  obtain ⟨g1, g2, g3, g4, g5, ⟨g6, g6b, g6c, g6d, g6e, g6f⟩, ⟨g7, g7b⟩, ⟨⟨fr, Lr, g8, g9⟩, g10⟩, g11⟩ := hP
  have hdX := xp_hd hX
  have hdB := (RW_hdK (XP_bdK _ _ _) hB).1
  unfold HDc at hdB
  have e1 : Q1 32 = Q 32 + 1 := by rw [hQ1, qst_at]
  have e46 : Q1 46 = Q 46 := by rw [hQ1]; exact qst_no (by decide)
  have leQ1 : QLE Q Q1 := by rw [hQ1]; exact QLE_st QLE_rf (by omega)
  have eB : (qst Q1 32 (Q1 32 + 1)) 32 = Q1 32 + 1 := qst_at
  have hC9 := g1.2.1
  have le9 := g6b 32 (by decide)
  rw [eB] at le9
  have L9r : ∀ n, n ∈ L9 → n < Q9 32 := fun n hn => (g1.2.2.2.2.2.2.2.2 n hn).2
  have m9o : ∀ j, j < bF + 4 → m9.2.2.1 23 j = mC.2.2.1 23 j := fun j hj => g1.2.2.2.2.2.1.2.2.1 j hj
  have w9o : ∀ k, 23 ≤ k → k ≤ 31 → w9.2.2.1 k (Q 32) = U1.2.2.1 k (Q 32) := fun k k1 k2 => by
    have gk : grp k = 32 := if_pos ⟨k1, k2⟩
    exact g1.2.2.2.2.2.2.1.1.2.1 k (Q 32) (by rw [gk]; decide) (by rw [gk]; omega)
  have bEa : a ≤ bE := ue.2.2.2.2.1.1
  have bEF : bE ≤ bF := by rcases fF with ⟨-, h⟩ | ⟨-, h, -⟩ <;> omega
  have elen : e.1.length ≤ 4000 := by
    have := hC.1.2.1.2.2.2.1
    have et : tot (e :: t) = tot t + e.1.length := rfl
    omega
  have eElen : eE.1.length ≤ 4000 := by
    have := ue.1.1.2.1.2.2.2.1
    have et : tot (eE :: t) = tot t + eE.1.length := rfl
    omega
  have sg1 := g1.1
  -- there: words
  refine l_put hC9.1.2.2.1.1 hC9.1.2.2.1.2.2 (fun hb => ?_)
  have k5' := XCS_put (x := 34) hC9 hb
  refine l_put k5'.1.2.2.1.1 k5'.1.2.2.1.2.2 (fun hb1 => ?_)
  have k6 := XCS_put (x := I ((bF + 2 : Nat) : Int)) k5' hb1
  have em : ptc (ptc m9 a2 34) (a2 + 1) (I ((bF + 2 : Nat) : Int)) = ptcs m9 a2 [34, I ((bF + 2 : Nat) : Int)] := rfl
  rw [em] at k6 ⊢
  have o3 : (ptcs m9 a2 [34, I ((bF + 2 : Nat) : Int)]).2.2.1 23 (bF + 3) = 0 := by
    rw [ptcs_o (Or.inl (by omega)), m9o _ (by omega)]; exact cw.2.2.2
  refine arr_n (hs := [bF + 3]) k6 ⟨rfl, ⟨by omega, by omega⟩, fun h hm => (by cases hm), o3⟩ (fun Z1 hZ1 hZ1C => ?_)
  obtain ⟨y1, y2, y3, y4, y5⟩ := hZ1
  rw [show decide ((1 : Int32) = 0) = false from rfl, br_f]
  have n3 : ∀ j, j ≠ bF + 3 → j ∉ [bF + 3] := fun j hj y => by
    rcases List.mem_cons.mp y with y | y
    · exact hj y
    · cases y
  have z1o : ∀ j, j < a2 → j ≠ bF + 3 → Z1.2.2.1 23 j = m9.2.2.1 23 j := fun j hj h3 => (y4 j (n3 j h3)).trans (ptcs_o (Or.inl hj))
  have z1a : Z1.2.2.1 23 a2 = 34 := (y4 a2 (n3 _ (by omega))).trans (ptcs_at (l := [34, I ((bF + 2 : Nat) : Int)]) (k := 0) rfl)
  have z1b : Z1.2.2.1 23 (a2 + 1) = I ((bF + 2 : Nat) : Int) := (y4 (a2 + 1) (n3 _ (by omega))).trans (ptcs_at (l := [34, I ((bF + 2 : Nat) : Int)]) (k := 1) rfl)
  have z1h : Z1.2.2.1 23 (bF + 3) = I ((a2 + 2 : Nat) : Int) := y5 _ List.mem_cons_self
  have z1r : ∀ k, k ≠ 23 → Z1.2.2.1 k = m9.2.2.1 k := fun k hk => (y2 k hk).trans (ptcs_r hk)
  have z1i : ∀ k, k ≠ 441 → Z1.1 k = m9.1 k := fun k hk => by rw [y1]; exact ptcs_i hk
  have hk1Z : HKc Z1 hs9 v9 := HKc_fr g7b (fun j hj => z1o j (g7 j hj).2 (by have := (g7 j hj).1; omega))
  have hZ1C' : XCS m0 nm Z1 (a2 + 2) cm9 sc9 false := hZ1C
  clear y1 y2 y3 y4 y5 o3 k6 em
  refine l_ck (fun _ => ?_)
  rw [tre (XCS_fr hZ1C) (by decide) h20]
  -- here: E
  have XJ := XTF_tr X1 g1
  rw [List.nil_append] at XJ
  have X10 := XTF_w46 XJ hw10 (by decide) (by omega)
  have hX10 := X10.2.2.1.1
  refine r_67 c hX10 k5 ?_
  unfold kb_M_receive_98
  rw [tkW_e (k := 5) (s := 0) (XRS_wp c hX10) hX10.1.2.2.1 (by decide) rfl, if_pos k5, bnd_s, show decide ((1 : Int32) = 0) = false from rfl, br_f]
  have XA := XTF_ad X10 (by omega) (by rw [k5]; decide)
  have qA := (XRS_q XA.2.2.1.1).1
  have aA : (adv w10 m1).2 = w10.2 := rfl
  generalize adv w10 m1 = YA at XA qA aA
  rw [i_nt2 (p := Q 32) (by omega), qA]
  refine r_ck (fun _ => r_lt ?_)
  have sY : W46 YA (upA YA 25 (upd (YA.2.2.1 25) (Q 32) (I (Q9 32 : Nat)))) 25 (Q 32) (I (Q9 32 : Nat)) := w46_of
  generalize upA YA 25 (upd (YA.2.2.1 25) (Q 32) (I (Q9 32 : Nat))) = Y1 at sY
  have XP := XTF_w46 XA sY (by decide) (Nat.le_refl _)
  obtain ⟨e9, t9, rfl⟩ := PRS_ne XP.2.2.1.1.1
  have g2' : e9.1 = e.1 := g2
  obtain ⟨W9, hd9, -⟩ := XJ.2.2.2.2.1
  have bd9 : BDs t t9 := (hd9.2 rfl).2.2.1
  obtain ⟨tot9, oN⟩ := XTF_tot XJ g2
  have len9 := XTF_len XJ
  have el9 : (e9 :: t9).length = t9.length + 1 := rfl
  refine r_bnd (fun wE r8 hW => ?_)
  show PP _ _ (bnd (fm_M_node N wE 28 (wE.1 69)) _)
  have hz := IE D d (o + 1) x (m1 + 1) m2 c1 c2 s1 s2 m Y1 a cm Q9 (e9 :: t9) false false hX (by omega) (by omega) ⟨by rw [k38]; exact ⟨rfl, by decide, by decide, by decide⟩, by omega⟩ (XCS_eq hC g2' bd9) XP.2.2.1.1 XP.2.2.1.2 ⟨by omega, by omega⟩ mE zE wE r8 hEq hW
  obtain ⟨bE', cmE', QE, scE, rE, fE, LE, rfl, hrE, tE, hlE, zE5, zE6⟩ := hz
  obtain ⟨eE2, tE2, rfl⟩ := PRS_ne tE.2.2.1.1.1
  obtain ⟨tF, tC⟩ := XTF_of tE
  have lenE := XTF_len tF
  obtain ⟨W8, hd8, -⟩ := tF.2.2.2.2.1
  have bdE : BDs t9 tE2 := (hd8.2 rfl).2.2.1
  have preE : e.1 <+: eE2.1 := by rw [← g2']; exact (hd8.2 rfl).2.1
  have eb : bE' = bE := inj _ _ (by have := tF.2.1.1.2.2.1.2.2; omega) (by have := ue.1.1.2.2.1.2.2; omega) (tF.2.1.1.2.2.1.1.symm.trans ue.1.1.2.2.1.1)
  have elE : (eE2 :: tE2).length = tE2.length + 1 := rfl
  have elt : (e :: t).length = t.length + 1 := rfl
  have ec : cmE' = cmE := by
    have h1 := tF.2.1.1.2.2.2.2.1
    have h2 : mE.2.2.1 41 ((eE :: t).length - 1) = I (cmE : Nat) := ue.1.1.2.2.2.2.1
    have h3 : (eE :: t).length - 1 = (eE2 :: tE2).length - 1 := by show t.length + 1 - 1 = _; omega
    rw [h3] at h2
    exact inj _ _ (by have := tF.2.1.1.2.2.2.2.2.1; omega) (by have := ue.1.1.2.2.2.2.2.1; omega) (h1.symm.trans h2)
  rw [eb, ec] at tF tC
  rw [eb] at hlE
  have eln : eE2.1.length = eE.1.length := by
    have h1 := tF.2.1.1.2.1.2.2.1
    have h2 : mE.1 706 = I (tot (eE :: t) : Nat) := ue.1.1.2.1.2.2.1
    have h3 := inj _ _ (by have := tF.2.1.1.2.1.2.2.2.1; omega) (by have := ue.1.1.2.1.2.2.2.1; omega) (h1.symm.trans h2)
    have h4 : tot tE2 + eE2.1.length = tot t + eE.1.length := h3
    have := (BDs_len bd9).2
    have := (BDs_len bdE).2
    omega
  have qE := XRS_q tF.2.2.1.1
  have leE := tF.2.2.2.2.2.2.1.2.1
  have QE9 := leE 32 (by decide)
  rw [tF.2.2.1.1.1.2.1.1]
  refine r_nod qE.1 qE.2 rfl (nsh (by omega)) (fun h16e => ?_)
  have d0 : NOD wE (nwD wE (QE 32) 28 (I (m2 : Nat))) (QE 32) := NOD_0 qE.1
  obtain ⟨d1, -⟩ := nwD_at (w := wE) (i := QE 32) (k := 28) (t := I (m2 : Nat))
  have d9 : (nwD wE (QE 32) 28 (I (m2 : Nat))).1 69 = I (m2 : Nat) := by rw [nwD_i (by decide)]; exact tF.2.2.1.1.1.2.1.1
  generalize nwD wE (QE 32) 28 (I (m2 : Nat)) = N1 at d0 d1 d9
  rw [i_nt2 (p := QE 32) (by omega)]
  refine r_ck (fun _ => r_lt (r_ck (fun _ => r_lt ?_)))
  have hN0 := NOD_A (k := 25) (x := I (Q1 32 : Nat)) d0 (by decide)
  have hN := NOD_A (k := 27) (x := I (e.1.length : Nat)) hN0 (by decide)
  have n23 : (upA (upA N1 25 (upd (N1.2.2.1 25) (QE 32) (I (Q1 32 : Nat)))) 27 (upd ((upA N1 25 (upd (N1.2.2.1 25) (QE 32) (I (Q1 32 : Nat)))).2.2.1 27) (QE 32) (I (e.1.length : Nat)))).2.2.1 23 (QE 32) = 28 := by rw [upA_no (by decide), upA_no (by decide)]; exact d1
  have n25 : (upA (upA N1 25 (upd (N1.2.2.1 25) (QE 32) (I (Q1 32 : Nat)))) 27 (upd ((upA N1 25 (upd (N1.2.2.1 25) (QE 32) (I (Q1 32 : Nat)))).2.2.1 27) (QE 32) (I (e.1.length : Nat)))).2.2.1 25 (QE 32) = I (Q1 32 : Nat) := by rw [upA_no (by decide), upA_at, upd_at]
  have n27 : (upA (upA N1 25 (upd (N1.2.2.1 25) (QE 32) (I (Q1 32 : Nat)))) 27 (upd ((upA N1 25 (upd (N1.2.2.1 25) (QE 32) (I (Q1 32 : Nat)))).2.2.1 27) (QE 32) (I (e.1.length : Nat)))).2.2.1 27 (QE 32) = I (e.1.length : Nat) := by rw [upA_at, upd_at]
  have n69 : (upA (upA N1 25 (upd (N1.2.2.1 25) (QE 32) (I (Q1 32 : Nat)))) 27 (upd ((upA N1 25 (upd (N1.2.2.1 25) (QE 32) (I (Q1 32 : Nat)))).2.2.1 27) (QE 32) (I (e.1.length : Nat)))).1 69 = I (m2 : Nat) := d9
  generalize upA (upA N1 25 (upd (N1.2.2.1 25) (QE 32) (I (Q1 32 : Nat)))) 27 (upd ((upA N1 25 (upd (N1.2.2.1 25) (QE 32) (I (Q1 32 : Nat)))).2.2.1 27) (QE 32) (I (e.1.length : Nat))) = N3 at hN n23 n25 n27 n69
  have XE3 := XTF_nod tF hN n69 h16e
  have h65 : N3.1 65 = I (tE2.length : Nat) := XE3.2.2.1.1.1.2.2.2.1.1
  have tl27 : tE2.length + 1 ≤ 27 := XE3.2.2.1.1.1.2.2.2.1.2.1.2
  rw [h65, i_nt2 (p := tE2.length) (by omega)]
  refine r_ck (fun _ => r_lt ?_)
  have XS := XTF_sw XE3 XP g2' (by omega) l1 l2 (fun j hj => l3 j (by omega))
  have wr1 : ∀ k n, k ≠ 60 → (upA N3 60 (upd (N3.2.2.1 60) tE2.length (I (e.1.length : Nat)))).2.2.1 k n = N3.2.2.1 k n := fun k n hk => by rw [upA_no hk]
  have wr2 : (upA N3 60 (upd (N3.2.2.1 60) tE2.length (I (e.1.length : Nat)))).2.2.2 = N3.2.2.2 := rfl
  generalize upA N3 60 (upd (N3.2.2.1 60) tE2.length (I (e.1.length : Nat))) = WR at XS wr1 wr2
  rw [i_nt2 (p := Q1 32) (by omega)]
  refine r_ck (fun _ => r_lt ?_)
  have s3 : W46 WR (upA WR 31 (upd (WR.2.2.1 31) (Q1 32) (I (QE 32 : Nat)))) 31 (Q1 32) (I (QE 32 : Nat)) := w46_of
  generalize upA WR 31 (upd (WR.2.2.1 31) (Q1 32) (I (QE 32 : Nat))) = WS at s3
  have XS2 := XTF_w46 XS s3 (by decide) (by omega)
  refine nd_s c XS2.2.2.1.1 (k := 38) (s' := 10) (by decide) rfl (fun _ => ?_)
  have XS3 := XTF_ad XS2 (by omega) (by rw [k38]; decide)
  have aS : (adv WS m2).2 = WS.2 := rfl
  have q32 : (adv WS m2).1 32 = I ((QE 32 + 1 : Nat) : Int) := by
    have := (XRS_q XS3.2.2.1.1).1
    rw [qst_at] at this
    exact this
  generalize adv WS m2 = WA at XS3 aS q32
  rw [q32]
  refine r_ck (fun _ => r_lt (r_ck (fun _ => r_lt ?_)))
  have s4 : W46 WA (upA WA 26 (upd (WA.2.2.1 26) (QE 32) (I ((QE 32 + 1 : Nat) : Int)))) 26 (QE 32) (I ((QE 32 + 1 : Nat) : Int)) := w46_of
  generalize upA WA 26 (upd (WA.2.2.1 26) (QE 32) (I ((QE 32 + 1 : Nat) : Int))) = W4 at s4
  have s5 : W46 W4 (upA W4 28 (upd (W4.2.2.1 28) (QE 32) (-1))) 28 (QE 32) (-1) := w46_of
  generalize upA W4 28 (upd (W4.2.2.1 28) (QE 32) (-1)) = W5 at s5
  have XS5 := XTF_w46 (XTF_w46 XS3 s4 (by decide) (by omega)) s5 (by decide) (by omega)
  have X11 := XTF_cz XS5 (XCS_eq hZ1C' g2'.symm bdE) (by omega) z1i z1r (fun j hj => z1o j (by omega) (by omega))
  obtain ⟨totR, oR⟩ := XTF_tot XS rfl
  have lenR := XTF_len XS
  refine pp_bb (pp_mo (x_body (o := o + 2) (k := kb) (lst := lst) (d := d) c IE hB hxb hr4 ⟨by rw [k11]; exact ⟨rfl, by decide, by decide, by decide⟩, by rw [k11]; decide, by omega⟩ X11.2.1 X11.2.2.1.1 X11.2.2.1.2 ⟨by omega, by omega⟩) (fun m6 z w6 rt hz => ?_))
  obtain ⟨b6, cm6, Q3, sc6, rn, f2, L2, rfl, z2, z3, z4, z5, z6⟩ := hz
  obtain ⟨zF, zC⟩ := XTF_of z3
  have X5 := XTF_tr X11 zF
  have leB := zF.2.2.2.2.2.2.1.2.1
  have QS32 : (qst QE 32 (QE 32 + 1)) 32 = QE 32 + 1 := qst_at
  have B32 := leB 32 (by decide)
  rw [QS32] at B32 z2
  have rL := zF.2.2.2.2.2.2.2.2
  rw [QS32] at rL
  have q24 : Q3 32 ≤ 24000 := (XRS_q zF.2.2.1.1).2
  have b6a := zF.1
  refine rt_add (by omega) (by omega) (fun V hV1 hVJ hVr hV28 hV29 => ?_)
  have X6 := XTF_rw X5 hV1 (fun k n hk => hVr k n (by
    by_cases y : k = 28
    · subst y
      have hk : 28 < 23 ∨ 58 < 28 ∨ grp 28 = 0 ∨ n < Q (grp 28) := hk
      have g28 : grp 28 = 32 := rfl
      rw [g28] at hk
      exact Or.inr (by omega)
    · exact Or.inl y) (by
    by_cases y : k = 29
    · subst y
      have hk : 29 < 23 ∨ 58 < 29 ∨ grp 29 = 0 ∨ n < Q (grp 29) := hk
      have g29 : grp 29 = 32 := rfl
      rw [g29] at hk
      exact Or.inr (by omega)
    · exact Or.inl y)) hVJ
  refine fg_pf c X6 (fun m7 w7 b7 Q4 sc7 X7 same7 hQ7 hb7 mo7 mr7 hq7 hx7 hfg => ?_)
  refine nd_w c X7.2.2.1.1 (k := 11) (s' := 6) (by decide) rfl (fun _ => ?_)
  have X8 := XTF_ad X7 hiT (by rw [k11]; decide)
  have aB : (adv w7 hi).2 = w7.2 := rfl
  have qB := (XRS_q X8.2.2.1.1).1
  generalize adv w7 hi = WB at X8 aB qB
  unfold kb_M_receive_237 jb_Cm_receive_173
  have m7Z : ∀ j, j < a2 + 2 → m7.2.2.1 23 j = Z1.2.2.1 23 j := fun j hj => (mo7 j (by omega)).trans (zF.2.2.2.2.2.1.2.2.1 j hj)
  refine arr_n X8.2.1 (HKc_fr hk1Z (fun j hj => m7Z j (by have := g7 j hj; omega))) (fun Z hZ hZC => ?_)
  obtain ⟨y1, y2, y3, y4, y5⟩ := hZ
  have XZ1 := XTF_cz X8 hZC (Nat.le_refl _) (fun k _ => by rw [y1]) y2 (fun j hj => y4 j (fun y => by have := g7 j y; omega))
  rw [i_nt2 (p := Q1 32) (by omega), qB]
  refine r_ck (fun _ => r_lt ?_)
  have s6 : W46 WB (upA WB 26 (upd (WB.2.2.1 26) (Q1 32) (I (Q4 32 : Nat)))) 26 (Q1 32) (I (Q4 32 : Nat)) := w46_of
  generalize upA WB 26 (upd (WB.2.2.1 26) (Q1 32) (I (Q4 32 : Nat))) = Y at s6
  have XZ3 := XTF_w46 XZ1 s6 (by decide) (by omega)
  obtain ⟨n1', n2'⟩ := XRS_q XZ3.2.2.1.1
  have Y69 := XZ3.2.2.1.1.1.2.1.1
  rw [Y69]
  refine r_nod n1' n2' rfl (nsh (by omega)) (fun h16b => ?_)
  have x0 : NOD Y (nwD Y (Q4 32) 30 (I ((hi + 1 : Nat) : Int))) (Q4 32) := NOD_0 n1'
  obtain ⟨x1', -⟩ := nwD_at (w := Y) (i := Q4 32) (k := 30) (t := I ((hi + 1 : Nat) : Int))
  have x9 : (nwD Y (Q4 32) 30 (I ((hi + 1 : Nat) : Int))).1 69 = I ((hi + 1 : Nat) : Int) := by rw [nwD_i (by decide)]; exact Y69
  generalize nwD Y (Q4 32) 30 (I ((hi + 1 : Nat) : Int)) = X at x0 x1' x9
  rw [i_nt2 (p := Q4 32) (by omega)]
  refine r_ck (fun _ => r_ck (fun _ => r_lt ?_))
  have hNX : NOD Y (upA X 28 (upd (X.2.2.1 28) (Q4 32) (X.2.2.1 28 (Q1 32)))) (Q4 32) := NOD_A x0 (by decide)
  have hq4 := hq7.1
  have le4 : QE 32 + 1 ≤ Q4 32 := by omega
  have F23 : (upA X 28 (upd (X.2.2.1 28) (Q4 32) (X.2.2.1 28 (Q1 32)))).2.2.1 23 (Q4 32) = 30 := by rw [upA_no (by decide)]; exact x1'
  have F28 : (upA X 28 (upd (X.2.2.1 28) (Q4 32) (X.2.2.1 28 (Q1 32)))).2.2.1 28 (Q4 32) = Y.2.2.1 28 (Q1 32) := by
    rw [upA_at, upd_at, x0.2.2.1 28 (Q1 32) (Or.inr (Or.inr (by omega)))]
  have F69 : (upA X 28 (upd (X.2.2.1 28) (Q4 32) (X.2.2.1 28 (Q1 32)))).1 69 = I ((hi + 1 : Nat) : Int) := x9
  generalize upA X 28 (upd (X.2.2.1 28) (Q4 32) (X.2.2.1 28 (Q1 32))) = F at hNX F23 F28 F69
  -- rows at the end
  have nIn : ∀ k, grp k ≠ 0 → grp k ≠ 32 → k < 23 ∨ 31 < k := fun k h1 h2 => by
    by_cases y1 : k < 23
    · exact Or.inl y1
    · by_cases y2 : 31 < k
      · exact Or.inr y2
      · exact absurd (by unfold grp; rw [if_pos (by omega)]) h2
  have ltA : ∀ (k n : Nat) (x : Nat), grp k ≠ 0 → (grp k = 32 → n ≠ x) → (k < 23 ∨ 31 < k ∨ n ≠ x) := fun k n x h1 h2 => by
    by_cases y : grp k = 32
    · exact Or.inr (Or.inr (h2 y))
    · rcases nIn k h1 y with y | y
      · exact Or.inl y
      · exact Or.inr (Or.inl y)
  have FrB : ∀ k n, grp k ≠ 0 → n < Q3 (grp k) → (k ≠ 28 ∨ n ≠ Q1 32) → (k ≠ 26 ∨ n ≠ Q1 32) → (k ≠ 29 ∨ n ≠ rn) → F.2.2.1 k n = w6.2.2.1 k n := fun k n hg hn' h28 h26 h29 => by
    rw [hNX.2.2.1 k n (ltA k n _ hg (fun y => by rw [y] at hn'; omega)), s6.2.2.1 k n h26, show WB.2.2.1 k n = w7.2.2.1 k n by rw [aB], hQ7.2.1 k n hg hn', hVr k n h28 h29]
  have FrE : ∀ k n, grp k ≠ 0 → n < QE (grp k) → (k ≠ 28 ∨ n ≠ Q1 32) → (k ≠ 26 ∨ n ≠ Q1 32) → (k ≠ 31 ∨ n ≠ Q1 32) → F.2.2.1 k n = wE.2.2.1 k n := fun k n hg hn' h28 h26 h31 => by
    have hnS : n < (qst QE 32 (QE 32 + 1)) (grp k) := by
      by_cases y : grp k = 32
      · rw [y] at hn' ⊢; rw [qst_at]; omega
      · rw [qst_no y]; exact hn'
    have hnE : grp k = 32 → n < QE 32 := fun y => by rw [y] at hn'; exact hn'
    rw [FrB k n hg (Nat.lt_of_lt_of_le hnS (leB _ (grp_m hg))) h28 h26 (by
      by_cases y : k = 29
      · subst y
        have := hnE rfl
        exact Or.inr (by omega)
      · exact Or.inl y), zF.2.2.2.2.2.2.1.1.2.1 k n hg hnS, s5.2.2.1 k n (by
      by_cases y : k = 28
      · subst y
        have := hnE rfl
        exact Or.inr (by omega)
      · exact Or.inl y), s4.2.2.1 k n (by
      by_cases y : k = 26
      · subst y
        have := hnE rfl
        exact Or.inr (by omega)
      · exact Or.inl y), show WA.2.2.1 k n = WS.2.2.1 k n by rw [aS], s3.2.2.1 k n h31, wr1 k n (fun y => by subst y; exact hg rfl), hN.2.2.1 k n (ltA k n _ hg (fun y => by have := hnE y; omega))]
  have Fr9 : ∀ k n, grp k ≠ 0 → n < Q9 (grp k) → (k ≠ 28 ∨ n ≠ Q1 32) → (k ≠ 26 ∨ n ≠ Q1 32) → (k ≠ 31 ∨ n ≠ Q1 32) → (k ≠ 25 ∨ (n ≠ Q 32 ∧ n ≠ Q1 32)) → F.2.2.1 k n = w9.2.2.1 k n := fun k n hg hn' h28 h26 h31 h25 => by
    rw [FrE k n hg (Nat.lt_of_lt_of_le hn' (leE _ (grp_m hg))) h28 h26 h31, tF.2.2.2.2.2.2.1.1.2.1 k n hg hn', sY.2.2.1 k n (h25.imp id (fun y => y.1)), show YA.2.2.1 k n = w10.2.2.1 k n by rw [aA], hw10.2.2.1 k n (h25.imp id (fun y => y.2))]
  have w6E : ∀ k n, grp k ≠ 0 → n < QE (grp k) → (k ≠ 31 ∨ n ≠ Q1 32) → w6.2.2.1 k n = wE.2.2.1 k n := fun k n hg hn' h31 => by
    have hnS : n < (qst QE 32 (QE 32 + 1)) (grp k) := by
      by_cases y : grp k = 32
      · rw [y] at hn' ⊢; rw [qst_at]; omega
      · rw [qst_no y]; exact hn'
    have hnE : grp k = 32 → n < QE 32 := fun y => by rw [y] at hn'; exact hn'
    rw [zF.2.2.2.2.2.2.1.1.2.1 k n hg hnS, s5.2.2.1 k n (by
      by_cases y : k = 28
      · subst y
        have := hnE rfl
        exact Or.inr (by omega)
      · exact Or.inl y), s4.2.2.1 k n (by
      by_cases y : k = 26
      · subst y
        have := hnE rfl
        exact Or.inr (by omega)
      · exact Or.inl y), show WA.2.2.1 k n = WS.2.2.1 k n by rw [aS], s3.2.2.1 k n h31, wr1 k n (fun y => by subst y; exact hg rfl), hN.2.2.1 k n (ltA k n _ hg (fun y => by have := hnE y; omega))]
  have wE9 : ∀ k n, grp k ≠ 0 → n < Q9 (grp k) → (k ≠ 25 ∨ (n ≠ Q 32 ∧ n ≠ Q1 32)) → wE.2.2.1 k n = w9.2.2.1 k n := fun k n hg hn' h25 => by
    rw [tF.2.2.2.2.2.2.1.1.2.1 k n hg hn', sY.2.2.1 k n (h25.imp id (fun y => y.1)), show YA.2.2.1 k n = w10.2.2.1 k n by rw [aA], hw10.2.2.1 k n (h25.imp id (fun y => y.2))]
  have JB : ∀ n, n < Q3 39 → F.2.2.2 34 n = w6.2.2.2 34 n := fun n hn' => by
    rw [hNX.2.2.2, s6.2.1, aB, hQ7.2.2 34 n (Or.inr hn'), hVJ]
  have JE : ∀ n, n < QE 39 → F.2.2.2 34 n = wE.2.2.2 34 n := fun n hn' => by
    have hnS : n < (qst QE 32 (QE 32 + 1)) 39 := by rw [qst_no (by decide)]; exact hn'
    rw [JB n (Nat.lt_of_lt_of_le hnS (leB 39 (by decide))), zF.2.2.2.2.2.2.1.1.2.2 34 n (Or.inr hnS), s5.2.1, s4.2.1, aS, s3.2.1, wr2, hN.2.2.2]
  have J9 : ∀ n, n < Q9 39 → F.2.2.2 34 n = w9.2.2.2 34 n := fun n hn' => by
    rw [JE n (Nat.lt_of_lt_of_le hn' (leE 39 (by decide))), tF.2.2.2.2.2.2.1.1.2.2 34 n (Or.inr hn'), sY.2.1, aA, hw10.2.1]
  -- words at the end
  have hsb : ∀ j, j ∈ hs9 → bF + 4 ≤ j ∧ j < a2 := g7
  have Z6w : ∀ j, a2 ≤ j → j < b6 → Z.2.2.1 23 j = m6.2.2.1 23 j := fun j j1 j2 => (y4 j (fun y => by have := hsb j y; omega)).trans (mo7 j j2)
  have Z1w : ∀ j, j < a2 + 2 → j ∉ hs9 → Z.2.2.1 23 j = Z1.2.2.1 23 j := fun j j1 j2 => (y4 j j2).trans (m7Z j j1)
  have Z9w : ∀ j, j < a2 → j ≠ bF + 3 → j ∉ hs9 → Z.2.2.1 23 j = m9.2.2.1 23 j := fun j j1 j2 j3 => (Z1w j (by omega) j3).trans (z1o j j1 j2)
  have ZCw : ∀ j, j < bF + 3 → Z.2.2.1 23 j = mC.2.2.1 23 j := fun j j1 => (Z9w j (by omega) (by omega) (fun y => by have := hsb j y; omega)).trans (m9o j (by omega))
  have ZEw : ∀ j, j < bE → Z.2.2.1 23 j = mE.2.2.1 23 j := fun j j1 => (ZCw j (by omega)).trans (l3 j j1)
  have p6 : ∀ k, k ≠ 23 → Z.2.2.1 k = m6.2.2.1 k := fun k hk => (y2 k hk).trans (mr7 k hk)
  have p9 : ∀ k u, 30 ≤ k → k ≤ 32 → u < s2 → Z.2.2.1 k u = m9.2.2.1 k u := fun k u k1 k2 hu => by
    rw [p6 k (by omega), zF.2.2.2.2.2.1.2.2.2.1 k u k1 k2 (Or.inl hu), z1r k (by omega)]
  have pE : ∀ k u, 30 ≤ k → k ≤ 32 → s1 ≤ u → u < s2 → Z.2.2.1 k u = mE.2.2.1 k u := fun k u k1 k2 hu1 hu => by
    rw [p9 k u k1 k2 hu, g1.2.2.2.2.2.1.2.2.2.1 k u k1 k2 (Or.inr hu1), l2 k (by omega)]
  have leS : QLE QE (qst QE 32 (QE 32 + 1)) := QLE_st QLE_rf (by omega)
  have le34 : QLE Q3 (qst Q4 32 (Q4 32 + 1)) := fun k hk => by
    by_cases y : k = 32
    · rw [y, qst_at]; omega
    · rw [qst_no y, hq7.2 k y]; exact Nat.le_refl _
  have leQ9 : QLE Q Q9 := QLE_tr leQ1 (QLE_tr g6 g6b)
  have leQE : QLE Q QE := QLE_tr leQ9 leE
  have leE4 : QLE QE (qst Q4 32 (Q4 32 + 1)) := QLE_tr leS (QLE_tr leB le34)
  have le94 : QLE Q9 (qst Q4 32 (Q4 32 + 1)) := QLE_tr leE leE4
  have g32 : ∀ k, 23 ≤ k → k ≤ 31 → grp k = 32 := fun k k1 k2 => if_pos ⟨k1, k2⟩
  have LrM : ∀ n, n ∈ Lr ↔ n ∈ L9 := g9
  have XF := XTF_nod (XTF_L (L2 := L2 ++ Lr) XZ3 (fun n hn => by
    rcases List.mem_append.mp hn with y | y
    · exact List.mem_append.mpr (Or.inr y)
    · exact List.mem_append.mpr (Or.inl ((LrM n).mp y)))) hNX F69 h16b
  have n28 : A F 28 (Q4 32) = ((rn : Nat) : Int) := by
    show (F.2.2.1 28 (Q4 32)).toInt = _
    rw [F28, s6.2.2.1 28 _ (Or.inl (by decide)), show WB.2.2.1 28 (Q1 32) = w7.2.2.1 28 (Q1 32) by rw [aB], hQ7.2.1 28 (Q1 32) (by decide) (by show Q1 32 < Q3 32; omega), hV28]
    exact I_ti (by omega) (by omega)
  have n29 : A F 29 rn = A w9 28 (Q1 32) := by
    show (F.2.2.1 29 rn).toInt = (w9.2.2.1 28 (Q1 32)).toInt
    rw [hNX.2.2.1 29 rn (Or.inr (Or.inr (by omega))), s6.2.2.1 29 _ (Or.inl (by decide)), show WB.2.2.1 29 rn = w7.2.2.1 29 rn by rw [aB], hQ7.2.1 29 rn (by decide) (by show rn < Q3 32; omega), hV29, w6E 28 (Q1 32) (by decide) (by show Q1 32 < QE 32; omega) (Or.inl (by decide)), wE9 28 (Q1 32) (by decide) (by show Q1 32 < Q9 32; omega) (Or.inl (by decide))]
  have a24 : b7 ≤ 23990 := hZC.1.2.2.1.2.2
  refine pp_end ⟨b7, cm6, qst Q4 32 (Q4 32 + 1), sc7, Q4 32, max f2 fr + 2, L2 ++ Lr, rfl, ⟨by omega, by rw [qst_at]; omega⟩, XTR_of XF (fun C P R J H fi hx => ?_), ⟨by omega, by omega⟩, ⟨Q4 32, rfl, ⟨by omega, by rw [qst_at]; omega⟩, L2 ++ Lr, ?_, ?_⟩, fun n hn => ?_⟩
  · have hx6 := hx7 _ _ hx
    have hxR := XTF_hx zF hx6
    have hxE : HNX nm (eE2 :: tE2) cmE H := ⟨hxR.1, hxR.2.1, by have := hxR.2.2; omega⟩
    have hx9 : HNX nm (e9 :: t9) cm9 H := HNX_mo (p := m1 + 1) (x := m2) (W := W8) (K := K) (Nk := Nk) (sc2 := ((e.1, eE2.2) :: tE2)) ⟨hd8.1.1, hd8.1.2⟩ (Nat.le_refl _) hxR
    have hxm : HNX nm (e :: t) cm H := XTF_hx XF hx
    have ro : ∀ k i, 23 ≤ k ∧ k ≤ 31 → k ≠ 27 ∧ k ≠ 29 ∧ k ≠ 30 → Q 32 ≤ i → i ≤ Q4 32 → R k i = A F k i := fun k i k1 k2 i1 i2 => FIN_R fi k1 k2 ⟨i1, by rw [qst_at]; omega⟩
    have cz : ∀ j x : Nat, Z.2.2.1 23 j = I (x : Nat) → x ≤ 100000 → a ≤ j → j < b7 → C j = ((x : Nat) : Int) := fun j x hj hx5 j1 j2 => by
      rw [fi.1 j j1 j2]
      show (Z.2.2.1 23 j).toInt = _
      rw [hj]
      exact I_ti (by omega) (by omega)
    have L2n : ∀ n, n < QE 32 + 1 → n ∉ L2 := fun n hn y => by have := rL n y; omega
    have Lrn : ∀ n, Q9 32 ≤ n → n ∉ Lr := fun n hn y => by have := L9r n ((LrM n).mp y); omega
    have fx : FNx w0 fof cvr C P R J m9 w9 (bF + 4) a2 q s1 (qst Q1 32 (Q1 32 + 1)) Q9 lst L9 hs9 last.toList := by
      refine FNx_mo (FNx_0 (hs := []) (ps := []) fi) ⟨by omega, by omega⟩ ⟨Nat.le_refl _, by omega⟩ (QLE_tr leQ1 (QLE_st QLE_rf (by omega))) le94 (fun j j1 j2 j3 => Z9w j j2 (by omega) j3) (fun k u k1 k2 _ hu => p9 k u k1 k2 (by omega)) (fun k n k1 k2 k3 k4 k5 k6 => ?_) (fun n _ hn' => J9 n hn') (fun n n1 n2 => ?_) (fun j hj => by cases hj) (fun j hj => by cases hj)
      · by_cases y : grp k = 32
        · rw [y, eB] at k4
          exact Fr9 k n k1 k5 (Or.inr (by omega)) (Or.inr (by omega)) (Or.inr (by omega)) (Or.inr ⟨by omega, by omega⟩)
        · have nk : ∀ x, 23 ≤ x → x ≤ 31 → k ≠ x := fun x h1 h2 z => y (by rw [z]; exact g32 x h1 h2)
          exact Fr9 k n k1 k5 (Or.inl (nk 28 (by decide) (by decide))) (Or.inl (nk 26 (by decide) (by decide))) (Or.inl (nk 31 (by decide) (by decide))) (Or.inl (nk 25 (by decide) (by decide)))
      · have e30 : A F 30 n = A w9 30 n := congrArg Int32.toInt (Fr9 30 n (by decide) n2 (Or.inl (by decide)) (Or.inl (by decide)) (Or.inl (by decide)) (Or.inl (by decide)))
        rw [e30]
        have m1' : n ∈ L2 ++ Lr ↔ n ∈ L9 := ⟨fun y => by
          rcases List.mem_append.mp y with y | y
          · exact absurd y (L2n n (by omega))
          · exact (LrM n).mp y, fun y => List.mem_append.mpr (Or.inr ((LrM n).mpr y))⟩
        by_cases y : lst = true ∧ n ∈ L9
        · rw [if_pos y, if_pos ⟨y.1, m1'.mpr y.2⟩]
        · rw [if_neg y, if_neg (fun y2 => y ⟨y2.1, m1'.mp y2.2⟩)]
    have fE : FNd w0 fof cvr C P R J mE wE a bE s1 s2 Q9 QE false LE := by
      refine FIN_sub fi ⟨Nat.le_refl _, by omega⟩ ⟨by omega, by omega⟩ leQ9 leE4 (fun j j1 j2 => ZEw j j2) (fun k u k1 k2 u1 u2 => pE k u k1 k2 u1 u2) ⟨fun k n k1 k2 k3 k4 k5 => ?_, fun n _ hn' => JE n hn'⟩ (fun n n1 n2 => ?_)
      · by_cases y : grp k = 32
        · rw [y] at k4
          exact FrE k n k1 k5 (Or.inr (by omega)) (Or.inr (by omega)) (Or.inr (by omega))
        · have nk : ∀ x, 23 ≤ x → x ≤ 31 → k ≠ x := fun x h1 h2 z => y (by rw [z]; exact g32 x h1 h2)
          exact FrE k n k1 k5 (Or.inl (nk 28 (by decide) (by decide))) (Or.inl (nk 26 (by decide) (by decide))) (Or.inl (nk 31 (by decide) (by decide)))
      · have e30 : A F 30 n = A wE 30 n := congrArg Int32.toInt (FrE 30 n (by decide) n2 (Or.inl (by decide)) (Or.inl (by decide)) (Or.inl (by decide)))
        rw [e30, if_neg (fun y => by
          rcases List.mem_append.mp y.2 with y | y
          · exact L2n n (by omega) y
          · exact Lrn n n1 y), if_neg (fun y => by cases y.1)]
    have fB : FNd w0 fof cvr C P R J m6 w6 (a2 + 2) b6 s2 r (qst QE 32 (QE 32 + 1)) Q3 lst L2 := by
      refine FIN_sub fi ⟨by omega, by omega⟩ ⟨by omega, Nat.le_refl _⟩ (QLE_tr leQE leS) le34 (fun j j1 j2 => Z6w j (by omega) j2) (fun k u k1 k2 _ _ => by rw [p6 k (by omega)]) ⟨fun k n k1 k2 k3 k4 k5 => ?_, fun n _ hn' => JB n hn'⟩ (fun n n1 n2 => ?_)
      · by_cases y : grp k = 32
        · rw [y, QS32] at k4
          exact FrB k n k1 k5 (Or.inr (by omega)) (Or.inr (by omega)) (Or.inl k2)
        · have nk : ∀ x, 23 ≤ x → x ≤ 31 → k ≠ x := fun x h1 h2 z => y (by rw [z]; exact g32 x h1 h2)
          exact FrB k n k1 k5 (Or.inl (nk 28 (by decide) (by decide))) (Or.inl (nk 26 (by decide) (by decide))) (Or.inl k2)
      · rw [QS32] at n1
        have e30 : A F 30 n = A w6 30 n := congrArg Int32.toInt (FrB 30 n (by decide) n2 (Or.inl (by decide)) (Or.inl (by decide)) (Or.inl (by decide)))
        rw [e30]
        by_cases y : lst = true ∧ n ∈ L2
        · rw [if_pos y, if_pos ⟨y.1, List.mem_append.mpr (Or.inl y.2)⟩]
        · rw [if_neg y, if_neg (fun y2 => y ⟨y2.1, (List.mem_append.mp y2.2).resolve_right (Lrn n (by omega))⟩)]
    obtain ⟨u1, u2⟩ := g3 C P R J H fx hx9
    obtain ⟨v1', v2'⟩ := tC C P R J H fE hxE
    obtain ⟨b1', b2'⟩ := zC C P R J H fB hx6
    refine ⟨fun u hu1 hu2 => ?_, fun y hy hr => ?_⟩
    · by_cases z : u < s1
      · exact u1 u hu1 z
      by_cases z2 : u < s2
      · exact v1' u (by omega) z2
      · exact b1' u (by omega) hu2
    have yn : y = none := hy.mpr rfl
    subst yn
    -- nodes
    have R23a : R 23 (Q 32) = 26 := by
      rw [ro 23 _ (by decide) (by decide) (Nat.le_refl _) (by omega)]
      show (F.2.2.1 23 (Q 32)).toInt = _
      rw [Fr9 23 (Q 32) (by decide) (by show Q 32 < Q9 32; omega) (Or.inl (by decide)) (Or.inl (by decide)) (Or.inl (by decide)) (Or.inl (by decide)), w9o 23 (by decide) (by decide), u23]; rfl
    have R25a : R 25 (Q 32) = ((Q9 32 : Nat) : Int) := by
      rw [ro 25 _ (by decide) (by decide) (Nat.le_refl _) (by omega)]
      show (F.2.2.1 25 (Q 32)).toInt = _
      rw [FrE 25 (Q 32) (by decide) (by show Q 32 < QE 32; omega) (Or.inl (by decide)) (Or.inl (by decide)) (Or.inl (by decide)), tF.2.2.2.2.2.2.1.1.2.1 25 (Q 32) (by decide) (by show Q 32 < Q9 32; omega), sY.2.2.2]
      exact I_ti (by omega) (by omega)
    have N27 : ∀ k, 23 ≤ k → k ≤ 31 → k ≠ 25 → k ≠ 26 → k ≠ 28 → k ≠ 31 → F.2.2.1 k (Q1 32) = ndr k := fun k k1 k2 k25 k26 k28 k31 => by
      have gk := g32 k k1 k2
      rw [Fr9 k (Q1 32) (by rw [gk]; decide) (by rw [gk]; omega) (Or.inl k28) (Or.inl k26) (Or.inl k31) (Or.inl k25)]
      exact g11 k k1 k2 k28
    have R23b : R 23 (Q1 32) = 27 := by
      rw [ro 23 _ (by decide) (by decide) (by omega) (by omega)]
      show (F.2.2.1 23 (Q1 32)).toInt = _
      rw [N27 23 (by decide) (by decide) (by decide) (by decide) (by decide) (by decide), nr.1]; rfl
    have R27b : R 27 (Q1 32) = ((e.1.length : Nat) : Int) := by
      rw [fi.2.2.2.1.2.1 (Q1 32) (by omega) (by rw [qst_at]; omega) (by rw [R23b]; decide) (by rw [R23b]; decide)]
      show (F.2.2.1 27 (Q1 32)).toInt = _
      rw [N27 27 (by decide) (by decide) (by decide) (by decide) (by decide) (by decide), nr.2]
      exact I_ti (by omega) (by omega)
    have R25b : R 25 (Q1 32) = EIx fst (-1) := by
      rw [ro 25 _ (by decide) (by decide) (by omega) (by omega)]
      show (F.2.2.1 25 (Q1 32)).toInt = _
      rw [FrE 25 (Q1 32) (by decide) (by show Q1 32 < QE 32; omega) (Or.inl (by decide)) (Or.inl (by decide)) (Or.inl (by decide)), tF.2.2.2.2.2.2.1.1.2.1 25 (Q1 32) (by decide) (by show Q1 32 < Q9 32; omega), sY.2.2.1 25 _ (Or.inr (by omega)), show YA.2.2.1 25 (Q1 32) = w10.2.2.1 25 (Q1 32) by rw [aA], hw10.2.2.2]
      cases fst with
      | none => rfl
      | some k1 =>
        have := hk1 k1 rfl
        exact I_ti (by omega) (by omega)
    have R26b : R 26 (Q1 32) = ((Q4 32 : Nat) : Int) := by
      rw [ro 26 _ (by decide) (by decide) (by omega) (by omega)]
      show (F.2.2.1 26 (Q1 32)).toInt = _
      rw [hNX.2.2.1 26 _ (Or.inr (Or.inr (by omega))), s6.2.2.2]
      exact I_ti (by omega) (by omega)
    have R31b : R 31 (Q1 32) = ((QE 32 : Nat) : Int) := by
      rw [ro 31 _ (by decide) (by decide) (by omega) (by omega)]
      show (F.2.2.1 31 (Q1 32)).toInt = _
      rw [FrB 31 (Q1 32) (by decide) (by show Q1 32 < Q3 32; omega) (Or.inl (by decide)) (Or.inl (by decide)) (Or.inl (by decide)), zF.2.2.2.2.2.2.1.1.2.1 31 (Q1 32) (by decide) (by show Q1 32 < (qst QE 32 (QE 32 + 1)) 32; omega), s5.2.2.1 31 _ (Or.inl (by decide)), s4.2.2.1 31 _ (Or.inl (by decide)), show WA.2.2.1 31 (Q1 32) = WS.2.2.1 31 (Q1 32) by rw [aS], s3.2.2.2]
      exact I_ti (by omega) (by omega)
    have N28a : ∀ k, 23 ≤ k → k ≤ 31 → F.2.2.1 k (QE 32) = W5.2.2.1 k (QE 32) := fun k k1 k2 => by
      have gk := g32 k k1 k2
      rw [FrB k (QE 32) (by rw [gk]; decide) (by rw [gk]; omega) (Or.inr (by omega)) (Or.inr (by omega)) (Or.inr (by omega)), zF.2.2.2.2.2.2.1.1.2.1 k (QE 32) (by rw [gk]; decide) (by rw [gk]; omega)]
    have N28 : ∀ k, 23 ≤ k → k ≤ 31 → k ≠ 26 → k ≠ 28 → F.2.2.1 k (QE 32) = N3.2.2.1 k (QE 32) := fun k k1 k2 k26 k28 => by
      rw [N28a k k1 k2, s5.2.2.1 k _ (Or.inl k28), s4.2.2.1 k _ (Or.inl k26), show WA.2.2.1 k (QE 32) = WS.2.2.1 k (QE 32) by rw [aS], s3.2.2.1 k _ (Or.inr (by omega)), wr1 k _ (by omega)]
    have R23c : R 23 (QE 32) = 28 := by
      rw [ro 23 _ (by decide) (by decide) (by omega) (by omega)]
      show (F.2.2.1 23 (QE 32)).toInt = _
      rw [N28 23 (by decide) (by decide) (by decide) (by decide), n23]; rfl
    have R25c : R 25 (QE 32) = ((Q1 32 : Nat) : Int) := by
      rw [ro 25 _ (by decide) (by decide) (by omega) (by omega)]
      show (F.2.2.1 25 (QE 32)).toInt = _
      rw [N28 25 (by decide) (by decide) (by decide) (by decide), n25]
      exact I_ti (by omega) (by omega)
    have R27c : R 27 (QE 32) = ((e.1.length : Nat) : Int) := by
      rw [fi.2.2.2.1.2.1 (QE 32) (by omega) (by rw [qst_at]; omega) (by rw [R23c]; decide) (by rw [R23c]; decide)]
      show (F.2.2.1 27 (QE 32)).toInt = _
      rw [N28 27 (by decide) (by decide) (by decide) (by decide), n27]
      exact I_ti (by omega) (by omega)
    have R26c : R 26 (QE 32) = ((QE 32 + 1 : Nat) : Int) := by
      rw [ro 26 _ (by decide) (by decide) (by omega) (by omega)]
      show (F.2.2.1 26 (QE 32)).toInt = _
      rw [N28a 26 (by decide) (by decide), s5.2.2.1 26 _ (Or.inl (by decide)), s4.2.2.2]
      exact I_ti (by omega) (by omega)
    have R23d : R 23 (Q4 32) = 30 := by
      rw [ro 23 _ (by decide) (by decide) (by omega) (Nat.le_refl _)]
      show (F.2.2.1 23 (Q4 32)).toInt = _
      rw [F23]; rfl
    -- the end
    have on7 : Onm nm sc7 = Onm nm (e :: t) := by unfold Onm; rw [same7]; rfl
    obtain ⟨b3, b4⟩ := XB c.2.2.1 hZC XZ3.2.2.1.1 hx h16b
    have cont : CRe C R J none b7 (Q4 32) H (Onm nm sc7) := by
      obtain ⟨d', hd'⟩ := hr
      rw [qst_at] at hd'
      exact cr_1 b3 b4 ⟨d', Or.inr (Or.inr (Or.inr (Or.inr (Or.inr (Or.inr (Or.inr (Or.inr (Or.inr (Or.inr (Or.inr (Or.inr (Or.inr (Or.inr (Or.inr (Or.inr (Or.inr (Or.inr (Or.inr (Or.inr (Or.inr (Or.inr (Or.inr (Or.inr (Or.inr (Or.inr (Or.inr (Or.inr (Or.inr (Or.inr (⟨R23d, hd'⟩))))))))))))))))))))))))))))))⟩
    have rFG := hfg C R J H none (fun j j1 j2 => by
      rw [fi.1 j (by omega) (by omega)]
      show (Z.2.2.1 23 j).toInt = _
      rw [y4 j (fun y => by have := hsb j y; omega)]; rfl) (fun y => ⟨by
        rw [ro 23 _ (by decide) (by decide) (by omega) (by omega)]
        show (F.2.2.1 23 (Q3 32)).toInt = _
        rw [hNX.2.2.1 23 _ (Or.inr (Or.inr (by omega))), s6.2.2.1 23 _ (Or.inl (by decide)), show WB.2.2.1 23 (Q3 32) = w7.2.2.1 23 (Q3 32) by rw [aB]]; rfl, by
        rw [ro 25 _ (by decide) (by decide) (by omega) (by omega)]
        show (F.2.2.1 25 (Q3 32)).toInt = _
        rw [hNX.2.2.1 25 _ (Or.inr (Or.inr (by omega))), s6.2.2.1 25 _ (Or.inl (by decide)), show WB.2.2.1 25 (Q3 32) = w7.2.2.1 25 (Q3 32) by rw [aB]]; rfl⟩) hx6 cont
    obtain ⟨db, hbody⟩ := b2' none ⟨fun _ => rfl, fun _ => rfl⟩ rFG
    rw [QS32] at hbody
    have hch : ∀ h, h ∈ hs9 → C h = ((b7 : Nat) : Int) := fun h hm => by
      have := hsb h hm
      exact cz h b7 (y5 h hm) (by omega) (by omega) (by omega)
    have hz1 : ∃ f, ZRs C R J (CRs C R J f) 3 (bF + 2) H (Onm nm (e :: t)) f a2 (-1) :=
      ⟨1, by omega, Or.inl ⟨rfl, Or.inr (Or.inr (Or.inr ⟨rfl, cz a2 34 ((Z1w a2 (by omega) (fun y => by have := hsb a2 y; omega)).trans z1a) (by omega) (by omega) (by omega), cz (a2 + 1) (bF + 2) ((Z1w (a2 + 1) (by omega) (fun y => by have := hsb _ y; omega)).trans z1b) (by omega) (by omega) (by omega)⟩))⟩⟩
    obtain ⟨fz, hz2⟩ := u2 b7 (Q4 32) (-1) hch R26b (by rw [← on7]; exact cont) (fun l hl => by
      have hl5 := g5 l hl
      have q1le := g6 46 (by decide)
      rw [fi.2.2.2.1.1 45 l (by decide) (by decide) (by decide) (by decide) (by decide) (by show Q 46 ≤ l; omega) (by show l < qst Q4 32 (Q4 32 + 1) 46; have := le94 46 (by decide); omega)]
      show (F.2.2.1 45 l).toInt = _
      rw [Fr9 45 l (by decide) (by show l < Q9 46; omega) (Or.inl (by decide)) (Or.inl (by decide)) (Or.inl (by decide)) (Or.inl (by decide)), hl5.2.2]; rfl) hz1
    -- what stands behind E
    have lO : (Onm nm (eE2 :: tE2)).length = eE.1.length := by unfold Onm; rw [List.length_map]; exact eln
    have tkO : (Onm nm (eE2 :: tE2)).take e.1.length = Onm nm (e :: t) := by
      show (eE2.1.map nm).take e.1.length = e.1.map nm
      obtain ⟨l, hl⟩ := preE
      rw [← List.map_take, ← hl, List.take_left]
    have lele : e.1.length ≤ eE.1.length := by have := preE.length_le; omega
    have cF : ∀ j x : Nat, mC.2.2.1 23 (bF + j) = I (x : Nat) → x ≤ 100000 → j < 3 → C (bF + j) = ((x : Nat) : Int) := fun j x h1 h2 h3 => cz (bF + j) x ((ZCw _ (by omega)).trans h1) h2 (by omega) (by omega)
    obtain ⟨x3, x4⟩ := XB c.2.2.1 tF.2.1 tF.2.2.1.1 hxE h16e
    have r28 : CRe C R J none bE (QE 32) H (Onm nm (eE2 :: tE2)) := by
      refine cr_1 x3 x4 ⟨max fz db, Or.inr (Or.inr (Or.inr (Or.inr (Or.inr (Or.inr (Or.inr (Or.inr (Or.inr (Or.inr (Or.inr (Or.inr (Or.inr (Or.inr (Or.inr (Or.inr (Or.inr (Or.inr (Or.inr (Or.inr (Or.inr (Or.inr (Or.inr (Or.inr (Or.inr (Or.inr (Or.inr (Or.inr (Or.inl ⟨R23c, rfl, Q1 32, e.1.length, bF, R25c, R27c, by rw [lO]; exact lele, ?_, cF 0 31 cw.1 (by omega) (by omega), cF 1 1 cw.2.1 (by omega) (by omega), R23b, R31b, R27b, ?_⟩))))))))))))))))))))))))))))⟩
      · rcases fF with ⟨h1, h2⟩ | ⟨h1, h2, h3, h4⟩
        · exact Or.inl ⟨by rw [lO]; omega, h2⟩
        · refine Or.inr ⟨by rw [lO]; exact h1, ?_, ?_, h2⟩
          · exact cz bE 16 ((ZCw _ (by omega)).trans h3) (by omega) (by omega) (by omega)
          · rw [lO]
            exact cz (bE + 1) _ ((ZCw _ (by omega)).trans h4) (by omega) (by omega) (by omega)
      · rw [tkO]
        refine ⟨cF 2 32 cw.2.2.1 (by omega) (by omega), ?_, fun _ => ⟨QE 32, a2 + 2, QE 32 + 1, R31b, ?_, R26c, CR_mo (Nat.le_max_right _ _) hbody⟩, fun z => by rw [R31b] at z; omega⟩
        · rw [R25b]
          exact ZR_mo (fun y a n H O h => CR_mo (Nat.le_max_left _ _) h) (Nat.le_max_left _ _) hz2
        · exact cz (bF + 3) (a2 + 2) ((Z1w _ (by omega) (fun y => by have := hsb _ y; omega)).trans z1h) (by omega) (by omega) (by omega)
    obtain ⟨dE, hE26⟩ := v2' none ⟨fun _ => rfl, fun _ => rfl⟩ r28
    rw [oN] at hE26
    obtain ⟨x1, x2⟩ := XB c.2.2.1 hC hR hxm (show Q 32 < 16000 by omega)
    exact cr_1 x1 x2 ⟨dE, Or.inr (Or.inr (Or.inr (Or.inr (Or.inr (Or.inr (Or.inr (Or.inr (Or.inr (Or.inr (Or.inr (Or.inr (Or.inr (Or.inr (Or.inr (Or.inr (Or.inr (Or.inr (Or.inr (Or.inr (Or.inr (Or.inr (Or.inr (Or.inr (Or.inr (Or.inr (Or.inl ⟨R23a, Q9 32, R25a, hE26⟩))))))))))))))))))))))))))⟩
  · refine Or.inr ⟨rn, L2, Lr, n28, ?_, ?_, rfl⟩
    · rw [n28]
      refine RT_le (f := f2) ?_ (Nat.le_max_left _ _)
      refine RT_w (i := (qst QE 32 (QE 32 + 1)) 32) (by omega) f2 false (Q3 32) _ _ _ (by omega) ?_
      exact (RT_fr (w := w6) (v := F) f2).2 _ rn L2 (fun n n1 n2 => ⟨congrArg Int32.toInt (FrB 23 n (by decide) (by show n < Q3 32; omega) (Or.inl (by decide)) (Or.inl (by decide)) (Or.inl (by decide))), congrArg Int32.toInt (FrB 28 n (by decide) (by show n < Q3 32; omega) (Or.inr (by omega)) (Or.inl (by decide)) (Or.inl (by decide)))⟩) (fun n n1 n2 => congrArg Int32.toInt (FrB 29 n (by decide) (by show n < Q3 32; omega) (Or.inl (by decide)) (Or.inl (by decide)) (Or.inr (by omega)))) z5
    · rw [n29]
      refine RT_le (f := fr) ?_ (Nat.le_max_right _ _)
      refine RT_w (i := Q1 32 + 1) (by omega) fr true (Q9 32) _ _ _ (by omega) ?_
      exact (RT_fr (w := w9) (v := F) fr).1 (Q9 32) (Q9 32) _ Lr (Nat.le_refl _) (fun n n1 n2 => ⟨congrArg Int32.toInt (Fr9 23 n (by decide) n2 (Or.inl (by decide)) (Or.inl (by decide)) (Or.inl (by decide)) (Or.inl (by decide))), congrArg Int32.toInt (Fr9 28 n (by decide) n2 (Or.inr (by omega)) (Or.inl (by decide)) (Or.inl (by decide)) (Or.inl (by decide))), congrArg Int32.toInt (Fr9 29 n (by decide) n2 (Or.inl (by decide)) (Or.inl (by decide)) (Or.inl (by decide)) (Or.inl (by decide)))⟩) g8
  · have e23 : A F 23 (Q4 32) = 30 := congrArg Int32.toInt F23
    rw [e23, if_neg (by decide)]
  · rcases List.mem_append.mp hn with y | y
    · have h1 := rL n y
      have e30 : A F 30 n = A w6 30 n := congrArg Int32.toInt (FrB 30 n (by decide) h1.2 (Or.inl (by decide)) (Or.inl (by decide)) (Or.inl (by decide)))
      rw [e30]; exact z6 n y
    · have h1 := (LrM n).mp y
      have e30 : A F 30 n = A w9 30 n := congrArg Int32.toInt (Fr9 30 n (by decide) (L9r n h1) (Or.inl (by decide)) (Or.inl (by decide)) (Or.inl (by decide)) (Or.inl (by decide)))
      rw [e30]; exact (g10 n h1).2
end
