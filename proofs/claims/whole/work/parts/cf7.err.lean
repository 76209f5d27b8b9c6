/-! something is wrong in a step -/
set_option maxRecDepth 100000
section
variable {T : TYc} {Fv Fv' : Int64 → Int64 → Prop} {P : Int64 → Prop} {AN : Nat} {TT : TY} {CC : CY} {pM pE : Nat → Nat} {ND CN PN SN UN FN N PR p i v mu M1 M2 f U B W Y l j a n W2 : Nat} {m w w2 : MS} {Q : MS → Int32 → MS → Int32 → Prop} {b : Int → Nat → Nat → Prop} {ow kw ow' kd' : Nat → Nat} {nb : Nat → Nat} {Hs Os : Nat → List Nat} {y : Option (Nat × Nat × Nat)} {how kn : Int} {t x : Int64}
theorem go206 {Sf : MS → Int32 → Prop} {β : Type} {G : MS → Nat → Int32 → Option (MS × Int32)} {k : Nat} {Q : MS → Int32 → MS → β → Prop} {Z : Option (MS × β)} (h : F m 955 ≤ F m 956) (hh : Sf m (I ((k : Nat) : Int)) → PP Q (G m p (I ((k + 1 : Nat) : Int))) Z) : PP Q (q206 Sf N G m p (I ((k : Nat) : Int))) Z := by
  unfold q206 hb_Ma_goOn_206
  refine pp_cll (fun hs => ?_)
  rw [set_id h, bnd_so, show I ((k : Nat) : Int) + 1 = I ((k + 1 : Nat) : Int) from addN]
  exact hh hs
/-- catches: how many names, the innermost has the most -/
theorem ct_mon2 (ct : CTs m w p j nb Hs Os) {nC c : Nat} (h : F m (pq p 28) = ((nC : Nat) : Int)) (hc : c < nC) : A w 106 p = ((nC : Nat) : Int) ∧ A w 105 (1600 * p + c) ≤ A w 105 (1600 * p + (nC - 1)) := by
  obtain ⟨n, c1, c2, -, c4, -⟩ := ct
  have en : n = nC := by omega
  subst en
  refine ⟨c2, ?_⟩
  have q : ∀ e, c + e < n → A w 105 (1600 * p + c) ≤ A w 105 (1600 * p + (c + e)) := by
    intro e
    induction e with
    | zero => intro _; exact Int.le_refl _
    | succ e ih =>
      intro he
      have h1 := ih (by omega)
      have h2 := (c4 (c + e) (by omega)).2
      rw [show c + (e + 1) = c + e + 1 by omega]
      omega
  have := q (n - 1 - c) (by omega)
  rw [show c + (n - 1 - c) = n - 1 by omega] at this
  exact this
/-- parts are tried from here on; there the next step begins -/
theorem st_tr {b2 : Int → Nat → Nat → Prop} {M' M d v' B4 W4 Y4 j4 kd4 sc4 a4 : Nat} {nb4 : Nat → Nat} {Hs4 Os4 : Nat → List Nat} {k4 : Int} {m0 w0 m4 w4 : MS} {K : MS → Unit → Option (MS × Int32)} (hN : 11000000 ≤ N) (hpp : p < 24) (per : PER Fv' AN TT CC pM pE ND CN PN SN UN FN w) (h149 : F w 149 = 0) (hAN : F w0 14 = ((AN : Nat) : Int)) (ih : ∀ M1 v m w, SIA T Fv P Fv' AN TT CC pM pE ND CN PN SN UN FN p v m w → PP Q (qgo (SAf T Fv P p) N M1 m p (I ((v : Nat) : Int))) (gg_M_go N M2 w (I ((p : Nat) : Int)))) (ba : BAs Fv P Fv' (PWs AN) PR p i m0 w0) (hK : K = fun u _ => KRs Fv' AN TT CC ND CN UN FN N p mu M2 w u) (hv : v' < 1000000000) (hs : SAf T Fv P p m4 (I ((v' : Nat) : Int))) (t4 : TRs m4 w4 p j4 nb4 Hs4 Os4 kd4 sc4 a4 k4) (pl4 : PLs (bGd b2 U ow' kd') p m4 (wa w4 94 p ((B4 : Nat) : Int)) U B4 W4 Y4) (hp4 : HP (hp w4 p) U ow' kd' Fv' (PWs AN)) (h140 : F w4 140 = -1) (hW4 : W4 < 46000) (a3 : GGm p m0 m4) (a4' : GGw p w0 w4) (a5 : SCs p m0 w0 → SCs p m4 w4) : PP Q (qgo (SAf T Fv P p) N M' m4 p (I ((v' + 1 : Nat) : Int))) (bnd (gg_M_choose N (rc_M_error N d) M w4 1) K) := by
  subst hK
  have h9 : F m4 1109 = 0 := t4.1.2.2.2.1.2.1
  have m9 : F m4 942 = ((PR : Nat) : Int) := (congrArg Int32.toInt (a3.2.2.2.2.2.2 942 (by omega))).trans ba.2.2.2.2.2.2.2.2.1
  obtain ⟨c, cc1, cc2⟩ := SAf_l hs (by omega) h9 m9
  cases M' with
  | zero => exact pp_nl
  | succ M' =>
  show PP Q (q67 (SAf T Fv P p) N (qgo (SAf T Fv P p) N M') m4 p (I ((v' + 1 : Nat) : Int))) _
  have eB : B4 = nb4 j4 + (Hs4 j4 ++ Os4 j4).length := by
    have h1 := pl4.2.1.1
    have h2 := t4.1.1.1.2.2.2
    omega
  exact tr_pp hN hpp per h149 hAN ih ba M' M d (v' + 1) c b2 U B4 W4 Y4 j4 kd4 sc4 a4 nb4 Hs4 Os4 k4 ow' kd' m4 w4 cc1 cc2 t4 pl4 eB hp4 h140 hW4 a3 a4' a5
/-- it goes up, or the GUARD fails -/
theorem st_er {d : Nat} (ih : ∀ M1 v m w, SIA T Fv P Fv' AN TT CC pM pE ND CN PN SN UN FN p v m w → PP Q (qgo (SAf T Fv P p) N M1 m p (I ((v : Nat) : Int))) (gg_M_go N M2 w (I ((p : Nat) : Int)))) (s : STx T Fv P Fv' AN TT CC pM pE ND CN PN SN UN FN N PR p i v f b U B W Y l ow kw ow' kd' j nb Hs Os y a n m w) (hv : (how = 1 ∧ kn = 0) ∨ (how = 2 ∧ kn = 1) ∨ (how = 3 ∧ kn = 2)) (pl2 : PLs (bGd b U ow' kd') p (wi m (pq p 26) ((W2 : Nat) : Int)) w2 U B W2 Y) (hW2 : W2 ≤ W) (hT : W + tB TT n ≤ W2 + tH TT n) (fw : FGw p j w w2) (h88 : w2.2.2.2 88 = w.2.2.2 88 ∧ w2.1 140 = w.1 140) (g : GT U ow kw P t) (g' : GT U ow' kd' (PWs AN) x) (rt : RTb (bGd b U ow' kd') t x) : PP Q (q195 (SAf T Fv P p) N (qgo (SAf T Fv P p) N M1) (tld m how (-1) t) p (I ((v : Nat) : Int))) (bnd (fm_M_goesUp N (rc_M_error N d) w2 (I kn) x) (fun u _ => KRs Fv' AN TT CC ND CN UN FN N p mu M2 w u)) := by
  obtain ⟨⟨hN, hpr, pr24, hi, hf⟩, ⟨per, hAN⟩, ba, lp, pl, ru, ⟨pt, xc, h140⟩, ⟨bW, bB, bY⟩, bd, sc, wl, rb, rm, ⟨eW, eB, nND⟩, rct, rgd, -⟩ := id s
  obtain ⟨⟨fa, ct⟩, ⟨r2, r3⟩, ⟨f0, cr0⟩, ⟨r5, r6⟩, gd, ⟨r8, r9, r10⟩, r11, -⟩ := id ru
  have hj := fa.1.2.2
  have h149 : F w 149 = 0 := ba.2.2.2.1.1
  have h150 : F w 150 = 0 := ba.2.2.2.1.2
  have h955 : F m 955 = ((i : Nat) : Int) := ba.2.2.1.1
  have h956 : F m 956 = ((i : Nat) : Int) := ba.2.2.1.2
  have gw2 : GGw p w w2 := GGw_fg fw hj
  have sc2 : SCs p m w → SCs p m w2 := fun s => SC_fg s FGm.rf fw
  have ru2 : RUb m w2 p j nb Hs Os y := RUb_fg (RUs_b ru) FGm.rf fw
  have pt2 := PTQ_drop pt hW2
  have cx : CTX Fv P m := (LPQ_dc lp).2
  have hp2 : HP (hp w2 p) U ow' kd' Fv' (PWs AN) := by
    have e : hp w2 p = hp w p := by
      unfold hp
      rw [h88.1]
    rw [e]
    exact xc.2.1
  have h140' : F w2 140 = -1 := (congrArg Int32.toInt h88.2).trans h140
  have hP : ∀ t, P t → PWs AN t := by
    obtain ⟨-, -, -, -, fa', na, atf⟩ := ba.2.2.2.2.2.2.1
    exact PT_pw cx atf hAN
  have xc2 : CX w2 p (hp w2 p) U ow' kd' Fv' (PWs AN) W2 B Y := CXf_cx (CXf_of hP pl2 pt2 hp2 (by omega) ⟨by omega, by omega, bY⟩) h140'
  have wr : ∀ K, K ∈ [45, 102, 103, 104, 105, 106] → w2.2.2.1 K = w.2.2.1 K := fun K hK => fw.1.2.2.1 K (by simp at hK ⊢; omega)
  obtain ⟨i2, h, mm, L, g2, x2, j2, wb, nb2, cb2, rk, M⟩ := cl_any lp r5 r8
  have lb : LNB m p := GEN_ln M.1 hpr
  have pb : PB (PWs AN) PR := wl.1.2.2
  have w150 : F w2 150 = ((0 : Nat) : Int) := (congrArg Int32.toInt gw2.2.2.1).trans h150
  cases y with
  | none =>
    have ca : CTa m w2 p W2 := fun c hc => by
      obtain ⟨y1, -⟩ := ct_mon2 ct hc (Nat.lt_succ_self c)
      obtain ⟨W0, B0, z1, z2, -⟩ := rct c y1
      have r3 := A_r w2 103 (1600 * p + c)
      obtain ⟨nn, c1, -, c3, -⟩ := ct
      refine ⟨by omega, ⟨W0, ?_, by omega⟩, fun nd hnd => by omega⟩
      show (w2.2.2.1 104 _).toInt = _
      rw [wr 104 (by simp)]
      exact z1
    exact wrong_up hv (by omega) hpr pl2 ru2 hW2 ⟨by omega, by omega⟩ lb pt cx xc2 pb g g' rt ca ⟨h955, hi⟩ ⟨w150, by omega⟩ (by omega) (fun b3 U3 W3 r k a0 nn m3 w3 a1 a2 a3 a4 a5 => (st_ru ih s a1 a2 a3 (GGw.tr gw2 a4) (fun s => a5 (sc2 s))).2) (fun m3 w3 wr t3 x3 a1 a2 a3 a4 a5 a6 => (aft_end hN per h149 ih ba (by omega) a1 (GGw.tr gw2 a2) (fun s => a3 (sc2 s)) a4 ⟨h955, hi⟩ (show F w 150 = ((0 : Nat) : Int) ∧ 0 < 4000 from ⟨h150, by decide⟩) a5 a6).2)
  | some y =>
    obtain ⟨kd, k, sc0⟩ := y
    obtain ⟨fl, W0, O0, X, eO, ⟨c3, c4, c5, c6⟩, ⟨c7, c8, c9, c10, c11⟩⟩ : ∃ (fl W0 : Nat) (O0 X : List Nat), Os j = O0 ++ X ∧ (F m 1112 = ((fl : Nat) : Int) ∧ 0 < fl ∧ F m 1113 = ((X.length : Nat) : Int) ∧ F m 1114 = ((W0 : Nat) : Int)) ∧ (F w 152 = 1 ∧ F w 153 = ((kd : Nat) : Int) ∧ F w 154 = ((k : Nat) : Int) ∧ F w 156 = ((nb j + (Hs j).length + O0.length : Nat) : Int) ∧ F w 157 = ((W0 : Nat) : Int)) := by
      rcases gd with ⟨c, -⟩ | ⟨kd', k', sc', e, fl, W0, O0, X, z1, z2, z3, -⟩
      · cases c
      · cases e
        exact ⟨fl, W0, O0, X, z1, z2, z3⟩
    obtain ⟨g157, g154, -⟩ := rgd c7
    have eB2 : F m (pq p 24) = ((nb j + (Hs j ++ Os j).length : Nat) : Int) := fa.2.2.2
    have eB3 := pl.2.1.1
    have eL : (Hs j ++ Os j).length = (Hs j).length + O0.length + X.length := by
      rw [eO, List.length_append, List.length_append]
      omega
    refine wrong_gd (by omega) (by omega) pl2 ru2 ⟨by omega, by omega⟩ (by omega) (by omega) (CR_n cr0) (fun nC c q1 q2 => ?_) (fun d m3 w3 B3 W3 a a1 a2 a3 a4 a5 a6 a7 a8 a9 => ?_)
    · obtain ⟨y1, y2⟩ := ct_mon2 ct q1 q2
      obtain ⟨W9, B0, -, -, z3, -, z5⟩ := rct (nC - 1) (by rw [y1]; congr 1; omega)
      have z6 := z5 c7
      have e105 : A w2 105 (1600 * p + c) = A w 105 (1600 * p + c) := by
        show (w2.2.2.1 105 _).toInt = _
        rw [wr 105 (by simp)]
        rfl
      omega
    · have q5 : F m3 955 ≤ F m3 956 := by
        have y1 : F m3 955 = F m 955 := congrArg Int32.toInt a6.2.2.1
        have y2 : F m3 956 = F m 956 := congrArg Int32.toInt a6.2.2.2.2.1
        omega
      refine go206 q5 (fun hs => ?_)
      cases d with
      | zero => exact pp_nr
      | succ d =>
      have hp3 : HP (hp w3 p) U ow' kd' Fv' (PWs AN) := by
        have e : hp w3 p = hp w2 p := by
          unfold hp
          rw [a9.1]
        rw [e]
        exact hp2
      exact st_tr (M := N) (d := d) hN (by omega) per h149 hAN ih ba rfl (by omega) hs a3 a1 hp3 ((congrArg Int32.toInt a9.2).trans h140') (by omega) a6 (GGw.tr gw2 a7) (fun s => a8 (sc2 s))
end
