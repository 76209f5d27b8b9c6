/-! steps, one by one: elsewhere, parts are tried, GUARDS -/
set_option maxRecDepth 100000
section
variable {α β : Type} {b : Int → Nat → Nat → Prop} {N p j n n2 : Nat} {w : MS} {Q : MS → α → MS → β → Prop} {D : Option (MS × α)} {K2 : MS → Option (MS × β)}
theorem jmp_r (hpp : p < 24) (r11 : F w 133 = ((p : Nat) : Int)) (h95 : A w 95 p = ((j + 1 : Nat) : Int)) (hj : j < 60) (hn : n < 100000) (hn2 : n2 < 100000) (hd : A w 25 n = ((n2 : Nat) : Int)) (k : PP Q D (K2 (wa (wa w 98 (60 * p + j) ((n + 1 : Nat) : Int)) 98 (60 * p + j) ((n2 : Nat) : Int)))) : PP Q D (bnd (fm_M_one N w (I ((n : Nat) : Int)) (I 26)) (fun u _ => K2 u)) := by
  rw [one_26, show I ((n : Nat) : Int) + 1 = I ((n + 1 : Nat) : Int) from addN]
  simp only [bb_e]
  refine r_bnd (pk_mo (goto_r (N := N) (n := ((n + 1 : Nat) : Int)) hpp r11 h95 hj) (fun w2 _ h => ?_))
  subst h
  have aw : ∀ K i, K ≠ 98 → A (wa w 98 (60 * p + j) ((n + 1 : Nat) : Int)) K i = A w K i := fun K i h => by rw [wa_rne h]
  refine rb_ck (fun _ => ?_)
  rw [tnI (n := n) rfl (by omega), I_A' ((aw 25 n (by omega)).trans hd), show (-2 : Int32) = I (-2) from rfl, decE (by omega) (by omega) (by omega) (by omega), decide_eq_false (by omega), br_f]
  refine rb_ck (fun _ => ?_)
  refine r_bb (r_bnd (pk_mo (goto_r (N := N) (w := wa w 98 (60 * p + j) ((n + 1 : Nat) : Int)) (n := ((n2 : Nat) : Int)) hpp r11 ((aw 95 p (by omega)).trans h95) hj) (fun w3 _ h => ?_)))
  subst h
  rw [bnd_so]
  exact k
theorem no_r (hpp : p < 24) (r11 : F w 133 = ((p : Nat) : Int)) (h95 : A w 95 p = ((j + 1 : Nat) : Int)) (hj : j < 60) (hn : n < 100000) (k : PP Q D (K2 (wa w 98 (60 * p + j) ((n + 1 : Nat) : Int)))) : PP Q D (bnd (fm_M_one N w (I ((n : Nat) : Int)) (I 30)) (fun u _ => K2 u)) := by
  rw [one_30, show I ((n : Nat) : Int) + 1 = I ((n + 1 : Nat) : Int) from addN]
  simp only [bb_e]
  refine r_bnd (pk_mo (goto_r (N := N) (n := ((n + 1 : Nat) : Int)) hpp r11 h95 hj) (fun w2 _ h => ?_))
  subst h
  rw [show fm_M_otherRun N (wa w 98 (60 * p + j) ((n + 1 : Nat) : Int)) (I ((n : Nat) : Int)) (I 30) = some (wa w 98 (60 * p + j) ((n + 1 : Nat) : Int), ()) from rfl, bnd_so, bnd_so]
  exact k
end
section
variable {T : TYc} {Fv Fv' : Int64 → Int64 → Prop} {P : Int64 → Prop} {AN : Nat} {TT : TY} {CC : CY} {pM pE : Nat → Nat} {ND CN PN SN UN FN N PR p i v mu M1 M2 f U B W Y l j a n : Nat} {m w : MS} {Q : MS → Int32 → MS → Int32 → Prop} {b : Int → Nat → Nat → Prop} {ow kw ow' kd' : Nat → Nat} {nb : Nat → Nat} {Hs Os : Nat → List Nat} {y : Option (Nat × Nat × Nat)}
/-- the sign -/
theorem sk_8 (ih : ∀ M1 v m w, SIA T Fv P Fv' AN TT CC pM pE ND CN PN SN UN FN p v m w → PP Q (qgo (SAf T Fv P p) N M1 m p (I ((v : Nat) : Int))) (gg_M_go N M2 w (I ((p : Nat) : Int)))) (s : STx T Fv P Fv' AN TT CC pM pE ND CN PN SN UN FN N PR p i v f b U B W Y l ow kw ow' kd' j nb Hs Os y a n m w) (h23 : A w 23 n = 8) (c0 : A m 23 a = 11) (cr : ∃ f, CRs (A m 23) (ROs w) (w.2.2.2 34) f y (a + 1) (n + 1) (Hs j) (Os j)) : PP Q (q67 (SAf T Fv P p) N (qgo (SAf T Fv P p) N M1) m p (I ((v : Nat) : Int))) (bnd (fm_M_one N w (I ((n : Nat) : Int)) (I 8)) (fun u _ => KRs Fv' AN TT CC ND CN UN FN N p mu M2 w u)) := by
  obtain ⟨⟨r5, r8, r2⟩, ⟨ha, hn, hv, hpp, hj⟩, nd, ⟨pl, ru, bd⟩, ⟨n1, n2, n3⟩, bH, bW, bB, bY, nND, hN⟩ := st_b s
  have h1 := (n3.2.2.2.2.2.2.1 (Or.inr h23)).1
  obtain ⟨W1, rfl⟩ : ∃ W1, W = W1 + 1 := ⟨W - 1, by omega⟩
  obtain ⟨bd1, bd2, bd3, bd4⟩ := bd
  rw [go_vl r5 r8 (by omega) r2 (by omega) c0 ⟨by omega, by omega⟩]
  refine op_neg (K1 := fun u => q195 (SAf T Fv P p) N (qgo (SAf T Fv P p) N M1) u p (I ((v : Nat) : Int))) (K2 := fun u => KRs Fv' AN TT CC ND CN UN FN N p mu M2 w u) hpp pl ru (by omega) bd2 ⟨bd3, bd4⟩ (by omega) cr (fun m3 w3 a1 a2 a3 a4 => st_fg ih s hj a1 a2 a3 a4) ?_
  show PP Q (bnd (hm_Ma_wrong N m p (I 12)) (fun u _ => q195 (SAf T Fv P p) N (qgo (SAf T Fv P p) N M1) u p (I ((v : Nat) : Int)))) (bnd (fr_M_error N _ (I 12)) (fun u _ => KRs Fv' AN TT CC ND CN UN FN N p mu M2 w u))
  rw [wrong_e, bnd_so]
  exact st_wr (c := 12) ih s (by omega) (PLs_drop (k := 1) (PLs_98 pl) (by omega)) (by omega) (by omega) (FGw.tr FGw.goto FGw.w92) ⟨rfl, rfl⟩
/-- a step here alone -/
theorem st_67 {w3 : MS} {n3 : Nat} (ih : ∀ M1 v m w, SIA T Fv P Fv' AN TT CC pM pE ND CN PN SN UN FN p v m w → PP Q (qgo (SAf T Fv P p) N M1 m p (I ((v : Nat) : Int))) (gg_M_go N M2 w (I ((p : Nat) : Int)))) (s : STx T Fv P Fv' AN TT CC pM pE ND CN PN SN UN FN N PR p i v f b U B W Y l ow kw ow' kd' j nb Hs Os y a n m w) (fw : FGw p j w w3) (pl3 : PLs (bGd b U ow' kd') p m w3 U B W Y) (h98 : A w3 98 (60 * p + j) = ((n3 : Nat) : Int)) (cr : ∃ f, CRs (A m 23) (ROs w) (w.2.2.2 34) f y a n3 (Hs j) (Os j)) : PP Q (q67 (SAf T Fv P p) N (qgo (SAf T Fv P p) N M1) m p (I ((v : Nat) : Int))) (KRs Fv' AN TT CC ND CN UN FN N p mu M2 w w3) := by
  obtain ⟨⟨hN, hpr, pr24, hi, hf⟩, ⟨per, hAN⟩, ba, lp, pl, ru, -⟩ := id s
  have hj := ru.1.1.1.2.2
  exact aft_67 per ba.2.2.2.1.1 ih ba hf lp GGm.rf (GGw_fg fw hj) pl3 (fun s => SC_fg s FGm.rf fw) (RUs_mv ru FGm.rf fw ru.2.1.1 h98 cr)
/-- elsewhere, no word there -/
theorem sk_26n (ih : ∀ M1 v m w, SIA T Fv P Fv' AN TT CC pM pE ND CN PN SN UN FN p v m w → PP Q (qgo (SAf T Fv P p) N M1 m p (I ((v : Nat) : Int))) (gg_M_go N M2 w (I ((p : Nat) : Int)))) (s : STx T Fv P Fv' AN TT CC pM pE ND CN PN SN UN FN N PR p i v f b U B W Y l ow kw ow' kd' j nb Hs Os y a n m w) {nx : Nat} (hd : A w 25 n = ((nx : Nat) : Int)) (cr : ∃ f, CRs (A m 23) (ROs w) (w.2.2.2 34) f y a nx (Hs j) (Os j)) : PP Q (q67 (SAf T Fv P p) N (qgo (SAf T Fv P p) N M1) m p (I ((v : Nat) : Int))) (bnd (fm_M_one N w (I ((n : Nat) : Int)) (I 26)) (fun u _ => KRs Fv' AN TT CC ND CN UN FN N p mu M2 w u)) := by
  obtain ⟨⟨r5, r8, r2⟩, ⟨ha, hn, hv, hpp, hj⟩, nd, ⟨pl, ru, bd⟩, ⟨n1, n2, n3⟩, bH, bW, bB, bY, nND, hN⟩ := st_b s
  have cb := CR_b cr.choose_spec
  refine jmp_r (n2 := nx) hpp ru.2.2.2.2.2.2.1 ru.1.1.1.2.1 hj (by omega) (by omega) hd ?_
  exact st_67 ih s (FGw.tr FGw.goto FGw.goto) (PLs_98 (PLs_98 pl)) (by rw [wa_sm (by omega) (by omega)]) cr
/-- nothing -/
theorem sk_30 (ih : ∀ M1 v m w, SIA T Fv P Fv' AN TT CC pM pE ND CN PN SN UN FN p v m w → PP Q (qgo (SAf T Fv P p) N M1 m p (I ((v : Nat) : Int))) (gg_M_go N M2 w (I ((p : Nat) : Int)))) (s : STx T Fv P Fv' AN TT CC pM pE ND CN PN SN UN FN N PR p i v f b U B W Y l ow kw ow' kd' j nb Hs Os y a n m w) (cr : ∃ f, CRs (A m 23) (ROs w) (w.2.2.2 34) f y a (n + 1) (Hs j) (Os j)) : PP Q (q67 (SAf T Fv P p) N (qgo (SAf T Fv P p) N M1) m p (I ((v : Nat) : Int))) (bnd (fm_M_one N w (I ((n : Nat) : Int)) (I 30)) (fun u _ => KRs Fv' AN TT CC ND CN UN FN N p mu M2 w u)) := by
  obtain ⟨⟨r5, r8, r2⟩, ⟨ha, hn, hv, hpp, hj⟩, nd, ⟨pl, ru, bd⟩, ⟨n1, n2, n3⟩, bH, bW, bB, bY, nND, hN⟩ := st_b s
  refine no_r hpp ru.2.2.2.2.2.2.1 ru.1.1.1.2.1 hj (by omega) ?_
  exact st_67 ih s FGw.goto (PLs_98 pl) (by rw [wa_sm (by omega) (by omega)]) cr
/-- parts are tried -/
theorem sk_21 (ih : ∀ M1 v m w, SIA T Fv P Fv' AN TT CC pM pE ND CN PN SN UN FN p v m w → PP Q (qgo (SAf T Fv P p) N M1 m p (I ((v : Nat) : Int))) (gg_M_go N M2 w (I ((p : Nat) : Int)))) (s : STx T Fv P Fv' AN TT CC pM pE ND CN PN SN UN FN N PR p i v f b U B W Y l ow kw ow' kd' j nb Hs Os none a n m w) (h27 : A w 27 n = (((Os j).length : Nat) : Int)) (zr : ∃ f g, ZRs (A m 23) (ROs w) (w.2.2.2 34) (CRs (A m 23) (ROs w) (w.2.2.2 34) f) 1 0 (Hs j) (Os j) g a (A w 25 n)) : PP Q (q67 (SAf T Fv P p) N (qgo (SAf T Fv P p) N M1) m p (I ((v : Nat) : Int))) (bnd (fm_M_one N w (I ((n : Nat) : Int)) (I 21)) (fun u _ => KRs Fv' AN TT CC ND CN UN FN N p mu M2 w u)) := by
  obtain ⟨⟨r5, r8, r2⟩, ⟨ha, hn, hv, hpp, hj⟩, nd, ⟨pl, ru, bd⟩, ⟨n1, n2, n3⟩, bH, bW, bB, bY, nND, hN⟩ := st_b s
  obtain ⟨⟨-, hpr, pr24, hi, hf⟩, ⟨per, hAN⟩, ba, lp, -, -, ⟨pt, xc, h140⟩, -⟩ := id s
  have eB : B = nb j + (Hs j ++ Os j).length := by
    have h1 := pl.2.1.1
    have h2 := ru.1.1.2.2.2
    omega
  refine op_tries (K2 := fun u => KRs Fv' AN TT CC ND CN UN FN N p mu M2 w u) (kd := 1) hpp (Or.inl ⟨rfl, rfl⟩) pl ru (by omega) h27 zr (fun w3 a1 a2 a3 a4 a5 => ?_)
  have e : hp w3 p = hp w p := by
    unfold hp
    rw [a5.1]
  exact tr_pp hN hpp per ba.2.2.2.1.1 hAN ih ba M1 N 19 v f b U B W Y j 1 0 a nb Hs Os _ ow' kd' m w3 hf lp a1 a2 eB (by rw [e]; exact xc.2.1) ((congrArg Int32.toInt a5.2).trans h140) (by omega) GGm.rf a3 a4
/-- parts are tried -/
theorem sk_31 (ih : ∀ M1 v m w, SIA T Fv P Fv' AN TT CC pM pE ND CN PN SN UN FN p v m w → PP Q (qgo (SAf T Fv P p) N M1 m p (I ((v : Nat) : Int))) (gg_M_go N M2 w (I ((p : Nat) : Int)))) (s : STx T Fv P Fv' AN TT CC pM pE ND CN PN SN UN FN N PR p i v f b U B W Y l ow kw ow' kd' j nb Hs Os none a n m w) (h27 : A w 27 n = (((Os j).length : Nat) : Int)) (zr : ∃ f g, ZRs (A m 23) (ROs w) (w.2.2.2 34) (CRs (A m 23) (ROs w) (w.2.2.2 34) f) 2 0 (Hs j) (Os j) g a (A w 25 n)) : PP Q (q67 (SAf T Fv P p) N (qgo (SAf T Fv P p) N M1) m p (I ((v : Nat) : Int))) (bnd (fm_M_one N w (I ((n : Nat) : Int)) (I 31)) (fun u _ => KRs Fv' AN TT CC ND CN UN FN N p mu M2 w u)) := by
  obtain ⟨⟨r5, r8, r2⟩, ⟨ha, hn, hv, hpp, hj⟩, nd, ⟨pl, ru, bd⟩, ⟨n1, n2, n3⟩, bH, bW, bB, bY, nND, hN⟩ := st_b s
  obtain ⟨⟨-, hpr, pr24, hi, hf⟩, ⟨per, hAN⟩, ba, lp, -, -, ⟨pt, xc, h140⟩, -⟩ := id s
  have eB : B = nb j + (Hs j ++ Os j).length := by
    have h1 := pl.2.1.1
    have h2 := ru.1.1.2.2.2
    omega
  refine op_tries (K2 := fun u => KRs Fv' AN TT CC ND CN UN FN N p mu M2 w u) (kd := 2) hpp (Or.inr ⟨rfl, rfl⟩) pl ru (by omega) h27 zr (fun w3 a1 a2 a3 a4 a5 => ?_)
  have e : hp w3 p = hp w p := by
    unfold hp
    rw [a5.1]
  exact tr_pp hN hpp per ba.2.2.2.1.1 hAN ih ba M1 N 19 v f b U B W Y j 2 0 a nb Hs Os _ ow' kd' m w3 hf lp a1 a2 eB (by rw [e]; exact xc.2.1) ((congrArg Int32.toInt a5.2).trans h140) (by omega) GGm.rf a3 a4
/-- a GUARD that holds, or fails -/
theorem sk_22 {kd k sc : Nat} (ih : ∀ M1 v m w, SIA T Fv P Fv' AN TT CC pM pE ND CN PN SN UN FN p v m w → PP Q (qgo (SAf T Fv P p) N M1 m p (I ((v : Nat) : Int))) (gg_M_go N M2 w (I ((p : Nat) : Int)))) (s : STx T Fv P Fv' AN TT CC pM pE ND CN PN SN UN FN N PR p i v f b U B W Y l ow kw ow' kd' j nb Hs Os (some (kd, k, sc)) a n m w) (h23 : A w 23 n = 22) (c0 : A m 23 a = 22) (cr : ∃ f, CRs (A m 23) (ROs w) (w.2.2.2 34) f (some (kd, k, sc)) (a + 1) (n + 1) (Hs j) (Os j)) : PP Q (q67 (SAf T Fv P p) N (qgo (SAf T Fv P p) N M1) m p (I ((v : Nat) : Int))) (bnd (fm_M_one N w (I ((n : Nat) : Int)) (I 22)) (fun u _ => KRs Fv' AN TT CC ND CN UN FN N p mu M2 w u)) := by
  obtain ⟨⟨r5, r8, r2⟩, ⟨ha, hn, hv, hpp, hj⟩, nd, ⟨pl, ru, bd⟩, ⟨n1, n2, n3⟩, bH, bW, bB, bY, nND, hN⟩ := st_b s
  have h1 := (n3.2.2.2.2.2.2.2.2.2.1 h23).2.1
  obtain ⟨W1, rfl⟩ : ∃ W1, W = W1 + 1 := ⟨W - 1, by omega⟩
  obtain ⟨bd1, bd2, bd3, bd4⟩ := bd
  rw [go_fl r5 r8 (by omega) r2 (by omega) c0 ⟨by omega, by omega⟩]
  refine op_holds (K1 := fun u => q195 (SAf T Fv P p) N (qgo (SAf T Fv P p) N M1) u p (I ((v : Nat) : Int))) (K2 := fun u => KRs Fv' AN TT CC ND CN UN FN N p mu M2 w u) hpp pl ru (by omega) bd2 ⟨bd3, bd4⟩ (by omega) cr (fun m3 w3 a1 a2 a3 a4 => st_fg ih s hj a1 a2 a3 a4) ?_
  simp only [bb_e, bnd_so]
  obtain ⟨⟨-, hpr, pr24, hi, hf⟩, ⟨per, hAN⟩, ba, lp, -, -, ⟨pt, xc, h140⟩, -, -, -, wl, rb, rm, ⟨eW, eB, -⟩, rct, rgd, -⟩ := id s
  obtain ⟨⟨fa, ct⟩, -, ⟨f0, cr0⟩, -, gd, -⟩ := id ru
  have h955 := ba.2.2.1.1
  have h956 := ba.2.2.1.2
  have fw : FGw p j w (wa (wa w 98 (60 * p + j) ((n + 1 : Nat) : Int)) 92 p ((W1 : Nat) : Int)) := FGw.tr FGw.goto FGw.w92
  have pl2 : PLs (bGd b U ow' kd') p (wi m (pq p 26) ((W1 : Nat) : Int)) (wa (wa w 98 (60 * p + j) ((n + 1 : Nat) : Int)) 92 p ((W1 : Nat) : Int)) U B W1 Y := PLs_drop (k := 1) (PLs_98 pl) (by omega)
  have ru2 := RUb_fg (RUs_b ru) FGm.rf fw
  have e88 : (wa (wa w 98 (60 * p + j) ((n + 1 : Nat) : Int)) 92 p ((W1 : Nat) : Int)).2.2.2 88 = w.2.2.2 88 := rfl
  have e140 : (wa (wa w 98 (60 * p + j) ((n + 1 : Nat) : Int)) 92 p ((W1 : Nat) : Int)).1 140 = w.1 140 := rfl
  have e105 : ∀ c, A (wa (wa w 98 (60 * p + j) ((n + 1 : Nat) : Int)) 92 p ((W1 : Nat) : Int)) 105 c = A w 105 c := fun c => by rw [wa_rne (by omega), wa_rne (by omega)]
  generalize hw2 : wa (wa w 98 (60 * p + j) ((n + 1 : Nat) : Int)) 92 p ((W1 : Nat) : Int) = w2 at fw pl2 ru2 e88 e140 e105 ⊢
  have gw2 : GGw p w w2 := GGw_fg fw hj
  have sc2 : SCs p m w → SCs p m w2 := fun s => SC_fg s FGm.rf fw
  obtain ⟨fl, W0, O0, X, eO, ⟨c3, c4, c5, c6⟩, ⟨c7, c8, c9, c10, c11⟩⟩ : ∃ (fl W0 : Nat) (O0 X : List Nat), Os j = O0 ++ X ∧ (F m 1112 = ((fl : Nat) : Int) ∧ 0 < fl ∧ F m 1113 = ((X.length : Nat) : Int) ∧ F m 1114 = ((W0 : Nat) : Int)) ∧ (F w 152 = 1 ∧ F w 153 = ((kd : Nat) : Int) ∧ F w 154 = ((k : Nat) : Int) ∧ F w 156 = ((nb j + (Hs j).length + O0.length : Nat) : Int) ∧ F w 157 = ((W0 : Nat) : Int)) := by
    rcases gd with ⟨c, -⟩ | ⟨kd', k', sc', e, fl, W0, O0, X, z1, z2, z3, -⟩
    · cases c
    · cases e
      exact ⟨fl, W0, O0, X, z1, z2, z3⟩
  obtain ⟨g157, g154, -⟩ := rgd c7
  have eB2 : F m (pq p 24) = ((nb j + (Hs j ++ Os j).length : Nat) : Int) := fa.2.2.2
  have eB3 := pl.2.1.1
  have eL : (Hs j ++ Os j).length = (Hs j).length + O0.length + X.length := by
    rw [eO, List.length_append, List.length_append]
    omega
  refine gf_pp (K1 := fun u => q195 (SAf T Fv P p) N (qgo (SAf T Fv P p) N M1) u p (I ((v : Nat) : Int))) (K2 := fun u => KRs Fv' AN TT CC ND CN UN FN N p mu M2 w u) (S := rc_M_error N 19) hpp pl2 ru2 ⟨by omega, by omega⟩ (by omega) (by omega) (CR_n cr0) (fun nC c q1 q2 => ?_) (fun m3 w3 B3 W3 a a1 a2 a3 a4 a5 a6 a7 a8 a9 => ?_)
  · obtain ⟨y1, y2⟩ := ct_mon2 ct q1 q2
    obtain ⟨W9, B0, -, -, z3, -, z5⟩ := rct (nC - 1) (by rw [y1]; congr 1; omega)
    have z6 := z5 c7
    rw [e105]
    omega
  · have q5 : F m3 955 ≤ F m3 956 := by
      have y1 : F m3 955 = F m 955 := congrArg Int32.toInt a6.2.2.1
      have y2 : F m3 956 = F m 956 := congrArg Int32.toInt a6.2.2.2.2.1
      omega
    refine go195 a3.1.2.2.2.1.2.1 q5 (fun hs => ?_)
    have hp3 : HP (hp w3 p) U ow' kd' Fv' (PWs AN) := by
      have e : hp w3 p = hp w p := by
        unfold hp
        rw [a9.1, e88]
      rw [e]
      exact xc.2.1
    exact st_tr (M := N) (d := 18) hN hpp per ba.2.2.2.1.1 hAN ih ba rfl (by omega) hs a3 a1 hp3 ((congrArg Int32.toInt (a9.2.trans e140)).trans h140) (by omega) a6 (GGw.tr gw2 a7) (fun s => a8 (sc2 s))
end
