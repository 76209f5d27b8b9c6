/-! something is wrong, cells made anew; it ENDS for want of room -/
set_option maxRecDepth 100000
section
variable {T : TYc} {Fv Fv' : Int64 → Int64 → Prop} {P : Int64 → Prop} {AN : Nat} {TT : TY} {CC : CY} {pM pE : Nat → Nat} {ND CN PN SN UN FN N PR p i v mu M1 M2 f U B W Y l j a n : Nat} {m w : MS} {Q : MS → Int32 → MS → Int32 → Prop} {b : Int → Nat → Nat → Prop} {ow kw ow' kd' : Nat → Nat} {nb : Nat → Nat} {Hs Os : Nat → List Nat} {y : Option (Nat × Nat × Nat)}
theorem q195_s {Sf : MS → Int32 → Prop} {β : Type} {G : MS → Nat → Int32 → Option (MS × Int32)} {v3 : Int32} {Q : MS → Int32 → MS → β → Prop} {Z : Option (MS × β)} (h : Sf m v3 → PP Q (q195 Sf N G m p v3) Z) : PP Q (q195 Sf N G m p v3) Z := by
  by_cases z : Sf m v3
  · exact h z
  · unfold q195
    rw [rsc_f z]
    exact pp_nl
/-- lists and literals there, before something is told -/
theorem SA_er {m3 : MS} {how ar : Int} {t : Int64} {v3 : Int32} (hh : how = 1 ∨ how = 2 ∨ how = 3) (hs : SAf T Fv P p (tld m3 how ar t) v3) : LNB m3 p ∧ CTX Fv P m3 := by
  obtain ⟨PR2, c, k, -, -, o⟩ := hs
  have e9 : F (tld m3 how ar t) 1109 = how := tld_9 ⟨by omega, by omega⟩
  rcases o with o | o | o | o
  · have := o.2.1
    omega
  · obtain ⟨u, how', ar', t', ⟨i2, h, mm, L, g2, x2, j2, wb, nb2, cb2, rk, M, -⟩, -, -, -, -, -, e⟩ := o
    have e1 : ∀ k, k ≠ 1109 → k ≠ 1111 → m3.1 k = u.1 k := fun k h1 h2 => by
      have := congrArg (fun z : MS => z.1 k) e
      have z1 : (tld m3 how ar t).1 k = m3.1 k := (wi_1 h2).trans (wi_1 h1)
      have z2 : (wl (wi (wi u 1109 how') 1111 ar') 1110 t').1 k = u.1 k := (wi_1 h2).trans (wi_1 h1)
      rw [← z1, ← z2]
      exact this
    have e3 : m3.2.2.1 = u.2.2.1 := by
      have := congrArg (fun z : MS => z.2.2.1) e
      exact this
    have eF : ∀ k, F m3 (pq p k) = F u (pq p k) := fun k => congrArg Int32.toInt (e1 _ (fun c => pq_n (by omega) c.symm) (fun c => pq_n (by omega) c.symm))
    refine ⟨?_, CTX_fr M.1.2.1 (e1 22 (by omega) (by omega)) (by rw [e3])⟩
    have lb := GEN_ln M.1 M.1.2.2.2.2.2.2.1
    unfold LNB at lb ⊢
    rw [eF 45, eF 43, eF 42, eF 47, eF 28]
    exact lb
  · have := o.2.2.1
    omega
  · have := o.2.2.1
    omega
/-- behind a step that has changed p alone; there it may have been two -/
theorem st_rv {M' vk : Nat} {m3 w3 : MS} {b3 : Int → Nat → Nat → Prop} {U3 B3 W3 Y3 j3 a3 n3 : Nat} {nb3 : Nat → Nat} {Hs3 Os3 : Nat → List Nat} {y3 : Option (Nat × Nat × Nat)} (ih : ∀ M1 v m w, SIA T Fv P Fv' AN TT CC pM pE ND CN PN SN UN FN p v m w → PP Q (qgo (SAf T Fv P p) N M1 m p (I ((v : Nat) : Int))) (gg_M_go N M2 w (I ((p : Nat) : Int)))) (s : STx T Fv P Fv' AN TT CC pM pE ND CN PN SN UN FN N PR p i v f b U B W Y l ow kw ow' kd' j nb Hs Os y a n m w) (hvk : vk < 1000000000) (pl : PLs b3 p m3 w3 U3 B3 W3 Y3) (ru : RUs m3 w3 p j3 nb3 Hs3 Os3 y3 a3 n3) (gm : GGm p m m3) (gw : GGw p w w3) (sc : SCs p m w → SCs p m3 w3) : PP Q (q195 (SAf T Fv P p) N (qgo (SAf T Fv P p) N M') m3 p (I ((vk : Nat) : Int))) (KRs Fv' AN TT CC ND CN UN FN N p mu M2 w w3) := by
  obtain ⟨⟨hN, hpr, pr24, hi, hf⟩, ⟨per, -⟩, ba, -⟩ := s
  have h149 : F w 149 = 0 := ba.2.2.2.1.1
  have r5 := ru.2.2.2.1
  exact (aft_gg hN per h149 ih ba (by omega) gm gw pl sc (Or.inl ⟨j3, nb3, Hs3, Os3, y3, a3, n3, ru⟩) (by omega) ru.2.2.2.2.2.1.2.1).1
/-- it ENDS: an ATOM tells why -/
theorem st_en {M' vk c : Nat} {m3 w3 : MS} (ih : ∀ M1 v m w, SIA T Fv P Fv' AN TT CC pM pE ND CN PN SN UN FN p v m w → PP Q (qgo (SAf T Fv P p) N M1 m p (I ((v : Nat) : Int))) (gg_M_go N M2 w (I ((p : Nat) : Int)))) (s : STx T Fv P Fv' AN TT CC pM pE ND CN PN SN UN FN N PR p i v f b U B W Y l ow kw ow' kd' j nb Hs Os y a n m w) (hvk : vk < 1000000000) (hc : c < 22) (gm : GGm p m m3) (gw : GGw p w w3) (sc : SCs p m w → SCs p m3 w3) (h5 : m3.1 (pq p 5) = w3.2.2.1 90 p) : PP Q (q195 (SAf T Fv P p) N (qgo (SAf T Fv P p) N M') (enS m3 p (mk 1 ((c : Nat) : Int)) p i) p (I ((vk : Nat) : Int))) (KRs Fv' AN TT CC ND CN UN FN N p mu M2 w (wi (enR w3 p 0 ((p : Nat) : Int) (mk 1 ((c : Nat) : Int)) 0) 151 1)) := by
  obtain ⟨⟨hN, hpr, pr24, hi, hf⟩, ⟨per, hAN⟩, ba, lp, -, -, -, -, -, -, wl, -⟩ := s
  have cx : CTX Fv P m := (LPQ_dc lp).2
  have pb : PB (PWs AN) PR := wl.1.2.2
  have e22 := cx.2.2.2.1
  have es : so (mk 1 ((c : Nat) : Int)) = 1 := so_mk (by omega) (by omega)
  exact (aft_end hN per ba.2.2.2.1.1 ih ba (by omega) gm gw sc h5 ⟨ba.2.2.1.1, hi⟩ (show F w 150 = ((0 : Nat) : Int) ∧ 0 < 4000 from ⟨ba.2.2.2.1.2, by decide⟩) (Or.inl rfl) (RQ_lit hpr (by omega) (nh_mk (by omega)) (fun z => by omega) (cx.2.2.2.2.2.1 _ (by omega) (by omega)) (pb.1 _ (by omega) (by omega)))).1
/-- it goes up, or the GUARD fails: cells have been made, or counted -/
theorem st_e3 {d M' vk Wc W2 : Nat} {m3 w3 : MS} {how kn : Int} {t x : Int64} (ih : ∀ M1 v m w, SIA T Fv P Fv' AN TT CC pM pE ND CN PN SN UN FN p v m w → PP Q (qgo (SAf T Fv P p) N M1 m p (I ((v : Nat) : Int))) (gg_M_go N M2 w (I ((p : Nat) : Int)))) (s : STx T Fv P Fv' AN TT CC pM pE ND CN PN SN UN FN N PR p i v f b U B W Y l ow kw ow' kd' j nb Hs Os y a n m w) (hvk : vk ≤ v + 1) (hv : (how = 1 ∧ kn = 0) ∨ (how = 2 ∧ kn = 1) ∨ (how = 3 ∧ kn = 2)) (fm : FGm p m m3) (fw : FGw p j w w3) (pl3 : PLs (bGd b U ow' kd') p (wi m3 (pq p 26) ((W2 : Nat) : Int)) w3 U B W2 Y) (ru3 : RUb m3 w3 p j nb Hs Os y) (pt3 : PTQ m3 p U ow kw Fv P B Wc Y) (hW2 : W2 ≤ Wc) (bW2 : W2 < 46000) (hT : W + tB TT n ≤ W2 + tH TT n) (xc3 : CX w3 p (hp w3 p) U ow' kd' Fv' (PWs AN) W2 B Y) (h140 : F w3 140 = -1) (g : GT U ow kw P t) (g' : GT U ow' kd' (PWs AN) x) (rt : RTb (bGd b U ow' kd') t x) : PP Q (q195 (SAf T Fv P p) N (qgo (SAf T Fv P p) N M') (tld m3 how (-1) t) p (I ((vk : Nat) : Int))) (bnd (fm_M_goesUp N (rc_M_error N d) w3 (I kn) x) (fun u _ => KRs Fv' AN TT CC ND CN UN FN N p mu M2 w u)) := by
  refine q195_s (fun hs => ?_)
  obtain ⟨lb, cx⟩ := SA_er (by omega) hs
  obtain ⟨⟨hN, hpr, pr24, hi, hf⟩, ⟨per, hAN⟩, ba, lp, pl, ru, -, ⟨bW, bB, bY⟩, bd, sc, wl, rb, rm, ⟨eW, eB, nND⟩, rct, rgd, -⟩ := id s
  obtain ⟨⟨fa, ct⟩, ⟨r2, r3⟩, ⟨f0, cr0⟩, -⟩ := id ru
  have hj := fa.1.2.2
  have h149 : F w 149 = 0 := ba.2.2.2.1.1
  have h150 : F w 150 = 0 := ba.2.2.2.1.2
  have gm3 : GGm p m m3 := GGm_fg fm
  have gw3 : GGw p w w3 := GGw_fg fw hj
  have sc3 : SCs p m w → SCs p m3 w3 := fun s => SC_fg s fm fw
  have h955 : F m3 955 = ((i : Nat) : Int) := (congrArg Int32.toInt gm3.2.2.1).trans ba.2.2.1.1
  have h956 : F m3 956 = ((i : Nat) : Int) := (congrArg Int32.toInt gm3.2.2.2.2.1).trans ba.2.2.1.2
  have wr : ∀ K, K ∈ [45, 102, 103, 104, 105, 106] → w3.2.2.1 K = w.2.2.1 K := fun K hK => fw.1.2.2.1 K (by simp at hK ⊢; omega)
  have e28 : F m3 (pq p 28) = F m (pq p 28) := congrArg Int32.toInt (fm.1 _ (by simp; unfold pq; omega))
  have pb : PB (PWs AN) PR := wl.1.2.2
  have w150 : F w3 150 = ((0 : Nat) : Int) := (congrArg Int32.toInt gw3.2.2.1).trans h150
  have wF : ∀ k, k ∈ [152, 154, 156, 157] → F w3 k = F w k := fun k hk => congrArg Int32.toInt (fw.1.1 k (by simp at hk ⊢; omega))
  cases y with
  | none =>
    have ca : CTa m3 w3 p W2 := fun c hc => by
      rw [e28] at hc
      obtain ⟨y1, -⟩ := ct_mon2 ct hc (Nat.lt_succ_self c)
      obtain ⟨W0, B0, z1, z2, -⟩ := rct c y1
      have r3 := A_r w3 103 (1600 * p + c)
      obtain ⟨nn, c1, -, c3, -⟩ := ct
      refine ⟨by omega, ⟨W0, ?_, by omega⟩, fun nd hnd => by omega⟩
      show (w3.2.2.1 104 _).toInt = _
      rw [wr 104 (by simp)]
      exact z1
    exact wrong_up hv (by omega) hpr pl3 ru3 hW2 ⟨by omega, bW2⟩ lb pt3 cx xc3 pb g g' rt ca ⟨h955, hi⟩ ⟨w150, by omega⟩ (by omega) (fun b3 U3 W3 r k a0 nn m4 w4 a1 a2 a3 a4 a5 => by
      have r5 := a2.2.2.2.1
      exact (aft_gg hN per h149 ih ba (by omega) (GGm.tr gm3 a3) (GGw.tr gw3 a4) a1 (fun s => a5 (sc3 s)) (Or.inl ⟨r, nb, Hs, _, none, a0, nn, a2⟩) (by omega) a2.2.2.2.2.2.1.2.1).2) (fun m4 w4 wr t3 x3 a1 a2 a3 a4 a5 a6 => (aft_end hN per h149 ih ba (by omega) (GGm.tr gm3 a1) (GGw.tr gw3 a2) (fun s => a3 (sc3 s)) a4 ⟨ba.2.2.1.1, hi⟩ (show F w 150 = ((0 : Nat) : Int) ∧ 0 < 4000 from ⟨h150, by decide⟩) a5 a6).2)
  | some y =>
    obtain ⟨kd, k, sc0⟩ := y
    obtain ⟨fa3, -⟩ := ru3.1
    obtain ⟨fl, W0, O0, X, eO, ⟨c3, c4, c5, c6⟩, ⟨c7, c8, c9, c10, c11⟩⟩ : ∃ (fl W0 : Nat) (O0 X : List Nat), Os j = O0 ++ X ∧ (F m3 1112 = ((fl : Nat) : Int) ∧ 0 < fl ∧ F m3 1113 = ((X.length : Nat) : Int) ∧ F m3 1114 = ((W0 : Nat) : Int)) ∧ (F w3 152 = 1 ∧ F w3 153 = ((kd : Nat) : Int) ∧ F w3 154 = ((k : Nat) : Int) ∧ F w3 156 = ((nb j + (Hs j).length + O0.length : Nat) : Int) ∧ F w3 157 = ((W0 : Nat) : Int)) := by
      rcases ru3.2.2.1 with ⟨c, -⟩ | ⟨kd', k', sc', e, fl, W0, O0, X, z1, z2, z3, -⟩
      · cases c
      · cases e
        exact ⟨fl, W0, O0, X, z1, z2, z3⟩
    rw [wF 152 (by simp)] at c7
    rw [wF 154 (by simp)] at c9
    rw [wF 156 (by simp)] at c10
    rw [wF 157 (by simp)] at c11
    obtain ⟨g157, g154, -⟩ := rgd c7
    have eB2 : F m3 (pq p 24) = ((nb j + (Hs j ++ Os j).length : Nat) : Int) := fa3.2.2.2
    have eB3 : F m3 (pq p 24) = ((B : Nat) : Int) := pt3.2.1.1
    have eL : (Hs j ++ Os j).length = (Hs j).length + O0.length + X.length := by
      rw [eO, List.length_append, List.length_append]
      omega
    refine wrong_gd (by omega) (by omega) pl3 ru3 ⟨by omega, bW2⟩ (by omega) (by omega) (CR_n cr0) (fun nC c q1 q2 => ?_) (fun d m4 w4 B3 W3 a a1 a2 a3 a4 a5 a6 a7 a8 a9 => ?_)
    · rw [e28] at q1
      obtain ⟨y1, y2⟩ := ct_mon2 ct q1 q2
      obtain ⟨W9, B0, -, -, z3, -, z5⟩ := rct (nC - 1) (by rw [y1]; congr 1; omega)
      have z6 := z5 c7
      have e105 : A w3 105 (1600 * p + c) = A w 105 (1600 * p + c) := by
        show (w3.2.2.1 105 _).toInt = _
        rw [wr 105 (by simp)]
        rfl
      omega
    · have q5 : F m4 955 ≤ F m4 956 := by
        have y1 : F m4 955 = F m3 955 := congrArg Int32.toInt a6.2.2.1
        have y2 : F m4 956 = F m3 956 := congrArg Int32.toInt a6.2.2.2.2.1
        omega
      refine go206 q5 (fun hs => ?_)
      cases d with
      | zero => exact pp_nr
      | succ d =>
      have hp4 : HP (hp w4 p) U ow' kd' Fv' (PWs AN) := by
        have e : hp w4 p = hp w3 p := by
          unfold hp
          rw [a9.1]
        rw [e]
        exact xc3.2.1
      exact st_tr (M := N) (d := d) hN (by omega) per h149 hAN ih ba rfl (by omega) hs a3 a1 hp4 ((congrArg Int32.toInt a9.2).trans h140) (by omega) (GGm.tr gm3 a6) (GGw.tr gw3 a7) (fun s => a8 (sc3 s))
/-- an ATOM tells what is wrong -/
theorem st_w3 {M' vk c Wc W2 : Nat} {m3 w3 : MS} (ih : ∀ M1 v m w, SIA T Fv P Fv' AN TT CC pM pE ND CN PN SN UN FN p v m w → PP Q (qgo (SAf T Fv P p) N M1 m p (I ((v : Nat) : Int))) (gg_M_go N M2 w (I ((p : Nat) : Int)))) (s : STx T Fv P Fv' AN TT CC pM pE ND CN PN SN UN FN N PR p i v f b U B W Y l ow kw ow' kd' j nb Hs Os y a n m w) (hvk : vk ≤ v + 1) (hc : c < 22) (fm : FGm p m m3) (fw : FGw p j w w3) (pl3 : PLs (bGd b U ow' kd') p (wi m3 (pq p 26) ((W2 : Nat) : Int)) w3 U B W2 Y) (ru3 : RUb m3 w3 p j nb Hs Os y) (pt3 : PTQ m3 p U ow kw Fv P B Wc Y) (hW2 : W2 ≤ Wc) (bW2 : W2 < 46000) (hT : W + tB TT n ≤ W2 + tH TT n) (xc3 : CX w3 p (hp w3 p) U ow' kd' Fv' (PWs AN) W2 B Y) (h140 : F w3 140 = -1) : PP Q (q195 (SAf T Fv P p) N (qgo (SAf T Fv P p) N M') (tld m3 1 (-1) (mk 1 ((c : Nat) : Int))) p (I ((vk : Nat) : Int))) (bnd (fr_M_error N w3 (I ((c : Nat) : Int))) (fun u _ => KRs Fv' AN TT CC ND CN UN FN N p mu M2 w u)) := by
  have cx : CTX Fv P m := (LPQ_dc s.2.2.2.1).2
  have pb : PB (PWs AN) PR := s.2.2.2.2.2.2.2.2.2.2.1.1.2.2
  exact er_pp (d := 20) (fun d => st_e3 ih s hvk (Or.inl ⟨rfl, rfl⟩) fm fw pl3 ru3 pt3 hW2 bW2 hT xc3 h140 (GT_at cx hc) (GT_atom pb ⟨by omega, by omega⟩) (lit_b (Or.inr (Or.inl rfl)) (fun z => by omega) ⟨by omega, by omega⟩))
/-- the same, no cells -/
theorem st_wr {c W2 : Nat} {w2 : MS} (ih : ∀ M1 v m w, SIA T Fv P Fv' AN TT CC pM pE ND CN PN SN UN FN p v m w → PP Q (qgo (SAf T Fv P p) N M1 m p (I ((v : Nat) : Int))) (gg_M_go N M2 w (I ((p : Nat) : Int)))) (s : STx T Fv P Fv' AN TT CC pM pE ND CN PN SN UN FN N PR p i v f b U B W Y l ow kw ow' kd' j nb Hs Os y a n m w) (hc : c < 22) (pl2 : PLs (bGd b U ow' kd') p (wi m (pq p 26) ((W2 : Nat) : Int)) w2 U B W2 Y) (hW2 : W2 ≤ W) (hT : W + tB TT n ≤ W2 + tH TT n) (fw : FGw p j w w2) (h88 : w2.2.2.2 88 = w.2.2.2 88 ∧ w2.1 140 = w.1 140) : PP Q (q195 (SAf T Fv P p) N (qgo (SAf T Fv P p) N M1) (tld m 1 (-1) (mk 1 ((c : Nat) : Int))) p (I ((v : Nat) : Int))) (bnd (fr_M_error N w2 (I ((c : Nat) : Int))) (fun u _ => KRs Fv' AN TT CC ND CN UN FN N p mu M2 w u)) := by
  have cx : CTX Fv P m := (LPQ_dc s.2.2.2.1).2
  have pb : PB (PWs AN) PR := s.2.2.2.2.2.2.2.2.2.2.1.1.2.2
  exact er_pp (d := 20) (fun d => st_er ih s (Or.inl ⟨rfl, rfl⟩) pl2 hW2 hT fw h88 (GT_at cx hc) (GT_atom pb ⟨by omega, by omega⟩) (lit_b (Or.inr (Or.inl rfl)) (fun z => by omega) ⟨by omega, by omega⟩))
end
