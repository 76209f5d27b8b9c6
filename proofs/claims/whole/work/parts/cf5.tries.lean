/-! parts are tried, both sides, to the end of the step -/
set_option maxRecDepth 100000
section
variable {T : TYc} {u : MS} {i h m g x : Nat} {L : List Nat}
theorem in_19 (q : IN1 T u i h m L g x ∨ IN2 T u i h m L g x ∨ IN3 T u i h m L g x) (e : A u 23 i = 19) : (∃ n : Nat, A u 23 (i + 1) = ((n : Nat) : Int) ∧ n ≤ h) ∨ (A u 23 (i + 1) = -1 ∧ 1 ≤ h) ∨ (A u 23 (i + 1) = -2 ∧ x ≠ 0) := by
  rcases q with q | q | q
  · exfalso
    rcases q with q | q | q | q | q | q | q | q | q | q | q | q | q <;> (have := q.1; omega)
  · rcases q with q | q | q | q | q | q | q | q | q | q | q
    · exfalso; have := q.1; omega
    · exact q.2.2.1
    all_goals (exfalso; have := q.1; omega)
  · exfalso
    rcases q with q | q | q | q | q | q | q | q | q
    · have := q.1; omega
    · have := q.1; omega
    · have := q.1; omega
    · have := q.1; omega
    · have := q.1; omega
    · omega
    · have := q.1; omega
    · have := q.1; omega
    · have := q.1; omega
theorem in_37 (q : IN1 T u i h m L g x ∨ IN2 T u i h m L g x ∨ IN3 T u i h m L g x) (e : A u 23 i = 37) : 1 ≤ h := by
  rcases q with q | q | q
  · exfalso
    rcases q with q | q | q | q | q | q | q | q | q | q | q | q | q <;> (have := q.1; omega)
  · exfalso
    rcases q with q | q | q | q | q | q | q | q | q | q | q <;> (have := q.1; omega)
  · rcases q with q | q | q | q | q | q | q | q | q
    · exfalso; have := q.1; omega
    · exfalso; have := q.1; omega
    · exfalso; have := q.1; omega
    · exfalso; have := q.1; omega
    · exfalso; have := q.1; omega
    · exfalso; omega
    · exact q.2
    · exfalso; have := q.1; omega
    · exfalso; have := q.1; omega
theorem in_34 (q : IN1 T u i h m L g x ∨ IN2 T u i h m L g x ∨ IN3 T u i h m L g x) (e : A u 23 i = 34) : x ≠ 0 ∧ A u 23 (i + 1) = ((x : Nat) : Int) := by
  rcases q with q | q | q
  · exfalso
    rcases q with q | q | q | q | q | q | q | q | q | q | q | q | q <;> (have := q.1; omega)
  · exfalso
    rcases q with q | q | q | q | q | q | q | q | q | q | q <;> (have := q.1; omega)
  · rcases q with q | q | q | q | q | q | q | q | q
    · exfalso; have := q.1; omega
    · exfalso; have := q.1; omega
    · exfalso; have := q.1; omega
    · exact ⟨q.2.2.1, q.2.2.2.2.1⟩
    · exfalso; have := q.1; omega
    · exfalso; omega
    · exfalso; have := q.1; omega
    · exfalso; have := q.1; omega
    · exfalso; have := q.1; omega
end
section
variable {T : TYc} {Fv Fv' : Int64 → Int64 → Prop} {P : Int64 → Prop} {AN : Nat} {TT : TY} {CC : CY} {pM pE : Nat → Nat} {ND CN PN SN UN FN N PR p i v mu M1 M2 : Nat} {m m0 w0 w00 m3 w3 : MS} {Q : MS → Int32 → MS → Int32 → Prop}
theorem LPQ_dc {f : Nat} (l : LPQ T Fv P PR p f m) : DWc Fv P PR m ∧ CTX Fv P m := by
  rcases l with ⟨⟨i, h, m, L, g, x, j, wb, nb, cb, rk, M, hf⟩, -⟩ | ⟨G, -⟩ | ⟨G, -⟩
  · exact ⟨M.1.1, M.1.2.1⟩
  · exact ⟨G.1, G.2.1⟩
  · exact ⟨G.1, G.2.1⟩
/-- behind a step, as far as it is safe -/
theorem SAf_l (hs : SAf T Fv P p m3 (I ((v : Nat) : Int))) (hv : v < 2000000000) (h9 : F m3 1109 = 0) (n942 : F m3 942 = ((PR : Nat) : Int)) : ∃ c, c + (v + 1) ≤ 900000000 ∧ LPQ T Fv P PR p c m3 := by
  obtain ⟨PR2, c, k, ek, hk, o⟩ := hs
  have ev : v = k := by
    have := congrArg Int32.toInt ek
    rw [I_ti (by omega) (by omega), I_ti (by omega) (by omega)] at this
    omega
  subst ev
  obtain ⟨a1, a2, a3⟩ := OPQ_d o h9
  have e2 : PR2 = PR := by
    have := a1.1.1.1
    omega
  subst e2
  exact ⟨c, by omega, a3⟩
/-- behind a step here; there the next one has begun -/
theorem aft_67 {b : Int → Nat → Nat → Prop} {U B W Y j a n f : Nat} {nb : Nat → Nat} {Hs Os : Nat → List Nat} {y : Option (Nat × Nat × Nat)} (per : PER Fv' AN TT CC pM pE ND CN PN SN UN FN w00) (h149 : F w00 149 = 0) (ih : ∀ M1 v m w, SIA T Fv P Fv' AN TT CC pM pE ND CN PN SN UN FN p v m w → PP Q (qgo (SAf T Fv P p) N M1 m p (I ((v : Nat) : Int))) (gg_M_go N M2 w (I ((p : Nat) : Int))))
    (ba : BAs Fv P Fv' (PWs AN) PR p i m0 w0) (hf : f + v ≤ 900000000) (l : LPQ T Fv P PR p f m3) (gm : GGm p m0 m3) (gw : GGw p w0 w3) (pl : PLs b p m3 w3 U B W Y) (sc : SCs p m0 w0 → SCs p m3 w3) (ru : RUs m3 w3 p j nb Hs Os y a n) : PP Q (q67 (SAf T Fv P p) N (qgo (SAf T Fv P p) N M1) m3 p (I ((v : Nat) : Int))) (rsc (RSW Fv' AN TT CC ND CN UN FN p mu w00 w3) (bnd (fm_M_allEnds N w3) (fun u _ => gg_M_go N M2 u (I ((p : Nat) : Int))))) := by
  obtain ⟨hpr, W0, ⟨h955, h956⟩, ⟨g149, g150⟩, cn, wt, tb, ⟨hal, hal'⟩, n1, n2⟩ := ba
  obtain ⟨r5, r6⟩ := id ru.2.2.2.1
  refine pp_clr (fun rs => ?_)
  obtain ⟨PR', hp', al, wd, gf⟩ := rs
  obtain ⟨mu2, al2⟩ : ∃ mu2, ALT Fv' (PQ AN PR') PR' TT CC ND CN p mu2 w3 := by
    rcases al with al | al | al | ⟨mm, h1, h2⟩
    · exact ⟨0, Or.inl al⟩
    · exact ⟨0, Or.inr (Or.inl al)⟩
    · exact ⟨0, Or.inr (Or.inr (Or.inl al))⟩
    · exact ⟨mm + 1, Or.inr (Or.inr (Or.inr ⟨mm, by omega, h2⟩))⟩
  have dw := ALT_dw al2
  have per3 : PER Fv' AN TT CC pM pE ND CN PN SN UN FN w3 := PER_fr per gf (by decide) (by decide)
  have fi := gm.2.2.2.2.2.2
  have fA := gm.2.2.2.2.2.1
  have gi := gw.2.2.2.2.2.2
  have gA := gw.2.2.2.2.2.1
  have w118 : F w3 118 = ((PR : Nat) : Int) := by
    rw [← n2]
    exact congrArg Int32.toInt (gi 118 (by omega))
  have e3 : PR' = PR := by
    have := dw.1.1
    omega
  subst e3
  have pb := PQ_b per3.2.2.2.2.1 dw.1.2
  have s3 : SFs Fv P Fv' (PWs AN) PR' m3 w3 := ⟨LPQ_dc l, ⟨DW_mo PW_q dw, wd.1, wd.2.1⟩, PB_mo PW_q pb⟩
  have h149' : F w3 149 = 0 := by rw [FR.F gf (by decide)]; exact h149
  have h150' : F w3 150 = 0 := by
    rw [← g150]
    exact congrArg Int32.toInt gw.2.2.1
  have scp : SCs p m0 w0 := by
    rcases W0.2.2.1 p hpr with ⟨-, -, _, _, _, _, _, _, s, -⟩ | ⟨x, -⟩
    · exact s
    · exact absurd x hal
  rw [ends_id h149' h150', bnd_so]
  refine ih (M1 + 1) v m3 w3 ⟨PR', f, mu2, hpr, ⟨hf, l⟩, ⟨al2, wd, per3⟩, ⟨i, WL_q (WL_ownt W0 hpr hal hal' s3 gm gw pl (sc scp) ⟨by omega, by omega⟩) (fun _ => Or.inl ⟨j, nb, Hs, Os, y, a, n, ru⟩), ⟨?_, ?_⟩, ⟨h149', h150'⟩, CN_pg cn (PG0_gg gm gw) per3.2.2.1, WTs_st wt (fi 950 (by omega)) (fun k hk => fA k (by omega)) (gi 125 (by omega)) (fun k hk => gA k (by omega))⟩, TB_gg tb gm gw⟩
  · rw [← h956]
    exact congrArg Int32.toInt gm.2.2.2.2.1
  · rw [← h955]
    exact congrArg Int32.toInt gm.2.2.1
/-- parts are tried -/
theorem tr_pp (hN : 11000000 ≤ N) (hpp : p < 24) (per : PER Fv' AN TT CC pM pE ND CN PN SN UN FN w00) (h149 : F w00 149 = 0) (hAN : F w0 14 = ((AN : Nat) : Int)) (ih : ∀ M1 v m w, SIA T Fv P Fv' AN TT CC pM pE ND CN PN SN UN FN p v m w → PP Q (qgo (SAf T Fv P p) N M1 m p (I ((v : Nat) : Int))) (gg_M_go N M2 w (I ((p : Nat) : Int))))
    (ba : BAs Fv P Fv' (PWs AN) PR p i m0 w0) : ∀ (M1 M d v f : Nat) (b : Int → Nat → Nat → Prop) (U B W Y j kd sc a : Nat) (nb : Nat → Nat) (Hs Os : Nat → List Nat) (k : Int) (ow' kd' : Nat → Nat) (m w : MS), f + v ≤ 900000000 → LPQ T Fv P PR p f m → TRs m w p j nb Hs Os kd sc a k → PLs (bGd b U ow' kd') p m (wa w 94 p ((B : Nat) : Int)) U B W Y → B = nb j + (Hs j ++ Os j).length → HP (hp w p) U ow' kd' Fv' (PWs AN) → F w 140 = -1 → W < 46000 → GGm p m0 m → GGw p w0 w → (SCs p m0 w0 → SCs p m w) → PP Q (q67 (SAf T Fv P p) N (qgo (SAf T Fv P p) N M1) m p (I ((v : Nat) : Int))) (bnd (gg_M_choose N (rc_M_error N d) M w 1) (fun w3 _ => rsc (RSW Fv' AN TT CC ND CN UN FN p mu w00 w3) (bnd (fm_M_allEnds N w3) (fun u _ => gg_M_go N M2 u (I ((p : Nat) : Int)))))) := by
  intro M1
  induction M1 using Nat.strongRecOn with
  | _ M1 IH =>
  intro M d v f b U B W Y j kd sc a nb Hs Os k ow' kd' m w hf l tt pl hB hp2 h140 hW gm gw sc0
  cases M with
  | zero => exact pp_nr
  | succ M =>
  obtain ⟨ru, hpc, ⟨h153, h154, h156⟩, tr, nd, fz, g, zr⟩ := id tt
  obtain ⟨hpr, W0, ⟨h955, h956⟩, ⟨g149, g150⟩, cn, wt, tb, ⟨hal, hal'⟩, n1, n2⟩ := id ba
  have hi : i < 24 := by
    have h1 := W0.1.1.1.1
    have h2 := h1.2.2.2.1.1
    have h3 := cEc_lt (m := m0) (q := p) PR hpr hal
    have h4 := h1.1.2
    omega
  have gw' : GGw p w0 (wa w 94 p ((B : Nat) : Int)) := GGw.tr gw GGw_94
  have sc' : SCs p m0 w0 → SCs p m (wa w 94 p ((B : Nat) : Int)) := fun s => SC_94 (sc0 s)
  have ru' : RUb m (wa w 94 p ((B : Nat) : Int)) p j nb Hs Os none := RUb_94 ru
  obtain ⟨⟨-, cx, lb, dc⟩, ⟨ow, kw, pt⟩, ⟨bn, bB, bY, b8⟩, ca, wft, i2, h, mm, L, x, wb, ti, e5, eW, xx, un⟩ := cl_fct l ru' pl
  have ei : a = i2 := by omega
  subst ei
  obtain ⟨-, -, -, -, ⟨-, hx⟩, ins⟩ := wft _ _ _ _ _ _ ti
  have m955 : F m 955 = ((i : Nat) : Int) := by
    rw [← h955]
    exact congrArg Int32.toInt gm.2.2.1
  have m956 : F m 956 = ((i : Nat) : Int) := by
    rw [← h956]
    exact congrArg Int32.toInt gm.2.2.2.2.1
  have m942 : F m 942 = ((PR : Nat) : Int) := by
    rw [← n1]
    exact congrArg Int32.toInt (gm.2.2.2.2.2.2 942 (by omega))
  have w150 : F (wa w 94 p ((B : Nat) : Int)) 150 = ((0 : Nat) : Int) := (congrArg Int32.toInt gw'.2.2.1).trans g150
  have hB' : B = nb j + (Hs j).length + (Os j).length := by rw [hB, List.length_append]; omega
  obtain ⟨-, -, ⟨t944, -, -⟩, -, fa', na, atf⟩ := TB_gg tb gm gw'
  have hAN' : F (wa w 94 p ((B : Nat) : Int)) 14 = ((AN : Nat) : Int) := (congrArg Int32.toInt gw'.2.1.2.2.2.2).trans hAN
  have hP : ∀ t, P t → PWs AN t := PT_pw cx atf hAN'
  have hp2' : HP (hp (wa w 94 p ((B : Nat) : Int)) p) U ow' kd' Fv' (PWs AN) := hp2
  have xf : CXf (wa w 94 p ((B : Nat) : Int)) p (hp (wa w 94 p ((B : Nat) : Int)) p) U ow' kd' Fv' (PWs AN) W B Y := CXf_of hP pl pt hp2' hpp ⟨by omega, by omega, bY⟩
  have xc := CXf_cx xf h140
  have pb : PB (PWs AN) PR := W0.1.2.2
  obtain ⟨⟨l3, c1, c2, c3⟩, ⟨l5, d1, d2, d3⟩, -⟩ := pt.2.2.2.2
  have h42 : ((B : Nat) : Int) ≤ F m (pq p 42) := by
    obtain ⟨-, ⟨bb, -, y1, y2⟩, -⟩ := lb
    omega
  have Y7 : F m (pq p 7) = ((Y : Nat) : Int) := pl.2.2.2.1
  -- on with the next part
  have go : ∀ (M' M4 d' v' : Nat) (B4 W4 Y4 j4 kd4 sc4 a4 : Nat) (nb4 : Nat → Nat) (Hs4 Os4 : Nat → List Nat) (k4 : Int) (m4 w4 : MS), M' ≤ M1 → v' < 1000000000 → TRs m4 w4 p j4 nb4 Hs4 Os4 kd4 sc4 a4 k4 → PLs (bGd b U ow' kd') p m4 (wa w4 94 p ((B4 : Nat) : Int)) U B4 W4 Y4 → B4 = nb4 j4 + (Hs4 j4 ++ Os4 j4).length → (w4.2.2.2 88 = w.2.2.2 88 ∧ w4.1 140 = w.1 140) → W4 < 46000 → GGm p m m4 → GGw p w w4 → (SCs p m w → SCs p m4 w4) → PP Q (q195 (SAf T Fv P p) N (qgo (SAf T Fv P p) N M') m4 p (I ((v' : Nat) : Int))) (bnd (gg_M_choose N (rc_M_error N d') M4 w4 1) (fun w3 _ => rsc (RSW Fv' AN TT CC ND CN UN FN p mu w00 w3) (bnd (fm_M_allEnds N w3) (fun u _ => gg_M_go N M2 u (I ((p : Nat) : Int)))))) := by
    intro M' M4 d' v' B4 W4 Y4 j4 kd4 sc4 a4 nb4 Hs4 Os4 k4 m4 w4 hM hv t4 pl4 hB4 e8 hW4 a3 a4' a5
    have h9 : F m4 1109 = 0 := t4.1.2.2.2.1.2.1
    have q5 : F m4 955 ≤ F m4 956 := by
      have y1 : F m4 955 = F m 955 := congrArg Int32.toInt a3.2.2.1
      have y2 : F m4 956 = F m 956 := congrArg Int32.toInt a3.2.2.2.2.1
      omega
    refine go195 h9 q5 (fun hsf => ?_)
    have m9 : F m4 942 = ((PR : Nat) : Int) := (congrArg Int32.toInt (a3.2.2.2.2.2.2 942 (by omega))).trans m942
    obtain ⟨c, cc1, cc2⟩ := SAf_l hsf (by omega) h9 m9
    cases M' with
    | zero => exact pp_nl
    | succ M' =>
    show PP Q (q67 (SAf T Fv P p) N (qgo (SAf T Fv P p) N M') m4 p (I ((v' + 1 : Nat) : Int))) _
    have e88 : hp w4 p = hp w p := by
      unfold hp
      rw [e8.1]
    exact IH M' (by omega) M4 d' (v' + 1) c b U B4 W4 Y4 j4 kd4 sc4 a4 nb4 Hs4 Os4 k4 ow' kd' m4 w4 cc1 cc2 t4 pl4 hB4 (by rw [e88]; exact hp2) ((congrArg Int32.toInt e8.2).trans h140) hW4 (GGm.tr gm a3) (GGw.tr gw a4') (fun s => a5 (sc0 s))
  -- told upward
  have kk : ∀ (K2 : MS → Option (MS × Int32)), (∀ (D : Option (MS × Int32)) (w3 : MS), PP Q D (rsc (RSW Fv' AN TT CC ND CN UN FN p mu w00 w3) (bnd (fm_M_allEnds N w3) (fun u _ => gg_M_go N M2 u (I ((p : Nat) : Int))))) → PP Q D (K2 w3)) → ∀ b3 U3 W3 r k a0 nn m3 w3, PLs b3 p m3 w3 U3 (nb r + (Hs r).length + k) (W3 + 1) Y → RUs m3 w3 p r nb Hs (tkO Os r k) none a0 nn → GGm p m m3 → GGw p (wa w 94 p ((B : Nat) : Int)) w3 → (SCs p m (wa w 94 p ((B : Nat) : Int)) → SCs p m3 w3) → PP Q (q206 (SAf T Fv P p) N (qgo (SAf T Fv P p) N M1) m3 p (I ((v : Nat) : Int))) (K2 w3) := fun K2 cv b3 U3 W3 r k a0 nn m3 w3 a1 a2 a3 a4 a5 => cv _ _ (aft_gg hN per h149 ih ba (by omega) (GGm.tr gm a3) (GGw.tr gw' a4) a1 (fun s => a5 (sc' s)) (Or.inl ⟨r, nb, Hs, _, none, a0, nn, a2⟩) (by obtain ⟨y1, y2⟩ := a2.2.2.2.1; omega) a2.2.2.2.2.2.1.2.1).2
  have ke : ∀ (K2 : MS → Option (MS × Int32)), (∀ (D : Option (MS × Int32)) (w3 : MS), PP Q D (rsc (RSW Fv' AN TT CC ND CN UN FN p mu w00 w3) (bnd (fm_M_allEnds N w3) (fun u _ => gg_M_go N M2 u (I ((p : Nat) : Int))))) → PP Q D (K2 w3)) → ∀ m3 w3 wr t3 x3, GGm p m m3 → GGw p (wa w 94 p ((B : Nat) : Int)) w3 → (SCs p m (wa w 94 p ((B : Nat) : Int)) → SCs p m3 w3) → m3.1 (pq p 5) = w3.2.2.1 90 p → (wr = 0 ∨ wr = 1 ∨ wr = 2) → RQs Fv P Fv' (PWs AN) PR (enS m3 p t3 p i) (enR w3 p wr ((p : Nat) : Int) x3 0) p wr p x3 → PP Q (q206 (SAf T Fv P p) N (qgo (SAf T Fv P p) N M1) (enS m3 p t3 p i) p (I ((v : Nat) : Int))) (K2 (wi (enR w3 p wr ((p : Nat) : Int) x3 0) 151 1)) := fun K2 cv m3 w3 wr t3 x3 a1 a2 a3 a4 a5 a6 => cv _ _ (aft_end hN per h149 ih ba (by omega) (GGm.tr gm a1) (GGw.tr gw' a2) (fun s => a3 (sc' s)) a4 ⟨h955, hi⟩ (show F w0 150 = ((0 : Nat) : Int) ∧ 0 < 4000 from ⟨g150, by decide⟩) a5 a6).2
  cases g with
  | zero => exact zr.elim
  | succ g =>
  obtain ⟨za, zr⟩ := zr
  rcases zr with ⟨rfl, zn⟩ | ⟨k0, ⟨rfl, hk0⟩, e, O2, z1, z2⟩
  · -- none fits
    have up : ∀ (c : Nat), c < 22 → ∀ (d2 : Nat) (K2 : MS → Option (MS × Int32)), (∀ (D : Option (MS × Int32)) (w3 : MS), PP Q D (rsc (RSW Fv' AN TT CC ND CN UN FN p mu w00 w3) (bnd (fm_M_allEnds N w3) (fun u _ => gg_M_go N M2 u (I ((p : Nat) : Int))))) → PP Q D (K2 w3)) → PP Q (q195 (SAf T Fv P p) N (qgo (SAf T Fv P p) N M1) (tld m 1 (-1) (mk 1 ((c : Nat) : Int))) p (I ((v : Nat) : Int))) (bnd (fm_M_goesUp N (rc_M_error N d2) (wa w 94 p ((B : Nat) : Int)) (I 0) (mk 1 ((c : Nat) : Int))) (fun u _ => K2 u)) := fun c hc d2 K2 cv =>
      wrong_up (Or.inl ⟨rfl, rfl⟩) hpp hpr (by rw [wi_id pl.2.2.1.1]; exact pl) ru' (Nat.le_refl _) ⟨by omega, hW⟩ lb pt cx xc pb (GT_at cx hc) (GT_atom pb ⟨by omega, by omega⟩) (lit_b (Or.inr (Or.inl rfl)) (fun z => by omega) ⟨by omega, by omega⟩) ca ⟨m955, hi⟩ ⟨w150, by omega⟩ (by omega) (kk K2 cv) (ke K2 cv)
    rcases zn with ⟨rfl, c36⟩ | ⟨rfl, c37⟩ | ⟨rfl, c38⟩ | ⟨rfl, c34, csc⟩
    · exact none02_pp (c := 14) (wd := 36) hpp (Or.inl ⟨rfl, rfl, rfl⟩) tt hB' (by omega) (fun d2 K2 cv => up 14 (by omega) d2 K2 cv)
    · have h1 := in_37 ins c37
      obtain ⟨W1, rfl⟩ : ∃ W1, W = W1 + 1 := ⟨W - 1, by omega⟩
      exact none1_pp hpp tt hB' (by omega) pl (by omega) d1 ⟨d2, d3⟩ (fun d2 K2 cv => errOf_pp (ar := 15) hpp hpr pl ru' ⟨by omega, hW⟩ lb pt cx xc pb (pt.2.2.1.2 W1 (by omega)) (xc.2.2.2.2.2.2.2.1 W1 (by omega)) (pl.2.2.1.2.2 W1 (by omega)) ca ⟨by omega, by omega⟩ ⟨m955, hi⟩ ⟨w150, by omega⟩ (by omega) (kk K2 cv) (ke K2 cv))
    · exact none02_pp (c := 16) (wd := 38) hpp (Or.inr ⟨rfl, rfl, rfl⟩) tt hB' (by omega) (fun d2 K2 cv => up 16 (by omega) d2 K2 cv)
    · obtain ⟨x0, x1⟩ := in_34 ins c34
      have x2 := hx (by omega)
      have x3 := xx x0 (by omega)
      have es : sc = x := by omega
      obtain ⟨t, ht⟩ : ∃ t : Nat, F m (pq p 8) = ((t : Nat) : Int) := ⟨(F m (pq p 8)).toNat, by omega⟩
      refine none3_pp (t := t) hpp tt pl hB' (by omega) bY ht (by omega) (by omega) (by omega) t944.1 (fun z => un x0 (by rw [← es]; exact z)) (fun n hn => by have := F_r w 159; omega) (fun M' vk' m3 w3 q1 q2 a1 a2 a3 a4 a5 => ?_) (fun M' vk' m3 w3 l2 q q1 q2 a1 a2 a3 a4 a5 => ?_) (fun M' vk' m3 w3 k q1 q2 q3 a1 a2 a3 a4 a5 a6 a7 => go M' M d vk' B W Y j 3 sc (sc + 2) nb Hs Os k m3 w3 q1 (by omega) a1 a2 hB a7 hW a4 a5 a6)
      · exact (aft_gg hN per h149 ih ba (by omega) (GGm.tr gm a3) (GGw.tr gw a4) a2 (fun s => a5 (sc0 s)) (Or.inr (Or.inl ⟨j, nb, Hs, Os, sc, a1⟩)) (by obtain ⟨y1, y2⟩ := a1.2.1; omega) a1.2.2.2.2.2.1.2.1).1
      · exact (aft_gg hN per h149 ih ba (by omega) (GGm.tr gm a3) (GGw.tr gw a4) a2 (fun s => a5 (sc0 s)) (Or.inl ⟨j, nb, Hs, Os, none, l2, q, a1⟩) (by obtain ⟨y1, y2⟩ := a1.2.2.2.1; omega) a1.2.2.2.2.2.1.2.1).1
  · -- part k0
    have bb : (kd = 0 → ∃ n0 : Nat, A w 41 k0 = ((n0 : Nat) : Int) ∧ n0 ≤ W ∧ n0 ≤ 100) ∧ (kd = 1 → 1 ≤ W) ∧ (kd = 3 → Y ≤ 30 ∧ ∃ t : Nat, F m (pq p 8) = ((t : Nat) : Int) ∧ t < Y) := by
      rcases z1 with ⟨z1, -, -⟩ | ⟨c19, -, n, e2, hn, -⟩
      · refine ⟨fun c => ⟨0, ?_, by omega, by omega⟩, fun c => by omega, fun c => by omega⟩
        rcases z1 with z1 | ⟨-, z1⟩
        · omega
        · rw [ro_e (by unfold PRr; omega)] at z1
          exact z1
      · have q := in_19 ins c19
        have x2 := hx (by omega)
        rcases hn with ⟨rfl, n1, n2, n3⟩ | ⟨rfl, rfl, n3⟩ | ⟨rfl, rfl, n3⟩
        · rw [ro_e (by unfold PRr; omega)] at n2
          refine ⟨fun _ => ⟨n, n2, ?_, by omega⟩, fun c => by omega, fun c => by omega⟩
          rcases q with ⟨n', q1, q2⟩ | ⟨q1, -⟩ | ⟨q1, -⟩ <;> omega
        · refine ⟨fun c => by omega, fun _ => ?_, fun c => by omega⟩
          rcases q with ⟨n', q1, q2⟩ | ⟨q1, q2⟩ | ⟨q1, -⟩ <;> omega
        · refine ⟨fun c => by omega, fun c => by omega, fun _ => ⟨bY, (F m (pq p 8)).toNat, by omega, ?_⟩⟩
          have x0 : x ≠ 0 := by
            rcases q with ⟨n', q1, q2⟩ | ⟨q1, q2⟩ | ⟨-, q2⟩
            · omega
            · omega
            · exact q2
          have x3 := xx x0 (by omega)
          omega
    subst hB
    have fl := ru'.1.1.2.1 j (Nat.le_refl _)
    refine try_pp (fa' := fa') (na := na) hpp tt pl (by omega) hW (by omega) (by omega) ⟨⟨hpp, ru'.2.2.2.2.1⟩, ⟨ru'.1.1.1.2.1, ru'.1.1.1.2.2, fl.2.2.1.2, fl.2.2.2.2.1⟩, ⟨pl.1.2.1, pt.1.2.2, hp2', pl.1.1.2.2⟩, cx, per.2.1, atf, nd.2⟩ pt xf h42 (by omega) bb.1 bb.2.1 bb.2.2 (fun m4 w4 fl a1 a2 a3 a4 a5 a6 => go M1 M d v _ W Y j kd sc fl nb Hs Os _ m4 w4 (Nat.le_refl _) (by omega) a1 a2 rfl a6 hW a3 a4 a5) (fun M' vk' m3 w3 B3 W3 Y3 O2 y a n q1 q2 a1 a2 a3 a4 a5 => ?_) (fun M' vk' m3 w3 B3 W3 Y3 O2 a n q1 q2 a1 a2 a3 a4 a5 a6 => ?_)
    · exact (aft_gg hN per h149 ih ba (by omega) (GGm.tr gm a3) (GGw.tr gw a4) a1 (fun s => a5 (sc0 s)) (Or.inl ⟨j, nb, Hs, _, y, a, n, a2⟩) (by obtain ⟨y1, y2⟩ := a2.2.2.2.1; omega) a2.2.2.2.2.2.1.2.1).1
    · obtain ⟨f3, q3, l3⟩ : ∃ f3, f3 + vk' ≤ 900000000 ∧ LPQ T Fv P PR p f3 m3 := by
        rcases a6 with ⟨e1, e2⟩ | ⟨k, e, hs⟩
        · exact ⟨f, by omega, by rw [e1]; exact l⟩
        · obtain ⟨c, c1, c2⟩ := SAf_l hs (by omega) a2.2.2.2.2.2.1.2.1 ((congrArg Int32.toInt (a3.2.2.2.2.2.2 942 (by omega))).trans m942)
          exact ⟨c, by omega, c2⟩
      exact aft_67 per h149 ih ba q3 l3 (GGm.tr gm a3) (GGw.tr gw a4) a1 (fun s => a5 (sc0 s)) a2
end
