/-! steps: a receive -/
set_option maxRecDepth 100000
section
variable {T : TYc} {Fv Fv' : Int64 → Int64 → Prop} {P : Int64 → Prop} {AN : Nat} {TT : TY} {CC : CY} {pM pE : Nat → Nat} {ND CN PN SN UN FN N PR p i v mu M1 M2 f U B W Y l j a n : Nat} {m w : MS} {Q : MS → Int32 → MS → Int32 → Prop} {b : Int → Nat → Nat → Prop} {ow kw ow' kd' : Nat → Nat} {nb : Nat → Nat} {Hs Os : Nat → List Nat} {y : Option (Nat × Nat × Nat)}
/-- parts are tried behind the step -/
theorem st_ta {M' vk d : Nat} {m4 w4 : MS} {B4 W4 Y4 j4 kd4 sc4 a4 : Nat} {nb4 : Nat → Nat} {Hs4 Os4 : Nat → List Nat} {k4 : Int} (ih : ∀ M1 v m w, SIA T Fv P Fv' AN TT CC pM pE ND CN PN SN UN FN p v m w → PP Q (qgo (SAf T Fv P p) N M1 m p (I ((v : Nat) : Int))) (gg_M_go N M2 w (I ((p : Nat) : Int)))) (s : STx T Fv P Fv' AN TT CC pM pE ND CN PN SN UN FN N PR p i v f b U B W Y l ow kw ow' kd' j nb Hs Os y a n m w) (hvk : vk < 1000000000) (t4 : TRs m4 w4 p j4 nb4 Hs4 Os4 kd4 sc4 a4 k4) (pl4 : PLs (bGd b U ow' kd') p m4 (wa w4 94 p ((B4 : Nat) : Int)) U B4 W4 Y4) (hW4 : W4 < 46000) (gm : GGm p m m4) (gw : GGw p w w4) (sc : SCs p m w → SCs p m4 w4) (e8 : w4.2.2.2 88 = w.2.2.2 88 ∧ w4.1 140 = w.1 140) : PP Q (q195 (SAf T Fv P p) N (qgo (SAf T Fv P p) N M') m4 p (I ((vk : Nat) : Int))) (bnd (gg_M_choose N (rc_M_error N d) N w4 1) (fun u _ => KRs Fv' AN TT CC ND CN UN FN N p mu M2 w u)) := by
  obtain ⟨⟨hN, hpr, pr24, hi, hf⟩, ⟨per, hAN⟩, ba, lp, -, -, ⟨pt, xc, h140⟩, -⟩ := id s
  have q5 : F m4 955 ≤ F m4 956 := by
    have y1 : F m4 955 = F m 955 := congrArg Int32.toInt gm.2.2.1
    have y2 : F m4 956 = F m 956 := congrArg Int32.toInt gm.2.2.2.2.1
    have y3 := ba.2.2.1.1
    have y4 := ba.2.2.1.2
    omega
  refine go195 t4.1.2.2.2.1.2.1 q5 (fun hs => ?_)
  have e : hp w4 p = hp w p := by
    unfold hp
    rw [e8.1]
  exact st_tr (M := N) (d := d) hN (by omega) per ba.2.2.2.1.1 hAN ih ba rfl hvk hs t4 pl4 (by rw [e]; exact xc.2.1) ((congrArg Int32.toInt e8.2).trans h140) hW4 gm gw sc
/-- it waits -/
theorem st_wn {M' vk : Nat} {m3 w3 : MS} {b3 : Int → Nat → Nat → Prop} {U3 B3 W3 Y3 j3 sc3 : Nat} {nb3 : Nat → Nat} {Hs3 Os3 : Nat → List Nat} (ih : ∀ M1 v m w, SIA T Fv P Fv' AN TT CC pM pE ND CN PN SN UN FN p v m w → PP Q (qgo (SAf T Fv P p) N M1 m p (I ((v : Nat) : Int))) (gg_M_go N M2 w (I ((p : Nat) : Int)))) (s : STx T Fv P Fv' AN TT CC pM pE ND CN PN SN UN FN N PR p i v f b U B W Y l ow kw ow' kd' j nb Hs Os y a n m w) (hvk : vk < 1000000000) (wn : WTn m3 w3 p j3 nb3 Hs3 Os3 sc3) (pl : PLs b3 p m3 w3 U3 B3 W3 Y3) (gm : GGm p m m3) (gw : GGw p w w3) (sc : SCs p m w → SCs p m3 w3) : PP Q (q195 (SAf T Fv P p) N (qgo (SAf T Fv P p) N M') m3 p (I ((vk : Nat) : Int))) (KRs Fv' AN TT CC ND CN UN FN N p mu M2 w w3) := by
  obtain ⟨⟨hN, hpr, pr24, hi, hf⟩, ⟨per, -⟩, ba, -⟩ := s
  have h149 : F w 149 = 0 := ba.2.2.2.1.1
  have r5 := wn.2.1
  exact (aft_gg hN per h149 ih ba (by omega) gm gw pl sc (Or.inr (Or.inl ⟨j3, nb3, Hs3, Os3, sc3, wn⟩)) (by omega) wn.2.2.2.2.2.1.2.1).1
/-- a receive -/
theorem sk_27 (ih : ∀ M1 v m w, SIA T Fv P Fv' AN TT CC pM pE ND CN PN SN UN FN p v m w → PP Q (qgo (SAf T Fv P p) N M1 m p (I ((v : Nat) : Int))) (gg_M_go N M2 w (I ((p : Nat) : Int)))) (s : STx T Fv P Fv' AN TT CC pM pE ND CN PN SN UN FN N PR p i v f b U B W Y l ow kw ow' kd' j nb Hs Os none a n m w) (h23 : A w 23 n = 27) (h31 : A w 31 n = -1) (c0 : A m 23 a = 31) (c1 : A m 23 (a + 1) = 0) (h27 : A w 27 n = (((Os j).length : Nat) : Int)) (rc : ∃ g, RCs (A m 23) (ROs w) (w.2.2.2 34) (CRs (A m 23) (ROs w) (w.2.2.2 34) g) g (a + 2) n (Hs j) (Os j)) : PP Q (q67 (SAf T Fv P p) N (qgo (SAf T Fv P p) N M1) m p (I ((v : Nat) : Int))) (bnd (fm_M_one N w (I ((n : Nat) : Int)) (I 27)) (fun u _ => KRs Fv' AN TT CC ND CN UN FN N p mu M2 w u)) := by
  obtain ⟨⟨r5, r8, r2⟩, ⟨ha, hn, hv, hpp, hj⟩, nd, ⟨pl, ru, bd⟩, ⟨n1, n2, n3⟩, bH, bW, bB, bY, nND, hN⟩ := st_b s
  obtain ⟨bd1, bd2, bd3, bd4⟩ := bd
  have tb := s.2.2.1.2.2.2.2.2.2.1
  have h955 := s.2.2.1.2.2.1.1
  have h956 := s.2.2.1.2.2.1.2
  rw [go_fl r5 r8 (by omega) r2 (by omega) c0 ⟨by omega, by omega⟩]
  exact op_rcv (K2 := fun u => KRs Fv' AN TT CC ND CN UN FN N p mu M2 w u) hpp pl ru (by omega) bY (by omega) (by omega) tb.2.2.1.1.1 c0 c1 h31 h23 h27 rc (fun M' vk' m3 w3 q1 q2 a1 a2 a3 a4 a5 => st_wn ih s (by omega) a1 a2 a3 a4 a5) (fun M' vk' m3 w3 l q q1 q2 a1 a2 a3 a4 a5 => st_rv ih s (by omega) a2 a1 a3 a4 a5) (fun M' vk' m3 w3 k q1 q2 q3 a1 a2 a3 a4 a5 a6 a7 => st_ta ih s (by omega) a1 a2 (by omega) a4 a5 a6 a7)
/-- the second of two nodes that go together with one word -/
theorem st_k0 (s : STx T Fv P Fv' AN TT CC pM pE ND CN PN SN UN FN N PR p i v f b U B W Y l ow kw ow' kd' j nb Hs Os y a n m w) {r : Nat} (hr : r < 100000) (u : MS) (Z : Option (MS × Int32)) (h98 : A u 98 (60 * p + j) = ((r : Nat) : Int)) (h109 : A u 109 p = 0) (h151 : F u 151 = 0) (h133 : F u 133 = ((p : Nat) : Int)) (h95 : A u 95 p = ((j + 1 : Nat) : Int)) (h149 : F u 149 = 0) (h150 : F u 150 = 0) (k : PP Q Z (bnd (fm_M_one N u (I ((r : Nat) : Int)) (I (A u 23 r))) (fun u3 _ => KRs Fv' AN TT CC ND CN UN FN N p mu M2 w u3))) : PP Q Z (KRs Fv' AN TT CC ND CN UN FN N p mu (M2 + 1) w u) := by
  obtain ⟨⟨hN, hpr, pr24, hi, hf⟩, ⟨per, hAN⟩, ba, lp, -, ru, -⟩ := id s
  have hj := ru.1.1.1.2.2
  refine pp_clr (fun rs => ?_)
  obtain ⟨PR', hp', al, wd, gf⟩ := rs
  have per3 : PER Fv' AN TT CC pM pE ND CN PN SN UN FN u := PER_fr per gf (by decide) (by decide)
  rw [ends_id h149 h150, bnd_so]
  refine go_r (by omega) h151 h109 h133 h95 hj h98 hr ?_
  refine r_cl (S := fun u3 _ => RSW Fv' AN TT CC ND CN UN FN p mu w u3) ?_ k
  obtain ⟨mm, hmm, fr, ro, rn, rh, cb, pc, ct, q, n0, ow2, kd2, bxM, atq, -, mode⟩ : ∃ mm, mm < mu ∧ STE Fv' (PQ AN PR') PR' TT CC ND CN p mm u := by
    rcases al with al | al | al | ⟨mm, h1, h2⟩
    · have := al.2
      omega
    · obtain ⟨_, _, _, _, _, _, _, _, _, _, _, _, -, c, -⟩ := al
      omega
    · obtain ⟨_, _, _, _, _, _, _, _, _, _, _, _, -, -, -, c⟩ := al
      omega
    · exact ⟨mm, h1, h2⟩
  obtain ⟨mei, ⟨⟨f1, f2, f3⟩, -⟩, q98, -⟩ := id atq
  have efr : fr = j + 1 := by omega
  subst efr
  have eq : q = r := by
    have q98' : A u 98 (60 * p + j) = ((q : Nat) : Int) := q98
    omega
  subst eq
  have hA2 : AN ≤ 3000 := by
    obtain ⟨-, -, -, -, fa', na, atf⟩ := ba.2.2.2.2.2.2.1
    have e2 : F w 14 = ((na : Nat) : Int) := by
      show (w.1 14).toInt = _
      rw [atf.2.1.1, I_ti (by omega) (by have := atf.1.2.2.2.2; omega)]
    have e4 := atf.1.2.2.2.2
    omega
  have dw := mei.1
  intro u3 z e
  obtain ⟨PR2, k1, k2, k3, k4⟩ := pk_ok (one_ok (N := N) atq h109 mode per3.2.2.2.2.1 hA2 per3.2.2.2.1 (PER_pgm per3 dw.1.2) per3.2.2.2.2.2 wd ⟨by omega, h151⟩ rfl hN) u3 z e
  refine ⟨PR2, k1, ?_, k3, FR.tr gf k4⟩
  rcases k2 with k2 | k2 | k2 | ⟨m9, k2, k5⟩
  · exact Or.inl k2
  · exact Or.inr (Or.inl k2)
  · exact Or.inr (Or.inr (Or.inl k2))
  · exact Or.inr (Or.inr (Or.inr ⟨m9, by omega, k5⟩))
end
