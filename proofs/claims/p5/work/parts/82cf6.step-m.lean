section
set_option maxRecDepth 100000
def RFx (TT : TY) (ND : Nat) (w : MS) (p j W B n : Nat) : Prop := ∃ rb rm : Nat, (W = rb + tH TT n ∧ B = rm + tM TT n ∧ n < ND) ∧ (∀ c : Nat, A w 106 p = ((c + 1 : Nat) : Int) → ∃ W0 B0 : Nat, A w 104 (1600 * p + c) = ((W0 : Nat) : Int) ∧ W0 ≤ rb + tB TT n ∧ A w 105 (1600 * p + c) = ((B0 : Nat) : Int) ∧ B0 ≤ rm + tD TT n ∧ (F w 152 = 1 → ((B0 : Nat) : Int) ≤ F w 156)) ∧ (F w 152 = 1 → F w 157 = ((rb + tB TT n : Nat) : Int) ∧ (0 ≤ F w 154 ∧ F w 154 < 100000) ∧ tG TT n ≠ 0) ∧ (F w 152 = 0 → tG TT n = 0) ∧ (A w 100 (60 * p + j) = ((rb : Nat) : Int) ∧ A w 99 (60 * p + j) + A w 101 (60 * p + j) = ((rm : Nat) : Int)) ∧ (tK TT n = 0 → ∀ c : Nat, A w 106 p = ((c + 1 : Nat) : Int) → A w 102 (1600 * p + c) < ((j : Nat) : Int))
section
variable {T : TY} {C : CY} {Fv : Int64 → Int64 → Prop} {P : Int64 → Prop} {pM pE ro rn rh cb pc ct ow kd : Nat → Nat} {ND CN PN SN UN FN PR p fr q n bxM mu W B : Nat} {w : MS}
theorem ct_top {i c0 k tp ro0 rn0 rh0 : Nat} (h : CTI w T ND p ct i c0 k tp ro0 rn0 rh0) (hk : 0 < k) : A w 104 (1600 * p + (c0 + k - 1)) = ((ro0 + tH T tp : Nat) : Int) ∧ A w 105 (1600 * p + (c0 + k - 1)) = ((rn0 + rh0 + tM T tp : Nat) : Int) ∧ A w 102 (1600 * p + (c0 + k - 1)) = ((i : Nat) : Int) := by
  obtain ⟨h0, -, -, -, -, -, h1, h2, h3, -⟩ := h (k - 1) (by omega)
  have e := h3 (by omega)
  rw [e] at h1 h2
  rw [show c0 + k - 1 = c0 + (k - 1) by omega]
  exact ⟨h1, h2, h0⟩
theorem ct_low {k tp : Nat} (h : FRS w T ND p fr ro rn rh cb pc ct k tp) (hg : PRG w T C pM pE ND CN PN SN UN FN) : ∀ e, e < fr → 0 < cb e → ∃ W0 B0 : Nat, A w 104 (1600 * p + (cb e - 1)) = ((W0 : Nat) : Int) ∧ W0 ≤ ro e ∧ A w 105 (1600 * p + (cb e - 1)) = ((B0 : Nat) : Int) ∧ B0 ≤ rn e ∧ A w 102 (1600 * p + (cb e - 1)) < ((e : Nat) : Int) := by
  obtain ⟨-, ⟨-, -, z0⟩, -, h4, -⟩ := h
  intro e
  induction e with
  | zero => intro _ c; omega
  | succ e ih =>
    intro he hc
    obtain ⟨-, q1, -, q3, q4, -, q6, q7, q8⟩ := h4 e he
    obtain ⟨n1, n2, n3, n4, n5, n6, n7, -⟩ := (hg.2.2.1 _ q1).1
    by_cases z : 0 < tK T (pc e)
    · obtain ⟨c1, c2, c3⟩ := ct_top q8 z
      obtain ⟨-, -, -, -, s5, s6, -⟩ := n7 z
      rw [q7]
      exact ⟨_, _, c1, by omega, c2, by omega, by omega⟩
    · have e0 : cb (e + 1) = cb e := by omega
      obtain ⟨W0, B0, g1, g2, g3, g4, g5⟩ := ih (by omega) (by omega)
      rw [e0]
      exact ⟨W0, B0, g1, by omega, g3, by omega, by omega⟩
theorem rf_fct (atq : ATQ Fv P PR T ND p w fr ro rn rh cb pc ct q n ow kd bxM) (mode : MODE w T C ND CN p (ro (fr - 1)) (rn (fr - 1)) (rh (fr - 1)) (sR T pc (fr - 1)) q bxM mu) (hg : PRG w T C pM pE ND CN PN SN UN FN) (h92 : A w 92 p = ((W : Nat) : Int)) (h94 : A w 94 p = ((B : Nat) : Int)) : RFx T ND w p (fr - 1) W B q := by
  obtain ⟨mei, frs, q98, qND, qL, q106⟩ := atq
  have e92 := mei.2.2.2.2.2.2.2.2.2.1.1
  have e94 := mei.2.2.2.2.2.2.2.2.2.2.1.1
  obtain ⟨n1, n2, n3, n4, n5, n6, n7, n8, -⟩ := (hg.2.2.1 _ qND).1
  have f1 := frs.1.1
  refine ⟨ro (fr - 1), rn (fr - 1) + rh (fr - 1), ⟨by omega, by omega, qND⟩, fun c hc => ?_, fun h1 => ?_, fun h0 => ?_, ?_, fun z c hc => ?_⟩
  · have gd : ∀ B0 : Nat, (B0 ≤ rn (fr - 1) ∨ (0 < tK T q ∧ B0 = rn (fr - 1) + rh (fr - 1) + tM T (tC T q))) → F w 152 = 1 → ((B0 : Nat) : Int) ≤ F w 156 := fun B0 hb h1 => by
      rcases mode with ⟨-, g1, -⟩ | ⟨-, c, s, many, hg', hb', m, r, trs, -⟩
      · omega
      · have t6 := trs.2.1
        have t7 := trs.2.2.2.2.1
        rcases hb with hb | ⟨hk, hb⟩
        · omega
        · have := (t7 hk).2.1
          omega
    by_cases z : 0 < tK T q
    · obtain ⟨c1, c2, -⟩ := ct_top frs.2.2.2.2 z
      obtain ⟨-, -, -, -, s5, s6, -⟩ := n7 z
      rw [show cb (fr - 1) + tK T q - 1 = c by omega] at c1 c2
      exact ⟨_, _, c1, by omega, c2, by omega, gd _ (Or.inr ⟨z, rfl⟩)⟩
    · obtain ⟨W0, B0, g1, g2, g3, g4, -⟩ := ct_low frs hg (fr - 1) (by omega) (by omega)
      rw [show cb (fr - 1) - 1 = c by omega] at g1 g3
      exact ⟨W0, B0, g1, by omega, g3, by omega, gd _ (Or.inl g4)⟩
  · rcases mode with ⟨-, g1, -⟩ | ⟨-, c, s, many, hg', hb', m, r, trs, g2, g3, g4, -⟩
    · omega
    · obtain ⟨c2, y1, y2, -, -, -, -, y3, -⟩ := n8 (by omega)
      have ec : c2 = c := by omega
      subst ec
      have hcn := hg.1.2.1
      rcases trs.2.2.1 with h | ⟨c3, k1, k2, -, k4, -⟩
      · omega
      · have ec : c3 = c2 := by omega
        subst ec
        exact ⟨by rw [g4, ← k4, y3], ⟨by omega, by omega⟩, by omega⟩
  · rcases mode with ⟨g0, -⟩ | ⟨g1, -⟩
    · exact g0
    · omega
  · obtain ⟨k1, k2, k3, -⟩ := frs.2.2.1 (fr - 1) (by omega)
    exact ⟨k1, by omega⟩
  · obtain ⟨W0, B0, -, -, -, -, g5⟩ := ct_low frs hg (fr - 1) (by omega) (by omega)
    rw [show cb (fr - 1) - 1 = c by omega] at g5
    exact g5
end
noncomputable def KRs (Fv' : Int64 → Int64 → Prop) (AN : Nat) (TT : TY) (CC : CY) (ND CN UN FN N p mu M2 : Nat) (w0 u : MS) : Option (MS × Int32) := rsc (RSW Fv' AN TT CC ND CN UN FN p mu w0 u) (bnd (fm_M_allEnds N u) (fun u _ => gg_M_go N M2 u (I ((p : Nat) : Int))))
def STx (T : TYc) (Fv : Int64 → Int64 → Prop) (P : Int64 → Prop) (Fv' : Int64 → Int64 → Prop) (AN : Nat) (TT : TY) (CC : CY) (pM pE : Nat → Nat) (ND CN PN SN UN FN N PR p i v f : Nat) (b : Int → Nat → Nat → Prop) (U B W Y l : Nat) (ow kw ow' kd' : Nat → Nat) (j : Nat) (nb : Nat → Nat) (Hs Os : Nat → List Nat) (y : Option (Nat × Nat × Nat)) (a n : Nat) (m w : MS) : Prop :=
  (11000000 ≤ N ∧ p < PR ∧ PR ≤ 24 ∧ i < 24 ∧ f + v ≤ 900000000) ∧ (PER Fv' AN TT CC pM pE ND CN PN SN UN FN w ∧ F w 14 = ((AN : Nat) : Int)) ∧ BAs Fv P Fv' (PWs AN) PR p i m w ∧ LPQ T Fv P PR p f m ∧ PLs (bGd b U ow' kd') p m w U B W Y ∧ RUs m w p j nb Hs Os y a n ∧ (PTQ m p U ow kw Fv P B W Y ∧ CX w p (hp w p) U ow' kd' Fv' (PWs AN) W B Y ∧ F w 140 = -1) ∧ (W ≤ 45600 ∧ B ≤ 2400 ∧ Y ≤ 30) ∧ BDr p W l m ∧ SCs p m w ∧ WLs (RRp p) PR Fv P Fv' (PWs AN) none i 0 m w ∧ RFx TT ND w p j W B n
section
variable {T : TYc} {Fv Fv' : Int64 → Int64 → Prop} {P : Int64 → Prop} {AN : Nat} {TT : TY} {CC : CY} {pM pE : Nat → Nat} {ND CN PN SN UN FN N PR p i v mu M1 M2 : Nat} {m w : MS} {Q : MS → Int32 → MS → Int32 → Prop}
theorem cl_any {f : Nat} (l : LPQ T Fv P PR p f m) (h9 : F m (pq p 9) = 0) (h8 : F m 1108 = 0) : ∃ i h mm L g x j wb nb cb rk, MIc T Fv P PR p m i h mm L g x j wb nb cb rk := by
  rcases l with ⟨⟨i, h, mm, L, g, x, j, wb, nb, cb, rk, M, -⟩, -⟩ | l | l
  · exact ⟨i, h, mm, L, g, x, j, wb, nb, cb, rk, M⟩
  · have := l.2.1
    omega
  · exact absurd h8 (l.2.1.2 h9)
theorem st_of (hN : 11000000 ≤ N) (s : SIA T Fv P Fv' AN TT CC pM pE ND CN PN SN UN FN p v m w) (h9 : F m (pq p 9) = 0) (h8 : F m 1108 = 0) : ∃ PR i f b U B W Y l ow kw ow' kd' j nb Hs Os y a n mu, STx T Fv P Fv' AN TT CC pM pE ND CN PN SN UN FN N PR p i v f b U B W Y l ow kw ow' kd' j nb Hs Os y a n m w ∧ PK (fun u _ => RSW Fv' AN TT CC ND CN UN FN p mu w u) (fm_M_one N w (I ((n : Nat) : Int)) (I (A w 23 n))) ∧ ∀ k, k < W → so (m.2.2.2 (pq p 35) k) = 4 → 0 ≤ va (m.2.2.2 (pq p 35) k) ∧ va (m.2.2.2 (pq p 35) k) < ((PR : Nat) : Int) := by
  obtain ⟨PR, f, mu, hpr, ⟨hf, l⟩, ⟨al, wd, per⟩, ⟨i, W, ⟨h956, h955⟩, ⟨h149, h150⟩, cn, wt⟩, tb⟩ := s
  obtain ⟨sf, -, pr, -⟩ := id W
  rcases pr p hpr with ⟨x1, x2, b, U, B, W4, Y, pl, sc, rr⟩ | ⟨x1, -⟩
  · have sp : SPs p m w := by
      rcases rr with ⟨-, sp⟩ | ⟨c, -⟩
      · exact sp
      · exact absurd rfl c
    rcases sp with ⟨j, nb, Hs, Os, y, a, n, ru⟩ | ⟨j, nb, Hs, Os, sc, wn⟩ | ⟨j, nb, Hs, Os, a, n, li⟩
    · obtain ⟨⟨fa, -⟩, ⟨r2, r3⟩, -, ⟨r5, r6⟩, -, ⟨r8, r9, r10⟩, r11, -⟩ := id ru
      obtain ⟨⟨ow, kw, pt⟩, ⟨ow', kd', xc⟩, ⟨bW, bB, bY⟩, -⟩ := SF_al sf hpr x1 pl
      have pr24 : PR ≤ 24 := sf.1.1.1.1.2
      have hi : i < 24 := by
        have h2 := sf.1.1.1.2.2.2.1.1
        have h3 := cEc_lt (m := m) (q := p) PR hpr x1
        omega
      obtain ⟨fr, ro, rn, rh, cb, pc, ct, q, n0, ow2, kd2, bxM, mm, atq, h109, mode⟩ : ∃ fr ro rn rh cb pc ct q n0 ow2 kd2 bxM mm, ATQ Fv' (PQ AN PR) PR TT ND p w fr ro rn rh cb pc ct q n0 ow2 kd2 bxM ∧ A w 109 p = 0 ∧ MODE w TT CC ND CN p (ro (fr - 1)) (rn (fr - 1)) (rh (fr - 1)) (sR TT pc (fr - 1)) q bxM mm := by
        rcases al with al | al | al | ⟨mm, -, fr, ro, rn, rh, cb, pc, ct, q, n0, ow2, kd2, bxM, a1, a2, a3⟩
        · have := al.2
          omega
        · obtain ⟨_, _, _, _, _, _, _, _, _, _, _, _, -, c, -⟩ := al
          omega
        · obtain ⟨_, _, _, _, _, _, _, _, _, _, _, _, -, -, -, c⟩ := al
          omega
        · exact ⟨fr, ro, rn, rh, cb, pc, ct, q, n0, ow2, kd2, bxM, mm, a1, a2, a3⟩
      obtain ⟨mei, ⟨⟨f1, f2, f3⟩, -, f5, -⟩, q98, qND, -⟩ := id atq
      have efr : fr = j + 1 := by
        have := fa.1.2.1
        omega
      subst efr
      have eq : q = n := by
        have q98' : A w 98 (60 * p + j) = ((q : Nat) : Int) := q98
        omega
      subst eq
      have bW2 : W4 ≤ 45600 := by
        have e1 := mei.2.2.2.2.2.2.2.2.2.1.1
        have e2 := pl.2.2.1.2.1
        have e3 := (f5 (j + 1 - 1) (by omega)).2.2.2.2.1
        have e4 := (per.1.2.2.1 q qND).1.1
        have hj := fa.1.2.2
        have ej : j + 1 - 1 = j := by omega
        rw [ej] at e1 e3
        have e5 : W4 = ro j + tH TT q := by omega
        omega
      have bB2 : B ≤ 2400 := by
        obtain ⟨i2, h, mm2, L, g, x, j2, wb, nb2, cb2, rk, M⟩ := cl_any l r5 r8
        have e1 := (MI_b M).2.2.1
        have e2 := M.2.2.2.2.1.2
        have e3 := pl.2.1.1
        omega
      have hA2 : AN ≤ 3000 := by
        obtain ⟨-, -, -, -, fa', na, atf⟩ := id tb
        have e2 : F w 14 = ((na : Nat) : Int) := by
          show (w.1 14).toInt = _
          rw [atf.2.1.1, I_ti (by omega) (by have := atf.1.2.2.2.2; omega)]
        have e3 := per.2.2.2.1
        have e4 := atf.1.2.2.2.2
        omega
      obtain ⟨-, ⟨l5, d1, d2, d3⟩, -⟩ := pt.2.2.2.2
      have hE : F w 149 = F w 150 ∧ F w 151 = 0 := ⟨by omega, r10⟩
      refine ⟨PR, i, f, b, U, B, W4, Y, l5, ow, kw, ow', kd', j, nb, Hs, Os, y, a, q, mm, ⟨⟨hN, hpr, pr24, hi, hf⟩, ⟨per, per.2.2.2.1⟩, ⟨hpr, WL_mono W (fun r h => ?_) RRt_stb, ⟨h955, h956⟩, ⟨h149, h150⟩, cn, wt, tb, ⟨x1, x2⟩, sf.1.1.1.1.1, sf.2.1.1.1.1⟩, l, PLs_gd pl xc, ru, ⟨pt, xc, sf.2.1.1.2.2.2.1⟩, ⟨bW2, bB2, bY⟩, ⟨by omega, d1, d2, d3⟩, sc, WL_mono W (fun r h => ?_) RRp_stb, rf_fct atq mode per.1 pl.2.2.1.2.1 pl.2.1.2.1⟩, pk_ok (one_ok (N := N) atq h109 mode per.2.2.2.2.1 hA2 per.2.2.2.1 (PER_pgm per pr24) per.2.2.2.2.2 wd hE rfl hN), fun k hk h4 => ?_⟩
      · rcases h with ⟨e, -⟩ | ⟨-, h⟩
        · exact Or.inl e
        · exact Or.inr h
      · rcases h with ⟨e, -⟩ | ⟨e, h⟩
        · exact Or.inl ⟨e, j, nb, Hs, Os, y, a, q, ru⟩
        · exact Or.inr ⟨e, h⟩
      · have e1 := mei.2.2.2.2.2.2.2.2.2.1.1
        have e2 := pl.2.2.1.2.1
        have gt := mei.2.2.2.2.2.2.2.2.2.2.2.2.1 k (by omega)
        rw [RTb_n (pl.2.2.1.2.2 k hk) (by unfold isH; omega)] at gt
        rcases gt with ⟨-, q⟩ | ⟨z, -⟩
        · rcases q with q | q | q | q | q
          · omega
          · omega
          · omega
          · have := q.1
            omega
          · exact q.2
        · exfalso
          unfold isH at z
          omega
    · have := wn.2.1.1
      omega
    · exact absurd h8 li.2.2.2.2.1.1
  · omega
variable {f U B W Y l j a n : Nat} {b : Int → Nat → Nat → Prop} {ow kw ow' kd' : Nat → Nat} {nb : Nat → Nat} {Hs Os : Nat → List Nat} {y : Option (Nat × Nat × Nat)}
theorem st_go {Z : Option (MS × Int32)} (s : STx T Fv P Fv' AN TT CC pM pE ND CN PN SN UN FN N PR p i v f b U B W Y l ow kw ow' kd' j nb Hs Os y a n m w) (pk : PK (fun u _ => RSW Fv' AN TT CC ND CN UN FN p mu w u) (fm_M_one N w (I ((n : Nat) : Int)) (I (A w 23 n)))) (k : PP Q Z (bnd (fm_M_one N w (I ((n : Nat) : Int)) (I (A w 23 n))) (fun u _ => KRs Fv' AN TT CC ND CN UN FN N p mu M2 w u))) : PP Q Z (gg_M_go N (M2 + 1) w (I ((p : Nat) : Int))) := by
  obtain ⟨⟨hN, hpr, pr24, -⟩, -, -, -, -, ru, -⟩ := s
  obtain ⟨⟨fa, -⟩, ⟨r2, r3⟩, ⟨f0, cr0⟩, ⟨r5, r6⟩, -, ⟨r8, r9, r10⟩, r11, -⟩ := id ru
  have cb := CR_b cr0
  exact go_r (by omega) r10 r6 r11 fa.1.2.1 fa.1.2.2 r3 (by omega) (r_cl pk k)
theorem st_ru {m3 w3 : MS} {b3 : Int → Nat → Nat → Prop} {U3 B3 W3 Y3 j3 a3 n3 : Nat} {nb3 : Nat → Nat} {Hs3 Os3 : Nat → List Nat} {y3 : Option (Nat × Nat × Nat)} (ih : ∀ M1 v m w, SIA T Fv P Fv' AN TT CC pM pE ND CN PN SN UN FN p v m w → PP Q (qgo (SAf T Fv P p) N M1 m p (I ((v : Nat) : Int))) (gg_M_go N M2 w (I ((p : Nat) : Int)))) (s : STx T Fv P Fv' AN TT CC pM pE ND CN PN SN UN FN N PR p i v f b U B W Y l ow kw ow' kd' j nb Hs Os y a n m w) (pl : PLs b3 p m3 w3 U3 B3 W3 Y3) (ru : RUs m3 w3 p j3 nb3 Hs3 Os3 y3 a3 n3) (gm : GGm p m m3) (gw : GGw p w w3) (sc : SCs p m w → SCs p m3 w3) : PP Q (q195 (SAf T Fv P p) N (qgo (SAf T Fv P p) N M1) m3 p (I ((v : Nat) : Int))) (KRs Fv' AN TT CC ND CN UN FN N p mu M2 w w3) ∧ PP Q (q206 (SAf T Fv P p) N (qgo (SAf T Fv P p) N M1) m3 p (I ((v : Nat) : Int))) (KRs Fv' AN TT CC ND CN UN FN N p mu M2 w w3) := by
  obtain ⟨⟨hN, hpr, pr24, hi, hf⟩, ⟨per, -⟩, ba, -⟩ := s
  have h149 : F w 149 = 0 := ba.2.2.2.1.1
  have r5 := ru.2.2.2.1
  exact aft_gg hN per h149 ih ba (by omega) gm gw pl sc (Or.inl ⟨j3, nb3, Hs3, Os3, y3, a3, n3, ru⟩) (by omega) ru.2.2.2.2.2.1.2.1
theorem st_fg {m3 w3 : MS} {b3 : Int → Nat → Nat → Prop} {U3 B3 W3 Y3 j3 a3 n3 jj : Nat} {nb3 : Nat → Nat} {Hs3 Os3 : Nat → List Nat} {y3 : Option (Nat × Nat × Nat)} (ih : ∀ M1 v m w, SIA T Fv P Fv' AN TT CC pM pE ND CN PN SN UN FN p v m w → PP Q (qgo (SAf T Fv P p) N M1 m p (I ((v : Nat) : Int))) (gg_M_go N M2 w (I ((p : Nat) : Int)))) (s : STx T Fv P Fv' AN TT CC pM pE ND CN PN SN UN FN N PR p i v f b U B W Y l ow kw ow' kd' j nb Hs Os y a n m w) (hj : jj < 60) (pl : PLs b3 p m3 w3 U3 B3 W3 Y3) (ru : RUs m3 w3 p j3 nb3 Hs3 Os3 y3 a3 n3) (fm : FGm p m m3) (fw : FGw p jj w w3) : PP Q (q195 (SAf T Fv P p) N (qgo (SAf T Fv P p) N M1) m3 p (I ((v : Nat) : Int))) (KRs Fv' AN TT CC ND CN UN FN N p mu M2 w w3) := (st_ru ih s pl ru (GGm_fg fm) (GGw_fg fw hj) (fun s => SC_fg s fm fw)).1
end
end
section
set_option maxRecDepth 100000
section
variable {T : TYc} {Fv Fv' : Int64 → Int64 → Prop} {P : Int64 → Prop} {AN : Nat} {TT : TY} {CC : CY} {pM pE : Nat → Nat} {ND CN PN SN UN FN N PR p i v mu M1 M2 f U B W Y l j a n W2 : Nat} {m w w2 : MS} {Q : MS → Int32 → MS → Int32 → Prop} {b : Int → Nat → Nat → Prop} {ow kw ow' kd' : Nat → Nat} {nb : Nat → Nat} {Hs Os : Nat → List Nat} {y : Option (Nat × Nat × Nat)} {how kn : Int} {t x : Int64}
theorem go206 {Sf : MS → Int32 → Prop} {β : Type} {G : MS → Nat → Int32 → Option (MS × Int32)} {k : Nat} {Q : MS → Int32 → MS → β → Prop} {Z : Option (MS × β)} (h : F m 955 ≤ F m 956) (hh : Sf m (I ((k : Nat) : Int)) → PP Q (G m p (I ((k + 1 : Nat) : Int))) Z) : PP Q (q206 Sf N G m p (I ((k : Nat) : Int))) Z := by
  unfold q206 hb_Ma_goOn_206
  refine pp_cll (fun hs => ?_)
  rw [set_id h, bnd_so, show I ((k : Nat) : Int) + 1 = I ((k + 1 : Nat) : Int) from addN]
  exact hh hs
theorem ct_mon2 (ct : CTs m w p j nb Hs Os) {nC c : Nat} (h : F m (pq p 28) = ((nC : Nat) : Int)) (hc : c < nC) : A w 106 p = ((nC : Nat) : Int) ∧ A w 105 (1600 * p + c) ≤ A w 105 (1600 * p + (nC - 1)) := by
  obtain ⟨n, c1, c2, -, c4, -⟩ := ct
  have en : n = nC := by omega
  subst en
  refine ⟨c2, ?_⟩
  have q : ∀ e, c + e < n → A w 105 (1600 * p + c) ≤ A w 105 (1600 * p + (c + e)) := by
    intro e
    induction e with
    | zero => intro _; exact Int.le_refl _
    | succ e ih =>
      intro he
      have h1 := ih (by omega)
      have h2 := (c4 (c + e) (by omega)).2
      rw [show c + (e + 1) = c + e + 1 by omega]
      omega
  have := q (n - 1 - c) (by omega)
  rw [show c + (n - 1 - c) = n - 1 by omega] at this
  exact this
theorem st_tr {b2 : Int → Nat → Nat → Prop} {M' M d v' B4 W4 Y4 j4 kd4 sc4 a4 : Nat} {nb4 : Nat → Nat} {Hs4 Os4 : Nat → List Nat} {k4 : Int} {m0 w0 m4 w4 : MS} {K : MS → Unit → Option (MS × Int32)} (hN : 11000000 ≤ N) (hpp : p < 24) (per : PER Fv' AN TT CC pM pE ND CN PN SN UN FN w) (h149 : F w 149 = 0) (hAN : F w0 14 = ((AN : Nat) : Int)) (ih : ∀ M1 v m w, SIA T Fv P Fv' AN TT CC pM pE ND CN PN SN UN FN p v m w → PP Q (qgo (SAf T Fv P p) N M1 m p (I ((v : Nat) : Int))) (gg_M_go N M2 w (I ((p : Nat) : Int)))) (ba : BAs Fv P Fv' (PWs AN) PR p i m0 w0) (hK : K = fun u _ => KRs Fv' AN TT CC ND CN UN FN N p mu M2 w u) (hv : v' < 1000000000) (hs : SAf T Fv P p m4 (I ((v' : Nat) : Int))) (t4 : TRs m4 w4 p j4 nb4 Hs4 Os4 kd4 sc4 a4 k4) (pl4 : PLs (bGd b2 U ow' kd') p m4 (wa w4 94 p ((B4 : Nat) : Int)) U B4 W4 Y4) (hp4 : HP (hp w4 p) U ow' kd' Fv' (PWs AN)) (h140 : F w4 140 = -1) (hW4 : W4 < 46000) (a3 : GGm p m0 m4) (a4' : GGw p w0 w4) (a5 : SCs p m0 w0 → SCs p m4 w4) : PP Q (qgo (SAf T Fv P p) N M' m4 p (I ((v' + 1 : Nat) : Int))) (bnd (gg_M_choose N (rc_M_error N d) M w4 1) K) := by
  subst hK
  have h9 : F m4 1109 = 0 := t4.1.2.2.2.1.2.1
  have m9 : F m4 942 = ((PR : Nat) : Int) := (congrArg Int32.toInt (a3.2.2.2.2.2.2 942 (by omega))).trans ba.2.2.2.2.2.2.2.2.1
  obtain ⟨c, cc1, cc2⟩ := SAf_l hs (by omega) h9 m9
  cases M' with
  | zero => exact pp_nl
  | succ M' =>
  show PP Q (q67 (SAf T Fv P p) N (qgo (SAf T Fv P p) N M') m4 p (I ((v' + 1 : Nat) : Int))) _
  have eB : B4 = nb4 j4 + (Hs4 j4 ++ Os4 j4).length := by
    have h1 := pl4.2.1.1
    have h2 := t4.1.1.1.2.2.2
    omega
  exact tr_pp hN hpp per h149 hAN ih ba M' M d (v' + 1) c b2 U B4 W4 Y4 j4 kd4 sc4 a4 nb4 Hs4 Os4 k4 ow' kd' m4 w4 cc1 cc2 t4 pl4 eB hp4 h140 hW4 a3 a4' a5
theorem st_er {d : Nat} (ih : ∀ M1 v m w, SIA T Fv P Fv' AN TT CC pM pE ND CN PN SN UN FN p v m w → PP Q (qgo (SAf T Fv P p) N M1 m p (I ((v : Nat) : Int))) (gg_M_go N M2 w (I ((p : Nat) : Int)))) (s : STx T Fv P Fv' AN TT CC pM pE ND CN PN SN UN FN N PR p i v f b U B W Y l ow kw ow' kd' j nb Hs Os y a n m w) (hv : (how = 1 ∧ kn = 0) ∨ (how = 2 ∧ kn = 1) ∨ (how = 3 ∧ kn = 2)) (pl2 : PLs (bGd b U ow' kd') p (wi m (pq p 26) ((W2 : Nat) : Int)) w2 U B W2 Y) (hW2 : W2 ≤ W) (hT : W + tB TT n ≤ W2 + tH TT n) (fw : FGw p j w w2) (h88 : w2.2.2.2 88 = w.2.2.2 88 ∧ w2.1 140 = w.1 140) (g : GT U ow kw P t) (g' : GT U ow' kd' (PWs AN) x) (rt : RTb (bGd b U ow' kd') t x) : PP Q (q195 (SAf T Fv P p) N (qgo (SAf T Fv P p) N M1) (tld m how (-1) t) p (I ((v : Nat) : Int))) (bnd (fm_M_goesUp N (rc_M_error N d) w2 (I kn) x) (fun u _ => KRs Fv' AN TT CC ND CN UN FN N p mu M2 w u)) := by
  obtain ⟨⟨hN, hpr, pr24, hi, hf⟩, ⟨per, hAN⟩, ba, lp, pl, ru, ⟨pt, xc, h140⟩, ⟨bW, bB, bY⟩, bd, sc, wl, rb, rm, ⟨eW, eB, nND⟩, rct, rgd, -⟩ := id s
  obtain ⟨⟨fa, ct⟩, ⟨r2, r3⟩, ⟨f0, cr0⟩, ⟨r5, r6⟩, gd, ⟨r8, r9, r10⟩, r11, -⟩ := id ru
  have hj := fa.1.2.2
  have h149 : F w 149 = 0 := ba.2.2.2.1.1
  have h150 : F w 150 = 0 := ba.2.2.2.1.2
  have h955 : F m 955 = ((i : Nat) : Int) := ba.2.2.1.1
  have h956 : F m 956 = ((i : Nat) : Int) := ba.2.2.1.2
  have gw2 : GGw p w w2 := GGw_fg fw hj
  have sc2 : SCs p m w → SCs p m w2 := fun s => SC_fg s FGm.rf fw
  have ru2 : RUb m w2 p j nb Hs Os y := RUb_fg (RUs_b ru) FGm.rf fw
  have pt2 := PTQ_drop pt hW2
  have cx : CTX Fv P m := (LPQ_dc lp).2
  have hp2 : HP (hp w2 p) U ow' kd' Fv' (PWs AN) := by
    have e : hp w2 p = hp w p := by
      unfold hp
      rw [h88.1]
    rw [e]
    exact xc.2.1
  have h140' : F w2 140 = -1 := (congrArg Int32.toInt h88.2).trans h140
  have hP : ∀ t, P t → PWs AN t := by
    obtain ⟨-, -, -, -, fa', na, atf⟩ := ba.2.2.2.2.2.2.1
    exact PT_pw cx atf hAN
  have xc2 : CX w2 p (hp w2 p) U ow' kd' Fv' (PWs AN) W2 B Y := CXf_cx (CXf_of hP pl2 pt2 hp2 (by omega) ⟨by omega, by omega, bY⟩) h140'
  have wr : ∀ K, K ∈ [45, 102, 103, 104, 105, 106] → w2.2.2.1 K = w.2.2.1 K := fun K hK => fw.1.2.2.1 K (by simp at hK ⊢; omega)
  obtain ⟨i2, h, mm, L, g2, x2, j2, wb, nb2, cb2, rk, M⟩ := cl_any lp r5 r8
  have lb : LNB m p := GEN_ln M.1 hpr
  have pb : PB (PWs AN) PR := wl.1.2.2
  have w150 : F w2 150 = ((0 : Nat) : Int) := (congrArg Int32.toInt gw2.2.2.1).trans h150
  cases y with
  | none =>
    have ca : CTa m w2 p W2 := fun c hc => by
      obtain ⟨y1, -⟩ := ct_mon2 ct hc (Nat.lt_succ_self c)
      obtain ⟨W0, B0, z1, z2, -⟩ := rct c y1
      have r3 := A_r w2 103 (1600 * p + c)
      obtain ⟨nn, c1, -, c3, -⟩ := ct
      refine ⟨by omega, ⟨W0, ?_, by omega⟩, fun nd hnd => by omega⟩
      show (w2.2.2.1 104 _).toInt = _
      rw [wr 104 (by simp)]
      exact z1
    exact wrong_up hv (by omega) hpr pl2 ru2 hW2 ⟨by omega, by omega⟩ lb pt cx xc2 pb g g' rt ca ⟨h955, hi⟩ ⟨w150, by omega⟩ (by omega) (fun b3 U3 W3 r k a0 nn m3 w3 a1 a2 a3 a4 a5 => (st_ru ih s a1 a2 a3 (GGw.tr gw2 a4) (fun s => a5 (sc2 s))).2) (fun m3 w3 wr t3 x3 a1 a2 a3 a4 a5 a6 => (aft_end hN per h149 ih ba (by omega) a1 (GGw.tr gw2 a2) (fun s => a3 (sc2 s)) a4 ⟨h955, hi⟩ (show F w 150 = ((0 : Nat) : Int) ∧ 0 < 4000 from ⟨h150, by decide⟩) a5 a6).2)
  | some y =>
    obtain ⟨kd, k, sc0⟩ := y
    obtain ⟨fl, W0, O0, X, eO, ⟨c3, c4, c5, c6⟩, ⟨c7, c8, c9, c10, c11⟩⟩ : ∃ (fl W0 : Nat) (O0 X : List Nat), Os j = O0 ++ X ∧ (F m 1112 = ((fl : Nat) : Int) ∧ 0 < fl ∧ F m 1113 = ((X.length : Nat) : Int) ∧ F m 1114 = ((W0 : Nat) : Int)) ∧ (F w 152 = 1 ∧ F w 153 = ((kd : Nat) : Int) ∧ F w 154 = ((k : Nat) : Int) ∧ F w 156 = ((nb j + (Hs j).length + O0.length : Nat) : Int) ∧ F w 157 = ((W0 : Nat) : Int)) := by
      rcases gd with ⟨c, -⟩ | ⟨kd', k', sc', e, fl, W0, O0, X, z1, z2, z3, -⟩
      · cases c
      · cases e
        exact ⟨fl, W0, O0, X, z1, z2, z3⟩
    obtain ⟨g157, g154, -⟩ := rgd c7
    have eB2 : F m (pq p 24) = ((nb j + (Hs j ++ Os j).length : Nat) : Int) := fa.2.2.2
    have eB3 := pl.2.1.1
    have eL : (Hs j ++ Os j).length = (Hs j).length + O0.length + X.length := by
      rw [eO, List.length_append, List.length_append]
      omega
    refine wrong_gd (by omega) (by omega) pl2 ru2 ⟨by omega, by omega⟩ (by omega) (by omega) (CR_n cr0) (fun nC c q1 q2 => ?_) (fun d m3 w3 B3 W3 a a1 a2 a3 a4 a5 a6 a7 a8 a9 => ?_)
    · obtain ⟨y1, y2⟩ := ct_mon2 ct q1 q2
      obtain ⟨W9, B0, -, -, z3, -, z5⟩ := rct (nC - 1) (by rw [y1]; congr 1; omega)
      have z6 := z5 c7
      have e105 : A w2 105 (1600 * p + c) = A w 105 (1600 * p + c) := by
        show (w2.2.2.1 105 _).toInt = _
        rw [wr 105 (by simp)]
        rfl
      omega
    · have q5 : F m3 955 ≤ F m3 956 := by
        have y1 : F m3 955 = F m 955 := congrArg Int32.toInt a6.2.2.1
        have y2 : F m3 956 = F m 956 := congrArg Int32.toInt a6.2.2.2.2.1
        omega
      refine go206 q5 (fun hs => ?_)
      cases d with
      | zero => exact pp_nr
      | succ d =>
      have hp3 : HP (hp w3 p) U ow' kd' Fv' (PWs AN) := by
        have e : hp w3 p = hp w2 p := by
          unfold hp
          rw [a9.1]
        rw [e]
        exact hp2
      exact st_tr (M := N) (d := d) hN (by omega) per h149 hAN ih ba rfl (by omega) hs a3 a1 hp3 ((congrArg Int32.toInt a9.2).trans h140') (by omega) a6 (GGw.tr gw2 a7) (fun s => a8 (sc2 s))
end
end
section
set_option maxRecDepth 100000
section
variable {T : TYc} {Fv Fv' : Int64 → Int64 → Prop} {P : Int64 → Prop} {AN : Nat} {TT : TY} {CC : CY} {pM pE : Nat → Nat} {ND CN PN SN UN FN N PR p i v mu M1 M2 f U B W Y l j a n : Nat} {m w : MS} {Q : MS → Int32 → MS → Int32 → Prop} {b : Int → Nat → Nat → Prop} {ow kw ow' kd' : Nat → Nat} {nb : Nat → Nat} {Hs Os : Nat → List Nat} {y : Option (Nat × Nat × Nat)}
theorem in_30 {u : MS} {i h m g x : Nat} {L : List Nat} (q : IN1 T u i h m L g x ∨ IN2 T u i h m L g x ∨ IN3 T u i h m L g x) (e : A u 23 i = 30) : 1 ≤ L.length := by
  rcases q with q | q | q
  · exfalso
    rcases q with q | q | q | q | q | q | q | q | q | q | q | q | q <;> (have := q.1; omega)
  · rcases q with q | q | q | q | q | q | q | q | q | q | q
    iterate 10 (exfalso; have := q.1; omega)
    obtain ⟨-, -, t, M, rfl, -⟩ := q
    simp
  · exfalso
    rcases q with q | q | q | q | q | q | q | q | q
    iterate 5 (have := q.1; omega)
    · omega
    all_goals (have := q.1; omega)
theorem st_b (s : STx T Fv P Fv' AN TT CC pM pE ND CN PN SN UN FN N PR p i v f b U B W Y l ow kw ow' kd' j nb Hs Os y a n m w) : (F m (pq p 9) = 0 ∧ F m 1108 = 0 ∧ F m 1105 = ((a : Nat) : Int)) ∧ (a + 1 < 24000 ∧ n + 2 < 100000 ∧ v < 900000001 ∧ p < 24 ∧ j < 60) ∧ ((Os j).Nodup ∧ (Hs j).Nodup) ∧ (PLs (bGd b U ow' kd') p m w U B W Y ∧ RUs m w p j nb Hs Os y a n ∧ BDr p W l m) ∧ (NW w TT CC ND CN n ∧ WNa w TT CC pM pE ND CN PN SN UN FN n ∧ WNb w TT CC ND SN FN n) ∧ (tH TT n ≤ W ∧ W ≤ 45600 ∧ B ≤ 2400 ∧ Y ≤ 30 ∧ n < ND ∧ 11000000 ≤ N) := by
  obtain ⟨⟨hN, hpr, pr24, hi, hf⟩, ⟨per, hAN⟩, ba, lp, pl, ru, -, ⟨bW, bB, bY⟩, bd, -, -, rb, rm, ⟨eW, eB, nND⟩, -⟩ := s
  obtain ⟨⟨fa, ct⟩, ⟨r2, r3⟩, ⟨f0, cr0⟩, ⟨r5, r6⟩, -, ⟨r8, r9, r10⟩, -⟩ := id ru
  have cb := CR_b cr0
  exact ⟨⟨r5, r8, r2⟩, ⟨cb.1, cb.2.1, by omega, by omega, fa.1.2.2⟩, CR_n cr0, ⟨pl, ru, bd⟩, per.1.2.2.1 n nND, by omega, bW, bB, bY, nND, hN⟩
theorem sk_105 (s : STx T Fv P Fv' AN TT CC pM pE ND CN PN SN UN FN N PR p i v f b U B W Y l ow kw ow' kd' j nb Hs Os none a n m w) {k : Nat} (hk : tD TT n ≤ k) : ∀ nC c : Nat, F m (pq p 28) = ((nC : Nat) : Int) → c < nC → A w 105 (1600 * p + c) ≤ ((nb j + (Hs j).length + k : Nat) : Int) := fun nC c h1 h2 => by
  obtain ⟨-, -, -, -, -, ru, -, -, -, -, -, rb, rm, ⟨-, -, nND⟩, rct, -, -, ⟨-, r9⟩, -⟩ := s
  obtain ⟨y1, y2⟩ := ct_mon2 ru.1.2 h1 h2
  obtain ⟨W9, B0, -, -, z3, z4, -⟩ := rct (nC - 1) (by rw [y1]; congr 1; omega)
  obtain ⟨-, -, ⟨-, g4⟩, -, g6, -⟩ := ru.1.1.2.1 j (Nat.le_refl _)
  omega
theorem sk_1 (ih : ∀ M1 v m w, SIA T Fv P Fv' AN TT CC pM pE ND CN PN SN UN FN p v m w → PP Q (qgo (SAf T Fv P p) N M1 m p (I ((v : Nat) : Int))) (gg_M_go N M2 w (I ((p : Nat) : Int)))) (s : STx T Fv P Fv' AN TT CC pM pE ND CN PN SN UN FN N PR p i v f b U B W Y l ow kw ow' kd' j nb Hs Os y a n m w) (c0 : A m 23 a = 1) (h1 : A w 25 n = 0 ∨ A w 25 n = 1 ∨ (A w 25 n = 6 ∧ A w 26 n = 0)) (c1 : A m 23 (a + 1) = A w 25 n) (c2 : A m 23 (a + 2) = A w 26 n) (cr : ∃ f, CRs (A m 23) (ROs w) (w.2.2.2 34) f y (a + 3) (n + 1) (Hs j) (Os j)) : PP Q (q67 (SAf T Fv P p) N (qgo (SAf T Fv P p) N M1) m p (I ((v : Nat) : Int))) (bnd (fm_M_one N w (I ((n : Nat) : Int)) (I 1)) (fun u _ => KRs Fv' AN TT CC ND CN UN FN N p mu M2 w u)) := by
  obtain ⟨⟨r5, r8, r2⟩, ⟨ha, hn, hv, hpp, hj⟩, nd, ⟨pl, ru, bd⟩, ⟨n1, n2, n3⟩, bH, bW, bB, bY, nND, hN⟩ := st_b s
  have cb := CR_b cr.choose_spec
  rw [go_mk r5 r8 (by omega) r2 (by omega) c0 ⟨by omega, by omega⟩]
  exact op_lit (K1 := fun u => q195 (SAf T Fv P p) N (qgo (SAf T Fv P p) N M1) u p (I ((v : Nat) : Int))) (K2 := fun u => KRs Fv' AN TT CC ND CN UN FN N p mu M2 w u) hpp pl ru bd (by omega) (by omega) h1 c1 c2 cr (fun m3 w3 a1 a2 a3 a4 => st_fg ih s hj a1 a2 a3 a4)
theorem sk_3 (ih : ∀ M1 v m w, SIA T Fv P Fv' AN TT CC pM pE ND CN PN SN UN FN p v m w → PP Q (qgo (SAf T Fv P p) N M1 m p (I ((v : Nat) : Int))) (gg_M_go N M2 w (I ((p : Nat) : Int)))) (s : STx T Fv P Fv' AN TT CC pM pE ND CN PN SN UN FN N PR p i v f b U B W Y l ow kw ow' kd' j nb Hs Os y a n m w) (c0 : A m 23 a = 3) (lk : LKP (Hs j) (Os j) (A m 23 (a + 1)) (A w 25 n)) (cr : ∃ f, CRs (A m 23) (ROs w) (w.2.2.2 34) f y (a + 2) (n + 1) (Hs j) (Os j)) : PP Q (q67 (SAf T Fv P p) N (qgo (SAf T Fv P p) N M1) m p (I ((v : Nat) : Int))) (bnd (fm_M_one N w (I ((n : Nat) : Int)) (I 3)) (fun u _ => KRs Fv' AN TT CC ND CN UN FN N p mu M2 w u)) := by
  obtain ⟨⟨r5, r8, r2⟩, ⟨ha, hn, hv, hpp, hj⟩, nd, ⟨pl, ru, bd⟩, ⟨n1, n2, n3⟩, bH, bW, bB, bY, nND, hN⟩ := st_b s
  have cb := CR_b cr.choose_spec
  rw [go_mk r5 r8 (by omega) r2 (by omega) c0 ⟨by omega, by omega⟩]
  exact op_name (K1 := fun u => q195 (SAf T Fv P p) N (qgo (SAf T Fv P p) N M1) u p (I ((v : Nat) : Int))) (K2 := fun u => KRs Fv' AN TT CC ND CN UN FN N p mu M2 w u) hpp pl ru bd (by omega) (by omega) (by omega) nd lk cr (fun m3 w3 a1 a2 a3 a4 => st_fg ih s hj a1 a2 a3 a4)
theorem sk_17 (ih : ∀ M1 v m w, SIA T Fv P Fv' AN TT CC pM pE ND CN PN SN UN FN p v m w → PP Q (qgo (SAf T Fv P p) N M1 m p (I ((v : Nat) : Int))) (gg_M_go N M2 w (I ((p : Nat) : Int)))) (s : STx T Fv P Fv' AN TT CC pM pE ND CN PN SN UN FN N PR p i v f b U B W Y l ow kw ow' kd' j nb Hs Os y a n m w) (h23 : A w 23 n = 17) (c0 : A m 23 a = 15) (cr : ∃ f, CRs (A m 23) (ROs w) (w.2.2.2 34) f y (a + 1) (n + 1) (Hs j) (Os j)) : PP Q (q67 (SAf T Fv P p) N (qgo (SAf T Fv P p) N M1) m p (I ((v : Nat) : Int))) (bnd (fm_M_one N w (I ((n : Nat) : Int)) (I 17)) (fun u _ => KRs Fv' AN TT CC ND CN UN FN N p mu M2 w u)) := by
  obtain ⟨⟨r5, r8, r2⟩, ⟨ha, hn, hv, hpp, hj⟩, nd, ⟨pl, ru, bd⟩, ⟨n1, n2, n3⟩, bH, bW, bB, bY, nND, hN⟩ := st_b s
  have h1 := (n2.2.2.2.2.2.1 h23).2.1
  obtain ⟨W1, rfl⟩ : ∃ W1, W = W1 + 1 := ⟨W - 1, by omega⟩
  rw [go_vl r5 r8 (by omega) r2 (by omega) c0 ⟨by omega, by omega⟩]
  exact op_drop (K1 := fun u => q195 (SAf T Fv P p) N (qgo (SAf T Fv P p) N M1) u p (I ((v : Nat) : Int))) (K2 := fun u => KRs Fv' AN TT CC ND CN UN FN N p mu M2 w u) hpp pl ru (by omega) (by omega) cr (fun m3 w3 a1 a2 a3 a4 => st_fg ih s hj a1 a2 a3 a4)
theorem sk_26 (ih : ∀ M1 v m w, SIA T Fv P Fv' AN TT CC pM pE ND CN PN SN UN FN p v m w → PP Q (qgo (SAf T Fv P p) N M1 m p (I ((v : Nat) : Int))) (gg_M_go N M2 w (I ((p : Nat) : Int)))) (s : STx T Fv P Fv' AN TT CC pM pE ND CN PN SN UN FN N PR p i v f b U B W Y l ow kw ow' kd' j nb Hs Os y a n m w) {t2 n2 : Nat} (c0 : A m 23 a = 18) (ht : A m 23 (a + 1) = ((t2 : Nat) : Int)) (hd : A w 25 n = ((n2 : Nat) : Int) ∨ (A w 25 n = -2 ∧ ∃ r : Nat, A w 26 n = ((r : Nat) : Int) ∧ r < 100000 ∧ A w 26 r = ((n2 : Nat) : Int))) (cr : ∃ f, CRs (A m 23) (ROs w) (w.2.2.2 34) f y t2 n2 (Hs j) (Os j)) : PP Q (q67 (SAf T Fv P p) N (qgo (SAf T Fv P p) N M1) m p (I ((v : Nat) : Int))) (bnd (fm_M_one N w (I ((n : Nat) : Int)) (I 26)) (fun u _ => KRs Fv' AN TT CC ND CN UN FN N p mu M2 w u)) := by
  obtain ⟨⟨r5, r8, r2⟩, ⟨ha, hn, hv, hpp, hj⟩, nd, ⟨pl, ru, bd⟩, ⟨n1, n2, n3⟩, bH, bW, bB, bY, nND, hN⟩ := st_b s
  have cb := CR_b cr.choose_spec
  rw [go_fl r5 r8 (by omega) r2 (by omega) c0 ⟨by omega, by omega⟩]
  exact op_jump (K1 := fun u => q195 (SAf T Fv P p) N (qgo (SAf T Fv P p) N M1) u p (I ((v : Nat) : Int))) (K2 := fun u => KRs Fv' AN TT CC ND CN UN FN N p mu M2 w u) hpp pl ru (by omega) (by omega) ht (by omega) hd cr (fun m3 w3 a1 a2 a3 a4 => st_fg ih s hj a1 a2 a3 a4)
theorem sk_20 (ih : ∀ M1 v m w, SIA T Fv P Fv' AN TT CC pM pE ND CN PN SN UN FN p v m w → PP Q (qgo (SAf T Fv P p) N M1 m p (I ((v : Nat) : Int))) (gg_M_go N M2 w (I ((p : Nat) : Int)))) (s : STx T Fv P Fv' AN TT CC pM pE ND CN PN SN UN FN N PR p i v f b U B W Y l ow kw ow' kd' j nb Hs Os y a n m w) (h23 : A w 23 n = 20) (c0 : A m 23 a = 30) (cr : ∃ f, CRs (A m 23) (ROs w) (w.2.2.2 34) f y (a + 1) (n + 1) (Hs j) (Os j)) : PP Q (q67 (SAf T Fv P p) N (qgo (SAf T Fv P p) N M1) m p (I ((v : Nat) : Int))) (bnd (fm_M_one N w (I ((n : Nat) : Int)) (I 20)) (fun u _ => KRs Fv' AN TT CC ND CN UN FN N p mu M2 w u)) := by
  obtain ⟨⟨r5, r8, r2⟩, ⟨ha, hn, hv, hpp, hj⟩, nd, ⟨pl, ru, bd⟩, ⟨n1, n2, n3⟩, bH, bW, bB, bY, nND, hN⟩ := st_b s
  rw [go_fl r5 r8 (by omega) r2 (by omega) c0 ⟨by omega, by omega⟩]
  obtain ⟨q, c1, c2, c3, -⟩ := id ru.1.2
  obtain ⟨c, rfl⟩ : ∃ c, q = c + 1 := ⟨q - 1, by
    obtain ⟨i2, h, mm, L, g2, x2, j2, wb, nb2, cb2, rk, M⟩ := cl_any s.2.2.2.1 r5 r8
    obtain ⟨-, -, st, ⟨ti, e5⟩, -⟩ := id M
    have ei : a = i2 := by omega
    subst ei
    have h1 := in_30 (M.1.2.2.1 _ _ _ _ _ _ ti).2.2.2.2.2 c0
    have h2 := st.2.2.2.1
    omega⟩
  exact op_uncatch (K1 := fun u => q195 (SAf T Fv P p) N (qgo (SAf T Fv P p) N M1) u p (I ((v : Nat) : Int))) (K2 := fun u => KRs Fv' AN TT CC ND CN UN FN N p mu M2 w u) hpp pl ru c1 (by omega) (by omega) (by omega) cr (fun m3 w3 a1 a2 a3 a4 a5 => (st_ru ih s a1 a2 a3 a4 a5).1)
theorem sk_19 (ih : ∀ M1 v m w, SIA T Fv P Fv' AN TT CC pM pE ND CN PN SN UN FN p v m w → PP Q (qgo (SAf T Fv P p) N M1 m p (I ((v : Nat) : Int))) (gg_M_go N M2 w (I ((p : Nat) : Int)))) (s : STx T Fv P Fv' AN TT CC pM pE ND CN PN SN UN FN N PR p i v f b U B W Y l ow kw ow' kd' j nb Hs Os none a n m w) {t2 nn : Nat} (c0 : A m 23 a = 29) (ht : A m 23 (a + 1) = ((t2 : Nat) : Int)) (hd : A w 25 n = ((nn : Nat) : Int)) (crc : ∃ f, CRs (A m 23) (ROs w) (w.2.2.2 34) f none t2 nn (Hs j) (Os j)) (cr : ∃ f, CRs (A m 23) (ROs w) (w.2.2.2 34) f none (a + 2) (n + 1) (Hs j) (Os j)) : PP Q (q67 (SAf T Fv P p) N (qgo (SAf T Fv P p) N M1) m p (I ((v : Nat) : Int))) (bnd (fm_M_one N w (I ((n : Nat) : Int)) (I 19)) (fun u _ => KRs Fv' AN TT CC ND CN UN FN N p mu M2 w u)) := by
  obtain ⟨⟨r5, r8, r2⟩, ⟨ha, hn, hv, hpp, hj⟩, nd, ⟨pl, ru, bd⟩, ⟨n1, n2, n3⟩, bH, bW, bB, bY, nND, hN⟩ := st_b s
  rw [go_fl r5 r8 (by omega) r2 (by omega) c0 ⟨by omega, by omega⟩]
  obtain ⟨q, c1, c2, c3, -⟩ := id ru.1.2
  obtain ⟨i2, h, mm, L, g2, x2, j2, wb, nb2, cb2, rk, M⟩ := cl_any s.2.2.2.1 r5 r8
  have lb : LNB m p := GEN_ln M.1 s.1.2.1
  have b1 := (MI_b M).2.2.2.1
  have b2 := M.2.2.1.2.2.2.1
  exact op_catch (K1 := fun u => q195 (SAf T Fv P p) N (qgo (SAf T Fv P p) N M1) u p (I ((v : Nat) : Int))) (K2 := fun u => KRs Fv' AN TT CC ND CN UN FN N p mu M2 w u) hpp pl ru lb c1 (by omega) (by omega) (by omega) ht hd crc cr (fun m3 w3 a1 a2 a3 a4 a5 => (st_ru ih s a1 a2 a3 a4 a5).1)
theorem sk_18 (ih : ∀ M1 v m w, SIA T Fv P Fv' AN TT CC pM pE ND CN PN SN UN FN p v m w → PP Q (qgo (SAf T Fv P p) N M1 m p (I ((v : Nat) : Int))) (gg_M_go N M2 w (I ((p : Nat) : Int)))) (s : STx T Fv P Fv' AN TT CC pM pE ND CN PN SN UN FN N PR p i v f b U B W Y l ow kw ow' kd' j nb Hs Os none a n m w) {k : Nat} (h23 : A w 23 n = 18) (c0 : A m 23 a = 16) (hd : A w 25 n = ((k : Nat) : Int)) (hk : k ≤ (Os j).length) (ht : A m 23 (a + 1) = (((Os j).length - k : Nat) : Int)) (cr : ∃ f, CRs (A m 23) (ROs w) (w.2.2.2 34) f none (a + 2) (n + 1) (Hs j) ((Os j).take k)) : PP Q (q67 (SAf T Fv P p) N (qgo (SAf T Fv P p) N M1) m p (I ((v : Nat) : Int))) (bnd (fm_M_one N w (I ((n : Nat) : Int)) (I 18)) (fun u _ => KRs Fv' AN TT CC ND CN UN FN N p mu M2 w u)) := by
  obtain ⟨⟨r5, r8, r2⟩, ⟨ha, hn, hv, hpp, hj⟩, nd, ⟨pl, ru, bd⟩, ⟨n1, n2, n3⟩, bH, bW, bB, bY, nND, hN⟩ := st_b s
  have cb := CR_b cr.choose_spec
  rw [go_vl r5 r8 (by omega) r2 (by omega) c0 ⟨by omega, by omega⟩]
  obtain ⟨a0, q1, q2, -⟩ := (n2.2.2.2.2.2.2.1 h23).2
  have ek : a0 = k := by omega
  subst ek
  exact op_forget (K1 := fun u => q195 (SAf T Fv P p) N (qgo (SAf T Fv P p) N M1) u p (I ((v : Nat) : Int))) (K2 := fun u => KRs Fv' AN TT CC ND CN UN FN N p mu M2 w u) hpp pl ru (by omega) (by omega) (by omega) hk ht hd (sk_105 s q2) cr (fun m3 w3 a1 a2 a3 a4 a5 => (st_ru ih s a1 a2 a3 a4 a5).1)
end
end
section
set_option maxRecDepth 100000
section
variable {T : TYc} {Fv Fv' : Int64 → Int64 → Prop} {P : Int64 → Prop} {AN : Nat} {TT : TY} {CC : CY} {pM pE : Nat → Nat} {ND CN PN SN UN FN N PR p i v mu M1 M2 f U B W Y l j a n : Nat} {m w : MS} {Q : MS → Int32 → MS → Int32 → Prop} {b : Int → Nat → Nat → Prop} {ow kw ow' kd' : Nat → Nat} {nb : Nat → Nat} {Hs Os : Nat → List Nat} {y : Option (Nat × Nat × Nat)}
theorem q195_s {Sf : MS → Int32 → Prop} {β : Type} {G : MS → Nat → Int32 → Option (MS × Int32)} {v3 : Int32} {Q : MS → Int32 → MS → β → Prop} {Z : Option (MS × β)} (h : Sf m v3 → PP Q (q195 Sf N G m p v3) Z) : PP Q (q195 Sf N G m p v3) Z := by
  by_cases z : Sf m v3
  · exact h z
  · unfold q195
    rw [rsc_f z]
    exact pp_nl
theorem SA_er {m3 : MS} {how ar : Int} {t : Int64} {v3 : Int32} (hh : how = 1 ∨ how = 2 ∨ how = 3) (hs : SAf T Fv P p (tld m3 how ar t) v3) : LNB m3 p ∧ CTX Fv P m3 := by
  obtain ⟨PR2, c, k, -, -, o⟩ := hs
  have e9 : F (tld m3 how ar t) 1109 = how := tld_9 ⟨by omega, by omega⟩
  rcases o with o | o | o | o
  · have := o.2.1
    omega
  · obtain ⟨u, how', ar', t', ⟨i2, h, mm, L, g2, x2, j2, wb, nb2, cb2, rk, M, -⟩, -, -, -, -, -, e⟩ := o
    have e1 : ∀ k, k ≠ 1109 → k ≠ 1111 → m3.1 k = u.1 k := fun k h1 h2 => by
      have := congrArg (fun z : MS => z.1 k) e
      have z1 : (tld m3 how ar t).1 k = m3.1 k := (wi_1 h2).trans (wi_1 h1)
      have z2 : (wl (wi (wi u 1109 how') 1111 ar') 1110 t').1 k = u.1 k := (wi_1 h2).trans (wi_1 h1)
      rw [← z1, ← z2]
      exact this
    have e3 : m3.2.2.1 = u.2.2.1 := by
      have := congrArg (fun z : MS => z.2.2.1) e
      exact this
    have eF : ∀ k, F m3 (pq p k) = F u (pq p k) := fun k => congrArg Int32.toInt (e1 _ (fun c => pq_n (by omega) c.symm) (fun c => pq_n (by omega) c.symm))
    refine ⟨?_, CTX_fr M.1.2.1 (e1 22 (by omega) (by omega)) (by rw [e3])⟩
    have lb := GEN_ln M.1 M.1.2.2.2.2.2.2.1
    unfold LNB at lb ⊢
    rw [eF 45, eF 43, eF 42, eF 47, eF 28]
    exact lb
  · have := o.2.2.1
    omega
  · have := o.2.2.1
    omega
theorem st_rv {M' vk : Nat} {m3 w3 : MS} {b3 : Int → Nat → Nat → Prop} {U3 B3 W3 Y3 j3 a3 n3 : Nat} {nb3 : Nat → Nat} {Hs3 Os3 : Nat → List Nat} {y3 : Option (Nat × Nat × Nat)} (ih : ∀ M1 v m w, SIA T Fv P Fv' AN TT CC pM pE ND CN PN SN UN FN p v m w → PP Q (qgo (SAf T Fv P p) N M1 m p (I ((v : Nat) : Int))) (gg_M_go N M2 w (I ((p : Nat) : Int)))) (s : STx T Fv P Fv' AN TT CC pM pE ND CN PN SN UN FN N PR p i v f b U B W Y l ow kw ow' kd' j nb Hs Os y a n m w) (hvk : vk < 1000000000) (pl : PLs b3 p m3 w3 U3 B3 W3 Y3) (ru : RUs m3 w3 p j3 nb3 Hs3 Os3 y3 a3 n3) (gm : GGm p m m3) (gw : GGw p w w3) (sc : SCs p m w → SCs p m3 w3) : PP Q (q195 (SAf T Fv P p) N (qgo (SAf T Fv P p) N M') m3 p (I ((vk : Nat) : Int))) (KRs Fv' AN TT CC ND CN UN FN N p mu M2 w w3) := by
  obtain ⟨⟨hN, hpr, pr24, hi, hf⟩, ⟨per, -⟩, ba, -⟩ := s
  have h149 : F w 149 = 0 := ba.2.2.2.1.1
  have r5 := ru.2.2.2.1
  exact (aft_gg hN per h149 ih ba (by omega) gm gw pl sc (Or.inl ⟨j3, nb3, Hs3, Os3, y3, a3, n3, ru⟩) (by omega) ru.2.2.2.2.2.1.2.1).1
theorem st_en {M' vk c : Nat} {m3 w3 : MS} (ih : ∀ M1 v m w, SIA T Fv P Fv' AN TT CC pM pE ND CN PN SN UN FN p v m w → PP Q (qgo (SAf T Fv P p) N M1 m p (I ((v : Nat) : Int))) (gg_M_go N M2 w (I ((p : Nat) : Int)))) (s : STx T Fv P Fv' AN TT CC pM pE ND CN PN SN UN FN N PR p i v f b U B W Y l ow kw ow' kd' j nb Hs Os y a n m w) (hvk : vk < 1000000000) (hc : c < 22) (gm : GGm p m m3) (gw : GGw p w w3) (sc : SCs p m w → SCs p m3 w3) (h5 : m3.1 (pq p 5) = w3.2.2.1 90 p) : PP Q (q195 (SAf T Fv P p) N (qgo (SAf T Fv P p) N M') (enS m3 p (mk 1 ((c : Nat) : Int)) p i) p (I ((vk : Nat) : Int))) (KRs Fv' AN TT CC ND CN UN FN N p mu M2 w (wi (enR w3 p 0 ((p : Nat) : Int) (mk 1 ((c : Nat) : Int)) 0) 151 1)) := by
  obtain ⟨⟨hN, hpr, pr24, hi, hf⟩, ⟨per, hAN⟩, ba, lp, -, -, -, -, -, -, wl, -⟩ := s
  have cx : CTX Fv P m := (LPQ_dc lp).2
  have pb : PB (PWs AN) PR := wl.1.2.2
  have e22 := cx.2.2.2.1
  have es : so (mk 1 ((c : Nat) : Int)) = 1 := so_mk (by omega) (by omega)
  exact (aft_end hN per ba.2.2.2.1.1 ih ba (by omega) gm gw sc h5 ⟨ba.2.2.1.1, hi⟩ (show F w 150 = ((0 : Nat) : Int) ∧ 0 < 4000 from ⟨ba.2.2.2.1.2, by decide⟩) (Or.inl rfl) (RQ_lit hpr (by omega) (nh_mk (by omega)) (fun z => by omega) (cx.2.2.2.2.2.1 _ (by omega) (by omega)) (pb.1 _ (by omega) (by omega)))).1
theorem st_e3 {d M' vk Wc W2 : Nat} {m3 w3 : MS} {how kn : Int} {t x : Int64} (ih : ∀ M1 v m w, SIA T Fv P Fv' AN TT CC pM pE ND CN PN SN UN FN p v m w → PP Q (qgo (SAf T Fv P p) N M1 m p (I ((v : Nat) : Int))) (gg_M_go N M2 w (I ((p : Nat) : Int)))) (s : STx T Fv P Fv' AN TT CC pM pE ND CN PN SN UN FN N PR p i v f b U B W Y l ow kw ow' kd' j nb Hs Os y a n m w) (hvk : vk ≤ v + 1) (hv : (how = 1 ∧ kn = 0) ∨ (how = 2 ∧ kn = 1) ∨ (how = 3 ∧ kn = 2)) (fm : FGm p m m3) (fw : FGw p j w w3) (pl3 : PLs (bGd b U ow' kd') p (wi m3 (pq p 26) ((W2 : Nat) : Int)) w3 U B W2 Y) (ru3 : RUb m3 w3 p j nb Hs Os y) (pt3 : PTQ m3 p U ow kw Fv P B Wc Y) (hW2 : W2 ≤ Wc) (bW2 : W2 < 46000) (hT : W + tB TT n ≤ W2 + tH TT n) (xc3 : CX w3 p (hp w3 p) U ow' kd' Fv' (PWs AN) W2 B Y) (h140 : F w3 140 = -1) (g : GT U ow kw P t) (g' : GT U ow' kd' (PWs AN) x) (rt : RTb (bGd b U ow' kd') t x) : PP Q (q195 (SAf T Fv P p) N (qgo (SAf T Fv P p) N M') (tld m3 how (-1) t) p (I ((vk : Nat) : Int))) (bnd (fm_M_goesUp N (rc_M_error N d) w3 (I kn) x) (fun u _ => KRs Fv' AN TT CC ND CN UN FN N p mu M2 w u)) := by
  refine q195_s (fun hs => ?_)
  obtain ⟨lb, cx⟩ := SA_er (by omega) hs
  obtain ⟨⟨hN, hpr, pr24, hi, hf⟩, ⟨per, hAN⟩, ba, lp, pl, ru, -, ⟨bW, bB, bY⟩, bd, sc, wl, rb, rm, ⟨eW, eB, nND⟩, rct, rgd, -⟩ := id s
  obtain ⟨⟨fa, ct⟩, ⟨r2, r3⟩, ⟨f0, cr0⟩, -⟩ := id ru
  have hj := fa.1.2.2
  have h149 : F w 149 = 0 := ba.2.2.2.1.1
  have h150 : F w 150 = 0 := ba.2.2.2.1.2
  have gm3 : GGm p m m3 := GGm_fg fm
  have gw3 : GGw p w w3 := GGw_fg fw hj
  have sc3 : SCs p m w → SCs p m3 w3 := fun s => SC_fg s fm fw
  have h955 : F m3 955 = ((i : Nat) : Int) := (congrArg Int32.toInt gm3.2.2.1).trans ba.2.2.1.1
  have h956 : F m3 956 = ((i : Nat) : Int) := (congrArg Int32.toInt gm3.2.2.2.2.1).trans ba.2.2.1.2
  have wr : ∀ K, K ∈ [45, 102, 103, 104, 105, 106] → w3.2.2.1 K = w.2.2.1 K := fun K hK => fw.1.2.2.1 K (by simp at hK ⊢; omega)
  have e28 : F m3 (pq p 28) = F m (pq p 28) := congrArg Int32.toInt (fm.1 _ (by simp; unfold pq; omega))
  have pb : PB (PWs AN) PR := wl.1.2.2
  have w150 : F w3 150 = ((0 : Nat) : Int) := (congrArg Int32.toInt gw3.2.2.1).trans h150
  have wF : ∀ k, k ∈ [152, 154, 156, 157] → F w3 k = F w k := fun k hk => congrArg Int32.toInt (fw.1.1 k (by simp at hk ⊢; omega))
  cases y with
  | none =>
    have ca : CTa m3 w3 p W2 := fun c hc => by
      rw [e28] at hc
      obtain ⟨y1, -⟩ := ct_mon2 ct hc (Nat.lt_succ_self c)
      obtain ⟨W0, B0, z1, z2, -⟩ := rct c y1
      have r3 := A_r w3 103 (1600 * p + c)
      obtain ⟨nn, c1, -, c3, -⟩ := ct
      refine ⟨by omega, ⟨W0, ?_, by omega⟩, fun nd hnd => by omega⟩
      show (w3.2.2.1 104 _).toInt = _
      rw [wr 104 (by simp)]
      exact z1
    exact wrong_up hv (by omega) hpr pl3 ru3 hW2 ⟨by omega, bW2⟩ lb pt3 cx xc3 pb g g' rt ca ⟨h955, hi⟩ ⟨w150, by omega⟩ (by omega) (fun b3 U3 W3 r k a0 nn m4 w4 a1 a2 a3 a4 a5 => by
      have r5 := a2.2.2.2.1
      exact (aft_gg hN per h149 ih ba (by omega) (GGm.tr gm3 a3) (GGw.tr gw3 a4) a1 (fun s => a5 (sc3 s)) (Or.inl ⟨r, nb, Hs, _, none, a0, nn, a2⟩) (by omega) a2.2.2.2.2.2.1.2.1).2) (fun m4 w4 wr t3 x3 a1 a2 a3 a4 a5 a6 => (aft_end hN per h149 ih ba (by omega) (GGm.tr gm3 a1) (GGw.tr gw3 a2) (fun s => a3 (sc3 s)) a4 ⟨ba.2.2.1.1, hi⟩ (show F w 150 = ((0 : Nat) : Int) ∧ 0 < 4000 from ⟨h150, by decide⟩) a5 a6).2)
  | some y =>
    obtain ⟨kd, k, sc0⟩ := y
    obtain ⟨fa3, -⟩ := ru3.1
    obtain ⟨fl, W0, O0, X, eO, ⟨c3, c4, c5, c6⟩, ⟨c7, c8, c9, c10, c11⟩⟩ : ∃ (fl W0 : Nat) (O0 X : List Nat), Os j = O0 ++ X ∧ (F m3 1112 = ((fl : Nat) : Int) ∧ 0 < fl ∧ F m3 1113 = ((X.length : Nat) : Int) ∧ F m3 1114 = ((W0 : Nat) : Int)) ∧ (F w3 152 = 1 ∧ F w3 153 = ((kd : Nat) : Int) ∧ F w3 154 = ((k : Nat) : Int) ∧ F w3 156 = ((nb j + (Hs j).length + O0.length : Nat) : Int) ∧ F w3 157 = ((W0 : Nat) : Int)) := by
      rcases ru3.2.2.1 with ⟨c, -⟩ | ⟨kd', k', sc', e, fl, W0, O0, X, z1, z2, z3, -⟩
      · cases c
      · cases e
        exact ⟨fl, W0, O0, X, z1, z2, z3⟩
    rw [wF 152 (by simp)] at c7
    rw [wF 154 (by simp)] at c9
    rw [wF 156 (by simp)] at c10
    rw [wF 157 (by simp)] at c11
    obtain ⟨g157, g154, -⟩ := rgd c7
    have eB2 : F m3 (pq p 24) = ((nb j + (Hs j ++ Os j).length : Nat) : Int) := fa3.2.2.2
    have eB3 : F m3 (pq p 24) = ((B : Nat) : Int) := pt3.2.1.1
    have eL : (Hs j ++ Os j).length = (Hs j).length + O0.length + X.length := by
      rw [eO, List.length_append, List.length_append]
      omega
    refine wrong_gd (by omega) (by omega) pl3 ru3 ⟨by omega, bW2⟩ (by omega) (by omega) (CR_n cr0) (fun nC c q1 q2 => ?_) (fun d m4 w4 B3 W3 a a1 a2 a3 a4 a5 a6 a7 a8 a9 => ?_)
    · rw [e28] at q1
      obtain ⟨y1, y2⟩ := ct_mon2 ct q1 q2
      obtain ⟨W9, B0, -, -, z3, -, z5⟩ := rct (nC - 1) (by rw [y1]; congr 1; omega)
      have z6 := z5 c7
      have e105 : A w3 105 (1600 * p + c) = A w 105 (1600 * p + c) := by
        show (w3.2.2.1 105 _).toInt = _
        rw [wr 105 (by simp)]
        rfl
      omega
    · have q5 : F m4 955 ≤ F m4 956 := by
        have y1 : F m4 955 = F m3 955 := congrArg Int32.toInt a6.2.2.1
        have y2 : F m4 956 = F m3 956 := congrArg Int32.toInt a6.2.2.2.2.1
        omega
      refine go206 q5 (fun hs => ?_)
      cases d with
      | zero => exact pp_nr
      | succ d =>
      have hp4 : HP (hp w4 p) U ow' kd' Fv' (PWs AN) := by
        have e : hp w4 p = hp w3 p := by
          unfold hp
          rw [a9.1]
        rw [e]
        exact xc3.2.1
      exact st_tr (M := N) (d := d) hN (by omega) per h149 hAN ih ba rfl (by omega) hs a3 a1 hp4 ((congrArg Int32.toInt a9.2).trans h140) (by omega) (GGm.tr gm3 a6) (GGw.tr gw3 a7) (fun s => a8 (sc3 s))
theorem st_w3 {M' vk c Wc W2 : Nat} {m3 w3 : MS} (ih : ∀ M1 v m w, SIA T Fv P Fv' AN TT CC pM pE ND CN PN SN UN FN p v m w → PP Q (qgo (SAf T Fv P p) N M1 m p (I ((v : Nat) : Int))) (gg_M_go N M2 w (I ((p : Nat) : Int)))) (s : STx T Fv P Fv' AN TT CC pM pE ND CN PN SN UN FN N PR p i v f b U B W Y l ow kw ow' kd' j nb Hs Os y a n m w) (hvk : vk ≤ v + 1) (hc : c < 22) (fm : FGm p m m3) (fw : FGw p j w w3) (pl3 : PLs (bGd b U ow' kd') p (wi m3 (pq p 26) ((W2 : Nat) : Int)) w3 U B W2 Y) (ru3 : RUb m3 w3 p j nb Hs Os y) (pt3 : PTQ m3 p U ow kw Fv P B Wc Y) (hW2 : W2 ≤ Wc) (bW2 : W2 < 46000) (hT : W + tB TT n ≤ W2 + tH TT n) (xc3 : CX w3 p (hp w3 p) U ow' kd' Fv' (PWs AN) W2 B Y) (h140 : F w3 140 = -1) : PP Q (q195 (SAf T Fv P p) N (qgo (SAf T Fv P p) N M') (tld m3 1 (-1) (mk 1 ((c : Nat) : Int))) p (I ((vk : Nat) : Int))) (bnd (fr_M_error N w3 (I ((c : Nat) : Int))) (fun u _ => KRs Fv' AN TT CC ND CN UN FN N p mu M2 w u)) := by
  have cx : CTX Fv P m := (LPQ_dc s.2.2.2.1).2
  have pb : PB (PWs AN) PR := s.2.2.2.2.2.2.2.2.2.2.1.1.2.2
  exact er_pp (d := 20) (fun d => st_e3 ih s hvk (Or.inl ⟨rfl, rfl⟩) fm fw pl3 ru3 pt3 hW2 bW2 hT xc3 h140 (GT_at cx hc) (GT_atom pb ⟨by omega, by omega⟩) (lit_b (Or.inr (Or.inl rfl)) (fun z => by omega) ⟨by omega, by omega⟩))
theorem st_wr {c W2 : Nat} {w2 : MS} (ih : ∀ M1 v m w, SIA T Fv P Fv' AN TT CC pM pE ND CN PN SN UN FN p v m w → PP Q (qgo (SAf T Fv P p) N M1 m p (I ((v : Nat) : Int))) (gg_M_go N M2 w (I ((p : Nat) : Int)))) (s : STx T Fv P Fv' AN TT CC pM pE ND CN PN SN UN FN N PR p i v f b U B W Y l ow kw ow' kd' j nb Hs Os y a n m w) (hc : c < 22) (pl2 : PLs (bGd b U ow' kd') p (wi m (pq p 26) ((W2 : Nat) : Int)) w2 U B W2 Y) (hW2 : W2 ≤ W) (hT : W + tB TT n ≤ W2 + tH TT n) (fw : FGw p j w w2) (h88 : w2.2.2.2 88 = w.2.2.2 88 ∧ w2.1 140 = w.1 140) : PP Q (q195 (SAf T Fv P p) N (qgo (SAf T Fv P p) N M1) (tld m 1 (-1) (mk 1 ((c : Nat) : Int))) p (I ((v : Nat) : Int))) (bnd (fr_M_error N w2 (I ((c : Nat) : Int))) (fun u _ => KRs Fv' AN TT CC ND CN UN FN N p mu M2 w u)) := by
  have cx : CTX Fv P m := (LPQ_dc s.2.2.2.1).2
  have pb : PB (PWs AN) PR := s.2.2.2.2.2.2.2.2.2.2.1.1.2.2
  exact er_pp (d := 20) (fun d => st_er ih s (Or.inl ⟨rfl, rfl⟩) pl2 hW2 hT fw h88 (GT_at cx hc) (GT_atom pb ⟨by omega, by omega⟩) (lit_b (Or.inr (Or.inl rfl)) (fun z => by omega) ⟨by omega, by omega⟩))
end
end
section
set_option maxRecDepth 100000
section
variable {T : TYc} {Fv Fv' : Int64 → Int64 → Prop} {P : Int64 → Prop} {AN : Nat} {TT : TY} {CC : CY} {pM pE : Nat → Nat} {ND CN PN SN UN FN N PR p i v mu M1 M2 f U B W Y l j a n : Nat} {m w : MS} {Q : MS → Int32 → MS → Int32 → Prop} {b : Int → Nat → Nat → Prop} {ow kw ow' kd' : Nat → Nat} {nb : Nat → Nat} {Hs Os : Nat → List Nat} {y : Option (Nat × Nat × Nat)}
theorem in_2 {u : MS} {i h m g x : Nat} {L : List Nat} (q : IN1 T u i h m L g x ∨ IN2 T u i h m L g x ∨ IN3 T u i h m L g x) (e : A u 23 i = 2) : ∃ n : Nat, A u 23 (i + 1) = ((n : Nat) : Int) ∧ n ≤ 40 := by
  rcases q with q | q | q
  · rcases q with q | q | q | q | q | q | q | q | q | q | q | q | q
    · exfalso; have := q.1; omega
    · obtain ⟨-, n, h1, h2, -⟩ := q
      exact ⟨n, h1, h2⟩
    all_goals (exfalso; have := q.1; omega)
  · exfalso
    rcases q with q | q | q | q | q | q | q | q | q | q | q <;> (have := q.1; omega)
  · exfalso
    rcases q with q | q | q | q | q | q | q | q | q
    iterate 5 (have := q.1; omega)
    · omega
    all_goals (have := q.1; omega)
theorem sk_7 (ih : ∀ M1 v m w, SIA T Fv P Fv' AN TT CC pM pE ND CN PN SN UN FN p v m w → PP Q (qgo (SAf T Fv P p) N M1 m p (I ((v : Nat) : Int))) (gg_M_go N M2 w (I ((p : Nat) : Int)))) (s : STx T Fv P Fv' AN TT CC pM pE ND CN PN SN UN FN N PR p i v f b U B W Y l ow kw ow' kd' j nb Hs Os y a n m w) (h23 : A w 23 n = 7) (c0 : A m 23 a = 12) (cr : ∃ f, CRs (A m 23) (ROs w) (w.2.2.2 34) f y (a + 1) (n + 1) (Hs j) (Os j)) : PP Q (q67 (SAf T Fv P p) N (qgo (SAf T Fv P p) N M1) m p (I ((v : Nat) : Int))) (bnd (fm_M_one N w (I ((n : Nat) : Int)) (I 7)) (fun u _ => KRs Fv' AN TT CC ND CN UN FN N p mu M2 w u)) := by
  obtain ⟨⟨r5, r8, r2⟩, ⟨ha, hn, hv, hpp, hj⟩, nd, ⟨pl, ru, bd⟩, ⟨n1, n2, n3⟩, bH, bW, bB, bY, nND, hN⟩ := st_b s
  have h1 := (n3.2.2.2.2.2.2.1 (Or.inl h23)).1
  obtain ⟨W1, rfl⟩ : ∃ W1, W = W1 + 1 := ⟨W - 1, by omega⟩
  obtain ⟨bd1, bd2, bd3, bd4⟩ := bd
  rw [go_vl r5 r8 (by omega) r2 (by omega) c0 ⟨by omega, by omega⟩]
  refine op_not (K1 := fun u => q195 (SAf T Fv P p) N (qgo (SAf T Fv P p) N M1) u p (I ((v : Nat) : Int))) (K2 := fun u => KRs Fv' AN TT CC ND CN UN FN N p mu M2 w u) hpp pl ru (by omega) bd2 ⟨bd3, bd4⟩ (by omega) cr (fun m3 w3 a1 a2 a3 a4 => st_fg ih s hj a1 a2 a3 a4) ?_
  show PP Q (bnd (hm_Ma_wrong N m p (I 11)) (fun u _ => q195 (SAf T Fv P p) N (qgo (SAf T Fv P p) N M1) u p (I ((v : Nat) : Int)))) (bnd (fr_M_error N _ (I 11)) (fun u _ => KRs Fv' AN TT CC ND CN UN FN N p mu M2 w u))
  rw [wrong_e, bnd_so]
  exact st_wr (c := 11) ih s (by omega) (PLs_drop (k := 1) (PLs_98 pl) (by omega)) (by omega) (by omega) (FGw.tr FGw.goto FGw.w92) ⟨rfl, rfl⟩
theorem sk_9 (ih : ∀ M1 v m w, SIA T Fv P Fv' AN TT CC pM pE ND CN PN SN UN FN p v m w → PP Q (qgo (SAf T Fv P p) N M1 m p (I ((v : Nat) : Int))) (gg_M_go N M2 w (I ((p : Nat) : Int)))) (s : STx T Fv P Fv' AN TT CC pM pE ND CN PN SN UN FN N PR p i v f b U B W Y l ow kw ow' kd' j nb Hs Os y a n m w) {t2 n2 : Nat} (h23 : A w 23 n = 9) (c0 : A m 23 a = 13) (ht : A m 23 (a + 1) = ((t2 : Nat) : Int)) (hd : A w 25 n = ((n2 : Nat) : Int)) (cr2 : ∃ f, CRs (A m 23) (ROs w) (w.2.2.2 34) f y t2 n2 (Hs j) (Os j)) (cr : ∃ f, CRs (A m 23) (ROs w) (w.2.2.2 34) f y (a + 2) (n + 1) (Hs j) (Os j)) : PP Q (q67 (SAf T Fv P p) N (qgo (SAf T Fv P p) N M1) m p (I ((v : Nat) : Int))) (bnd (fm_M_one N w (I ((n : Nat) : Int)) (I 9)) (fun u _ => KRs Fv' AN TT CC ND CN UN FN N p mu M2 w u)) := by
  obtain ⟨⟨r5, r8, r2⟩, ⟨ha, hn, hv, hpp, hj⟩, nd, ⟨pl, ru, bd⟩, ⟨n1, n2, n3⟩, bH, bW, bB, bY, nND, hN⟩ := st_b s
  have h1 := (n3.2.2.2.2.2.2.2.1 (Or.inl h23)).1
  obtain ⟨W1, rfl⟩ : ∃ W1, W = W1 + 1 := ⟨W - 1, by omega⟩
  obtain ⟨bd1, bd2, bd3, bd4⟩ := bd
  rw [go_vl r5 r8 (by omega) r2 (by omega) c0 ⟨by omega, by omega⟩]
  refine op_hinge (dr := 0) (K1 := fun u => q195 (SAf T Fv P p) N (qgo (SAf T Fv P p) N M1) u p (I ((v : Nat) : Int))) (K2 := fun u => KRs Fv' AN TT CC ND CN UN FN N p mu M2 w u) (Or.inl ⟨rfl, rfl, rfl⟩) hpp pl ru (by omega) bd2 ⟨bd3, bd4⟩ (by omega) (by omega) ht hd cr cr2 (fun W3 a3 n3 m3 w3 _ a1 a2 a5 a4 => st_fg ih s hj a1 a2 a5 a4) ?_
  show PP Q (bnd (hm_Ma_wrong N m p (I 11)) (fun u _ => q195 (SAf T Fv P p) N (qgo (SAf T Fv P p) N M1) u p (I ((v : Nat) : Int)))) (bnd (fr_M_error N _ (I 11)) (fun u _ => KRs Fv' AN TT CC ND CN UN FN N p mu M2 w u))
  rw [wrong_e, bnd_so]
  exact st_wr (c := 11) ih s (by omega) (by rw [wi_id pl.2.2.1.1]; exact PLs_98 pl) (by omega) (by omega) FGw.goto ⟨rfl, rfl⟩
theorem sk_10 (ih : ∀ M1 v m w, SIA T Fv P Fv' AN TT CC pM pE ND CN PN SN UN FN p v m w → PP Q (qgo (SAf T Fv P p) N M1 m p (I ((v : Nat) : Int))) (gg_M_go N M2 w (I ((p : Nat) : Int)))) (s : STx T Fv P Fv' AN TT CC pM pE ND CN PN SN UN FN N PR p i v f b U B W Y l ow kw ow' kd' j nb Hs Os y a n m w) {t2 n2 : Nat} (h23 : A w 23 n = 10) (c0 : A m 23 a = 14) (ht : A m 23 (a + 1) = ((t2 : Nat) : Int)) (hd : A w 25 n = ((n2 : Nat) : Int)) (cr2 : ∃ f, CRs (A m 23) (ROs w) (w.2.2.2 34) f y t2 n2 (Hs j) (Os j)) (cr : ∃ f, CRs (A m 23) (ROs w) (w.2.2.2 34) f y (a + 2) (n + 1) (Hs j) (Os j)) : PP Q (q67 (SAf T Fv P p) N (qgo (SAf T Fv P p) N M1) m p (I ((v : Nat) : Int))) (bnd (fm_M_one N w (I ((n : Nat) : Int)) (I 10)) (fun u _ => KRs Fv' AN TT CC ND CN UN FN N p mu M2 w u)) := by
  obtain ⟨⟨r5, r8, r2⟩, ⟨ha, hn, hv, hpp, hj⟩, nd, ⟨pl, ru, bd⟩, ⟨n1, n2, n3⟩, bH, bW, bB, bY, nND, hN⟩ := st_b s
  have h1 := (n3.2.2.2.2.2.2.2.1 (Or.inr h23)).1
  obtain ⟨W1, rfl⟩ : ∃ W1, W = W1 + 1 := ⟨W - 1, by omega⟩
  obtain ⟨bd1, bd2, bd3, bd4⟩ := bd
  rw [go_vl r5 r8 (by omega) r2 (by omega) c0 ⟨by omega, by omega⟩]
  refine op_hinge (dr := 1) (K1 := fun u => q195 (SAf T Fv P p) N (qgo (SAf T Fv P p) N M1) u p (I ((v : Nat) : Int))) (K2 := fun u => KRs Fv' AN TT CC ND CN UN FN N p mu M2 w u) (Or.inr ⟨rfl, rfl, rfl⟩) hpp pl ru (by omega) bd2 ⟨bd3, bd4⟩ (by omega) (by omega) ht hd cr cr2 (fun W3 a3 n3 m3 w3 _ a1 a2 a5 a4 => st_fg ih s hj a1 a2 a5 a4) ?_
  show PP Q (bnd (hm_Ma_wrong N m p (I 11)) (fun u _ => q195 (SAf T Fv P p) N (qgo (SAf T Fv P p) N M1) u p (I ((v : Nat) : Int)))) (bnd (fr_M_error N _ (I 11)) (fun u _ => KRs Fv' AN TT CC ND CN UN FN N p mu M2 w u))
  rw [wrong_e, bnd_so]
  exact st_wr (c := 11) ih s (by omega) (by rw [wi_id pl.2.2.1.1]; exact PLs_98 pl) (by omega) (by omega) FGw.goto ⟨rfl, rfl⟩
theorem sk_6a (ih : ∀ M1 v m w, SIA T Fv P Fv' AN TT CC pM pE ND CN PN SN UN FN p v m w → PP Q (qgo (SAf T Fv P p) N M1 m p (I ((v : Nat) : Int))) (gg_M_go N M2 w (I ((p : Nat) : Int)))) (s : STx T Fv P Fv' AN TT CC pM pE ND CN PN SN UN FN N PR p i v f b U B W Y l ow kw ow' kd' j nb Hs Os y a n m w) {s2 kk : Int} (h23 : A w 23 n = 6) (hs : (s2 = 18 ∧ kk = 33) ∨ (s2 = 19 ∧ kk = 34) ∨ (s2 = 20 ∧ kk = 35) ∨ (s2 = 105 ∧ kk = 10) ∨ (s2 = 113 ∧ kk = 18)) (c0 : A m 23 a = 9) (ht : A m 23 (a + 1) = kk) (hd : A w 25 n = s2) (cr : ∃ f, CRs (A m 23) (ROs w) (w.2.2.2 34) f y (a + 2) (n + 1) (Hs j) (Os j)) : PP Q (q67 (SAf T Fv P p) N (qgo (SAf T Fv P p) N M1) m p (I ((v : Nat) : Int))) (bnd (fm_M_one N w (I ((n : Nat) : Int)) (I 6)) (fun u _ => KRs Fv' AN TT CC ND CN UN FN N p mu M2 w u)) := by
  obtain ⟨⟨r5, r8, r2⟩, ⟨ha, hn, hv, hpp, hj⟩, nd, ⟨pl, ru, bd⟩, ⟨n1, n2, n3⟩, bH, bW, bB, bY, nND, hN⟩ := st_b s
  have h1 := (n3.2.2.2.2.2.1 h23).1
  obtain ⟨W1, rfl⟩ : ∃ W1, W = W1 + 2 := ⟨W - 2, by omega⟩
  obtain ⟨bd1, bd2, bd3, bd4⟩ := bd
  rw [go_vl r5 r8 (by omega) r2 (by omega) c0 ⟨by omega, by omega⟩]
  refine op_arith (K1 := fun u => q195 (SAf T Fv P p) N (qgo (SAf T Fv P p) N M1) u p (I ((v : Nat) : Int))) (K2 := fun u => KRs Fv' AN TT CC ND CN UN FN N p mu M2 w u) hs hpp pl ru (by omega) bd2 ⟨bd3, bd4⟩ (by omega) (by omega) ht hd cr (fun m3 w3 a1 a2 a3 a4 => st_fg ih s hj a1 a2 a3 a4) ?_
  show PP Q (bnd (hm_Ma_wrong N m p (I 12)) (fun u _ => q195 (SAf T Fv P p) N (qgo (SAf T Fv P p) N M1) u p (I ((v : Nat) : Int)))) (bnd (fr_M_error N _ (I 12)) (fun u _ => KRs Fv' AN TT CC ND CN UN FN N p mu M2 w u))
  rw [wrong_e, bnd_so]
  exact st_wr (c := 12) ih s (by omega) (by rw [wa_w2]; exact PLs_drop (k := 2) (PLs_98 pl) (by omega)) (by omega) (by omega) (FGw.tr (FGw.tr FGw.goto FGw.w92) FGw.w92) ⟨rfl, rfl⟩
theorem sk_6c (ih : ∀ M1 v m w, SIA T Fv P Fv' AN TT CC pM pE ND CN PN SN UN FN p v m w → PP Q (qgo (SAf T Fv P p) N M1 m p (I ((v : Nat) : Int))) (gg_M_go N M2 w (I ((p : Nat) : Int)))) (s : STx T Fv P Fv' AN TT CC pM pE ND CN PN SN UN FN N PR p i v f b U B W Y l ow kw ow' kd' j nb Hs Os y a n m w) {s2 kk : Int} (h23 : A w 23 n = 6) (hs : (s2 = 12 ∧ kk = 39) ∨ (s2 = 13 ∧ kk = 40) ∨ (s2 = 14 ∧ kk = 31) ∨ (s2 = 15 ∧ kk = 41) ∨ (s2 = 16 ∧ kk = 32) ∨ (s2 = 17 ∧ kk = 42)) (c0 : A m 23 a = 8) (ht : A m 23 (a + 1) = kk) (hd : A w 25 n = s2) (cr : ∃ f, CRs (A m 23) (ROs w) (w.2.2.2 34) f y (a + 2) (n + 1) (Hs j) (Os j)) : PP Q (q67 (SAf T Fv P p) N (qgo (SAf T Fv P p) N M1) m p (I ((v : Nat) : Int))) (bnd (fm_M_one N w (I ((n : Nat) : Int)) (I 6)) (fun u _ => KRs Fv' AN TT CC ND CN UN FN N p mu M2 w u)) := by
  obtain ⟨⟨r5, r8, r2⟩, ⟨ha, hn, hv, hpp, hj⟩, nd, ⟨pl, ru, bd⟩, ⟨n1, n2, n3⟩, bH, bW, bB, bY, nND, hN⟩ := st_b s
  have h1 := (n3.2.2.2.2.2.1 h23).1
  obtain ⟨W1, rfl⟩ : ∃ W1, W = W1 + 2 := ⟨W - 2, by omega⟩
  obtain ⟨bd1, bd2, bd3, bd4⟩ := bd
  obtain ⟨pt, xc, h140⟩ := s.2.2.2.2.2.2.1
  have cx : CTX Fv P m := (LPQ_dc s.2.2.2.1).2
  have h955 := s.2.2.1.2.2.1.1
  have h150 := s.2.2.1.2.2.2.1.2
  have hi := s.1.2.2.2.1
  obtain ⟨-, -, -, -, fa', na, atf⟩ := s.2.2.1.2.2.2.2.2.2.1
  rw [go_vl r5 r8 (by omega) r2 (by omega) c0 ⟨by omega, by omega⟩]
  exact op_compare (K1 := fun u => q195 (SAf T Fv P p) N (qgo (SAf T Fv P p) N M1) u p (I ((v : Nat) : Int))) (K2 := fun u => KRs Fv' AN TT CC ND CN UN FN N p mu M2 w u) hs hpp pl ru (by omega) bd2 ⟨bd3, bd4⟩ pt cx xc s.2.1.1.2.1 atf (by omega) (by omega) ht hd (by omega) cr (fun m3 w3 a1 a2 a3 a4 => st_fg ih s hj a1 a2 a3 a4)
theorem sk_6j (ih : ∀ M1 v m w, SIA T Fv P Fv' AN TT CC pM pE ND CN PN SN UN FN p v m w → PP Q (qgo (SAf T Fv P p) N M1 m p (I ((v : Nat) : Int))) (gg_M_go N M2 w (I ((p : Nat) : Int)))) (s : STx T Fv P Fv' AN TT CC pM pE ND CN PN SN UN FN N PR p i v f b U B W Y l ow kw ow' kd' j nb Hs Os y a n m w) (h23 : A w 23 n = 6) (c0 : A m 23 a = 10) (ht : A m 23 (a + 1) = 43) (hd : A w 25 n = 22) (cr : ∃ f, CRs (A m 23) (ROs w) (w.2.2.2 34) f y (a + 2) (n + 1) (Hs j) (Os j)) : PP Q (q67 (SAf T Fv P p) N (qgo (SAf T Fv P p) N M1) m p (I ((v : Nat) : Int))) (bnd (fm_M_one N w (I ((n : Nat) : Int)) (I 6)) (fun u _ => KRs Fv' AN TT CC ND CN UN FN N p mu M2 w u)) := by
  obtain ⟨⟨r5, r8, r2⟩, ⟨ha, hn, hv, hpp, hj⟩, nd, ⟨pl, ru, bd⟩, ⟨n1, n2, n3⟩, bH, bW, bB, bY, nND, hN⟩ := st_b s
  have h1 := (n3.2.2.2.2.2.1 h23).1
  obtain ⟨W1, rfl⟩ : ∃ W1, W = W1 + 2 := ⟨W - 2, by omega⟩
  obtain ⟨bd1, bd2, bd3, bd4⟩ := bd
  obtain ⟨pt, xc, h140⟩ := s.2.2.2.2.2.2.1
  have cx : CTX Fv P m := (LPQ_dc s.2.2.2.1).2
  have h955 := s.2.2.1.2.2.1.1
  have h150 := s.2.2.1.2.2.2.1.2
  have hi := s.1.2.2.2.1
  have n4 := n1.2.2.2.1
  rw [go_vl r5 r8 (by omega) r2 (by omega) c0 ⟨by omega, by omega⟩]
  exact op_join (K1 := fun u => q195 (SAf T Fv P p) N (qgo (SAf T Fv P p) N M1) u p (I ((v : Nat) : Int))) (K2 := fun u => KRs Fv' AN TT CC ND CN UN FN N p mu M2 w u) hpp pl ru (by omega) bd2 ⟨bd3, bd4⟩ pt cx xc h140 hd ht ⟨h955, hi⟩ (show F w 150 = ((0 : Nat) : Int) ∧ 0 < 4000 from ⟨h150, by decide⟩) (by omega) cr (fun b3 U3 m3 w3 a1 a2 a3 a4 a5 => (st_ru ih s a1 a2 a3 a4 a5).1) (fun m3 w3 a1 a2 a3 a4 a5 a6 a7 => st_w3 (c := 11) ih s (by omega) (by omega) a1 a2 (by rw [wi_id a3.2.2.1.1]; exact a3) a4 a5 (Nat.le_refl _) (by omega) (by omega) a6 a7) (fun m3 w3 a1 a2 a3 a4 => st_en (c := 20) ih s (by omega) (by omega) a1 a2 a3 a4)
theorem sk_6l (ih : ∀ M1 v m w, SIA T Fv P Fv' AN TT CC pM pE ND CN PN SN UN FN p v m w → PP Q (qgo (SAf T Fv P p) N M1 m p (I ((v : Nat) : Int))) (gg_M_go N M2 w (I ((p : Nat) : Int)))) (s : STx T Fv P Fv' AN TT CC pM pE ND CN PN SN UN FN N PR p i v f b U B W Y l ow kw ow' kd' j nb Hs Os y a n m w) (h23 : A w 23 n = 6) (c0 : A m 23 a = 10) (ht : A m 23 (a + 1) = 44) (hd : A w 25 n = 23) (cr : ∃ f, CRs (A m 23) (ROs w) (w.2.2.2 34) f y (a + 2) (n + 1) (Hs j) (Os j)) : PP Q (q67 (SAf T Fv P p) N (qgo (SAf T Fv P p) N M1) m p (I ((v : Nat) : Int))) (bnd (fm_M_one N w (I ((n : Nat) : Int)) (I 6)) (fun u _ => KRs Fv' AN TT CC ND CN UN FN N p mu M2 w u)) := by
  obtain ⟨⟨r5, r8, r2⟩, ⟨ha, hn, hv, hpp, hj⟩, nd, ⟨pl, ru, bd⟩, ⟨n1, n2, n3⟩, bH, bW, bB, bY, nND, hN⟩ := st_b s
  have h1 := (n3.2.2.2.2.2.1 h23).1
  obtain ⟨W1, rfl⟩ : ∃ W1, W = W1 + 2 := ⟨W - 2, by omega⟩
  obtain ⟨bd1, bd2, bd3, bd4⟩ := bd
  obtain ⟨pt, xc, h140⟩ := s.2.2.2.2.2.2.1
  have cx : CTX Fv P m := (LPQ_dc s.2.2.2.1).2
  have h955 := s.2.2.1.2.2.1.1
  have h150 := s.2.2.1.2.2.2.1.2
  have hi := s.1.2.2.2.1
  have n4 := n1.2.2.2.1
  obtain ⟨-, -, -, -, fa', na, atf⟩ := s.2.2.1.2.2.2.2.2.2.1
  rw [go_vl r5 r8 (by omega) r2 (by omega) c0 ⟨by omega, by omega⟩]
  exact op_less (K1 := fun u => q195 (SAf T Fv P p) N (qgo (SAf T Fv P p) N M1) u p (I ((v : Nat) : Int))) (K2 := fun u => KRs Fv' AN TT CC ND CN UN FN N p mu M2 w u) hpp pl ru (by omega) bd2 ⟨bd3, bd4⟩ pt cx xc h140 hd ht s.2.1.1.2.1 atf ⟨h955, hi⟩ (show F w 150 = ((0 : Nat) : Int) ∧ 0 < 4000 from ⟨h150, by decide⟩) (by omega) cr (fun b3 U3 m3 w3 a1 a2 a3 a4 a5 => (st_ru ih s a1 a2 a3 a4 a5).1) (fun m3 w3 a1 a2 a3 a4 a5 a6 a7 => st_w3 (c := 11) ih s (by omega) (by omega) a1 a2 (by rw [wi_id a3.2.2.1.1]; exact a3) a4 a5 (Nat.le_refl _) (by omega) (by omega) a6 a7) (fun m3 w3 a1 a2 a3 a4 => st_en (c := 20) ih s (by omega) (by omega) a1 a2 a3 a4)
theorem sk_4 (ih : ∀ M1 v m w, SIA T Fv P Fv' AN TT CC pM pE ND CN PN SN UN FN p v m w → PP Q (qgo (SAf T Fv P p) N M1 m p (I ((v : Nat) : Int))) (gg_M_go N M2 w (I ((p : Nat) : Int)))) (s : STx T Fv P Fv' AN TT CC pM pE ND CN PN SN UN FN N PR p i v f b U B W Y l ow kw ow' kd' j nb Hs Os y a n m w) (h23 : A w 23 n = 4) (c0 : A m 23 a = 4) (c1 : A m 23 (a + 1) = A w 25 n) (cr : ∃ f, CRs (A m 23) (ROs w) (w.2.2.2 34) f y (a + 2) (n + 1) (Hs j) (Os j)) : PP Q (q67 (SAf T Fv P p) N (qgo (SAf T Fv P p) N M1) m p (I ((v : Nat) : Int))) (bnd (fm_M_one N w (I ((n : Nat) : Int)) (I 4)) (fun u _ => KRs Fv' AN TT CC ND CN UN FN N p mu M2 w u)) := by
  obtain ⟨⟨r5, r8, r2⟩, ⟨ha, hn, hv, hpp, hj⟩, nd, ⟨pl, ru, bd⟩, ⟨n1, n2, n3⟩, bH, bW, bB, bY, nND, hN⟩ := st_b s
  obtain ⟨k, k1, k2, k3, -⟩ := n3.2.2.2.1 h23
  obtain ⟨bd1, bd2, bd3, bd4⟩ := bd
  obtain ⟨pt, xc, h140⟩ := s.2.2.2.2.2.2.1
  have cx : CTX Fv P m := (LPQ_dc s.2.2.2.1).2
  have h955 := s.2.2.1.2.2.1.1
  have h150 := s.2.2.1.2.2.2.1.2
  have hi := s.1.2.2.2.1
  have n4 := n1.2.2.2.1
  rw [go_mk r5 r8 (by omega) r2 (by omega) c0 ⟨by omega, by omega⟩]
  exact op_tuple (K1 := fun u => q195 (SAf T Fv P p) N (qgo (SAf T Fv P p) N M1) u p (I ((v : Nat) : Int))) (K2 := fun u => KRs Fv' AN TT CC ND CN UN FN N p mu M2 w u) hpp pl ru (by omega) bd2 ⟨bd3, bd4⟩ pt cx xc pt.1.2.2 xc.2.1 cx.1 h140 k1 (by omega) (by omega) (c1.trans k1) ⟨h955, hi⟩ (show F w 150 = ((0 : Nat) : Int) ∧ 0 < 4000 from ⟨h150, by decide⟩) (by omega) cr (fun b3 U3 m3 w3 a1 a2 a3 a4 => st_fg ih s hj a1 a2 a3 a4) (fun m3 w3 a1 a2 a3 a4 a5 a6 a7 => st_w3 (c := 11) ih s (by omega) (by omega) a1 a2 (by rw [wi_id a3.2.2.1.1]; exact a3) a4 a5 (Nat.le_refl _) (by omega) (by omega) a6 a7) (fun m3 w3 a1 a2 a3 => st_en (c := 20) ih s (by omega) (by omega) (GGm_fg a1) (GGw_fg a2 hj) (fun s => SC_fg s a1 a2) a3)
theorem sk_5a (ih : ∀ M1 v m w, SIA T Fv P Fv' AN TT CC pM pE ND CN PN SN UN FN p v m w → PP Q (qgo (SAf T Fv P p) N M1 m p (I ((v : Nat) : Int))) (gg_M_go N M2 w (I ((p : Nat) : Int)))) (s : STx T Fv P Fv' AN TT CC pM pE ND CN PN SN UN FN N PR p i v f b U B W Y l ow kw ow' kd' j nb Hs Os y a n m w) (h23 : A w 23 n = 5) (h26 : A w 26 n = 1) (h25 : 0 < A w 25 n) (c0 : A m 23 a = 5) (c1 : A m 23 (a + 1) = A w 25 n) (cr : ∃ f, CRs (A m 23) (ROs w) (w.2.2.2 34) f y (a + 2) (n + 1) (Hs j) (Os j)) : PP Q (q67 (SAf T Fv P p) N (qgo (SAf T Fv P p) N M1) m p (I ((v : Nat) : Int))) (bnd (fm_M_one N w (I ((n : Nat) : Int)) (I 5)) (fun u _ => KRs Fv' AN TT CC ND CN UN FN N p mu M2 w u)) := by
  obtain ⟨⟨r5, r8, r2⟩, ⟨ha, hn, hv, hpp, hj⟩, nd, ⟨pl, ru, bd⟩, ⟨n1, n2, n3⟩, bH, bW, bB, bY, nND, hN⟩ := st_b s
  obtain ⟨k, k', k1, k2, k3, k4, k5, -⟩ := n3.2.2.2.2.1 h23
  obtain ⟨W1, rfl⟩ : ∃ W1, W = W1 + k + 1 := ⟨W - k - 1, by omega⟩
  obtain ⟨bd1, bd2, bd3, bd4⟩ := bd
  obtain ⟨pt, xc, h140⟩ := s.2.2.2.2.2.2.1
  have cx : CTX Fv P m := (LPQ_dc s.2.2.2.1).2
  have h955 := s.2.2.1.2.2.1.1
  have h150 := s.2.2.1.2.2.2.1.2
  have hi := s.1.2.2.2.1
  have n4 := n1.2.2.2.1
  rw [go_mk r5 r8 (by omega) r2 (by omega) c0 ⟨by omega, by omega⟩]
  exact op_list1 (K1 := fun u => q195 (SAf T Fv P p) N (qgo (SAf T Fv P p) N M1) u p (I ((v : Nat) : Int))) (K2 := fun u => KRs Fv' AN TT CC ND CN UN FN N p mu M2 w u) hpp pl ru (by omega) bd2 ⟨bd3, bd4⟩ pt cx xc pt.1.2.2 xc.2.1 cx.1 h140 k1 h26 (by omega) (by omega) (c1.trans k1) ⟨h955, hi⟩ (show F w 150 = ((0 : Nat) : Int) ∧ 0 < 4000 from ⟨h150, by decide⟩) (by omega) cr (fun b3 U3 m3 w3 a1 a2 a3 a4 => st_fg ih s hj a1 a2 a3 a4) (fun m3 w3 a1 a2 a3 a4 a5 a6 a7 => st_w3 (c := 11) ih s (by omega) (by omega) a1 a2 (by rw [wi_id a3.2.2.1.1]; exact a3) a4 a5 (Nat.le_refl _) (by omega) (by omega) a6 a7) (fun m3 w3 a1 a2 a3 => st_en (c := 20) ih s (by omega) (by omega) (GGm_fg a1) (GGw_fg a2 hj) (fun s => SC_fg s a1 a2) a3)
theorem sk_5b (ih : ∀ M1 v m w, SIA T Fv P Fv' AN TT CC pM pE ND CN PN SN UN FN p v m w → PP Q (qgo (SAf T Fv P p) N M1 m p (I ((v : Nat) : Int))) (gg_M_go N M2 w (I ((p : Nat) : Int)))) (s : STx T Fv P Fv' AN TT CC pM pE ND CN PN SN UN FN N PR p i v f b U B W Y l ow kw ow' kd' j nb Hs Os y a n m w) (h23 : A w 23 n = 5) (h26 : A w 26 n = 0) (h25 : 0 < A w 25 n) (c0 : A m 23 a = 1) (d1 : A m 23 (a + 1) = 6) (d2 : A m 23 (a + 2) = 0) (d3 : A m 23 (a + 3) = 5) (d4 : A m 23 (a + 4) = A w 25 n) (cr : ∃ f, CRs (A m 23) (ROs w) (w.2.2.2 34) f y (a + 5) (n + 1) (Hs j) (Os j)) : PP Q (q67 (SAf T Fv P p) N (qgo (SAf T Fv P p) N M1) m p (I ((v : Nat) : Int))) (bnd (fm_M_one N w (I ((n : Nat) : Int)) (I 5)) (fun u _ => KRs Fv' AN TT CC ND CN UN FN N p mu M2 w u)) := by
  obtain ⟨⟨r5, r8, r2⟩, ⟨ha, hn, hv, hpp, hj⟩, nd, ⟨pl, ru, bd⟩, ⟨n1, n2, n3⟩, bH, bW, bB, bY, nND, hN⟩ := st_b s
  obtain ⟨k, k', k1, k2, k3, k4, k5, -⟩ := n3.2.2.2.2.1 h23
  obtain ⟨W1, rfl⟩ : ∃ W1, W = W1 + k := ⟨W - k, by omega⟩
  obtain ⟨bd1, bd2, bd3, bd4⟩ := bd
  obtain ⟨pt, xc, h140⟩ := s.2.2.2.2.2.2.1
  have cx : CTX Fv P m := (LPQ_dc s.2.2.2.1).2
  have h955 := s.2.2.1.2.2.1.1
  have h150 := s.2.2.1.2.2.2.1.2
  have hi := s.1.2.2.2.1
  have n4 := n1.2.2.2.1
  obtain ⟨i2, h, mm, L, g2, x2, j2, wb, nb2, cb2, rk, M⟩ := cl_any s.2.2.2.1 r5 r8
  have lb : LNB m p := GEN_ln M.1 s.1.2.1
  have h956 := s.2.2.1.2.2.1.2
  rw [go_mk r5 r8 (by omega) r2 (by omega) c0 ⟨by omega, by omega⟩]
  exact op_list0 (K2 := fun u => KRs Fv' AN TT CC ND CN UN FN N p mu M2 w u) hpp pl ru (by omega) (by omega) (by omega) bd2 ⟨bd3, bd4⟩ lb pt cx xc pt.1.2.2 xc.2.1 cx.1 cx.2.2.2.2.2.2 h140 k1 h26 (by omega) (by omega) d1 d2 d3 (d4.trans k1) ⟨h955, hi⟩ (show F w 150 = ((0 : Nat) : Int) ∧ 0 < 4000 from ⟨h150, by decide⟩) (by omega) cr (fun M' vk' b3 U3 m3 w3 _ q2 a1 a2 a3 a4 => st_rv ih s (by omega) a1 a2 (GGm_fg a3) (GGw_fg a4 hj) (fun s => SC_fg s a3 a4)) (fun M' vk' m3 w3 _ q2 a1 a2 a3 a4 a5 a6 a7 => st_w3 (c := 11) ih s (by omega) (by omega) a1 a2 a3 a4 a5 (by omega) (by omega) (by omega) a6 a7) (fun M' vk' m3 w3 _ q2 a1 a2 a3 => st_en (c := 20) ih s (by omega) (by omega) (GGm_fg a1) (GGw_fg a2 hj) (fun s => SC_fg s a1 a2) a3)
theorem sk_2 (ih : ∀ M1 v m w, SIA T Fv P Fv' AN TT CC pM pE ND CN PN SN UN FN p v m w → PP Q (qgo (SAf T Fv P p) N M1 m p (I ((v : Nat) : Int))) (gg_M_go N M2 w (I ((p : Nat) : Int)))) (s : STx T Fv P Fv' AN TT CC pM pE ND CN PN SN UN FN N PR p i v f b U B W Y l ow kw ow' kd' j nb Hs Os y a n m w) {l2 : Nat} (h23 : A w 23 n = 2) (c0 : A m 23 a = 2) (st : STRs (A m 23) (ROs w) (a + 1) (A w 25 n) l2) (cr : ∃ f, CRs (A m 23) (ROs w) (w.2.2.2 34) f y (a + 2 + l2) (n + 1) (Hs j) (Os j)) : PP Q (q67 (SAf T Fv P p) N (qgo (SAf T Fv P p) N M1) m p (I ((v : Nat) : Int))) (bnd (fm_M_one N w (I ((n : Nat) : Int)) (I 2)) (fun u _ => KRs Fv' AN TT CC ND CN UN FN N p mu M2 w u)) := by
  obtain ⟨⟨r5, r8, r2⟩, ⟨ha, hn, hv, hpp, hj⟩, nd, ⟨pl, ru, bd⟩, ⟨n1, n2, n3⟩, bH, bW, bB, bY, nND, hN⟩ := st_b s
  obtain ⟨s0, bb, e0, e1, e2, e3, e4⟩ := st
  rw [ro_e (by unfold PRr; omega)] at e1 e2
  have cb := CR_b cr.choose_spec
  obtain ⟨bd1, bd2, bd3, bd4⟩ := bd
  obtain ⟨pt, xc, h140⟩ := s.2.2.2.2.2.2.1
  have cx : CTX Fv P m := (LPQ_dc s.2.2.2.1).2
  have h955 := s.2.2.1.2.2.1.1
  have h150 := s.2.2.1.2.2.2.1.2
  have hi := s.1.2.2.2.1
  obtain ⟨i2, h, mm, L, g2, x2, j2, wb, nb2, cb2, rk, M⟩ := cl_any s.2.2.2.1 r5 r8
  obtain ⟨-, -, -, ⟨ti, e5⟩, -⟩ := id M
  have ei : a = i2 := by omega
  subst ei
  obtain ⟨k0, q1, q2⟩ := in_2 (M.1.2.2.1 _ _ _ _ _ _ ti).2.2.2.2.2 c0
  obtain ⟨t1, t2, -⟩ := n3.2.1 h23
  obtain ⟨sn, ss⟩ := s.2.1.1.1.2.1
  have s3 := (ss s0 (by omega)).2.2
  rw [go_mk r5 r8 (by omega) r2 (by omega) c0 ⟨by omega, by omega⟩]
  exact op_string (K1 := fun u => q195 (SAf T Fv P p) N (qgo (SAf T Fv P p) N M1) u p (I ((v : Nat) : Int))) (K2 := fun u => KRs Fv' AN TT CC ND CN UN FN N p mu M2 w u) hpp pl ru (by omega) pt cx xc h140 e0 (by omega) e1 e2 (by omega) (by omega) e3 (fun k hk => by rw [e4 k hk, ro_e (by unfold PRr; omega)]) ⟨h955, hi⟩ (show F w 150 = ((0 : Nat) : Int) ∧ 0 < 4000 from ⟨h150, by decide⟩) (by omega) cr (fun b3 U3 m3 w3 a1 a2 a3 a4 => st_fg ih s hj a1 a2 a3 a4) (fun m3 w3 a1 a2 a3 => st_en (c := 20) ih s (by omega) (by omega) (GGm_fg a1) (GGw_fg a2 hj) (fun s => SC_fg s a1 a2) a3)
theorem sk_15 (ih : ∀ M1 v m w, SIA T Fv P Fv' AN TT CC pM pE ND CN PN SN UN FN p v m w → PP Q (qgo (SAf T Fv P p) N M1 m p (I ((v : Nat) : Int))) (gg_M_go N M2 w (I ((p : Nat) : Int)))) (s : STx T Fv P Fv' AN TT CC pM pE ND CN PN SN UN FN N PR p i v f b U B W Y l ow kw ow' kd' j nb Hs Os y a n m w) (h23 : A w 23 n = 15) (c0 : A m 23 a = 7) (c1 : A m 23 (a + 1) = A w 27 n) (cr : ∃ f, CRs (A m 23) (ROs w) (w.2.2.2 34) f y (a + 2) (n + 1) (Hs j) (Os j)) : PP Q (q67 (SAf T Fv P p) N (qgo (SAf T Fv P p) N M1) m p (I ((v : Nat) : Int))) (bnd (fm_M_one N w (I ((n : Nat) : Int)) (I 15)) (fun u _ => KRs Fv' AN TT CC ND CN UN FN N p mu M2 w u)) := by
  obtain ⟨⟨r5, r8, r2⟩, ⟨ha, hn, hv, hpp, hj⟩, nd, ⟨pl, ru, bd⟩, ⟨n1, n2, n3⟩, bH, bW, bB, bY, nND, hN⟩ := st_b s
  obtain ⟨-, k1, k2, -⟩ := n2.2.2.2.1 h23
  obtain ⟨ff, hf⟩ : ∃ ff : Nat, A w 27 n = ((ff : Nat) : Int) := ⟨(A w 27 n).toNat, by omega⟩
  have fn := s.2.1.1.1.1.2.2.2.2.1
  obtain ⟨bd1, bd2, bd3, bd4⟩ := bd
  obtain ⟨pt, xc, h140⟩ := s.2.2.2.2.2.2.1
  have cx : CTX Fv P m := (LPQ_dc s.2.2.2.1).2
  have h955 := s.2.2.1.2.2.1.1
  have h150 := s.2.2.1.2.2.2.1.2
  have hi := s.1.2.2.2.1
  rw [go_mk r5 r8 (by omega) r2 (by omega) c0 ⟨by omega, by omega⟩]
  exact op_funOf (K1 := fun u => q195 (SAf T Fv P p) N (qgo (SAf T Fv P p) N M1) u p (I ((v : Nat) : Int))) (K2 := fun u => KRs Fv' AN TT CC ND CN UN FN N p mu M2 w u) hpp pl ru (by omega) pt cx xc h140 hf (by omega) (c1.trans hf) ⟨h955, hi⟩ (show F w 150 = ((0 : Nat) : Int) ∧ 0 < 4000 from ⟨h150, by decide⟩) (by omega) cr (fun b3 U3 m3 w3 a1 a2 a3 a4 => st_fg ih s hj a1 a2 a3 a4) (fun m3 w3 a1 a2 a3 => st_en (c := 20) ih s (by omega) (by omega) (GGm_fg a1) (GGw_fg a2 hj) (fun s => SC_fg s a1 a2) a3)
theorem sk_14 (ih : ∀ M1 v m w, SIA T Fv P Fv' AN TT CC pM pE ND CN PN SN UN FN p v m w → PP Q (qgo (SAf T Fv P p) N M1 m p (I ((v : Nat) : Int))) (gg_M_go N M2 w (I ((p : Nat) : Int)))) (s : STx T Fv P Fv' AN TT CC pM pE ND CN PN SN UN FN N PR p i v f b U B W Y l ow kw ow' kd' j nb Hs Os y a n m w) {uu l2 bb : Nat} (h23 : A w 23 n = 14) (c0 : A m 23 a = 6) (c1 : A m 23 (a + 1) = A w 25 n) (h25 : A w 25 n = ((uu : Nat) : Int)) (h54 : A w 54 uu = ((l2 : Nat) : Int)) (c2 : A m 23 (a + 2) = ((l2 : Nat) : Int)) (h55 : A w 55 uu = ((bb : Nat) : Int)) (lk : ∀ k, k < l2 → LKP (Hs j) (Os j) (A m 23 (a + 3 + k)) (A w 57 (bb + k))) (cr : ∃ f, CRs (A m 23) (ROs w) (w.2.2.2 34) f y (a + 3 + l2) (n + 1) (Hs j) (Os j)) : PP Q (q67 (SAf T Fv P p) N (qgo (SAf T Fv P p) N M1) m p (I ((v : Nat) : Int))) (bnd (fm_M_one N w (I ((n : Nat) : Int)) (I 14)) (fun u _ => KRs Fv' AN TT CC ND CN UN FN N p mu M2 w u)) := by
  obtain ⟨⟨r5, r8, r2⟩, ⟨ha, hn, hv, hpp, hj⟩, nd, ⟨pl, ru, bd⟩, ⟨n1, n2, n3⟩, bH, bW, bB, bY, nND, hN⟩ := st_b s
  obtain ⟨-, ⟨u2, k1, k2, -⟩, -⟩ := n2.2.2.1 h23
  have eu : u2 = uu := by omega
  subst eu
  obtain ⟨a0, h0, r0, z1, z2, z3, z4, -⟩ := s.2.1.1.1.2.2.2.2.2 u2 k2
  have un := s.2.1.1.1.1.2.2.2.1
  have n4 := n1.2.2.2.1
  obtain ⟨bd1, bd2, bd3, bd4⟩ := bd
  obtain ⟨pt, xc, h140⟩ := s.2.2.2.2.2.2.1
  have cx : CTX Fv P m := (LPQ_dc s.2.2.2.1).2
  have h955 := s.2.2.1.2.2.1.1
  have h150 := s.2.2.1.2.2.2.1.2
  have hi := s.1.2.2.2.1
  rw [go_mk r5 r8 (by omega) r2 (by omega) c0 ⟨by omega, by omega⟩]
  exact op_fun (K1 := fun u => q195 (SAf T Fv P p) N (qgo (SAf T Fv P p) N M1) u p (I ((v : Nat) : Int))) (K2 := fun u => KRs Fv' AN TT CC ND CN UN FN N p mu M2 w u) hpp pl ru (by omega) (by omega) pt cx xc pt.1.2.2 xc.2.1 cx.1 h140 h25 (by omega) h54 h55 (by omega) (by omega) (c1.trans h25) c2 lk nd ⟨h955, hi⟩ (show F w 150 = ((0 : Nat) : Int) ∧ 0 < 4000 from ⟨h150, by decide⟩) (by omega) cr (fun b3 U3 m3 w3 a1 a2 a3 a4 => st_fg ih s hj a1 a2 a3 a4) (fun m3 w3 a1 a2 a3 a4 a5 a6 a7 => st_w3 (c := 11) ih s (by omega) (by omega) a1 a2 (by rw [wi_id a3.2.2.1.1]; exact a3) a4 a5 (Nat.le_refl _) (by omega) (by omega) a6 a7) (fun m3 w3 a1 a2 a3 => st_en (c := 20) ih s (by omega) (by omega) (GGm_fg a1) (GGw_fg a2 hj) (fun s => SC_fg s a1 a2) a3)
end
end
section
set_option maxRecDepth 100000
section
variable {α β : Type} {b : Int → Nat → Nat → Prop} {N p k l U B W Y j a n : Nat} {m w : MS} {nb : Nat → Nat} {Hs Os : Nat → List Nat} {y : Option (Nat × Nat × Nat)} {Q : MS → α → MS → β → Prop} {K1 : MS → Option (MS × α)} {K2 : MS → Option (MS × β)} {v : Int}
theorem one_8 : fm_M_one N w (I v) (I 8) = bnd (fm_M_goTo N w (I v + 1)) (fun u7 _ => bnd (fm_M_otherRun N u7 (I v) (I 8)) (fun u8 _ => some (u8, ()))) := rfl
theorem oth_8 {z : Int32} : fm_M_otherRun N w z (I 8) = bnd (fm_M_take N w) (fun u22 r22 => bnd (fm_M_sortOf N u22 r22) (fun u23 r23 => br (decide (r23 = 0)) (bnd (fm_M_valueOf N u23 r22) (fun u24 r24 => bnd (fm_M_valueOf N u24 r22) (fun u25 r25 => br (decide (r24 = (-r25))) (bnd (fm_M_valueOf N u25 r22) (fun u26 r26 => br (decide (r26 = 0)) (fb_M_otherRun_171 N () u26 (r22)) (fb_M_otherRun_162 N () u26))) (fb_M_otherRun_171 N () u25 (r22))))) (fb_M_otherRun_162 N () u23))) := rfl
theorem op_neg (hpp : p < 24) (pl : PLs b p m w U B (W + 1) Y) (ru : RUs m w p j nb Hs Os y a n) (hW : W + 1 < 46000) (hl : F m (pq p 45) = ((l : Nat) : Int)) (hl2 : W + 1 ≤ l ∧ l ≤ 1000000) (ha : a + 1 < 24000) (cr : ∃ f, CRs (A m 23) (ROs w) (w.2.2.2 34) f y (a + 1) (n + 1) (Hs j) (Os j))
    (c : ∀ m3 w3, PLs b p m3 w3 U B (W + 1) Y → RUs m3 w3 p j nb Hs Os y (a + 1) (n + 1) → FGm p m m3 → FGw p j w w3 → PP Q (K1 m3) (K2 w3))
    (c0 : PP Q (bnd (hm_Ma_wrong N m p 12) (fun u _ => K1 u)) (bnd (fr_M_error N (wa (wa w 98 (60 * p + j) ((n + 1 : Nat) : Int)) 92 p ((W : Nat) : Int)) 12) (fun u _ => K2 u))) : PP Q (bnd (hm_Ma_value N m p (I 11)) (fun u _ => K1 u)) (bnd (fm_M_one N w (I ((n : Nat) : Int)) (I 8)) (fun u _ => K2 u)) := by
  obtain ⟨⟨fa, ct⟩, ⟨r2, r3⟩, -, ⟨r5, r6⟩, r7, ⟨r8, r9, r10⟩, r11, r12, r13⟩ := id ru
  have hj : j < 60 := fa.1.2.2
  have rt := pl.2.2.1.2.2 W (by omega)
  have be : hm_Fr_below N m p 0 = some (m, m.2.2.2 (pq p 35) W) := by
    have := below_e (N := N) (x := 0) (k := 0) (W := W + 1) (l := l) pl.2.2.1.1 hl hl2.1 hl2.2 rfl (by omega)
    rw [show W + 1 - 1 - 0 = W by omega] at this
    exact this
  have rt' : RTb b (m.2.2.2 (pq p 35) W) ((wa w 98 (60 * p + j) ((n + 1 : Nat) : Int)).2.2.2 91 (46000 * p + W)) := rt
  have nb9 := (CR_b cr.choose_spec).2.1
  rw [val11, one_8, show I ((n : Nat) : Int) + 1 = I ((n + 1 : Nat) : Int) from addN, I_F' r2, show I ((a : Nat) : Int) + 1 = I ((a + 1 : Nat) : Int) from addN, Co_e (k := a + 1) rfl ha, bnd_so]
  unfold hm_Ma_negate hb_Ma_negate_0
  rw [be, bnd_so, e_tag, bnd_so]
  simp only [bb_e]
  refine r_bnd (pk_mo (goto_r (N := N) (n := ((n + 1 : Nat) : Int)) hpp r11 fa.1.2.1 hj) (fun w2 _ h => ?_))
  subst h
  have h92 : A (wa w 98 (60 * p + j) ((n + 1 : Nat) : Int)) 92 p = ((W + 1 : Nat) : Int) := by rw [wa_rne (by omega)]; exact pl.2.2.1.2.1
  rw [oth_8]
  simp only [bb_e]
  refine r_bnd (pk_mo (take_r (N := N) (w := wa w 98 (60 * p + j) ((n + 1 : Nat) : Int)) hpp r11 h92 (by omega)) (fun w3 r h => ?_))
  obtain ⟨rfl, rfl⟩ := h
  rw [sortOf_e, bnd_so]
  have g3 : FGw p j w (wa (wa w 98 (60 * p + j) ((n + 1 : Nat) : Int)) 92 p ((W : Nat) : Int)) := FGw.tr FGw.goto FGw.w92
  have h98 : A (wa (wa w 98 (60 * p + j) ((n + 1 : Nat) : Int)) 92 p ((W : Nat) : Int)) 98 (60 * p + j) = ((n + 1 : Nat) : Int) := by rw [wa_rne (by omega), wa_sm (by omega) (by omega)]
  have pl2 : PLs b p (wi m (pq p 26) ((W : Nat) : Int)) (wa (wa w 98 (60 * p + j) ((n + 1 : Nat) : Int)) 92 p ((W : Nat) : Int)) U B W Y := PLs_drop (k := 1) (PLs_98 pl) (by omega)
  have e5 : F (wi m (pq p 26) ((W : Nat) : Int)) 1105 = ((a : Nat) : Int) := by rw [wi_ne (pq_n (by omega))]; exact r2
  have e45 : F (wi m (pq p 26) ((W : Nat) : Int)) (pq p 45) = ((l : Nat) : Int) := by rw [wi_ne (pq_inj (by omega))]; exact hl
  generalize (wa w 98 (60 * p + j) ((n + 1 : Nat) : Int)).2.2.2 91 (46000 * p + W) = x at rt' ⊢
  rw [RTb_so rt']
  by_cases s0 : so (m.2.2.2 (pq p 35) W) = 0
  · have ex : x = m.2.2.2 (pq p 35) W := RTb_n rt' (by unfold isH; omega)
    rw [s0, show decide (I 0 = 0) = true from rfl, br_tq, br_tq, ex, val_m, bnd_so, val_m, bnd_so, be, bnd_so]
    unfold hm_Ma_number hb_Ma_number_0
    have fin : PP Q (bnd (bnd (bnd (hm_Te_make N m 0 ((-((m.2.2.2 (pq p 35) W).toInt32.toInt64)).toInt32)) (fun u1 r1 => bnd (hm_Ma_answer N u1 p 1 r1) (fun u2 r2 => lt (upI u2 1105 ((u2.1 1105) + 1)) (fun w4 => some (w4, ()))))) (fun u8 _ => some (u8, ()))) (fun u _ => bnd (some (u, ())) (fun u _ => K1 u))) (bnd (fb_M_otherRun_171 N () (wa (wa w 98 (60 * p + j) ((n + 1 : Nat) : Int)) 92 p ((W : Nat) : Int)) (m.2.2.2 (pq p 35) W)) (fun u _ => bnd (some (u, ())) (fun u _ => K2 u))) := by
      unfold fb_M_otherRun_171 fb_M_otherRun_184 fb_M_otherRun_328
      rw [val_m, bnd_so, neg_32]
      generalize -((m.2.2.2 (pq p 35) W).toInt32) = z
      rw [I_of z, lit0q, e_make, bnd_so, term_e, bnd_so]
      unfold hm_Ma_answer hb_Ma_answer_0
      rw [show (1 : Int32) = I 1 from rfl, drop_e (W := W + 1) (k := 1) (x := 1) pl.2.2.1.1 rfl (by omega), bnd_so, Nat.add_sub_cancel]
      have pp := push_pp (N := N) (a2 := a + 1) (n2 := n + 1) (dz := 1) (l := l) (W := W) (t := mk 0 z.toInt) (x := mk 0 z.toInt) (Q := Q) (K1 := K1) (K2 := K2) hpp ru ⟨by omega, hl, by omega, hl2.2⟩ (lit_b (by omega) (fun h => by omega) (ti_rng z)) FGm.drop g3 pl2 e45 r11 h98 e5 rfl (by omega) cr c
      simp only [bb_e, bnd_so] at pp
      simp only [bb_e, bnd_so]
      exact pp
    have no : PP Q (bnd (bnd (bnd (hm_Ma_wrong N m p 12) (fun u5 _ => some (u5, ()))) (fun u8 _ => some (u8, ()))) (fun u _ => bnd (some (u, ())) (fun u _ => K1 u))) (bnd (fb_M_otherRun_162 N () (wa (wa w 98 (60 * p + j) ((n + 1 : Nat) : Int)) 92 p ((W : Nat) : Int))) (fun u _ => bnd (some (u, ())) (fun u _ => K2 u))) := by
      unfold fb_M_otherRun_162 fb_M_otherRun_184 fb_M_otherRun_328
      simp only [bb_e, bnd_so]
      exact c0
    have n64 := neg_64 (m.2.2.2 (pq p 35) W).toInt32
    by_cases z1 : (m.2.2.2 (pq p 35) W).toInt32 = -(m.2.2.2 (pq p 35) W).toInt32
    · rw [decide_eq_true z1, br_tq, val_m, bnd_so]
      by_cases z2 : (m.2.2.2 (pq p 35) W).toInt32 = 0
      · rw [decide_eq_true (n64.mpr (fun c => c.2 z2)), br_tq, decide_eq_true z2, br_tq]
        exact fin
      · rw [decide_eq_false (fun c => n64.mp c ⟨z1, z2⟩), br_fq, decide_eq_false z2, br_fq]
        exact no
    · rw [decide_eq_true (n64.mpr (fun c => z1 c.1)), br_tq, decide_eq_false z1, br_fq]
      exact fin
  · have e : decide (I (so (m.2.2.2 (pq p 35) W)) = 0) = false := by
      have := so_r (m.2.2.2 (pq p 35) W)
      rw [lit0q, decE this.1 this.2 (by decide) (by decide)]
      exact decide_eq_false s0
    rw [e, br_fq, br_fq]
    unfold fb_M_otherRun_162 fb_M_otherRun_184 fb_M_otherRun_328
    simp only [bb_e, bnd_so]
    exact c0
end
end
section
set_option maxRecDepth 100000
section
variable {α β : Type} {b : Int → Nat → Nat → Prop} {N p j n n2 : Nat} {w : MS} {Q : MS → α → MS → β → Prop} {D : Option (MS × α)} {K2 : MS → Option (MS × β)}
theorem jmp_r (hpp : p < 24) (r11 : F w 133 = ((p : Nat) : Int)) (h95 : A w 95 p = ((j + 1 : Nat) : Int)) (hj : j < 60) (hn : n < 100000) (hn2 : n2 < 100000) (hd : A w 25 n = ((n2 : Nat) : Int)) (k : PP Q D (K2 (wa (wa w 98 (60 * p + j) ((n + 1 : Nat) : Int)) 98 (60 * p + j) ((n2 : Nat) : Int)))) : PP Q D (bnd (fm_M_one N w (I ((n : Nat) : Int)) (I 26)) (fun u _ => K2 u)) := by
  rw [one_26, show I ((n : Nat) : Int) + 1 = I ((n + 1 : Nat) : Int) from addN]
  simp only [bb_e]
  refine r_bnd (pk_mo (goto_r (N := N) (n := ((n + 1 : Nat) : Int)) hpp r11 h95 hj) (fun w2 _ h => ?_))
  subst h
  have aw : ∀ K i, K ≠ 98 → A (wa w 98 (60 * p + j) ((n + 1 : Nat) : Int)) K i = A w K i := fun K i h => by rw [wa_rne h]
  refine rb_ck (fun _ => ?_)
  rw [tnI (n := n) rfl (by omega), I_A' ((aw 25 n (by omega)).trans hd), show (-2 : Int32) = I (-2) from rfl, decE (by omega) (by omega) (by omega) (by omega), decide_eq_false (by omega), br_fq]
  refine rb_ck (fun _ => ?_)
  refine r_bb (r_bnd (pk_mo (goto_r (N := N) (w := wa w 98 (60 * p + j) ((n + 1 : Nat) : Int)) (n := ((n2 : Nat) : Int)) hpp r11 ((aw 95 p (by omega)).trans h95) hj) (fun w3 _ h => ?_)))
  subst h
  rw [bnd_so]
  exact k
theorem no_r (hpp : p < 24) (r11 : F w 133 = ((p : Nat) : Int)) (h95 : A w 95 p = ((j + 1 : Nat) : Int)) (hj : j < 60) (hn : n < 100000) (k : PP Q D (K2 (wa w 98 (60 * p + j) ((n + 1 : Nat) : Int)))) : PP Q D (bnd (fm_M_one N w (I ((n : Nat) : Int)) (I 30)) (fun u _ => K2 u)) := by
  rw [one_30, show I ((n : Nat) : Int) + 1 = I ((n + 1 : Nat) : Int) from addN]
  simp only [bb_e]
  refine r_bnd (pk_mo (goto_r (N := N) (n := ((n + 1 : Nat) : Int)) hpp r11 h95 hj) (fun w2 _ h => ?_))
  subst h
  rw [show fm_M_otherRun N (wa w 98 (60 * p + j) ((n + 1 : Nat) : Int)) (I ((n : Nat) : Int)) (I 30) = some (wa w 98 (60 * p + j) ((n + 1 : Nat) : Int), ()) from rfl, bnd_so, bnd_so]
  exact k
end
section
variable {T : TYc} {Fv Fv' : Int64 → Int64 → Prop} {P : Int64 → Prop} {AN : Nat} {TT : TY} {CC : CY} {pM pE : Nat → Nat} {ND CN PN SN UN FN N PR p i v mu M1 M2 f U B W Y l j a n : Nat} {m w : MS} {Q : MS → Int32 → MS → Int32 → Prop} {b : Int → Nat → Nat → Prop} {ow kw ow' kd' : Nat → Nat} {nb : Nat → Nat} {Hs Os : Nat → List Nat} {y : Option (Nat × Nat × Nat)}
theorem sk_8 (ih : ∀ M1 v m w, SIA T Fv P Fv' AN TT CC pM pE ND CN PN SN UN FN p v m w → PP Q (qgo (SAf T Fv P p) N M1 m p (I ((v : Nat) : Int))) (gg_M_go N M2 w (I ((p : Nat) : Int)))) (s : STx T Fv P Fv' AN TT CC pM pE ND CN PN SN UN FN N PR p i v f b U B W Y l ow kw ow' kd' j nb Hs Os y a n m w) (h23 : A w 23 n = 8) (c0 : A m 23 a = 11) (cr : ∃ f, CRs (A m 23) (ROs w) (w.2.2.2 34) f y (a + 1) (n + 1) (Hs j) (Os j)) : PP Q (q67 (SAf T Fv P p) N (qgo (SAf T Fv P p) N M1) m p (I ((v : Nat) : Int))) (bnd (fm_M_one N w (I ((n : Nat) : Int)) (I 8)) (fun u _ => KRs Fv' AN TT CC ND CN UN FN N p mu M2 w u)) := by
  obtain ⟨⟨r5, r8, r2⟩, ⟨ha, hn, hv, hpp, hj⟩, nd, ⟨pl, ru, bd⟩, ⟨n1, n2, n3⟩, bH, bW, bB, bY, nND, hN⟩ := st_b s
  have h1 := (n3.2.2.2.2.2.2.1 (Or.inr h23)).1
  obtain ⟨W1, rfl⟩ : ∃ W1, W = W1 + 1 := ⟨W - 1, by omega⟩
  obtain ⟨bd1, bd2, bd3, bd4⟩ := bd
  rw [go_vl r5 r8 (by omega) r2 (by omega) c0 ⟨by omega, by omega⟩]
  refine op_neg (K1 := fun u => q195 (SAf T Fv P p) N (qgo (SAf T Fv P p) N M1) u p (I ((v : Nat) : Int))) (K2 := fun u => KRs Fv' AN TT CC ND CN UN FN N p mu M2 w u) hpp pl ru (by omega) bd2 ⟨bd3, bd4⟩ (by omega) cr (fun m3 w3 a1 a2 a3 a4 => st_fg ih s hj a1 a2 a3 a4) ?_
  show PP Q (bnd (hm_Ma_wrong N m p (I 12)) (fun u _ => q195 (SAf T Fv P p) N (qgo (SAf T Fv P p) N M1) u p (I ((v : Nat) : Int)))) (bnd (fr_M_error N _ (I 12)) (fun u _ => KRs Fv' AN TT CC ND CN UN FN N p mu M2 w u))
  rw [wrong_e, bnd_so]
  exact st_wr (c := 12) ih s (by omega) (PLs_drop (k := 1) (PLs_98 pl) (by omega)) (by omega) (by omega) (FGw.tr FGw.goto FGw.w92) ⟨rfl, rfl⟩
theorem st_67 {w3 : MS} {n3 : Nat} (ih : ∀ M1 v m w, SIA T Fv P Fv' AN TT CC pM pE ND CN PN SN UN FN p v m w → PP Q (qgo (SAf T Fv P p) N M1 m p (I ((v : Nat) : Int))) (gg_M_go N M2 w (I ((p : Nat) : Int)))) (s : STx T Fv P Fv' AN TT CC pM pE ND CN PN SN UN FN N PR p i v f b U B W Y l ow kw ow' kd' j nb Hs Os y a n m w) (fw : FGw p j w w3) (pl3 : PLs (bGd b U ow' kd') p m w3 U B W Y) (h98 : A w3 98 (60 * p + j) = ((n3 : Nat) : Int)) (cr : ∃ f, CRs (A m 23) (ROs w) (w.2.2.2 34) f y a n3 (Hs j) (Os j)) : PP Q (q67 (SAf T Fv P p) N (qgo (SAf T Fv P p) N M1) m p (I ((v : Nat) : Int))) (KRs Fv' AN TT CC ND CN UN FN N p mu M2 w w3) := by
  obtain ⟨⟨hN, hpr, pr24, hi, hf⟩, ⟨per, hAN⟩, ba, lp, pl, ru, -⟩ := id s
  have hj := ru.1.1.1.2.2
  exact aft_67 per ba.2.2.2.1.1 ih ba hf lp GGm.rf (GGw_fg fw hj) pl3 (fun s => SC_fg s FGm.rf fw) (RUs_mv ru FGm.rf fw ru.2.1.1 h98 cr)
theorem sk_26n (ih : ∀ M1 v m w, SIA T Fv P Fv' AN TT CC pM pE ND CN PN SN UN FN p v m w → PP Q (qgo (SAf T Fv P p) N M1 m p (I ((v : Nat) : Int))) (gg_M_go N M2 w (I ((p : Nat) : Int)))) (s : STx T Fv P Fv' AN TT CC pM pE ND CN PN SN UN FN N PR p i v f b U B W Y l ow kw ow' kd' j nb Hs Os y a n m w) {nx : Nat} (hd : A w 25 n = ((nx : Nat) : Int)) (cr : ∃ f, CRs (A m 23) (ROs w) (w.2.2.2 34) f y a nx (Hs j) (Os j)) : PP Q (q67 (SAf T Fv P p) N (qgo (SAf T Fv P p) N M1) m p (I ((v : Nat) : Int))) (bnd (fm_M_one N w (I ((n : Nat) : Int)) (I 26)) (fun u _ => KRs Fv' AN TT CC ND CN UN FN N p mu M2 w u)) := by
  obtain ⟨⟨r5, r8, r2⟩, ⟨ha, hn, hv, hpp, hj⟩, nd, ⟨pl, ru, bd⟩, ⟨n1, n2, n3⟩, bH, bW, bB, bY, nND, hN⟩ := st_b s
  have cb := CR_b cr.choose_spec
  refine jmp_r (n2 := nx) hpp ru.2.2.2.2.2.2.1 ru.1.1.1.2.1 hj (by omega) (by omega) hd ?_
  exact st_67 ih s (FGw.tr FGw.goto FGw.goto) (PLs_98 (PLs_98 pl)) (by rw [wa_sm (by omega) (by omega)]) cr
theorem sk_30 (ih : ∀ M1 v m w, SIA T Fv P Fv' AN TT CC pM pE ND CN PN SN UN FN p v m w → PP Q (qgo (SAf T Fv P p) N M1 m p (I ((v : Nat) : Int))) (gg_M_go N M2 w (I ((p : Nat) : Int)))) (s : STx T Fv P Fv' AN TT CC pM pE ND CN PN SN UN FN N PR p i v f b U B W Y l ow kw ow' kd' j nb Hs Os y a n m w) (cr : ∃ f, CRs (A m 23) (ROs w) (w.2.2.2 34) f y a (n + 1) (Hs j) (Os j)) : PP Q (q67 (SAf T Fv P p) N (qgo (SAf T Fv P p) N M1) m p (I ((v : Nat) : Int))) (bnd (fm_M_one N w (I ((n : Nat) : Int)) (I 30)) (fun u _ => KRs Fv' AN TT CC ND CN UN FN N p mu M2 w u)) := by
  obtain ⟨⟨r5, r8, r2⟩, ⟨ha, hn, hv, hpp, hj⟩, nd, ⟨pl, ru, bd⟩, ⟨n1, n2, n3⟩, bH, bW, bB, bY, nND, hN⟩ := st_b s
  refine no_r hpp ru.2.2.2.2.2.2.1 ru.1.1.1.2.1 hj (by omega) ?_
  exact st_67 ih s FGw.goto (PLs_98 pl) (by rw [wa_sm (by omega) (by omega)]) cr
theorem sk_21 (ih : ∀ M1 v m w, SIA T Fv P Fv' AN TT CC pM pE ND CN PN SN UN FN p v m w → PP Q (qgo (SAf T Fv P p) N M1 m p (I ((v : Nat) : Int))) (gg_M_go N M2 w (I ((p : Nat) : Int)))) (s : STx T Fv P Fv' AN TT CC pM pE ND CN PN SN UN FN N PR p i v f b U B W Y l ow kw ow' kd' j nb Hs Os none a n m w) (h27 : A w 27 n = (((Os j).length : Nat) : Int)) (zr : ∃ f g, ZRs (A m 23) (ROs w) (w.2.2.2 34) (CRs (A m 23) (ROs w) (w.2.2.2 34) f) 1 0 (Hs j) (Os j) g a (A w 25 n)) : PP Q (q67 (SAf T Fv P p) N (qgo (SAf T Fv P p) N M1) m p (I ((v : Nat) : Int))) (bnd (fm_M_one N w (I ((n : Nat) : Int)) (I 21)) (fun u _ => KRs Fv' AN TT CC ND CN UN FN N p mu M2 w u)) := by
  obtain ⟨⟨r5, r8, r2⟩, ⟨ha, hn, hv, hpp, hj⟩, nd, ⟨pl, ru, bd⟩, ⟨n1, n2, n3⟩, bH, bW, bB, bY, nND, hN⟩ := st_b s
  obtain ⟨⟨-, hpr, pr24, hi, hf⟩, ⟨per, hAN⟩, ba, lp, -, -, ⟨pt, xc, h140⟩, -⟩ := id s
  have eB : B = nb j + (Hs j ++ Os j).length := by
    have h1 := pl.2.1.1
    have h2 := ru.1.1.2.2.2
    omega
  refine op_tries (K2 := fun u => KRs Fv' AN TT CC ND CN UN FN N p mu M2 w u) (kd := 1) hpp (Or.inl ⟨rfl, rfl⟩) pl ru (by omega) h27 zr (fun w3 a1 a2 a3 a4 a5 => ?_)
  have e : hp w3 p = hp w p := by
    unfold hp
    rw [a5.1]
  exact tr_pp hN hpp per ba.2.2.2.1.1 hAN ih ba M1 N 19 v f b U B W Y j 1 0 a nb Hs Os _ ow' kd' m w3 hf lp a1 a2 eB (by rw [e]; exact xc.2.1) ((congrArg Int32.toInt a5.2).trans h140) (by omega) GGm.rf a3 a4
theorem sk_31 (ih : ∀ M1 v m w, SIA T Fv P Fv' AN TT CC pM pE ND CN PN SN UN FN p v m w → PP Q (qgo (SAf T Fv P p) N M1 m p (I ((v : Nat) : Int))) (gg_M_go N M2 w (I ((p : Nat) : Int)))) (s : STx T Fv P Fv' AN TT CC pM pE ND CN PN SN UN FN N PR p i v f b U B W Y l ow kw ow' kd' j nb Hs Os none a n m w) (h27 : A w 27 n = (((Os j).length : Nat) : Int)) (zr : ∃ f g, ZRs (A m 23) (ROs w) (w.2.2.2 34) (CRs (A m 23) (ROs w) (w.2.2.2 34) f) 2 0 (Hs j) (Os j) g a (A w 25 n)) : PP Q (q67 (SAf T Fv P p) N (qgo (SAf T Fv P p) N M1) m p (I ((v : Nat) : Int))) (bnd (fm_M_one N w (I ((n : Nat) : Int)) (I 31)) (fun u _ => KRs Fv' AN TT CC ND CN UN FN N p mu M2 w u)) := by
  obtain ⟨⟨r5, r8, r2⟩, ⟨ha, hn, hv, hpp, hj⟩, nd, ⟨pl, ru, bd⟩, ⟨n1, n2, n3⟩, bH, bW, bB, bY, nND, hN⟩ := st_b s
  obtain ⟨⟨-, hpr, pr24, hi, hf⟩, ⟨per, hAN⟩, ba, lp, -, -, ⟨pt, xc, h140⟩, -⟩ := id s
  have eB : B = nb j + (Hs j ++ Os j).length := by
    have h1 := pl.2.1.1
    have h2 := ru.1.1.2.2.2
    omega
  refine op_tries (K2 := fun u => KRs Fv' AN TT CC ND CN UN FN N p mu M2 w u) (kd := 2) hpp (Or.inr ⟨rfl, rfl⟩) pl ru (by omega) h27 zr (fun w3 a1 a2 a3 a4 a5 => ?_)
  have e : hp w3 p = hp w p := by
    unfold hp
    rw [a5.1]
  exact tr_pp hN hpp per ba.2.2.2.1.1 hAN ih ba M1 N 19 v f b U B W Y j 2 0 a nb Hs Os _ ow' kd' m w3 hf lp a1 a2 eB (by rw [e]; exact xc.2.1) ((congrArg Int32.toInt a5.2).trans h140) (by omega) GGm.rf a3 a4
theorem sk_22 {kd k sc : Nat} (ih : ∀ M1 v m w, SIA T Fv P Fv' AN TT CC pM pE ND CN PN SN UN FN p v m w → PP Q (qgo (SAf T Fv P p) N M1 m p (I ((v : Nat) : Int))) (gg_M_go N M2 w (I ((p : Nat) : Int)))) (s : STx T Fv P Fv' AN TT CC pM pE ND CN PN SN UN FN N PR p i v f b U B W Y l ow kw ow' kd' j nb Hs Os (some (kd, k, sc)) a n m w) (h23 : A w 23 n = 22) (c0 : A m 23 a = 22) (cr : ∃ f, CRs (A m 23) (ROs w) (w.2.2.2 34) f (some (kd, k, sc)) (a + 1) (n + 1) (Hs j) (Os j)) : PP Q (q67 (SAf T Fv P p) N (qgo (SAf T Fv P p) N M1) m p (I ((v : Nat) : Int))) (bnd (fm_M_one N w (I ((n : Nat) : Int)) (I 22)) (fun u _ => KRs Fv' AN TT CC ND CN UN FN N p mu M2 w u)) := by
  obtain ⟨⟨r5, r8, r2⟩, ⟨ha, hn, hv, hpp, hj⟩, nd, ⟨pl, ru, bd⟩, ⟨n1, n2, n3⟩, bH, bW, bB, bY, nND, hN⟩ := st_b s
  have h1 := (n3.2.2.2.2.2.2.2.2.2.1 h23).2.1
  obtain ⟨W1, rfl⟩ : ∃ W1, W = W1 + 1 := ⟨W - 1, by omega⟩
  obtain ⟨bd1, bd2, bd3, bd4⟩ := bd
  rw [go_fl r5 r8 (by omega) r2 (by omega) c0 ⟨by omega, by omega⟩]
  refine op_holds (K1 := fun u => q195 (SAf T Fv P p) N (qgo (SAf T Fv P p) N M1) u p (I ((v : Nat) : Int))) (K2 := fun u => KRs Fv' AN TT CC ND CN UN FN N p mu M2 w u) hpp pl ru (by omega) bd2 ⟨bd3, bd4⟩ (by omega) cr (fun m3 w3 a1 a2 a3 a4 => st_fg ih s hj a1 a2 a3 a4) ?_
  simp only [bb_e, bnd_so]
  obtain ⟨⟨-, hpr, pr24, hi, hf⟩, ⟨per, hAN⟩, ba, lp, -, -, ⟨pt, xc, h140⟩, -, -, -, wl, rb, rm, ⟨eW, eB, -⟩, rct, rgd, -⟩ := id s
  obtain ⟨⟨fa, ct⟩, -, ⟨f0, cr0⟩, -, gd, -⟩ := id ru
  have h955 := ba.2.2.1.1
  have h956 := ba.2.2.1.2
  have fw : FGw p j w (wa (wa w 98 (60 * p + j) ((n + 1 : Nat) : Int)) 92 p ((W1 : Nat) : Int)) := FGw.tr FGw.goto FGw.w92
  have pl2 : PLs (bGd b U ow' kd') p (wi m (pq p 26) ((W1 : Nat) : Int)) (wa (wa w 98 (60 * p + j) ((n + 1 : Nat) : Int)) 92 p ((W1 : Nat) : Int)) U B W1 Y := PLs_drop (k := 1) (PLs_98 pl) (by omega)
  have ru2 := RUb_fg (RUs_b ru) FGm.rf fw
  have e88 : (wa (wa w 98 (60 * p + j) ((n + 1 : Nat) : Int)) 92 p ((W1 : Nat) : Int)).2.2.2 88 = w.2.2.2 88 := rfl
  have e140 : (wa (wa w 98 (60 * p + j) ((n + 1 : Nat) : Int)) 92 p ((W1 : Nat) : Int)).1 140 = w.1 140 := rfl
  have e105 : ∀ c, A (wa (wa w 98 (60 * p + j) ((n + 1 : Nat) : Int)) 92 p ((W1 : Nat) : Int)) 105 c = A w 105 c := fun c => by rw [wa_rne (by omega), wa_rne (by omega)]
  generalize hw2 : wa (wa w 98 (60 * p + j) ((n + 1 : Nat) : Int)) 92 p ((W1 : Nat) : Int) = w2 at fw pl2 ru2 e88 e140 e105 ⊢
  have gw2 : GGw p w w2 := GGw_fg fw hj
  have sc2 : SCs p m w → SCs p m w2 := fun s => SC_fg s FGm.rf fw
  obtain ⟨fl, W0, O0, X, eO, ⟨c3, c4, c5, c6⟩, ⟨c7, c8, c9, c10, c11⟩⟩ : ∃ (fl W0 : Nat) (O0 X : List Nat), Os j = O0 ++ X ∧ (F m 1112 = ((fl : Nat) : Int) ∧ 0 < fl ∧ F m 1113 = ((X.length : Nat) : Int) ∧ F m 1114 = ((W0 : Nat) : Int)) ∧ (F w 152 = 1 ∧ F w 153 = ((kd : Nat) : Int) ∧ F w 154 = ((k : Nat) : Int) ∧ F w 156 = ((nb j + (Hs j).length + O0.length : Nat) : Int) ∧ F w 157 = ((W0 : Nat) : Int)) := by
    rcases gd with ⟨c, -⟩ | ⟨kd', k', sc', e, fl, W0, O0, X, z1, z2, z3, -⟩
    · cases c
    · cases e
      exact ⟨fl, W0, O0, X, z1, z2, z3⟩
  obtain ⟨g157, g154, -⟩ := rgd c7
  have eB2 : F m (pq p 24) = ((nb j + (Hs j ++ Os j).length : Nat) : Int) := fa.2.2.2
  have eB3 := pl.2.1.1
  have eL : (Hs j ++ Os j).length = (Hs j).length + O0.length + X.length := by
    rw [eO, List.length_append, List.length_append]
    omega
  refine gf_pp (K1 := fun u => q195 (SAf T Fv P p) N (qgo (SAf T Fv P p) N M1) u p (I ((v : Nat) : Int))) (K2 := fun u => KRs Fv' AN TT CC ND CN UN FN N p mu M2 w u) (S := rc_M_error N 19) hpp pl2 ru2 ⟨by omega, by omega⟩ (by omega) (by omega) (CR_n cr0) (fun nC c q1 q2 => ?_) (fun m3 w3 B3 W3 a a1 a2 a3 a4 a5 a6 a7 a8 a9 => ?_)
  · obtain ⟨y1, y2⟩ := ct_mon2 ct q1 q2
    obtain ⟨W9, B0, -, -, z3, -, z5⟩ := rct (nC - 1) (by rw [y1]; congr 1; omega)
    have z6 := z5 c7
    rw [e105]
    omega
  · have q5 : F m3 955 ≤ F m3 956 := by
      have y1 : F m3 955 = F m 955 := congrArg Int32.toInt a6.2.2.1
      have y2 : F m3 956 = F m 956 := congrArg Int32.toInt a6.2.2.2.2.1
      omega
    refine go195 a3.1.2.2.2.1.2.1 q5 (fun hs => ?_)
    have hp3 : HP (hp w3 p) U ow' kd' Fv' (PWs AN) := by
      have e : hp w3 p = hp w p := by
        unfold hp
        rw [a9.1, e88]
      rw [e]
      exact xc.2.1
    exact st_tr (M := N) (d := 18) hN hpp per ba.2.2.2.1.1 hAN ih ba rfl (by omega) hs a3 a1 hp3 ((congrArg Int32.toInt (a9.2.trans e140)).trans h140) (by omega) a6 (GGw.tr gw2 a7) (fun s => a8 (sc2 s))
end
end
section
set_option maxRecDepth 100000
section
variable {T : TYc} {Fv Fv' : Int64 → Int64 → Prop} {P : Int64 → Prop} {AN : Nat} {TT : TY} {CC : CY} {pM pE : Nat → Nat} {ND CN PN SN UN FN N PR p i v mu M1 M2 f U B W Y l j a n : Nat} {m w : MS} {Q : MS → Int32 → MS → Int32 → Prop} {b : Int → Nat → Nat → Prop} {ow kw ow' kd' : Nat → Nat} {nb : Nat → Nat} {Hs Os : Nat → List Nat} {y : Option (Nat × Nat × Nat)}
theorem in_23 {u : MS} {i h m g x : Nat} {L : List Nat} (q : IN1 T u i h m L g x ∨ IN2 T u i h m L g x ∨ IN3 T u i h m L g x) (e : A u 23 i = 23) : T (i + 1) = some (h, m, L, 0, x) := by
  rcases q with q | q | q
  · rcases q with q | q | q | q | q | q | q | q | q | q | q | q | q
    · exfalso; have := q.1; omega
    · exfalso; have := q.1; omega
    · exfalso; have := q.1; omega
    · exfalso; have := q.1; omega
    · exfalso; have := q.1; omega
    · exfalso; have := q.1; omega
    · exfalso; have := q.1; omega
    · exfalso; have := q.1; omega
    · exfalso; have := q.1; omega
    · exfalso; have := q.1; omega
    · exfalso; have := q.1; omega
    · exfalso; have := q.1; omega
    · exfalso; have := q.1; omega
  · rcases q with q | q | q | q | q | q | q | q | q | q | q
    · exfalso; have := q.1; omega
    · exfalso; have := q.1; omega
    · exfalso; have := q.1; omega
    · exfalso; have := q.1; omega
    · exfalso; have := q.1; omega
    · exact q.2
    · exfalso; have := q.1; omega
    · exfalso; have := q.1; omega
    · exfalso; have := q.1; omega
    · exfalso; have := q.1; omega
    · exfalso; have := q.1; omega
  · rcases q with q | q | q | q | q | q | q | q | q
    · exfalso; have := q.1; omega
    · exfalso; have := q.1; omega
    · exfalso; have := q.1; omega
    · exfalso; have := q.1; omega
    · exfalso; have := q.1; omega
    · exfalso; omega
    · exfalso; have := q.1; omega
    · exfalso; have := q.1; omega
    · exfalso; have := q.1; omega
theorem in_24 {u : MS} {i h m g x : Nat} {L : List Nat} (q : IN1 T u i h m L g x ∨ IN2 T u i h m L g x ∨ IN3 T u i h m L g x) (e : A u 23 i = 24) : ∃ n : Nat, A u 23 (i + 1) = ((n : Nat) : Int) ∧ n ≤ h := by
  rcases q with q | q | q
  · rcases q with q | q | q | q | q | q | q | q | q | q | q | q | q
    · exfalso; have := q.1; omega
    · exfalso; have := q.1; omega
    · exfalso; have := q.1; omega
    · exfalso; have := q.1; omega
    · exfalso; have := q.1; omega
    · exfalso; have := q.1; omega
    · exfalso; have := q.1; omega
    · exfalso; have := q.1; omega
    · exfalso; have := q.1; omega
    · exfalso; have := q.1; omega
    · exfalso; have := q.1; omega
    · exfalso; have := q.1; omega
    · exfalso; have := q.1; omega
  · rcases q with q | q | q | q | q | q | q | q | q | q | q
    · exfalso; have := q.1; omega
    · exfalso; have := q.1; omega
    · exfalso; have := q.1; omega
    · exfalso; have := q.1; omega
    · exfalso; have := q.1; omega
    · exfalso; have := q.1; omega
    · obtain ⟨-, n, h1, h2, -⟩ := q
      exact ⟨n, h1, h2⟩
    · exfalso; have := q.1; omega
    · exfalso; have := q.1; omega
    · exfalso; have := q.1; omega
    · exfalso; have := q.1; omega
  · rcases q with q | q | q | q | q | q | q | q | q
    · exfalso; have := q.1; omega
    · exfalso; have := q.1; omega
    · exfalso; have := q.1; omega
    · exfalso; have := q.1; omega
    · exfalso; have := q.1; omega
    · exfalso; omega
    · exfalso; have := q.1; omega
    · exfalso; have := q.1; omega
    · exfalso; have := q.1; omega
theorem in_15 {u : MS} {i h m g x : Nat} {L : List Nat} (q : IN1 T u i h m L g x ∨ IN2 T u i h m L g x ∨ IN3 T u i h m L g x) (e : A u 23 i = 15) : 1 ≤ h := by
  rcases q with q | q | q
  · rcases q with q | q | q | q | q | q | q | q | q | q | q | q | q
    · exfalso; have := q.1; omega
    · exfalso; have := q.1; omega
    · exfalso; have := q.1; omega
    · exfalso; have := q.1; omega
    · exfalso; have := q.1; omega
    · exfalso; have := q.1; omega
    · exfalso; have := q.1; omega
    · exfalso; have := q.1; omega
    · exfalso; have := q.1; omega
    · exfalso; have := q.1; omega
    · exact q.2.1
    · exfalso; have := q.1; omega
    · exfalso; have := q.1; omega
  · rcases q with q | q | q | q | q | q | q | q | q | q | q
    · exfalso; have := q.1; omega
    · exfalso; have := q.1; omega
    · exfalso; have := q.1; omega
    · exfalso; have := q.1; omega
    · exfalso; have := q.1; omega
    · exfalso; have := q.1; omega
    · exfalso; have := q.1; omega
    · exfalso; have := q.1; omega
    · exfalso; have := q.1; omega
    · exfalso; have := q.1; omega
    · exfalso; have := q.1; omega
  · rcases q with q | q | q | q | q | q | q | q | q
    · exfalso; have := q.1; omega
    · exfalso; have := q.1; omega
    · exfalso; have := q.1; omega
    · exfalso; have := q.1; omega
    · exfalso; have := q.1; omega
    · exfalso; omega
    · exfalso; have := q.1; omega
    · exfalso; have := q.1; omega
    · exfalso; have := q.1; omega
theorem in_33 {u : MS} {i h m g x : Nat} {L : List Nat} (q : IN1 T u i h m L g x ∨ IN2 T u i h m L g x ∨ IN3 T u i h m L g x) (e : A u 23 i = 33) : x ≠ 0 := by
  rcases q with q | q | q
  · rcases q with q | q | q | q | q | q | q | q | q | q | q | q | q
    · exfalso; have := q.1; omega
    · exfalso; have := q.1; omega
    · exfalso; have := q.1; omega
    · exfalso; have := q.1; omega
    · exfalso; have := q.1; omega
    · exfalso; have := q.1; omega
    · exfalso; have := q.1; omega
    · exfalso; have := q.1; omega
    · exfalso; have := q.1; omega
    · exfalso; have := q.1; omega
    · exfalso; have := q.1; omega
    · exfalso; have := q.1; omega
    · exfalso; have := q.1; omega
  · rcases q with q | q | q | q | q | q | q | q | q | q | q
    · exfalso; have := q.1; omega
    · exfalso; have := q.1; omega
    · exfalso; have := q.1; omega
    · exfalso; have := q.1; omega
    · exfalso; have := q.1; omega
    · exfalso; have := q.1; omega
    · exfalso; have := q.1; omega
    · exfalso; have := q.1; omega
    · exfalso; have := q.1; omega
    · exfalso; have := q.1; omega
    · exfalso; have := q.1; omega
  · rcases q with q | q | q | q | q | q | q | q | q
    · exfalso; have := q.1; omega
    · exfalso; have := q.1; omega
    · exact q.2.2.1
    · exfalso; have := q.1; omega
    · exfalso; have := q.1; omega
    · exfalso; omega
    · exfalso; have := q.1; omega
    · exfalso; have := q.1; omega
    · exfalso; have := q.1; omega
theorem in_25 {u : MS} {i h m g x : Nat} {L : List Nat} (q : IN1 T u i h m L g x ∨ IN2 T u i h m L g x ∨ IN3 T u i h m L g x) (e : A u 23 i = 25) : ∃ f n : Nat, A u 23 (i + 1) = ((f : Nat) : Int) ∧ ((f : Nat) : Int) < F u 442 ∧ A u 23 (i + 2) = ((n : Nat) : Int) ∧ A u 25 f = ((n : Nat) : Int) ∧ n ≤ h := by
  rcases q with q | q | q
  · rcases q with q | q | q | q | q | q | q | q | q | q | q | q | q
    · exfalso; have := q.1; omega
    · exfalso; have := q.1; omega
    · exfalso; have := q.1; omega
    · exfalso; have := q.1; omega
    · exfalso; have := q.1; omega
    · exfalso; have := q.1; omega
    · exfalso; have := q.1; omega
    · exfalso; have := q.1; omega
    · exfalso; have := q.1; omega
    · exfalso; have := q.1; omega
    · exfalso; have := q.1; omega
    · exfalso; have := q.1; omega
    · exfalso; have := q.1; omega
  · rcases q with q | q | q | q | q | q | q | q | q | q | q
    · exfalso; have := q.1; omega
    · exfalso; have := q.1; omega
    · exfalso; have := q.1; omega
    · exfalso; have := q.1; omega
    · exfalso; have := q.1; omega
    · exfalso; have := q.1; omega
    · exfalso; have := q.1; omega
    · obtain ⟨-, -, -, f, n, h1, h2, h3, h4, h5, -⟩ := q
      exact ⟨f, n, h1, h2, h3, h4, h5⟩
    · exfalso; have := q.1; omega
    · exfalso; have := q.1; omega
    · exfalso; have := q.1; omega
  · rcases q with q | q | q | q | q | q | q | q | q
    · exfalso; have := q.1; omega
    · exfalso; have := q.1; omega
    · exfalso; have := q.1; omega
    · exfalso; have := q.1; omega
    · exfalso; have := q.1; omega
    · exfalso; omega
    · exfalso; have := q.1; omega
    · exfalso; have := q.1; omega
    · exfalso; have := q.1; omega
theorem in_26 {u : MS} {i h m g x : Nat} {L : List Nat} (q : IN1 T u i h m L g x ∨ IN2 T u i h m L g x ∨ IN3 T u i h m L g x) (e : A u 23 i = 26) : ∃ f n : Nat, A u 23 (i + 1) = ((f : Nat) : Int) ∧ ((f : Nat) : Int) < F u 442 ∧ A u 23 (i + 2) = ((n : Nat) : Int) ∧ A u 25 f = ((n : Nat) : Int) ∧ n ≤ h := by
  rcases q with q | q | q
  · rcases q with q | q | q | q | q | q | q | q | q | q | q | q | q
    · exfalso; have := q.1; omega
    · exfalso; have := q.1; omega
    · exfalso; have := q.1; omega
    · exfalso; have := q.1; omega
    · exfalso; have := q.1; omega
    · exfalso; have := q.1; omega
    · exfalso; have := q.1; omega
    · exfalso; have := q.1; omega
    · exfalso; have := q.1; omega
    · exfalso; have := q.1; omega
    · exfalso; have := q.1; omega
    · exfalso; have := q.1; omega
    · exfalso; have := q.1; omega
  · rcases q with q | q | q | q | q | q | q | q | q | q | q
    · exfalso; have := q.1; omega
    · exfalso; have := q.1; omega
    · exfalso; have := q.1; omega
    · exfalso; have := q.1; omega
    · exfalso; have := q.1; omega
    · exfalso; have := q.1; omega
    · exfalso; have := q.1; omega
    · obtain ⟨-, -, -, f, n, h1, h2, h3, h4, h5, -⟩ := q
      exact ⟨f, n, h1, h2, h3, h4, h5⟩
    · exfalso; have := q.1; omega
    · exfalso; have := q.1; omega
    · exfalso; have := q.1; omega
  · rcases q with q | q | q | q | q | q | q | q | q
    · exfalso; have := q.1; omega
    · exfalso; have := q.1; omega
    · exfalso; have := q.1; omega
    · exfalso; have := q.1; omega
    · exfalso; have := q.1; omega
    · exfalso; omega
    · exfalso; have := q.1; omega
    · exfalso; have := q.1; omega
    · exfalso; have := q.1; omega
theorem sk_23 {kd k sc : Nat} (ih : ∀ M1 v m w, SIA T Fv P Fv' AN TT CC pM pE ND CN PN SN UN FN p v m w → PP Q (qgo (SAf T Fv P p) N M1 m p (I ((v : Nat) : Int))) (gg_M_go N M2 w (I ((p : Nat) : Int)))) (s : STx T Fv P Fv' AN TT CC pM pE ND CN PN SN UN FN N PR p i v f b U B W Y l ow kw ow' kd' j nb Hs Os (some (kd, k, sc)) a n m w) (c0 : A m 23 a = 23) (cs : ∃ f, CHs (A m 23) (ROs w) (CRs (A m 23) (ROs w) (w.2.2.2 34) f) kd (a + 1) k (Hs j) (Os j)) : PP Q (q67 (SAf T Fv P p) N (qgo (SAf T Fv P p) N M1) m p (I ((v : Nat) : Int))) (bnd (fm_M_one N w (I ((n : Nat) : Int)) (I 23)) (fun u _ => KRs Fv' AN TT CC ND CN UN FN N p mu M2 w u)) := by
  obtain ⟨⟨r5, r8, r2⟩, ⟨ha, hn, hv, hpp, hj⟩, nd, ⟨pl, ru, bd⟩, ⟨n1, n2, n3⟩, bH, bW, bB, bY, nND, hN⟩ := st_b s
  obtain ⟨i2, h, mm, L, g2, x2, j2, wb, nb2, cb2, rk, M⟩ := cl_any s.2.2.2.1 r5 r8
  obtain ⟨-, -, st, ⟨ti, e5⟩, ⟨e26, e24⟩, gds, xx, un⟩ := id M
  have ei : a = i2 := by omega
  subst ei
  have wf := M.1.2.2.1 _ _ _ _ _ _ ti
  have eW : W = wb + h := by
    have := pl.2.2.1.1
    omega
  obtain ⟨⟨-, hpr, pr24, hi, hf⟩, ⟨per, hAN⟩, ba, lp, -, -, -, -, -, -, -, rb, rm, -, -, rgd, -⟩ := id s
  have gd := ru.2.2.2.2.1
  have hk : k < 100000 := by
    rcases gd with ⟨c, -⟩ | ⟨kd', k', sc', e, fl, W0, O0, X, z1, z2, z3, -⟩
    · cases c
    · cases e
      obtain ⟨-, g154, -⟩ := rgd z3.1
      have := z3.2.2.1
      omega
  have hx := wf.2.2.2.2.1.2 (by omega)
  have t1 := in_23 wf.2.2.2.2.2 c0
  have wf1 := (M.1.2.2.1 _ _ _ _ _ _ t1).2.2.2.2.2
  have h955 := ba.2.2.1.1
  have h956 := ba.2.2.1.2
  have Y7 : F m (pq p 7) = ((Y : Nat) : Int) := pl.2.2.2.1
  have b8 := (M.1.1.2 p hpr).1.2.1
  have bb : (kd = 0 → ∃ n0 : Nat, A w 41 k = ((n0 : Nat) : Int) ∧ n0 ≤ W) ∧ (kd = 1 → 1 ≤ W) ∧ (kd = 3 → Y ≤ 30 ∧ ∃ t : Nat, F m (pq p 8) = ((t : Nat) : Int) ∧ t < Y) := by
    obtain ⟨f1, b1, -, cs⟩ := cs
    rcases cs with ⟨rfl, z1, z2, -⟩ | ⟨rfl, z1, -⟩ | ⟨rfl, -⟩ | ⟨rfl, z1, -⟩
    · rw [ro_e (by unfold PRr; omega)] at z2
      obtain ⟨q, q1, q2⟩ := in_24 wf1 z1
      exact ⟨fun _ => ⟨q, by rw [← z2]; exact q1, by omega⟩, fun c => by omega, fun c => by omega⟩
    · have := in_15 wf1 z1
      exact ⟨fun c => by omega, fun _ => by omega, fun c => by omega⟩
    · exact ⟨fun c => by omega, fun c => by omega, fun c => by omega⟩
    · have z := in_33 wf1 z1
      have := xx z (by omega)
      exact ⟨fun c => by omega, fun c => by omega, fun _ => ⟨bY, (F m (pq p 8)).toNat, by omega, by omega⟩⟩
  rw [go_fl r5 r8 (by omega) r2 (by omega) c0 ⟨by omega, by omega⟩]
  refine op_gdend (K2 := fun u => KRs Fv' AN TT CC ND CN UN FN N p mu M2 w u) hpp pl ru (by omega) (by omega) hk (by omega) c0 bb.1 bb.2.1 bb.2.2 cs (fun M' vk' m3 w3 W3 Y3 y a n q1 q2 a1 a2 a3 a4 a5 => st_rv ih s (by omega) a1 a2 a3 a4 a5) (fun M' vk' m3 w3 a n q1 q2 a1 a2 a3 a4 a5 a6 => ?_)
  obtain ⟨k2, e, hs⟩ := a6
  obtain ⟨c, c1, c2⟩ := SAf_l (PR := PR) hs (by omega) a2.2.2.2.2.2.1.2.1 ((congrArg Int32.toInt (a3.2.2.2.2.2.2 942 (by omega))).trans ba.2.2.2.2.2.2.2.2.1)
  exact aft_67 per ba.2.2.2.1.1 ih ba (by omega) c2 a3 a4 a1 a5 a2
theorem ct_mon3 (ct : CTs m w p j nb Hs Os) {nC c : Nat} (h : F m (pq p 28) = ((nC : Nat) : Int)) (hc : c < nC) : A w 106 p = ((nC : Nat) : Int) ∧ A w 102 (1600 * p + c) ≤ A w 102 (1600 * p + (nC - 1)) := by
  obtain ⟨n, c1, c2, -, c4, -⟩ := ct
  have en : n = nC := by omega
  subst en
  refine ⟨c2, ?_⟩
  have q : ∀ e, c + e < n → A w 102 (1600 * p + c) ≤ A w 102 (1600 * p + (c + e)) := by
    intro e
    induction e with
    | zero => intro _; exact Int.le_refl _
    | succ e ih =>
      intro he
      have h1 := ih (by omega)
      have h2 := (c4 (c + e) (by omega)).1
      rw [show c + (e + 1) = c + e + 1 by omega]
      omega
  have := q (n - 1 - c) (by omega)
  rw [show c + (n - 1 - c) = n - 1 by omega] at this
  exact this
theorem sk_102 (s : STx T Fv P Fv' AN TT CC pM pE ND CN PN SN UN FN N PR p i v f b U B W Y l ow kw ow' kd' j nb Hs Os none a n m w) (hk : tK TT n = 0) : ∀ nC c : Nat, F m (pq p 28) = ((nC : Nat) : Int) → c < nC → A w 102 (1600 * p + c) < ((j : Nat) : Int) := fun nC c h1 h2 => by
  obtain ⟨-, -, -, -, -, ru, -, -, -, -, -, rb, rm, -, -, -, -, -, rk⟩ := s
  obtain ⟨y1, y2⟩ := ct_mon3 ru.1.2 h1 h2
  have := rk hk (nC - 1) (by rw [y1]; congr 1; omega)
  omega
theorem sk_29 (ih : ∀ M1 v m w, SIA T Fv P Fv' AN TT CC pM pE ND CN PN SN UN FN p v m w → PP Q (qgo (SAf T Fv P p) N M1 m p (I ((v : Nat) : Int))) (gg_M_go N M2 w (I ((p : Nat) : Int)))) (s : STx T Fv P Fv' AN TT CC pM pE ND CN PN SN UN FN N PR p i v f b U B W Y l ow kw ow' kd' j nb Hs Os none a n m w) (h23 : A w 23 n = 29) (c0 : A m 23 a = 35) : PP Q (q67 (SAf T Fv P p) N (qgo (SAf T Fv P p) N M1) m p (I ((v : Nat) : Int))) (bnd (fm_M_one N w (I ((n : Nat) : Int)) (I 29)) (fun u _ => KRs Fv' AN TT CC ND CN UN FN N p mu M2 w u)) := by
  obtain ⟨⟨r5, r8, r2⟩, ⟨ha, hn, hv, hpp, hj⟩, nd, ⟨pl, ru, bd⟩, ⟨n1, n2, n3⟩, bH, bW, bB, bY, nND, hN⟩ := st_b s
  obtain ⟨-, k1, k2, -⟩ := n2.2.2.2.2.2.2.2.2.2.2.2.2.2.1 h23
  obtain ⟨⟨-, hpr, pr24, hi, hf⟩, ⟨per, hAN⟩, ba, lp, -, -, -, -, -, -, wl, rb, rm, ⟨eW, -, -⟩, -, -, -, ⟨r100, -⟩, -⟩ := id s
  have hct := sk_102 s k2
  have cx : CTX Fv P m := (LPQ_dc lp).2
  have pb : PB (PWs AN) PR := wl.1.2.2
  have e22 := cx.2.2.2.1
  have h955 := ba.2.2.1.1
  have h150 := ba.2.2.2.1.2
  obtain ⟨W1, rfl⟩ : ∃ W1, W = W1 + 1 := ⟨W - 1, by omega⟩
  obtain ⟨bd1, bd2, bd3, bd4⟩ := bd
  rw [go_fl r5 r8 (by omega) r2 (by omega) c0 ⟨by omega, by omega⟩]
  cases j with
  | zero =>
    exact op_retE (K1 := fun u => q195 (SAf T Fv P p) N (qgo (SAf T Fv P p) N M1) u p (I ((v : Nat) : Int))) (K2 := fun u => KRs Fv' AN TT CC ND CN UN FN N p mu M2 w u) hpp hpr pl ru (by omega) r100 ⟨h955, hi⟩ (show F w 150 = ((0 : Nat) : Int) ∧ 0 < 4000 from ⟨h150, by decide⟩) (cx.2.2.2.2.2.1 4 (by omega) (by omega)) (pb.1 4 (by omega) (by omega)) (fun w3 a1 a2 a3 a4 => (aft_end hN per ba.2.2.2.1.1 ih ba (by omega) GGm.rf a1 a2 a3 ⟨h955, hi⟩ (show F w 150 = ((0 : Nat) : Int) ∧ 0 < 4000 from ⟨h150, by decide⟩) (Or.inl rfl) a4).1)
  | succ j =>
    exact op_ret (K1 := fun u => q195 (SAf T Fv P p) N (qgo (SAf T Fv P p) N M1) u p (I ((v : Nat) : Int))) (K2 := fun u => KRs Fv' AN TT CC ND CN UN FN N p mu M2 w u) hpp pl ru (by omega) (by omega) bd2 ⟨bd3, bd4⟩ r100 (by omega) hct (fun m3 w3 a2 n2 b1 b2 b3 b4 b5 => (st_ru ih s b1 b2 b3 b4 b5).1)
theorem SC_cb (s : SCs p (cbM m) (cbW w)) : SCs p m w := by
  have m1 : ∀ k, (cbM m).1 (pq p k) = m.1 (pq p k) := fun k => by
    unfold cbM
    rw [wi_1 (fun c => pq_n (by omega) c.symm), wi_1 (fun c => pq_n (by omega) c.symm)]
  obtain ⟨s1, s2, s3, s4, s5, s6⟩ := s
  rw [m1] at s1 s2 s3 s4 s5
  refine ⟨s1, s2, s3, s4, s5, fun i hi => s6 i ?_⟩
  have e : F (cbM m) (pq p 15) = F m (pq p 15) := congrArg Int32.toInt (m1 15)
  omega
theorem st_ca {m4 w4 : MS} {B4 W4 Y4 j4 kd4 sc4 a4 : Nat} {nb4 : Nat → Nat} {Hs4 Os4 : Nat → List Nat} {k4 : Int} (ih : ∀ M1 v m w, SIA T Fv P Fv' AN TT CC pM pE ND CN PN SN UN FN p v m w → PP Q (qgo (SAf T Fv P p) N M1 m p (I ((v : Nat) : Int))) (gg_M_go N M2 w (I ((p : Nat) : Int)))) (s : STx T Fv P Fv' AN TT CC pM pE ND CN PN SN UN FN N PR p i v f b U B W Y l ow kw ow' kd' j nb Hs Os y a n m w) (t4 : TRs m4 w4 p j4 nb4 Hs4 Os4 kd4 sc4 a4 k4) (pl4 : PLs (bGd b U ow' kd') p m4 (wa w4 94 p ((B4 : Nat) : Int)) U B4 W4 Y4) (hW4 : W4 < 46000) (gm : GGm p (cbM m) m4) (gw : GGw p (cbW w) w4) (sc : SCs p m w → SCs p m4 w4) (e8 : w4.2.2.2 88 = w.2.2.2 88 ∧ w4.1 140 = w.1 140) : PP Q (q195 (SAf T Fv P p) N (qgo (SAf T Fv P p) N M1) m4 p (I ((v : Nat) : Int))) (bnd (gg_M_choose N (rc_M_error N 19) N w4 1) (fun u _ => KRs Fv' AN TT CC ND CN UN FN N p mu M2 w u)) := by
  obtain ⟨⟨hN, hpr, pr24, hi, hf⟩, ⟨per, hAN⟩, ba, lp, -, -, ⟨pt, xc, h140⟩, -⟩ := id s
  have bc := BA_cb ba
  have q5 : F m4 955 ≤ F m4 956 := by
    have y1 : F m4 955 = F (cbM m) 955 := congrArg Int32.toInt gm.2.2.1
    have y2 : F m4 956 = F (cbM m) 956 := congrArg Int32.toInt gm.2.2.2.2.1
    have y3 := bc.2.2.1.1
    have y4 := bc.2.2.1.2
    omega
  have hAN' : F (cbW w) 14 = ((AN : Nat) : Int) := by
    unfold cbW
    rw [wi_ne (by omega), wi_ne (by omega)]
    exact hAN
  refine go195 t4.1.2.2.2.1.2.1 q5 (fun hs => ?_)
  have e : hp w4 p = hp w p := by
    unfold hp
    rw [e8.1]
  exact st_tr (M := N) (d := 19) hN (by omega) per ba.2.2.2.1.1 hAN' ih bc rfl (by omega) hs t4 pl4 (by rw [e]; exact xc.2.1) ((congrArg Int32.toInt e8.2).trans h140) hW4 gm gw (fun s => sc (SC_cb s))
theorem st_li {z : Int} {k : Int} (ih : ∀ M1 v m w, SIA T Fv P Fv' AN TT CC pM pE ND CN PN SN UN FN p v m w → PP Q (qgo (SAf T Fv P p) N M1 m p (I ((v : Nat) : Int))) (gg_M_go N M2 w (I ((p : Nat) : Int)))) (s : STx T Fv P Fv' AN TT CC pM pE ND CN PN SN UN FN N PR p i v f b U B W Y l ow kw ow' kd' j nb Hs Os none a n m w) : PP Q (q195 (SAf T Fv P p) N (qgo (SAf T Fv P p) N M1) (wi (wi m 1108 1) (pq p 29) z) p (I ((v : Nat) : Int))) (KRs Fv' AN TT CC ND CN UN FN N p mu M2 w (wa (wi (wi w 166 k) 151 1) 115 p z)) := by
  obtain ⟨⟨hN, hpr, pr24, hi, hf⟩, ⟨per, hAN⟩, ba, lp, pl, ru, -⟩ := id s
  obtain ⟨fc, ⟨r2, r3⟩, cr0, ⟨r5, r6⟩, -, ⟨r8, r9, r10⟩, r11, r12, -⟩ := id ru
  generalize hm3 : wi (wi m 1108 1) (pq p 29) z = m3
  generalize hw3 : wa (wi (wi w 166 k) 151 1) 115 p z = w3
  have mq : ∀ l, l ≠ 29 → m3.1 (pq p l) = m.1 (pq p l) := fun l h => by rw [← hm3, wi_1 (pq_inj h), wi_1 (fun c => pq_n (by omega) c.symm)]
  have mg : ∀ l, l < 2000 → l ≠ 1108 → m3.1 l = m.1 l := fun l h1 h2 => by rw [← hm3, wi_1 (pq_n h1), wi_1 h2]
  have m29 : m3.1 (pq p 29) = I z := by rw [← hm3, wi_s1]
  have m8 : F m3 1108 = 1 := by rw [← hm3, wi_ne (pq_n (by omega)), wi_sm (by omega) (by omega)]
  have mr : m3.2 = m.2 := by rw [← hm3]; rfl
  have wi3 : ∀ l, l ≠ 166 → l ≠ 151 → w3.1 l = w.1 l := fun l h1 h2 => by rw [← hw3]; show (wi (wi w 166 k) 151 1).1 l = _; rw [wi_1 h2, wi_1 h1]
  have w151 : F w3 151 = 1 := by rw [← hw3]; show F (wi (wi w 166 k) 151 1) 151 = 1; rw [wi_sm (by omega) (by omega)]
  have wR : ∀ K, K ≠ 115 → w3.2.2.1 K = w.2.2.1 K := fun K h => by rw [← hw3, wa_21 h]; rfl
  have wJ : w3.2.2.2 = w.2.2.2 := by rw [← hw3]; rfl
  have w115 : w3.2.2.1 115 p = I z := by rw [← hw3]; exact wa_s1
  have gm : GGm p m m3 := by rw [← hm3]; exact GGm.tr (GGm_reg (by omega)) (GGm_own (by omega))
  have gw : GGw p w w3 := by rw [← hw3]; exact GGw.tr (GGw.tr (GGw_reg (by omega) (by omega)) (GGw_reg (by omega) (by omega))) (GGw_own (Or.inl ⟨by omega, rfl⟩))
  have pr3 : ∀ K, PRr K → w3.2.2.1 K = w.2.2.1 K := fun K h => wR K (by unfold PRr at h; omega)
  have h23 : A m3 23 = A m 23 := by funext i; show (m3.2.2.1 23 i).toInt = _; rw [mr]; rfl
  have mF : ∀ l, l < 2000 → l ≠ 1108 → F m3 l = F m l := fun l h1 h2 => congrArg Int32.toInt (mg l h1 h2)
  have wA : ∀ K i, K ≠ 115 → A w3 K i = A w K i := fun K i h => by show (w3.2.2.1 K i).toInt = _; rw [wR K h]; rfl
  have q9 : F m3 (pq p 9) = 0 := (congrArg Int32.toInt (mq 9 (by omega))).trans r5
  have q109 : A w3 109 p = 0 := (wA 109 p (by omega)).trans r6
  have fc3 := FC_w fc (fun l h => mq l (by omega)) (fun l _ => by rw [mr]) (by rw [mr]) (fun K h => by rw [wR K (by omega)]) (fun K r h1 h2 h3 h4 => by rw [wR K (by omega)]) (fun K c h1 h2 _ => by rw [wR K (by omega)]) pr3 (by rw [wJ])
  have pl3 : PLs (bGd b U ow' kd') p m3 w3 U B W Y := PLs_cg pl (fun l hl => mq l (by simp at hl; omega)) (fun i _ => by rw [mr]) (fun i _ => by rw [mr]) (fun i _ => by rw [mr]) (fun i _ => by rw [mr]) (fun K hK => by rw [wR K (by simp at hK; omega)]) (fun i _ => by rw [wJ]) (fun i _ => by rw [wJ]) (fun i _ => by rw [wJ]) (fun i _ => by rw [wJ])
  have li : LIs m3 w3 p j nb Hs Os a n := ⟨fc3, ⟨(mF 1105 (by omega) (by omega)).trans r2, (wA 98 _ (by omega)).trans r3⟩, by rw [h23, ROs_eq pr3, wJ]; exact cr0, ⟨q9, q109⟩, ⟨by omega, (mF 1109 (by omega) (by omega)).trans r9, by omega⟩, (congrArg Int32.toInt (wi3 133 (by omega) (by omega))).trans r11, by rw [mg 1106 (by omega) (by omega), wi3 165 (by omega) (by omega)]; exact r12⟩
  refine (aft_gg hN per ba.2.2.2.1.1 ih ba (by omega) gm gw pl3 (fun s => ?_) (Or.inr (Or.inr ⟨j, nb, Hs, Os, a, n, li⟩)) (by omega) li.2.2.2.2.1.2.1).1
  obtain ⟨s1, s2, s3, s4, s5, s6⟩ := s
  exact ⟨by rw [mq 12 (by omega), wR 113 (by omega)]; exact s1, by rw [mq 13 (by omega), wR 114 (by omega)]; exact s2, by rw [mq 11 (by omega), wR 112 (by omega)]; exact s3, by rw [mq 15 (by omega), wR 117 (by omega)]; exact s4, by rw [m29, w115], fun i hi => by
    rw [mr, wR 116 (by omega)]
    exact s6 i (by
      have e : F m3 (pq p 15) = F m (pq p 15) := congrArg Int32.toInt (mq 15 (by omega))
      omega)⟩
theorem sk_12 (ih : ∀ M1 v m w, SIA T Fv P Fv' AN TT CC pM pE ND CN PN SN UN FN p v m w → PP Q (qgo (SAf T Fv P p) N M1 m p (I ((v : Nat) : Int))) (gg_M_go N M2 w (I ((p : Nat) : Int)))) (s : STx T Fv P Fv' AN TT CC pM pE ND CN PN SN UN FN N PR p i v f b U B W Y l ow kw ow' kd' j nb Hs Os none a n m w) (h27 : 0 ≤ A w 27 n ∧ A w 27 n < 2000) (c1 : A m 23 (a + 1) = A w 27 n) (c2 : A m 23 (a + 2) = A w 26 n) (c3 : ∃ t : Nat, A w 24 n = ((t : Nat) : Int) ∧ A m 23 (a + 3) = A w 8 t) (hh : (A w 30 n = 1 ∧ A m 23 a = 26 ∧ a + 3 < 24000) ∨ (A w 30 n = 0 ∧ A m 23 a = 25 ∧ ∃ f, CRs (A m 23) (ROs w) (w.2.2.2 34) f none (a + 4) (n + 1) (Hs j) (Os j))) (h23 : A w 23 n = 12) : PP Q (q67 (SAf T Fv P p) N (qgo (SAf T Fv P p) N M1) m p (I ((v : Nat) : Int))) (bnd (fm_M_one N w (I ((n : Nat) : Int)) (I 12)) (fun u _ => KRs Fv' AN TT CC ND CN UN FN N p mu M2 w u)) := by
  obtain ⟨⟨r5, r8, r2⟩, ⟨ha, hn, hv, hpp, hj⟩, nd, ⟨pl, ru, bd⟩, ⟨n1, n2, n3⟩, bH, bW, bB, bY, nND, hN⟩ := st_b s
  obtain ⟨i2, h, mm, L, g2, x2, j2, wb, nb2, cb2, rk, M⟩ := cl_any s.2.2.2.1 r5 r8
  obtain ⟨-, -, st, ⟨ti, e5⟩, ⟨e26, e24⟩, gds, xx, un⟩ := id M
  have ei : a = i2 := by omega
  subst ei
  have wf := M.1.2.2.1 _ _ _ _ _ _ ti
  have eW : W = wb + h := by
    have := pl.2.2.1.1
    omega
  obtain ⟨⟨-, hpr, pr24, hi, hf⟩, ⟨per, hAN⟩, ba, lp, -, -, -, -, -, -, wl, rb, rm, ⟨eW2, -, -⟩, -, -, -, ⟨r100, -⟩, -⟩ := id s
  obtain ⟨t, t1, t2⟩ := c3
  have hs12 := n3.2.2.2.2.2.2.2.2.1 h23
  have ht : t < 100000 := by
    have := n1.2.2.2.2.2.2.2.2.2.2.2.2.2.2
    omega
  obtain ⟨fu, hfu⟩ : ∃ fu : Nat, A w 27 n = ((fu : Nat) : Int) := ⟨(A w 27 n).toNat, by omega⟩
  obtain ⟨f2, ar, z1, z2, z3, z4, z5⟩ : ∃ f n : Nat, A m 23 (a + 1) = ((f : Nat) : Int) ∧ ((f : Nat) : Int) < F m 442 ∧ A m 23 (a + 2) = ((n : Nat) : Int) ∧ A m 25 f = ((n : Nat) : Int) ∧ n ≤ h := by
    rcases hh with ⟨-, c, -⟩ | ⟨-, c, -⟩
    · exact in_26 wf.2.2.2.2.2 c
    · exact in_25 wf.2.2.2.2.2 c
  have ef : f2 = fu := by omega
  subst ef
  have e26' : A w 26 n = ((ar : Nat) : Int) := by omega
  have ha3 : a + 3 < 24000 := by
    rcases hh with ⟨-, -, c⟩ | ⟨-, -, f3, c⟩
    · exact c
    · have := CR_b c
      omega
  have hb : tB TT n + ar ≤ tH TT n := by
    obtain ⟨⟨b9, y1, y2, y3, -⟩, -⟩ := hs12
    omega
  have cx : CTX Fv P m := (LPQ_dc lp).2
  have pb : PB (PWs AN) PR := wl.1.2.2
  have e22 := cx.2.2.2.1
  have h955 := ba.2.2.1.1
  have h150 := ba.2.2.2.1.2
  have ft := ba.2.2.2.2.2.2.1.1.1
  have g7 := M.1.2.2.2.2.2.2.2
  obtain ⟨P0, rfl⟩ : ∃ P0, W = P0 + ar := ⟨W - ar, by omega⟩
  obtain ⟨bd1, bd2, bd3, bd4⟩ := bd
  by_cases hge : F m 1107 ≤ F m 1106
  · have heq : m.1 1106 = m.1 1107 := Int32.toInt_inj.mp (by
      show F m 1106 = F m 1107
      omega)
    rcases hh with ⟨-, c0, -⟩ | ⟨-, c0, -⟩
    · rw [go_fl r5 r8 (by omega) r2 (by omega) c0 ⟨by omega, by omega⟩]
      exact op_callS (K1 := fun u => q195 (SAf T Fv P p) N (qgo (SAf T Fv P p) N M1) u p (I ((v : Nat) : Int))) (K2 := fun u => KRs Fv' AN TT CC ND CN UN FN N p mu M2 w u) hpp ru hge heq ha3 (Or.inr rfl) e26' hfu (by omega) t1 ht t2 (st_li ih s)
    · rw [go_fl r5 r8 (by omega) r2 (by omega) c0 ⟨by omega, by omega⟩]
      exact op_callS (K1 := fun u => q195 (SAf T Fv P p) N (qgo (SAf T Fv P p) N M1) u p (I ((v : Nat) : Int))) (K2 := fun u => KRs Fv' AN TT CC ND CN UN FN N p mu M2 w u) hpp ru hge heq ha3 (Or.inl rfl) e26' hfu (by omega) t1 ht t2 (st_li ih s)
  · rcases hh with ⟨h30, c0, -⟩ | ⟨h30, c0, cr⟩
    · have hk : tK TT n = 0 := hs12.2 (by omega)
      rw [go_fl r5 r8 (by omega) r2 (by omega) c0 ⟨by omega, by omega⟩]
      exact op_callT (K1 := fun u => q195 (SAf T Fv P p) N (qgo (SAf T Fv P p) N M1) u p (I ((v : Nat) : Int))) (K2 := fun u => KRs Fv' AN TT CC ND CN UN FN N p mu M2 w u) hpp pl ru (by omega) (by omega) (P0 := rb) (by omega) r100 bd2 ⟨bd3, bd4⟩ (sk_102 s hk) ft z2 (by omega) ha3 z1 z3 e26' hfu h30 (fun m4 w4 e c b1 b2 b3 b4 b5 b6 => st_ca ih s b1 b2 (by omega) b3 b4 b5 b6)
    · rw [go_fl r5 r8 (by omega) r2 (by omega) c0 ⟨by omega, by omega⟩]
      by_cases hj1 : j + 1 < 60
      · exact op_callN (K1 := fun u => q195 (SAf T Fv P p) N (qgo (SAf T Fv P p) N M1) u p (I ((v : Nat) : Int))) (K2 := fun u => KRs Fv' AN TT CC ND CN UN FN N p mu M2 w u) hpp pl ru (by omega) (by omega) hj1 ft z2 (by omega) ha3 z1 z3 e26' hfu h30 cr (fun m4 w4 e c b1 b2 b3 b4 b5 b6 => st_ca ih s b1 b2 (by omega) b3 b4 b5 b6)
      · have ej : j = 59 := by omega
        subst ej
        exact op_callE (K1 := fun u => q195 (SAf T Fv P p) N (qgo (SAf T Fv P p) N M1) u p (I ((v : Nat) : Int))) (K2 := fun u => KRs Fv' AN TT CC ND CN UN FN N p mu M2 w u) hpp hpr pl ru (by omega) ha3 e26' hfu (by omega) h30 ⟨h955, hi⟩ (show F w 150 = ((0 : Nat) : Int) ∧ 0 < 4000 from ⟨h150, by decide⟩) (cx.2.2.2.2.2.1 21 (by omega) (by omega)) (pb.1 21 (by omega) (by omega)) (fun w3 a1 a2 a3 a4 => (aft_end hN per ba.2.2.2.1.1 ih ba (by omega) GGm.rf a1 a2 a3 ⟨h955, hi⟩ (show F w 150 = ((0 : Nat) : Int) ∧ 0 < 4000 from ⟨h150, by decide⟩) (Or.inl rfl) a4).1)
end
end
section
set_option maxRecDepth 100000
section
variable {T : TYc} {Fv Fv' : Int64 → Int64 → Prop} {P : Int64 → Prop} {AN : Nat} {TT : TY} {CC : CY} {pM pE : Nat → Nat} {ND CN PN SN UN FN N PR p i v mu M1 M2 f U B W Y l j a n : Nat} {m w : MS} {Q : MS → Int32 → MS → Int32 → Prop} {b : Int → Nat → Nat → Prop} {ow kw ow' kd' : Nat → Nat} {nb : Nat → Nat} {Hs Os : Nat → List Nat} {y : Option (Nat × Nat × Nat)}
theorem SA_pt {m3 w3 : MS} {how ar : Int} {t : Int64} {v3 : Int32} {b3 : Int → Nat → Nat → Prop} (hh : how = 1 ∨ how = 2 ∨ how = 3) (hs : SAf T Fv P p (tld m3 how ar t) v3) (pl : PLs b3 p m3 w3 U B W Y) : ∃ ow kd, PTQ m3 p U ow kd Fv P B W Y := by
  obtain ⟨PR2, c, k, -, -, o⟩ := hs
  have e9 : F (tld m3 how ar t) 1109 = how := tld_9 ⟨by omega, by omega⟩
  rcases o with o | o | o | o
  · have := o.2.1
    omega
  · obtain ⟨u, how', ar', t', ⟨i2, h, mm, L, g2, x2, j2, wb, nb2, cb2, rk, M, -⟩, -, -, -, -, -, e⟩ := o
    have e1 : ∀ k, k ≠ 1109 → k ≠ 1111 → m3.1 k = u.1 k := fun k h1 h2 => by
      have := congrArg (fun z : MS => z.1 k) e
      have z1 : (tld m3 how ar t).1 k = m3.1 k := (wi_1 h2).trans (wi_1 h1)
      have z2 : (wl (wi (wi u 1109 how') 1111 ar') 1110 t').1 k = u.1 k := (wi_1 h2).trans (wi_1 h1)
      rw [← z1, ← z2]
      exact this
    have e4 : m3.2.2.2 = u.2.2.2 := by
      have := congrArg (fun z : MS => z.2.2.2) e
      exact this
    have eq : ∀ k, m3.1 (pq p k) = u.1 (pq p k) := fun k => e1 _ (fun c => pq_n (by omega) c.symm) (fun c => pq_n (by omega) c.symm)
    obtain ⟨s1, -, s3⟩ := M.1.1.2 p M.1.2.2.2.2.2.2.1
    have h9 := M.2.1
    obtain ⟨n, ow, kd, B', W', Y', pt⟩ := s3 (by omega)
    have pt3 : PTQ m3 p n ow kd Fv P B' W' Y' := PTQ_same pt (fun k _ => eq k) (fun k _ => by rw [e4])
    have q1 : n = U := by have := pt3.1.1; have := pl.1.1.1; omega
    have q2 : B' = B := by have := pt3.2.1.1; have := pl.2.1.1; omega
    have q3 : W' = W := by have := pt3.2.2.1.1; have := pl.2.2.1.1; omega
    have q4 : Y' = Y := by have := pt3.2.2.2.1.1; have := pl.2.2.2.1; omega
    subst q1 q2 q3 q4
    exact ⟨ow, kd, pt3⟩
  · have := o.2.2.1
    omega
  · have := o.2.2.1
    omega
theorem st_eo {d W1 : Nat} {m3 w3 : MS} {ar : Int} (ih : ∀ M1 v m w, SIA T Fv P Fv' AN TT CC pM pE ND CN PN SN UN FN p v m w → PP Q (qgo (SAf T Fv P p) N M1 m p (I ((v : Nat) : Int))) (gg_M_go N M2 w (I ((p : Nat) : Int)))) (s : STx T Fv P Fv' AN TT CC pM pE ND CN PN SN UN FN N PR p i v f b U B (W1 + 1) Y l ow kw ow' kd' j nb Hs Os none a n m w) (har : 0 ≤ ar ∧ ar < 22) (gm3 : GGm p m m3) (gw3 : GGw p w w3) (sc3 : SCs p m w → SCs p m3 w3) (pl3 : PLs (bGd b U ow' kd') p m3 w3 U B (W1 + 1) Y) (ru3 : RUb m3 w3 p j nb Hs Os none) (e8 : w3.2.2.2 88 = w.2.2.2 88 ∧ w3.1 140 = w.1 140) (wr : ∀ K, 102 ≤ K ∧ K ≤ 106 → w3.2.2.1 K = w.2.2.1 K) (m28 : m3.1 (pq p 28) = m.1 (pq p 28)) : PP Q (q195 (SAf T Fv P p) N (qgo (SAf T Fv P p) N M1) (tld m3 1 ar (m3.2.2.2 (pq p 35) W1)) p (I ((v : Nat) : Int))) (bnd ((rc_M_error N d).2.1 w3 (I ar) (w3.2.2.2 91 (46000 * p + W1))) (fun u _ => KRs Fv' AN TT CC ND CN UN FN N p mu M2 w u)) := by
  refine q195_s (fun hs => ?_)
  obtain ⟨lb, cx⟩ := SA_er (Or.inl rfl) hs
  obtain ⟨ow3, kw3, pt3⟩ := SA_pt (Or.inl rfl) hs pl3
  obtain ⟨⟨hN, hpr, pr24, hi, hf⟩, ⟨per, hAN⟩, ba, lp, pl, ru, ⟨pt, xc, h140⟩, ⟨bW, bB, bY⟩, bd, sc, wl, rb, rm, ⟨eW, eB, nND⟩, rct, -⟩ := id s
  obtain ⟨⟨fa, ct⟩, -⟩ := id ru
  have h149 : F w 149 = 0 := ba.2.2.2.1.1
  have h150 : F w 150 = 0 := ba.2.2.2.1.2
  have h955 : F m3 955 = ((i : Nat) : Int) := (congrArg Int32.toInt gm3.2.2.1).trans ba.2.2.1.1
  have e28 : F m3 (pq p 28) = F m (pq p 28) := congrArg Int32.toInt m28
  have pb : PB (PWs AN) PR := wl.1.2.2
  have w150 : F w3 150 = ((0 : Nat) : Int) := (congrArg Int32.toInt gw3.2.2.1).trans h150
  have hp3 : HP (hp w3 p) U ow' kd' Fv' (PWs AN) := by
    have e : hp w3 p = hp w p := by
      unfold hp
      rw [e8.1]
    rw [e]
    exact xc.2.1
  have hP : ∀ t, P t → PWs AN t := by
    obtain ⟨-, -, -, -, fa', na, atf⟩ := ba.2.2.2.2.2.2.1
    exact PT_pw (LPQ_dc lp).2 atf hAN
  have xc3 := CXf_cx (CXf_of hP pl3 pt3 hp3 (by omega) ⟨by omega, by omega, bY⟩) ((congrArg Int32.toInt e8.2).trans h140)
  have nw := (per.1.2.2.1 n nND).1.2.2.2.1
  have ca : CTa m3 w3 p (W1 + 1) := fun c hc => by
    rw [e28] at hc
    obtain ⟨y1, -⟩ := ct_mon2 ct hc (Nat.lt_succ_self c)
    obtain ⟨W0, B0, z1, z2, -⟩ := rct c y1
    have r3 := A_r w3 103 (1600 * p + c)
    obtain ⟨nn, c1, -, c3, -⟩ := ct
    refine ⟨by omega, ⟨W0, ?_, by omega⟩, fun nd hnd => by omega⟩
    show (w3.2.2.1 104 _).toInt = _
    rw [wr 104 (by omega)]
    exact z1
  exact errOf_pp (by omega) hpr pl3 ru3 ⟨by omega, by omega⟩ lb pt3 cx xc3 pb (pt3.2.2.1.2 W1 (by omega)) (xc3.2.2.2.2.2.2.2.1 W1 (by omega)) (pl3.2.2.1.2.2 W1 (by omega)) ca har ⟨h955, hi⟩ ⟨w150, by omega⟩ (by omega) (fun b3 U3 W3 r k a0 nn m4 w4 a1 a2 a3 a4 a5 => by
      have r5 := a2.2.2.2.1
      exact (aft_gg hN per h149 ih ba (by omega) (GGm.tr gm3 a3) (GGw.tr gw3 a4) a1 (fun s => a5 (sc3 s)) (Or.inl ⟨r, nb, Hs, _, none, a0, nn, a2⟩) (by omega) a2.2.2.2.2.2.1.2.1).2) (fun m4 w4 wr t3 x3 a1 a2 a3 a4 a5 a6 => (aft_end hN per h149 ih ba (by omega) (GGm.tr gm3 a1) (GGw.tr gw3 a2) (fun s => a3 (sc3 s)) a4 ⟨ba.2.2.1.1, hi⟩ (show F w 150 = ((0 : Nat) : Int) ∧ 0 < 4000 from ⟨h150, by decide⟩) a5 a6).2)
theorem sk_16 {q e : Nat} {O2 : List Nat} (ih : ∀ M1 v m w, SIA T Fv P Fv' AN TT CC pM pE ND CN PN SN UN FN p v m w → PP Q (qgo (SAf T Fv P p) N M1 m p (I ((v : Nat) : Int))) (gg_M_go N M2 w (I ((p : Nat) : Int)))) (s : STx T Fv P Fv' AN TT CC pM pE ND CN PN SN UN FN N PR p i v f b U B W Y l ow kw ow' kd' j nb Hs Os none a n m w) (h23 : A w 23 n = 16) (c0 : A m 23 a = 20) (h25 : A w 25 n = ((q : Nat) : Int)) (ps : PTs (A m 23) (ROs w) (w.2.2.2 34) (Hs j) 230 (a + 1) q (Os j) e O2) (c8 : A m 23 e = 8) (he : e + 3 < 24000) (cr : ∃ f, CRs (A m 23) (ROs w) (w.2.2.2 34) f none (e + 1) (n + 1) (Hs j) O2) : PP Q (q67 (SAf T Fv P p) N (qgo (SAf T Fv P p) N M1) m p (I ((v : Nat) : Int))) (bnd (fm_M_one N w (I ((n : Nat) : Int)) (I 16)) (fun u _ => KRs Fv' AN TT CC ND CN UN FN N p mu M2 w u)) := by
  obtain ⟨⟨r5, r8, r2⟩, ⟨ha, hn, hv, hpp, hj⟩, nd, ⟨pl, ru, bd⟩, ⟨n1, n2, n3⟩, bH, bW, bB, bY, nND, hN⟩ := st_b s
  have h1 := (n2.2.2.2.2.1 h23).2.1
  obtain ⟨W1, rfl⟩ : ∃ W1, W = W1 + 1 := ⟨W - 1, by omega⟩
  have eB : B = nb j + (Hs j ++ Os j).length := by
    have h1 := pl.2.1.1
    have h2 := ru.1.1.2.2.2
    omega
  subst eB
  obtain ⟨⟨-, hpr, pr24, hi, hf⟩, ⟨per, hAN⟩, ba, lp, -, -, ⟨pt, xc, h140⟩, -⟩ := id s
  obtain ⟨bd1, bd2, bd3, bd4⟩ := bd
  obtain ⟨i2, h, mm, L, g2, x2, j2, wb, nb2, cb2, rk, M⟩ := cl_any lp r5 r8
  have lb : LNB m p := GEN_ln M.1 hpr
  have cx : CTX Fv P m := (LPQ_dc lp).2
  have tb := ba.2.2.2.2.2.2.1
  obtain ⟨-, -, -, -, fa', na, atf⟩ := TB_gg (p := p) tb GGm.rf (GGw_fg (FGw.goto (p := p) (j := j) (v := ((n + 1 : Nat) : Int))) hj)
  obtain ⟨⟨l3, c1, c2, c3⟩, -, -⟩ := pt.2.2.2.2
  have h42 : ((nb j + (Hs j ++ Os j).length : Nat) : Int) ≤ F m (pq p 42) := by
    obtain ⟨-, ⟨bb, -, y1, y2⟩, -⟩ := lb
    omega
  have ru' : RUb m (wa w 98 (60 * p + j) ((n + 1 : Nat) : Int)) p j nb Hs Os none := RUb_fg (RUs_b ru) FGm.rf FGw.goto
  have pl' : PLs (bGd b U ow' kd') p m (wa w 98 (60 * p + j) ((n + 1 : Nat) : Int)) U (nb j + (Hs j ++ Os j).length) (W1 + 1) Y := PLs_98 pl
  have fl := ru'.1.1.2.1 j (Nat.le_refl _)
  rw [go_fl r5 r8 (by omega) r2 (by omega) c0 ⟨by omega, by omega⟩]
  refine op_match (K1 := fun u => q195 (SAf T Fv P p) N (qgo (SAf T Fv P p) N M1) u p (I ((v : Nat) : Int))) (K2 := fun u => KRs Fv' AN TT CC ND CN UN FN N p mu M2 w u) (fa' := fa') (na := na) hpp pl ru (by omega) (by omega) bd2 ⟨bd3, bd4⟩ ⟨⟨hpp, ru'.2.2.2.2.1⟩, ⟨ru'.1.1.1.2.1, ru'.1.1.1.2.2, fl.2.2.1.2, fl.2.2.2.2.1⟩, ⟨pl'.1.2.1, pt.1.2.2, xc.2.1, pl'.1.1.2.2⟩, cx, per.2.1, atf, nd.2⟩ pt xc h42 (by omega) h25 ps c8 he cr (fun m3 w3 a1 a2 a3 a4 a5 => (st_ru ih s a1 a2 a3 a4 a5).1) (fun m3 w3 a1 a2 a3 a4 a5 a6 a7 a8 => ?_)
  exact st_eo (ar := 13) (d := 20) ih s ⟨by omega, by omega⟩ a3 a4 a5 a1 a2 a6 a7 a8
end
end
section
set_option maxRecDepth 100000
section
variable {T : TYc} {Fv Fv' : Int64 → Int64 → Prop} {P : Int64 → Prop} {AN : Nat} {TT : TY} {CC : CY} {pM pE : Nat → Nat} {ND CN PN SN UN FN N PR p i v mu M1 M2 f U B W Y l j a n : Nat} {m w : MS} {Q : MS → Int32 → MS → Int32 → Prop} {b : Int → Nat → Nat → Prop} {ow kw ow' kd' : Nat → Nat} {nb : Nat → Nat} {Hs Os : Nat → List Nat} {y : Option (Nat × Nat × Nat)}
theorem sp_b (s : STx T Fv P Fv' AN TT CC pM pE ND CN PN SN UN FN N PR p i v f b U B W Y l ow kw ow' kd' j nb Hs Os y a n m w) {d : Nat} (hd : d < 30) (h23 : A w 23 n = 12) (h27 : A w 27 n = ((2000 + d : Nat) : Int)) : tB TT n + npre d ≤ tH TT n ∧ (tG TT n ≠ 0 → 18 ≤ d) := by
  obtain ⟨-, -, -, -, ⟨n1, n2, n3⟩, -⟩ := st_b s
  have fn := s.2.1.1.1.1.2.2.2.2.1
  obtain ⟨⟨b9, y1, y2, y3, -, y4⟩, -⟩ := n3.2.2.2.2.2.2.2.2.1 h23
  rcases y4 with ⟨k, k1, k2, k3, k4⟩ | ⟨-, k1, k2, -⟩
  · have ek : k = d := by omega
    subst ek
    exact ⟨by omega, k4⟩
  · omega
theorem pk_tests {d k : Int} (ih : ∀ M1 v m w, SIA T Fv P Fv' AN TT CC pM pE ND CN PN SN UN FN p v m w → PP Q (qgo (SAf T Fv P p) N M1 m p (I ((v : Nat) : Int))) (gg_M_go N M2 w (I ((p : Nat) : Int)))) (s : STx T Fv P Fv' AN TT CC pM pE ND CN PN SN UN FN N PR p i v f b U B W Y l ow kw ow' kd' j nb Hs Os y a n m w) (hd : (d = 17 ∧ k = 18) ∨ (d = 18 ∧ k = 19) ∨ (d = 19 ∧ k = 20) ∨ (d = 20 ∧ k = 21) ∨ (d = 21 ∧ k = 22) ∨ (d = 22 ∧ k = 23) ∨ (d = 23 ∧ k = 24)) (hb : tB TT n + 1 ≤ tH TT n) (cr : ∃ f, CRs (A m 23) (ROs w) (w.2.2.2 34) f y (a + 2) (n + 1) (Hs j) (Os j)) : PP Q (bnd (hm_Ma_predefined N m p (I d)) (fun u _ => q195 (SAf T Fv P p) N (qgo (SAf T Fv P p) N M1) u p (I ((v : Nat) : Int)))) (bnd (fm_M_predefinedRun N (wa w 98 (60 * p + j) ((n + 1 : Nat) : Int)) (I k)) (fun u _ => KRs Fv' AN TT CC ND CN UN FN N p mu M2 w u)) := by
  obtain ⟨⟨r5, r8, r2⟩, ⟨ha, hn, hv, hpp, hj⟩, nd, ⟨pl, ru, bd⟩, ⟨n1, n2, n3⟩, bH, bW, bB, bY, nND, hN⟩ := st_b s
  obtain ⟨bd1, bd2, bd3, bd4⟩ := bd
  obtain ⟨W1, rfl⟩ : ∃ W1, W = W1 + 1 := ⟨W - 1, by omega⟩
  exact op_tests (K1 := fun u => q195 (SAf T Fv P p) N (qgo (SAf T Fv P p) N M1) u p (I ((v : Nat) : Int))) (K2 := fun u => KRs Fv' AN TT CC ND CN UN FN N p mu M2 w u) hd hpp ru (by omega) bd2 ⟨bd3, bd4⟩ (PLs_98 pl) FGw.goto (by rw [wa_sm (by omega) (by omega)]) cr (fun m3 w3 a1 a2 a3 a4 => st_fg ih s hj a1 a2 a3 a4)
theorem pk_parts {d k : Int} (ih : ∀ M1 v m w, SIA T Fv P Fv' AN TT CC pM pE ND CN PN SN UN FN p v m w → PP Q (qgo (SAf T Fv P p) N M1 m p (I ((v : Nat) : Int))) (gg_M_go N M2 w (I ((p : Nat) : Int)))) (s : STx T Fv P Fv' AN TT CC pM pE ND CN PN SN UN FN N PR p i v f b U B W Y l ow kw ow' kd' j nb Hs Os y a n m w) (hd : (d = 24 ∧ k = 25) ∨ (d = 25 ∧ k = 26) ∨ (d = 26 ∧ k = 27) ∨ (d = 28 ∧ k = 29)) (hb : tB TT n + 1 ≤ tH TT n) (cr : ∃ f, CRs (A m 23) (ROs w) (w.2.2.2 34) f y (a + 2) (n + 1) (Hs j) (Os j)) : PP Q (bnd (hm_Ma_predefined N m p (I d)) (fun u _ => q195 (SAf T Fv P p) N (qgo (SAf T Fv P p) N M1) u p (I ((v : Nat) : Int)))) (bnd (fm_M_predefinedRun N (wa w 98 (60 * p + j) ((n + 1 : Nat) : Int)) (I k)) (fun u _ => KRs Fv' AN TT CC ND CN UN FN N p mu M2 w u)) := by
  obtain ⟨⟨r5, r8, r2⟩, ⟨ha, hn, hv, hpp, hj⟩, nd, ⟨pl, ru, bd⟩, ⟨n1, n2, n3⟩, bH, bW, bB, bY, nND, hN⟩ := st_b s
  obtain ⟨bd1, bd2, bd3, bd4⟩ := bd
  obtain ⟨W1, rfl⟩ : ∃ W1, W = W1 + 1 := ⟨W - 1, by omega⟩
  obtain ⟨pt, xc, h140⟩ := s.2.2.2.2.2.2.1
  exact op_parts (K1 := fun u => q195 (SAf T Fv P p) N (qgo (SAf T Fv P p) N M1) u p (I ((v : Nat) : Int))) (K2 := fun u => KRs Fv' AN TT CC ND CN UN FN N p mu M2 w u) hd hpp ru (by omega) bd2 ⟨bd3, bd4⟩ (PLs_98 pl) FGw.goto (by rw [wa_sm (by omega) (by omega)]) pt.1.2.2 xc.2.1 (pt.2.2.1.2 W1 (by omega)) (xc.2.2.2.2.2.2.2.1 W1 (by omega)) cr (fun m3 w3 a1 a2 a3 a4 => st_fg ih s hj a1 a2 a3 a4) (fun w3 a1 a2 a3 => st_wr (c := 11) ih s (by omega) a1 (by omega) (by omega) a2 a3)
theorem pk_elem (ih : ∀ M1 v m w, SIA T Fv P Fv' AN TT CC pM pE ND CN PN SN UN FN p v m w → PP Q (qgo (SAf T Fv P p) N M1 m p (I ((v : Nat) : Int))) (gg_M_go N M2 w (I ((p : Nat) : Int)))) (s : STx T Fv P Fv' AN TT CC pM pE ND CN PN SN UN FN N PR p i v f b U B W Y l ow kw ow' kd' j nb Hs Os y a n m w) (hb : tB TT n + 2 ≤ tH TT n) (cr : ∃ f, CRs (A m 23) (ROs w) (w.2.2.2 34) f y (a + 2) (n + 1) (Hs j) (Os j)) : PP Q (bnd (hm_Ma_predefined N m p (I 27)) (fun u _ => q195 (SAf T Fv P p) N (qgo (SAf T Fv P p) N M1) u p (I ((v : Nat) : Int)))) (bnd (fm_M_predefinedRun N (wa w 98 (60 * p + j) ((n + 1 : Nat) : Int)) (I 28)) (fun u _ => KRs Fv' AN TT CC ND CN UN FN N p mu M2 w u)) := by
  obtain ⟨⟨r5, r8, r2⟩, ⟨ha, hn, hv, hpp, hj⟩, nd, ⟨pl, ru, bd⟩, ⟨n1, n2, n3⟩, bH, bW, bB, bY, nND, hN⟩ := st_b s
  obtain ⟨bd1, bd2, bd3, bd4⟩ := bd
  obtain ⟨W1, rfl⟩ : ∃ W1, W = W1 + 2 := ⟨W - 2, by omega⟩
  obtain ⟨pt, xc, h140⟩ := s.2.2.2.2.2.2.1
  exact op_elem (K1 := fun u => q195 (SAf T Fv P p) N (qgo (SAf T Fv P p) N M1) u p (I ((v : Nat) : Int))) (K2 := fun u => KRs Fv' AN TT CC ND CN UN FN N p mu M2 w u) hpp ru (by omega) bd2 ⟨bd3, bd4⟩ (PLs_98 pl) FGw.goto (by rw [wa_sm (by omega) (by omega)]) pt.1.2.2 xc.2.1 (pt.2.2.1.2 (W1 + 1) (by omega)) (xc.2.2.2.2.2.2.2.1 (W1 + 1) (by omega)) cr (fun m3 w3 a1 a2 a3 a4 => st_fg ih s hj a1 a2 a3 a4) (fun w3 a1 a2 a3 => st_wr (c := 11) ih s (by omega) a1 (by omega) (by omega) a2 a3)
theorem pk_here {d k : Int} (ih : ∀ M1 v m w, SIA T Fv P Fv' AN TT CC pM pE ND CN PN SN UN FN p v m w → PP Q (qgo (SAf T Fv P p) N M1 m p (I ((v : Nat) : Int))) (gg_M_go N M2 w (I ((p : Nat) : Int)))) (s : STx T Fv P Fv' AN TT CC pM pE ND CN PN SN UN FN N PR p i v f b U B W Y l ow kw ow' kd' j nb Hs Os y a n m w) (hd : (d = 0 ∧ k = 0) ∨ (d = 16 ∧ k = 17)) (cr : ∃ f, CRs (A m 23) (ROs w) (w.2.2.2 34) f y (a + 2) (n + 1) (Hs j) (Os j)) : PP Q (bnd (hm_Ma_predefined N m p (I d)) (fun u _ => q195 (SAf T Fv P p) N (qgo (SAf T Fv P p) N M1) u p (I ((v : Nat) : Int)))) (bnd (fm_M_predefinedRun N (wa w 98 (60 * p + j) ((n + 1 : Nat) : Int)) (I k)) (fun u _ => KRs Fv' AN TT CC ND CN UN FN N p mu M2 w u)) := by
  obtain ⟨⟨r5, r8, r2⟩, ⟨ha, hn, hv, hpp, hj⟩, nd, ⟨pl, ru, bd⟩, ⟨n1, n2, n3⟩, bH, bW, bB, bY, nND, hN⟩ := st_b s
  obtain ⟨bd1, bd2, bd3, bd4⟩ := bd
  obtain ⟨-, -, ⟨t944, -, -⟩, -⟩ := s.2.2.1.2.2.2.2.2.2.1
  exact op_here (K1 := fun u => q195 (SAf T Fv P p) N (qgo (SAf T Fv P p) N M1) u p (I ((v : Nat) : Int))) (K2 := fun u => KRs Fv' AN TT CC ND CN UN FN N p mu M2 w u) hd hpp ru t944.1 (by omega) bd2 ⟨bd3, bd4⟩ (PLs_98 pl) FGw.goto (by rw [wa_sm (by omega) (by omega)]) cr (fun m3 w3 a1 a2 a3 a4 => st_fg ih s hj a1 a2 a3 a4)
theorem pk_tells {d k how kn : Int} (ih : ∀ M1 v m w, SIA T Fv P Fv' AN TT CC pM pE ND CN PN SN UN FN p v m w → PP Q (qgo (SAf T Fv P p) N M1 m p (I ((v : Nat) : Int))) (gg_M_go N M2 w (I ((p : Nat) : Int)))) (s : STx T Fv P Fv' AN TT CC pM pE ND CN PN SN UN FN N PR p i v f b U B W Y l ow kw ow' kd' j nb Hs Os y a n m w) (hd : (d = 7 ∧ k = 7 ∧ how = 2 ∧ kn = 1) ∨ (d = 8 ∧ k = 9 ∧ how = 3 ∧ kn = 2) ∨ (d = 9 ∧ k = 10 ∧ how = 1 ∧ kn = 0)) (hb : tB TT n + 1 ≤ tH TT n) (cr : ∃ f, CRs (A m 23) (ROs w) (w.2.2.2 34) f y (a + 2) (n + 1) (Hs j) (Os j)) : PP Q (bnd (hm_Ma_predefined N m p (I d)) (fun u _ => q195 (SAf T Fv P p) N (qgo (SAf T Fv P p) N M1) u p (I ((v : Nat) : Int)))) (bnd (fm_M_predefinedRun N (wa w 98 (60 * p + j) ((n + 1 : Nat) : Int)) (I k)) (fun u _ => KRs Fv' AN TT CC ND CN UN FN N p mu M2 w u)) := by
  obtain ⟨⟨r5, r8, r2⟩, ⟨ha, hn, hv, hpp, hj⟩, nd, ⟨pl, ru, bd⟩, ⟨n1, n2, n3⟩, bH, bW, bB, bY, nND, hN⟩ := st_b s
  obtain ⟨bd1, bd2, bd3, bd4⟩ := bd
  obtain ⟨W1, rfl⟩ : ∃ W1, W = W1 + 1 := ⟨W - 1, by omega⟩
  obtain ⟨pt, xc, h140⟩ := s.2.2.2.2.2.2.1
  exact op_tells (K1 := fun u => q195 (SAf T Fv P p) N (qgo (SAf T Fv P p) N M1) u p (I ((v : Nat) : Int))) (K2 := fun u => KRs Fv' AN TT CC ND CN UN FN N p mu M2 w u) hd hpp ru (by omega) bd2 ⟨bd3, bd4⟩ (PLs_98 pl) FGw.goto (fun w3 a1 a2 a3 => st_er (d := 19) ih s (by omega) a1 (by omega) (by omega) a2 a3 (pt.2.2.1.2 W1 (by omega)) (xc.2.2.2.2.2.2.2.1 W1 (by omega)) (pl.2.2.1.2.2 W1 (by omega)))
theorem pk_trap (ih : ∀ M1 v m w, SIA T Fv P Fv' AN TT CC pM pE ND CN PN SN UN FN p v m w → PP Q (qgo (SAf T Fv P p) N M1 m p (I ((v : Nat) : Int))) (gg_M_go N M2 w (I ((p : Nat) : Int)))) (s : STx T Fv P Fv' AN TT CC pM pE ND CN PN SN UN FN N PR p i v f b U B W Y l ow kw ow' kd' j nb Hs Os y a n m w) (hb : tB TT n + 1 ≤ tH TT n) (cr : ∃ f, CRs (A m 23) (ROs w) (w.2.2.2 34) f y (a + 2) (n + 1) (Hs j) (Os j)) : PP Q (bnd (hm_Ma_predefined N m p (I 6)) (fun u _ => q195 (SAf T Fv P p) N (qgo (SAf T Fv P p) N M1) u p (I ((v : Nat) : Int)))) (bnd (fm_M_predefinedRun N (wa w 98 (60 * p + j) ((n + 1 : Nat) : Int)) (I 6)) (fun u _ => KRs Fv' AN TT CC ND CN UN FN N p mu M2 w u)) := by
  obtain ⟨⟨r5, r8, r2⟩, ⟨ha, hn, hv, hpp, hj⟩, nd, ⟨pl, ru, bd⟩, ⟨n1, n2, n3⟩, bH, bW, bB, bY, nND, hN⟩ := st_b s
  obtain ⟨bd1, bd2, bd3, bd4⟩ := bd
  obtain ⟨W1, rfl⟩ : ∃ W1, W = W1 + 1 := ⟨W - 1, by omega⟩
  exact op_trap (K1 := fun u => q195 (SAf T Fv P p) N (qgo (SAf T Fv P p) N M1) u p (I ((v : Nat) : Int))) (K2 := fun u => KRs Fv' AN TT CC ND CN UN FN N p mu M2 w u) hpp ru s.2.2.2.2.2.2.2.2.2.1 (by omega) bd2 ⟨bd3, bd4⟩ (PLs_98 pl) FGw.goto (by rw [wa_sm (by omega) (by omega)]) cr (fun m3 w3 a1 a2 a3 a4 a5 => (st_ru ih s a1 a2 a3 a4 (fun _ => a5)).1) (fun w3 a1 a2 a3 => st_wr (c := 11) ih s (by omega) a1 (by omega) (by omega) a2 a3)
end
end
section
set_option maxRecDepth 100000
section
variable {p : Nat} {m w m3 w3 : MS}
theorem TB_wo (h : TBs m w) (k : WOs m w m3 w3) (h34 : w3.2.2.2 34 = w.2.2.2 34) : TBs m3 w3 := by
  obtain ⟨t1, t2, ⟨t3, t4, t5⟩, t6, fa, na, t7⟩ := h
  obtain ⟨⟨k1, k2⟩, ⟨k3, k4⟩, -, -, -, k5, k6⟩ := k
  exact ⟨TB_tab t1 ⟨k1 442 (by omega), k1 449 (by omega)⟩ (fun K h => k2 K (by omega)) (fun K h => k4 K (by unfold PRr at h; omega)) h34, PN_st t2 (k1 953 (by omega)) (fun K h => k2 K (by omega)) (k3 128 (by omega)) (fun K h => k4 K (by omega)), ⟨CLk_st t3 (k1 944 (by omega)) (k3 120 (by omega)), by rw [k1 945 (by omega), k3 121 (by omega)]; exact t4, by rw [k1 946 (by omega), k3 119 (by omega)]; exact t5⟩, by rw [k5, k6]; exact t6, fa, na, ATf_k t7 (k1 22 (by omega)) (k2 2 (by omega)) (k2 3 (by omega)) (k3 14 (by omega)) (k4 12 (by omega)) (k4 13 (by omega))⟩
theorem PG_wo (k : WOs m w m3 w3) (h34 : w3.2.2.2 34 = w.2.2.2 34) : PG0 m w m3 w3 := by
  obtain ⟨⟨k1, k2⟩, ⟨k3, k4⟩, -⟩ := k
  exact ⟨⟨k2 23 (by omega), k1 22 (by omega), ATc_eq (k2 2 (by omega)) (k2 3 (by omega))⟩, fun K h => k4 K (by unfold PRr at h; omega), h34, k4 12 (by omega), k4 13 (by omega), k3 14 (by omega)⟩
end
section
variable {T : TYc} {Fv Fv' : Int64 → Int64 → Prop} {P : Int64 → Prop} {AN : Nat} {TT : TY} {CC : CY} {pM pE : Nat → Nat} {ND CN PN SN UN FN N PR p i v mu M1 M2 f U B W Y l j a n : Nat} {m w : MS} {Q : MS → Int32 → MS → Int32 → Prop} {b : Int → Nat → Nat → Prop} {ow kw ow' kd' : Nat → Nat} {nb : Nat → Nat} {Hs Os : Nat → List Nat} {y : Option (Nat × Nat × Nat)}
theorem y_none (s : STx T Fv P Fv' AN TT CC pM pE ND CN PN SN UN FN N PR p i v f b U B W Y l ow kw ow' kd' j nb Hs Os y a n m w) (hg : tG TT n = 0) : y = none := by
  obtain ⟨-, -, -, -, -, ru, -, -, -, -, -, rb, rm, -, -, rgd, -⟩ := s
  rcases ru.2.2.2.2.1 with ⟨c, -⟩ | ⟨kd', k', sc', e, fl, W0, O0, X, z1, z2, z3, -⟩
  · exact c
  · exact absurd hg (rgd z3.1).2.2
theorem aft_o2 {m3 w3 : MS} (ih : ∀ M1 v m w, SIA T Fv P Fv' AN TT CC pM pE ND CN PN SN UN FN p v m w → PP Q (qgo (SAf T Fv P p) N M1 m p (I ((v : Nat) : Int))) (gg_M_go N M2 w (I ((p : Nat) : Int)))) (s : STx T Fv P Fv' AN TT CC pM pE ND CN PN SN UN FN N PR p i v f b U B W Y l ow kw ow' kd' j nb Hs Os y a n m w) {i3 : Nat} (n942 : F m3 942 = ((PR : Nat) : Int)) (n118 : F w3 118 = ((PR : Nat) : Int)) (h9 : F m3 1109 = 0 ∨ F m3 (pq p 9) = 3) (W3 : SFs Fv P Fv' (PWs AN) PR m3 w3 → WLs (RRx p (SPs p)) PR Fv P Fv' (PWs AN) none i3 0 m3 w3) (h956 : F m3 956 = ((i3 : Nat) : Int)) (cn : w3.2.2.2 34 = w.2.2.2 34 → ATM w3 → CNq P (PWs AN) m3 w3) (wt : WTs PR m3 w3) (tb : w3.2.2.2 34 = w.2.2.2 34 → TBs m3 w3) : PP Q (q195 (SAf T Fv P p) N (qgo (SAf T Fv P p) N M1) m3 p (I ((v : Nat) : Int))) (KRs Fv' AN TT CC ND CN UN FN N p mu M2 w w3) := by
  obtain ⟨⟨hN, hpr, pr24, hi, hf⟩, ⟨per, hAN⟩, ba, -⟩ := id s
  refine pp_clr (fun rs => ?_)
  have gf : w3.2.2.2 34 = w.2.2.2 34 := by
    obtain ⟨_, _, _, _, g⟩ := rs
    exact g.2.2.2 34 (by decide)
  have h := (aft_on (M1 := M1) (mu := mu) (v := v) hN per ih hpr (by omega) n942 n118 h9 W3 h956 ba.2.2.2.1.1 (cn gf) wt (tb gf)).1
  rw [rsc_t rs] at h
  exact h
theorem sk_11 (ih : ∀ M1 v m w, SIA T Fv P Fv' AN TT CC pM pE ND CN PN SN UN FN p v m w → PP Q (qgo (SAf T Fv P p) N M1 m p (I ((v : Nat) : Int))) (gg_M_go N M2 w (I ((p : Nat) : Int)))) (s : STx T Fv P Fv' AN TT CC pM pE ND CN PN SN UN FN N PR p i v f b U B W Y l ow kw ow' kd' j nb Hs Os y a n m w) (hP4 : ∀ k, k < W → so (m.2.2.2 (pq p 35) k) = 4 → 0 ≤ va (m.2.2.2 (pq p 35) k) ∧ va (m.2.2.2 (pq p 35) k) < ((PR : Nat) : Int)) (h23 : A w 23 n = 11) (c0 : A m 23 a = 17) (cr : ∃ f, CRs (A m 23) (ROs w) (w.2.2.2 34) f y (a + 1) (n + 1) (Hs j) (Os j)) : PP Q (q67 (SAf T Fv P p) N (qgo (SAf T Fv P p) N M1) m p (I ((v : Nat) : Int))) (bnd (fm_M_one N w (I ((n : Nat) : Int)) (I 11)) (fun u _ => KRs Fv' AN TT CC ND CN UN FN N p mu M2 w u)) := by
  obtain ⟨⟨r5, r8, r2⟩, ⟨ha, hn, hv, hpp, hj⟩, nd, ⟨pl, ru, bd⟩, ⟨n1, n2, n3⟩, bH, bW, bB, bY, nND, hN⟩ := st_b s
  obtain ⟨bd1, bd2, bd3, bd4⟩ := bd
  obtain ⟨k1, k2, -⟩ := n2.1 h23
  obtain ⟨W1, rfl⟩ : ∃ W1, W = W1 + 2 := ⟨W - 2, by omega⟩
  obtain ⟨⟨-, hpr, pr24, hi, hf⟩, ⟨per, hAN⟩, ba, lp, -, -, -, -, -, -, wl, -⟩ := id s
  obtain ⟨-, -, ⟨h955, h956⟩, -, cn, wt, tb, -, q942, q118⟩ := id ba
  rw [go_vl r5 r8 (by omega) r2 (by omega) c0 ⟨by omega, by omega⟩]
  have wts : ∀ m3 w3, WOs m w m3 w3 → WTs PR m3 w3 := fun m3 w3 k => WTs_st wt k.2.2.1.2.1 k.2.2.1.1 k.2.2.2.2.1 k.2.2.2.1
  refine op_send (K1 := fun u => q195 (SAf T Fv P p) N (qgo (SAf T Fv P p) N M1) u p (I ((v : Nat) : Int))) (K2 := fun u => KRs Fv' AN TT CC ND CN UN FN N p mu M2 w u) hpr wl pl ru (hP4 W1 (by omega)) cr (by omega) ?_ (fun b3 U3 Y3 m3 w3 a1 a2 a3 a4 => ?_) (fun m3 w3 a1 a2 a3 a4 a5 => ?_)
  · exact st_wr (c := 11) ih s (by omega) (by rw [wi_id pl.2.2.1.1]; exact PLs_98 pl) (by omega) (by omega) FGw.goto ⟨rfl, rfl⟩
  · exact aft_o2 ih s (i3 := i) ((congrArg Int32.toInt (a4.1.1 942 (by omega))).trans q942) ((congrArg Int32.toInt (a4.2.1.1 118 (by omega))).trans q118) (Or.inl a3.2.2.2.2.2.1.2.1) (fun s3 => WL_q (WL_t (a1 s3)) (fun _ => Or.inl ⟨j, nb, Hs, Os, y, _, _, a3⟩)) ((congrArg Int32.toInt a4.2.2.1.2.2).trans h956) (fun e a => CN_pg cn (PG_wo a4 e) a) (wts m3 w3 a4) (fun e => TB_wo tb a4 e)
  · exact aft_o2 ih s (i3 := i) ((congrArg Int32.toInt (a4.1.1 942 (by omega))).trans q942) ((congrArg Int32.toInt (a4.2.1.1 118 (by omega))).trans q118) (Or.inl a5.1) (fun s3 => WL_q (a1 s3) (fun h => absurd a2 h)) ((congrArg Int32.toInt a4.2.2.1.2.2).trans h956) (fun e a => CN_pg cn (PG_wo a4 e) a) (wts m3 w3 a4) (fun e => TB_wo tb a4 e)
end
end
section
set_option maxRecDepth 100000
section
variable {T : TYc} {Fv Fv' : Int64 → Int64 → Prop} {P : Int64 → Prop} {AN : Nat} {TT : TY} {CC : CY} {pM pE : Nat → Nat} {ND CN PN SN UN FN N PR p i v mu M1 M2 f U B W Y l j a n : Nat} {m w : MS} {Q : MS → Int32 → MS → Int32 → Prop} {b : Int → Nat → Nat → Prop} {ow kw ow' kd' : Nat → Nat} {nb : Nat → Nat} {Hs Os : Nat → List Nat} {y : Option (Nat × Nat × Nat)}
theorem st_ta {M' vk d : Nat} {m4 w4 : MS} {B4 W4 Y4 j4 kd4 sc4 a4 : Nat} {nb4 : Nat → Nat} {Hs4 Os4 : Nat → List Nat} {k4 : Int} (ih : ∀ M1 v m w, SIA T Fv P Fv' AN TT CC pM pE ND CN PN SN UN FN p v m w → PP Q (qgo (SAf T Fv P p) N M1 m p (I ((v : Nat) : Int))) (gg_M_go N M2 w (I ((p : Nat) : Int)))) (s : STx T Fv P Fv' AN TT CC pM pE ND CN PN SN UN FN N PR p i v f b U B W Y l ow kw ow' kd' j nb Hs Os y a n m w) (hvk : vk < 1000000000) (t4 : TRs m4 w4 p j4 nb4 Hs4 Os4 kd4 sc4 a4 k4) (pl4 : PLs (bGd b U ow' kd') p m4 (wa w4 94 p ((B4 : Nat) : Int)) U B4 W4 Y4) (hW4 : W4 < 46000) (gm : GGm p m m4) (gw : GGw p w w4) (sc : SCs p m w → SCs p m4 w4) (e8 : w4.2.2.2 88 = w.2.2.2 88 ∧ w4.1 140 = w.1 140) : PP Q (q195 (SAf T Fv P p) N (qgo (SAf T Fv P p) N M') m4 p (I ((vk : Nat) : Int))) (bnd (gg_M_choose N (rc_M_error N d) N w4 1) (fun u _ => KRs Fv' AN TT CC ND CN UN FN N p mu M2 w u)) := by
  obtain ⟨⟨hN, hpr, pr24, hi, hf⟩, ⟨per, hAN⟩, ba, lp, -, -, ⟨pt, xc, h140⟩, -⟩ := id s
  have q5 : F m4 955 ≤ F m4 956 := by
    have y1 : F m4 955 = F m 955 := congrArg Int32.toInt gm.2.2.1
    have y2 : F m4 956 = F m 956 := congrArg Int32.toInt gm.2.2.2.2.1
    have y3 := ba.2.2.1.1
    have y4 := ba.2.2.1.2
    omega
  refine go195 t4.1.2.2.2.1.2.1 q5 (fun hs => ?_)
  have e : hp w4 p = hp w p := by
    unfold hp
    rw [e8.1]
  exact st_tr (M := N) (d := d) hN (by omega) per ba.2.2.2.1.1 hAN ih ba rfl hvk hs t4 pl4 (by rw [e]; exact xc.2.1) ((congrArg Int32.toInt e8.2).trans h140) hW4 gm gw sc
theorem st_wn {M' vk : Nat} {m3 w3 : MS} {b3 : Int → Nat → Nat → Prop} {U3 B3 W3 Y3 j3 sc3 : Nat} {nb3 : Nat → Nat} {Hs3 Os3 : Nat → List Nat} (ih : ∀ M1 v m w, SIA T Fv P Fv' AN TT CC pM pE ND CN PN SN UN FN p v m w → PP Q (qgo (SAf T Fv P p) N M1 m p (I ((v : Nat) : Int))) (gg_M_go N M2 w (I ((p : Nat) : Int)))) (s : STx T Fv P Fv' AN TT CC pM pE ND CN PN SN UN FN N PR p i v f b U B W Y l ow kw ow' kd' j nb Hs Os y a n m w) (hvk : vk < 1000000000) (wn : WTn m3 w3 p j3 nb3 Hs3 Os3 sc3) (pl : PLs b3 p m3 w3 U3 B3 W3 Y3) (gm : GGm p m m3) (gw : GGw p w w3) (sc : SCs p m w → SCs p m3 w3) : PP Q (q195 (SAf T Fv P p) N (qgo (SAf T Fv P p) N M') m3 p (I ((vk : Nat) : Int))) (KRs Fv' AN TT CC ND CN UN FN N p mu M2 w w3) := by
  obtain ⟨⟨hN, hpr, pr24, hi, hf⟩, ⟨per, -⟩, ba, -⟩ := s
  have h149 : F w 149 = 0 := ba.2.2.2.1.1
  have r5 := wn.2.1
  exact (aft_gg hN per h149 ih ba (by omega) gm gw pl sc (Or.inr (Or.inl ⟨j3, nb3, Hs3, Os3, sc3, wn⟩)) (by omega) wn.2.2.2.2.2.1.2.1).1
theorem sk_27 (ih : ∀ M1 v m w, SIA T Fv P Fv' AN TT CC pM pE ND CN PN SN UN FN p v m w → PP Q (qgo (SAf T Fv P p) N M1 m p (I ((v : Nat) : Int))) (gg_M_go N M2 w (I ((p : Nat) : Int)))) (s : STx T Fv P Fv' AN TT CC pM pE ND CN PN SN UN FN N PR p i v f b U B W Y l ow kw ow' kd' j nb Hs Os none a n m w) (h23 : A w 23 n = 27) (h31 : A w 31 n = -1) (c0 : A m 23 a = 31) (c1 : A m 23 (a + 1) = 0) (h27 : A w 27 n = (((Os j).length : Nat) : Int)) (rc : ∃ g, RCs (A m 23) (ROs w) (w.2.2.2 34) (CRs (A m 23) (ROs w) (w.2.2.2 34) g) g (a + 2) n (Hs j) (Os j)) : PP Q (q67 (SAf T Fv P p) N (qgo (SAf T Fv P p) N M1) m p (I ((v : Nat) : Int))) (bnd (fm_M_one N w (I ((n : Nat) : Int)) (I 27)) (fun u _ => KRs Fv' AN TT CC ND CN UN FN N p mu M2 w u)) := by
  obtain ⟨⟨r5, r8, r2⟩, ⟨ha, hn, hv, hpp, hj⟩, nd, ⟨pl, ru, bd⟩, ⟨n1, n2, n3⟩, bH, bW, bB, bY, nND, hN⟩ := st_b s
  obtain ⟨bd1, bd2, bd3, bd4⟩ := bd
  have tb := s.2.2.1.2.2.2.2.2.2.1
  have h955 := s.2.2.1.2.2.1.1
  have h956 := s.2.2.1.2.2.1.2
  rw [go_fl r5 r8 (by omega) r2 (by omega) c0 ⟨by omega, by omega⟩]
  exact op_rcv (K2 := fun u => KRs Fv' AN TT CC ND CN UN FN N p mu M2 w u) hpp pl ru (by omega) bY (by omega) (by omega) tb.2.2.1.1.1 c0 c1 h31 h23 h27 rc (fun M' vk' m3 w3 q1 q2 a1 a2 a3 a4 a5 => st_wn ih s (by omega) a1 a2 a3 a4 a5) (fun M' vk' m3 w3 l q q1 q2 a1 a2 a3 a4 a5 => st_rv ih s (by omega) a2 a1 a3 a4 a5) (fun M' vk' m3 w3 k q1 q2 q3 a1 a2 a3 a4 a5 a6 a7 => st_ta ih s (by omega) a1 a2 (by omega) a4 a5 a6 a7)
theorem st_k0 (s : STx T Fv P Fv' AN TT CC pM pE ND CN PN SN UN FN N PR p i v f b U B W Y l ow kw ow' kd' j nb Hs Os y a n m w) {r : Nat} (hr : r < 100000) (u : MS) (Z : Option (MS × Int32)) (h98 : A u 98 (60 * p + j) = ((r : Nat) : Int)) (h109 : A u 109 p = 0) (h151 : F u 151 = 0) (h133 : F u 133 = ((p : Nat) : Int)) (h95 : A u 95 p = ((j + 1 : Nat) : Int)) (h149 : F u 149 = 0) (h150 : F u 150 = 0) (k : PP Q Z (bnd (fm_M_one N u (I ((r : Nat) : Int)) (I (A u 23 r))) (fun u3 _ => KRs Fv' AN TT CC ND CN UN FN N p mu M2 w u3))) : PP Q Z (KRs Fv' AN TT CC ND CN UN FN N p mu (M2 + 1) w u) := by
  obtain ⟨⟨hN, hpr, pr24, hi, hf⟩, ⟨per, hAN⟩, ba, lp, -, ru, -⟩ := id s
  have hj := ru.1.1.1.2.2
  refine pp_clr (fun rs => ?_)
  obtain ⟨PR', hp', al, wd, gf⟩ := rs
  have per3 : PER Fv' AN TT CC pM pE ND CN PN SN UN FN u := PER_fr per gf (by decide) (by decide)
  rw [ends_id h149 h150, bnd_so]
  refine go_r (by omega) h151 h109 h133 h95 hj h98 hr ?_
  refine r_cl (S := fun u3 _ => RSW Fv' AN TT CC ND CN UN FN p mu w u3) ?_ k
  obtain ⟨mm, hmm, fr, ro, rn, rh, cb, pc, ct, q, n0, ow2, kd2, bxM, atq, -, mode⟩ : ∃ mm, mm < mu ∧ STE Fv' (PQ AN PR') PR' TT CC ND CN p mm u := by
    rcases al with al | al | al | ⟨mm, h1, h2⟩
    · have := al.2
      omega
    · obtain ⟨_, _, _, _, _, _, _, _, _, _, _, _, -, c, -⟩ := al
      omega
    · obtain ⟨_, _, _, _, _, _, _, _, _, _, _, _, -, -, -, c⟩ := al
      omega
    · exact ⟨mm, h1, h2⟩
  obtain ⟨mei, ⟨⟨f1, f2, f3⟩, -⟩, q98, -⟩ := id atq
  have efr : fr = j + 1 := by omega
  subst efr
  have eq : q = r := by
    have q98' : A u 98 (60 * p + j) = ((q : Nat) : Int) := q98
    omega
  subst eq
  have hA2 : AN ≤ 3000 := by
    obtain ⟨-, -, -, -, fa', na, atf⟩ := ba.2.2.2.2.2.2.1
    have e2 : F w 14 = ((na : Nat) : Int) := by
      show (w.1 14).toInt = _
      rw [atf.2.1.1, I_ti (by omega) (by have := atf.1.2.2.2.2; omega)]
    have e4 := atf.1.2.2.2.2
    omega
  have dw := mei.1
  intro u3 z e
  obtain ⟨PR2, k1, k2, k3, k4⟩ := pk_ok (one_ok (N := N) atq h109 mode per3.2.2.2.2.1 hA2 per3.2.2.2.1 (PER_pgm per3 dw.1.2) per3.2.2.2.2.2 wd ⟨by omega, h151⟩ rfl hN) u3 z e
  refine ⟨PR2, k1, ?_, k3, FR.tr gf k4⟩
  rcases k2 with k2 | k2 | k2 | ⟨m9, k2, k5⟩
  · exact Or.inl k2
  · exact Or.inr (Or.inl k2)
  · exact Or.inr (Or.inr (Or.inl k2))
  · exact Or.inr (Or.inr (Or.inr ⟨m9, by omega, k5⟩))
end
end
section
set_option maxRecDepth 100000
section
variable {T : TYc} {Fv Fv' : Int64 → Int64 → Prop} {P : Int64 → Prop} {AN : Nat} {TT : TY} {CC : CY} {pM pE : Nat → Nat} {ND CN PN SN UN FN N PR p i v mu M1 M2 f U B W Y l j a n : Nat} {m w : MS} {Q : MS → Int32 → MS → Int32 → Prop} {b : Int → Nat → Nat → Prop} {ow kw ow' kd' : Nat → Nat} {nb : Nat → Nat} {Hs Os : Nat → List Nat} {y : Option (Nat × Nat × Nat)}
theorem sk_ca {W2 : Nat} (s : STx T Fv P Fv' AN TT CC pM pE ND CN PN SN UN FN N PR p i v f b U B W Y l ow kw ow' kd' j nb Hs Os y a n m w) (hT : W + tB TT n ≤ W2 + tH TT n) : CTa m w p W2 := fun c hc => by
  obtain ⟨-, -, -, -, -, ru, -, -, -, -, -, rb, rm, ⟨eW, -, -⟩, rct, -⟩ := s
  obtain ⟨y1, -⟩ := ct_mon2 ru.1.2 hc (Nat.lt_succ_self c)
  obtain ⟨W0, B0, z1, z2, -⟩ := rct c y1
  have r3 := A_r w 103 (1600 * p + c)
  obtain ⟨nn, c1, -, c3, -⟩ := ru.1.2
  exact ⟨by omega, ⟨W0, z1, by omega⟩, fun nd hnd => by omega⟩
theorem sk_28 {r k a2 : Nat} (ih : ∀ M1 v m w, SIA T Fv P Fv' AN TT CC pM pE ND CN PN SN UN FN p v m w → PP Q (qgo (SAf T Fv P p) N M1 m p (I ((v : Nat) : Int))) (gg_M_go N M2 w (I ((p : Nat) : Int)))) (ih1 : ∀ M1 v m w, SIA T Fv P Fv' AN TT CC pM pE ND CN PN SN UN FN p v m w → PP Q (qgo (SAf T Fv P p) N M1 m p (I ((v : Nat) : Int))) (gg_M_go N (M2 + 1) w (I ((p : Nat) : Int)))) (s : STx T Fv P Fv' AN TT CC pM pE ND CN PN SN UN FN N PR p i v f b U B W Y l ow kw ow' kd' j nb Hs Os none a n m w) (h23 : A w 23 n = 28) (h25 : A w 25 n = ((r : Nat) : Int)) (hr : r < 100000) (h27 : A w 27 n = ((k : Nat) : Int)) (hk : k ≤ (Os j).length) (hh : (k = (Os j).length ∧ a2 = a) ∨ (k < (Os j).length ∧ A m 23 a = 16 ∧ A m 23 (a + 1) = (((Os j).length - k : Nat) : Int) ∧ a2 = a + 2)) (c31 : A m 23 a2 = 31) (c1 : A m 23 (a2 + 1) = 1) (ha2 : a2 + 1 < 24000) (r23 : A w 23 r = 27) (r31 : A w 31 r = ((n : Nat) : Int)) (r27 : A w 27 r = ((k : Nat) : Int)) (rc : ∃ g, RCs (A m 23) (ROs w) (w.2.2.2 34) (CRs (A m 23) (ROs w) (w.2.2.2 34) g) g (a2 + 2) r (Hs j) ((Os j).take k)) : PP Q (q67 (SAf T Fv P p) N (qgo (SAf T Fv P p) N M1) m p (I ((v : Nat) : Int))) (bnd (fm_M_one N w (I ((n : Nat) : Int)) (I 28)) (fun u _ => KRs Fv' AN TT CC ND CN UN FN N p mu (M2 + 1) w u)) := by
  obtain ⟨⟨r5, r8, r2⟩, ⟨ha, hn, hv, hpp, hj⟩, nd, ⟨pl, ru, bd⟩, ⟨n1, n2, n3⟩, bH, bW, bB, bY, nND, hN⟩ := st_b s
  obtain ⟨bd1, bd2, bd3, bd4⟩ := bd
  obtain ⟨-, k1, c9, k2, k3, k4, -⟩ := n2.2.2.2.2.2.2.2.2.2.2.2.2.1 h23
  have ek : c9 = k := by omega
  subst ek
  obtain ⟨W1, rfl⟩ : ∃ W1, W = W1 + 1 := ⟨W - 1, by omega⟩
  obtain ⟨⟨-, hpr, pr24, hi, hf⟩, ⟨per, hAN⟩, ba, lp, -, -, ⟨pt, xc, h140⟩, -, -, -, wl, -⟩ := id s
  obtain ⟨-, -, ⟨h955, h956⟩, ⟨h149, h150⟩, -, -, tb, -⟩ := id ba
  obtain ⟨hcl, hc0⟩ := tb.2.2.1.1
  obtain ⟨i2, h, mm, L, g2, x2, j2, wb, nb2, cb2, rk, M⟩ := cl_any lp r5 r8
  have lb : LNB m p := GEN_ln M.1 hpr
  have cx : CTX Fv P m := (LPQ_dc lp).2
  have pb : PB (PWs AN) PR := wl.1.2.2
  have ca : CTa m w p W1 := sk_ca s (by omega)
  have hK0 : ∀ (u : MS) (Z : Option (MS × Int32)), GGw p w u → A u 98 (60 * p + j) = ((r : Nat) : Int) → A u 109 p = 0 → F u 151 = 0 → F u 133 = ((p : Nat) : Int) → A u 95 p = ((j + 1 : Nat) : Int) → F u 149 = 0 → F u 150 = 0 → A u 23 r = 27 → PP Q Z (bnd (fm_M_one N u (I ((r : Nat) : Int)) (I 27)) (fun u3 _ => KRs Fv' AN TT CC ND CN UN FN N p mu M2 w u3)) → PP Q Z (KRs Fv' AN TT CC ND CN UN FN N p mu (M2 + 1) w u) := fun u Z _ h98 h109 h151 h133 h95 h149 h150 h23 k => st_k0 s hr u Z h98 h109 h151 h133 h95 h149 h150 (by rw [h23]; exact k)
  have ke : ∀ M' vk' m3 w3 wr t3 x3, vk' ≤ v + 1 → GGm p m m3 → GGw p w w3 → (SCs p m w → SCs p m3 w3) → m3.1 (pq p 5) = w3.2.2.1 90 p → (wr = 0 ∨ wr = 1 ∨ wr = 2) → RQs Fv P Fv' (PWs AN) PR (enS m3 p t3 p i) (enR w3 p wr ((p : Nat) : Int) x3 0) p wr p x3 → PP Q (q206 (SAf T Fv P p) N (qgo (SAf T Fv P p) N M') (enS m3 p t3 p i) p (I ((vk' : Nat) : Int))) (KRs Fv' AN TT CC ND CN UN FN N p mu (M2 + 1) w (wi (enR w3 p wr ((p : Nat) : Int) x3 0) 151 1)) := fun M' vk' m3 w3 wr t3 x3 q a1 a2 a3 a4 a5 a6 => (aft_end hN per h149 ih1 ba (by omega) a1 a2 a3 a4 ⟨h955, hi⟩ (show F w 150 = ((0 : Nat) : Int) ∧ 0 < 4000 from ⟨h150, by decide⟩) a5 a6).2
  rcases hh with ⟨rfl, rfl⟩ | ⟨hk2, c16, cf, rfl⟩
  · rw [go_fl r5 r8 (by omega) r2 (by omega) c31 ⟨by omega, by omega⟩]
    rw [List.take_length] at rc
    refine awa_pp (K0 := fun u => KRs Fv' AN TT CC ND CN UN FN N p mu (M2 + 1) w u) (K2 := fun u => KRs Fv' AN TT CC ND CN UN FN N p mu M2 w u) (B0 := B) hpp hpr (PLs_94 pl (by omega)) (RUs_b ru) r2 (by omega) ⟨by omega, by omega⟩ bY (by omega) (by omega) h149 h150 hcl hc0 c1 (by omega) hr h25 h27 r23 r31 r27 nd rc bd2 ⟨bd3, bd4⟩ lb pt cx xc (Nat.le_refl _) pb ca ⟨h955, hi⟩ (by omega) hK0 (fun M' vk' m3 w3 q1 q2 a1 a2 a3 a4 a5 => st_wn ih s (by omega) a1 a2 a3 a4 a5) (fun M' vk' m3 w3 l q q1 q2 a1 a2 a3 a4 a5 => st_rv ih s (by omega) a2 a1 a3 a4 a5) (fun M' vk' m3 w3 k q1 q2 q3 a1 a2 a3 a4 a5 a6 a7 => st_ta ih s (by omega) a1 a2 (by omega) a4 a5 a6 a7) (fun b3 U3 W3 r k a0 nn m3 w3 a1 a2 a3 a4 a5 => (st_ru ih1 s a1 a2 a3 a4 a5).2) (fun m3 w3 wr t3 x3 a1 a2 a3 a4 a5 a6 => ke M1 v m3 w3 wr t3 x3 (by omega) a1 a2 a3 a4 a5 a6)
  · rw [go_vl r5 r8 (by omega) r2 (by omega) c16 ⟨by omega, by omega⟩]
    refine op_28b (K0 := fun u => KRs Fv' AN TT CC ND CN UN FN N p mu (M2 + 1) w u) (K2 := fun u => KRs Fv' AN TT CC ND CN UN FN N p mu M2 w u) hpp hpr pl ru (by omega) ⟨by omega, by omega⟩ bY (by omega) (by omega) h149 h150 hcl hc0 hk cf c31 c1 hr h25 h27 r23 r31 r27 rc (sk_105 s k3) bd2 ⟨bd3, bd4⟩ lb pt cx xc pb ca ⟨h955, hi⟩ (by omega) hK0 (fun M' vk' m3 w3 q1 q2 a1 a2 a3 a4 a5 => st_wn ih s (by omega) a1 a2 a3 a4 a5) (fun M' vk' m3 w3 l q q1 q2 a1 a2 a3 a4 a5 => st_rv ih s (by omega) a2 a1 a3 a4 a5) (fun M' vk' m3 w3 k q1 q2 q3 a1 a2 a3 a4 a5 a6 a7 => st_ta ih s (by omega) a1 a2 (by omega) a4 a5 a6 a7) (fun M' vk' b3 U3 W3 r k a0 nn m3 w3 q1 q2 a1 a2 a3 a4 a5 => ?_) (fun M' vk' m3 w3 wr t3 x3 q1 q2 a1 a2 a3 a4 a5 a6 => ke M' vk' m3 w3 wr t3 x3 (by omega) a1 a2 a3 a4 a5 a6)
    have r5 := a2.2.2.2.1
    exact (aft_gg hN per h149 ih1 ba (by omega) a3 a4 a1 a5 (Or.inl ⟨r, nb, Hs, _, none, a0, nn, a2⟩) (by omega) a2.2.2.2.2.2.1.2.1).2
end
end
section
set_option maxRecDepth 100000
section
variable {α β : Type} {b : Int → Nat → Nat → Prop} {N p l U B W Y j a n : Nat} {m w : MS} {nb : Nat → Nat} {Hs Os : Nat → List Nat} {y : Option (Nat × Nat × Nat)} {Q : MS → α → MS → β → Prop} {D : Option (MS × α)} {K : MS → Unit → Option (MS × β)} {K1 : MS → Option (MS × α)} {K2 : MS → Option (MS × β)}
theorem nil_r (hpp : p < 24) (h133 : F w 133 = ((p : Nat) : Int)) (h89 : A w 89 p = ((U : Nat) : Int)) (hU : U ≤ 500) (k : PP Q D (bnd (bnd (fm_M_put N w (mk 6 0)) (fun u1 _ => some (u1, ()))) K)) : PP Q D (bnd (fm_M_listRun N w (I 0) (I 0)) K) := by
  unfold fm_M_listRun fb_M_listRun_0
  have go : ∀ M, PP Q D (bnd ((gg_M_listRun N M).1 w (I 0) (I 0) (2 * I 0) 0) K) := by
    intro M
    cases M with
    | zero => exact pp_nr
    | succ M =>
    show PP Q D (bnd (fb_M_listRun_7 N (gg_M_listRun N M) w (I 0) (I 0) (2 * I 0) 0) K)
    unfold fb_M_listRun_7
    rw [show decide (I 0 + I 0 ≤ 0) = true from rfl, br_tq, show decide (2 * I 0 ≤ (500 : Int32)) = true from rfl, br_tq, I_F' h133, show (2 : Int32) * I 0 = I ((0 : Nat) : Int) from rfl]
    refine r_bb (r_bnd (pk_mo (wants_0 (N := N) (U := U) hpp h89 hU) (fun w3 r e => ?_)))
    obtain ⟨rfl, rfl⟩ := e
    rw [show decide ((1 : Int32) = 0) = false from rfl, br_fq, show decide (I 0 = (1 : Int32)) = false from rfl, br_fq, show fm_M_term N w3 6 0 = some (w3, mk 6 0) from rfl, bnd_so]
    unfold fb_M_listRun_89
    cases M with
    | zero => exact pp_nr
    | succ M =>
    show PP Q D (bnd (fb_M_listRun_94 N (gg_M_listRun N M) w3 (I 0) (mk 6 0) 0) K)
    unfold fb_M_listRun_94
    rw [show decide (I 0 ≤ (0 : Int32)) = true from rfl, br_tq]
    exact k
  exact go N
theorem op_nil (hp : p < 24) (pl : PLs b p m w U B W Y) (ru : RUs m w p j nb Hs Os y a n) (bd : BDr p W l m) (ha : a + 3 < 24000) (hn : n < 100000) (h25 : A w 25 n = 0) (h26 : A w 26 n = 0) (c2 : A m 23 (a + 1) = 6) (c3 : A m 23 (a + 2) = 0) (cr : ∃ f, CRs (A m 23) (ROs w) (w.2.2.2 34) f y (a + 3) (n + 1) (Hs j) (Os j))
    (c : ∀ m3 w3, PLs b p m3 w3 U B (W + 1) Y → RUs m3 w3 p j nb Hs Os y (a + 3) (n + 1) → FGm p m m3 → FGw p j w w3 → PP Q (K1 m3) (K2 w3)) : PP Q (bnd (hm_Ma_making N m p (I 1)) (fun u _ => K1 u)) (bnd (fm_M_one N w (I ((n : Nat) : Int)) (I 5)) (fun u _ => K2 u)) := by
  obtain ⟨⟨fa, ct⟩, ⟨r2, r3⟩, -, ⟨r5, r6⟩, r7, ⟨r8, r9, r10⟩, r11, r12, r13⟩ := id ru
  have hj : j < 60 := fa.1.2.2
  rw [mak1, one_5, show I ((n : Nat) : Int) + 1 = I ((n + 1 : Nat) : Int) from addN, I_F' r2, show I ((a : Nat) : Int) + 1 = I ((a + 1 : Nat) : Int) from addN, Co_e (k := a + 1) rfl (by omega), bnd_so, I_F' r2, show I ((a : Nat) : Int) + 2 = I ((a + 2 : Nat) : Int) from addN, Co_e (k := a + 2) rfl (by omega), bnd_so, c2, c3, e_make, bnd_so]
  refine rb_bnd (pk_mo (goto_r (N := N) (n := ((n + 1 : Nat) : Int)) hp r11 fa.1.2.1 hj) (fun w2 _ h => ?_))
  subst h
  refine rb_ck (fun _ => rb_ck (fun _ => ?_))
  have e25 : A (wa w 98 (60 * p + j) ((n + 1 : Nat) : Int)) 25 n = 0 := by rw [wa_rne (by omega)]; exact h25
  have e26 : A (wa w 98 (60 * p + j) ((n + 1 : Nat) : Int)) 26 n = 0 := by rw [wa_rne (by omega)]; exact h26
  rw [tnI (n := n) rfl (by omega), I_A' e25, I_A' e26]
  refine r_bb (nil_r (U := U) hp r11 (by rw [wa_rne (by omega)]; exact pl.1.1.2.1) pl.1.1.2.2 ?_)
  have pp := push_pp (N := N) (Q := Q) (K1 := K1) (K2 := K2) (t := mk 6 0) (x := mk 6 0) (a2 := a + 3) (n2 := n + 1) (dz := 3) hp ru bd (w2 := wa w 98 (60 * p + j) ((n + 1 : Nat) : Int)) (lit_b (b := b) (v := 6) (z := 0) (Or.inr (Or.inr rfl)) (fun _ => rfl) ⟨by omega, by omega⟩) FGm.rf FGw.goto (PLs_98 pl) bd.2.1 r11 (show A (wa w 98 (60 * p + j) ((n + 1 : Nat) : Int)) 98 (60 * p + j) = ((n + 1 : Nat) : Int) by rw [wa_sm (by omega) (by omega)]) r2 rfl (by omega) cr c
  simp only [bb_e, bnd_so] at pp
  simp only [bb_e, bnd_so]
  exact pp
end
section
variable {T : TYc} {Fv Fv' : Int64 → Int64 → Prop} {P : Int64 → Prop} {AN : Nat} {TT : TY} {CC : CY} {pM pE : Nat → Nat} {ND CN PN SN UN FN N PR p i v mu M1 M2 f U B W Y l j a n : Nat} {m w : MS} {Q : MS → Int32 → MS → Int32 → Prop} {b : Int → Nat → Nat → Prop} {ow kw ow' kd' : Nat → Nat} {nb : Nat → Nat} {Hs Os : Nat → List Nat} {y : Option (Nat × Nat × Nat)}
theorem sk_5n (ih : ∀ M1 v m w, SIA T Fv P Fv' AN TT CC pM pE ND CN PN SN UN FN p v m w → PP Q (qgo (SAf T Fv P p) N M1 m p (I ((v : Nat) : Int))) (gg_M_go N M2 w (I ((p : Nat) : Int)))) (s : STx T Fv P Fv' AN TT CC pM pE ND CN PN SN UN FN N PR p i v f b U B W Y l ow kw ow' kd' j nb Hs Os y a n m w) (h25 : A w 25 n = 0) (h26 : A w 26 n = 0) (c0 : A m 23 a = 1) (d1 : A m 23 (a + 1) = 6) (d2 : A m 23 (a + 2) = 0) (cr : ∃ f, CRs (A m 23) (ROs w) (w.2.2.2 34) f y (a + 3) (n + 1) (Hs j) (Os j)) : PP Q (q67 (SAf T Fv P p) N (qgo (SAf T Fv P p) N M1) m p (I ((v : Nat) : Int))) (bnd (fm_M_one N w (I ((n : Nat) : Int)) (I 5)) (fun u _ => KRs Fv' AN TT CC ND CN UN FN N p mu M2 w u)) := by
  obtain ⟨⟨r5, r8, r2⟩, ⟨ha, hn, hv, hpp, hj⟩, nd, ⟨pl, ru, bd⟩, ⟨n1, n2, n3⟩, bH, bW, bB, bY, nND, hN⟩ := st_b s
  have cb := CR_b cr.choose_spec
  rw [go_mk r5 r8 (by omega) r2 (by omega) c0 ⟨by omega, by omega⟩]
  exact op_nil (K1 := fun u => q195 (SAf T Fv P p) N (qgo (SAf T Fv P p) N M1) u p (I ((v : Nat) : Int))) (K2 := fun u => KRs Fv' AN TT CC ND CN UN FN N p mu M2 w u) hpp pl ru bd (by omega) (by omega) h25 h26 d1 d2 cr (fun m3 w3 a1 a2 a3 a4 => st_fg ih s hj a1 a2 a3 a4)
end
end
section
set_option maxRecDepth 100000
section
variable {Fv Fv' : Int64 → Int64 → Prop} {P P' : Int64 → Prop} {PR p i j0 : Nat} {m w : MS} {RR : Nat → MS → MS → Prop} {cur : Option Nat} {x1 x2 : Int}
theorem WL_945 (W0 : WLs RR PR Fv P Fv' P' cur i j0 m w) : WLs RR PR Fv P Fv' P' cur i j0 (wi m 945 x1) (wi w 121 x2) := by
  obtain ⟨⟨d, cx⟩, ⟨dw, lk, wt⟩, pb⟩ := W0.1
  have f1 : FR [945] [] [] [] m (wi m 945 x1) := FR.wi FR.rf (by simp)
  have f2 : FR [121] [] [] [] w (wi w 121 x2) := FR.wi FR.rf (by simp)
  have fc : FC 0 [945] [] [] [] [] [] [] m (wi m 945 x1) := FC.of f1 (by simp) (by simp) (by simp) (by simp)
  have d2 : DWc Fv P PR (wi m 945 x1) := DWc_gl d fc (by simp) (by simp) (fun h0 => by
    have := (d.2 0 h0).1
    unfold SMQ at this ⊢
    rw [fc.Fq (by omega) (by simp), fc.Fq (by omega) (by simp), fc.Fq (by omega) (by simp), fc.Fq (by omega) (by simp)]
    exact this) (by simp) (by rw [fc.Fg (by omega) (by simp)]; exact d.1.2.2.1) (by rw [fc.Fg (by omega) (by simp)]; exact ⟨d.1.2.2.2.1.2.1, d.1.2.2.2.1.2.2⟩) (by simp)
  have lm : ∀ d, LOCm d m (wi m 945 x1) := fun d k hk => ⟨wi_1 (fun c => pq_n (by omega) c.symm), rfl, rfl, rfl⟩
  have lw : ∀ d, LOCw d w (wi w 121 x2) := fun d => ⟨fun _ _ _ => rfl, fun _ _ => rfl, fun _ _ _ => rfl, rfl, fun _ _ _ => rfl, fun _ _ _ => rfl, fun _ _ _ => rfl, fun _ _ _ => rfl⟩
  exact WL_same W0 ⟨⟨d2, CTX_fr cx (f1.1 22 (by simp)) rfl⟩, ⟨DW_fr dw f2 (by simp) (by simp) (by simp) (by simp) (by simp) (by simp) (by simp) (by simp) (by simp) (by simp) (by simp) (by simp) (by simp) (by simp) (by simp) (by simp) (by simp), LK_fr lk f2 (by simp) (by simp), WTQ_fr wt f2 (by simp) (by simp) (by simp)⟩, pb⟩ (PGs_fr f1 f2 (by simp) (by simp) (by simp) (by simp) (by simp) (by simp)) lm lw (f1.1 955 (by simp)) rfl (f2.1 150 (by simp)) (fun _ _ => rfl) rfl
theorem BA_rf (ba : BAs Fv P Fv' P' PR p i m w) : BAs Fv P Fv' P' PR p i (wi m 945 (F m 945 + 1)) (wi w 121 (F w 121 + 1)) := by
  obtain ⟨hpp, W, ⟨h955, h956⟩, ⟨h149, h150⟩, cn, wt, tb, ⟨hal, hal'⟩, n1, n2⟩ := ba
  have m1 : ∀ k, k ≠ 945 → (wi m 945 (F m 945 + 1)).1 k = m.1 k := fun k h1 => wi_1 h1
  have w1 : ∀ k, k ≠ 121 → (wi w 121 (F w 121 + 1)).1 k = w.1 k := fun k h1 => wi_1 h1
  have mF : ∀ k, k ≠ 945 → F (wi m 945 (F m 945 + 1)) k = F m k := fun k h1 => congrArg Int32.toInt (m1 k h1)
  have wF : ∀ k, k ≠ 121 → F (wi w 121 (F w 121 + 1)) k = F w k := fun k h1 => congrArg Int32.toInt (w1 k h1)
  have W2 : WLs (RRt p) PR Fv P Fv' P' none i 0 (wi m 945 (F m 945 + 1)) (wi w 121 (F w 121 + 1)) := WL_945 W
  obtain ⟨t1, t2, ⟨t3, t4, t5⟩, t6, fa, na, t7⟩ := tb
  obtain ⟨c1, c2, c3, c4, c5, c6⟩ := cn
  have g1 : F m 945 = F w 121 := congrArg Int32.toInt t4
  refine ⟨hpp, W2, ⟨by rw [mF 955 (by omega)]; exact h955, by rw [mF 956 (by omega)]; exact h956⟩, ⟨by rw [wF 149 (by omega)]; exact h149, by rw [wF 150 (by omega)]; exact h150⟩, ⟨c1, ?_, by rw [wF 14 (by omega)]; exact c3, c4, fun t ht => by rw [wF 14 (by omega)]; exact c5 t ht, fun t ht => by rw [mF 22 (by omega)]; exact c6 t ht⟩, WTs_st wt (m1 950 (by omega)) (fun _ _ => rfl) (w1 125 (by omega)) (fun _ _ => rfl), ⟨TB_tab t1 ⟨m1 442 (by omega), m1 449 (by omega)⟩ (fun _ _ => rfl) (fun _ _ => rfl) rfl, PN_st t2 (m1 953 (by omega)) (fun _ _ => rfl) (w1 128 (by omega)) (fun _ _ => rfl), ⟨CLk_st t3 (m1 944 (by omega)) (w1 120 (by omega)), ?_, by rw [m1 946 (by omega), w1 119 (by omega)]; exact t5⟩, by rw [m1 1106 (by omega), w1 165 (by omega)]; exact t6, fa, na, ATf_k t7 (m1 22 (by omega)) rfl rfl (w1 14 (by omega)) rfl rfl⟩, ⟨?_, hal'⟩, by rw [mF 942 (by omega)]; exact n1, by rw [wF 118 (by omega)]; exact n2⟩
  · unfold ATM at c2 ⊢
    rw [wF 14 (by omega)]
    exact c2
  · rw [wi_s1, wi_s1, g1]
  · rw [mF _ (fun c => pq_n (by omega) c.symm)]
    exact hal
end
section
variable {T : TYc} {Fv Fv' : Int64 → Int64 → Prop} {P : Int64 → Prop} {AN : Nat} {TT : TY} {CC : CY} {pM pE : Nat → Nat} {ND CN PN SN UN FN N PR p i v mu M1 M2 f U B W Y l j a n : Nat} {m w : MS} {Q : MS → Int32 → MS → Int32 → Prop} {b : Int → Nat → Nat → Prop} {ow kw ow' kd' : Nat → Nat} {nb : Nat → Nat} {Hs Os : Nat → List Nat} {y : Option (Nat × Nat × Nat)}
theorem pk_ref (ih : ∀ M1 v m w, SIA T Fv P Fv' AN TT CC pM pE ND CN PN SN UN FN p v m w → PP Q (qgo (SAf T Fv P p) N M1 m p (I ((v : Nat) : Int))) (gg_M_go N M2 w (I ((p : Nat) : Int)))) (s : STx T Fv P Fv' AN TT CC pM pE ND CN PN SN UN FN N PR p i v f b U B W Y l ow kw ow' kd' j nb Hs Os y a n m w) (cr : ∃ f, CRs (A m 23) (ROs w) (w.2.2.2 34) f y (a + 2) (n + 1) (Hs j) (Os j)) : PP Q (bnd (hm_Ma_predefined N m p (I 11)) (fun u _ => q195 (SAf T Fv P p) N (qgo (SAf T Fv P p) N M1) u p (I ((v : Nat) : Int)))) (bnd (fm_M_predefinedRun N (wa w 98 (60 * p + j) ((n + 1 : Nat) : Int)) (I 12)) (fun u _ => KRs Fv' AN TT CC ND CN UN FN N p mu M2 w u)) := by
  obtain ⟨⟨r5, r8, r2⟩, ⟨ha, hn, hv, hpp, hj⟩, nd, ⟨pl, ru, bd⟩, ⟨n1, n2, n3⟩, bH, bW, bB, bY, nND, hN⟩ := st_b s
  obtain ⟨bd1, bd2, bd3, bd4⟩ := bd
  obtain ⟨⟨-, hpr, pr24, hi, hf⟩, ⟨per, hAN⟩, ba, -⟩ := id s
  have t945 := ba.2.2.2.2.2.2.1.2.2.1.2.1
  refine op_ref (K1 := fun u => q195 (SAf T Fv P p) N (qgo (SAf T Fv P p) N M1) u p (I ((v : Nat) : Int))) (K2 := fun u => KRs Fv' AN TT CC ND CN UN FN N p mu M2 w u) hpp ru t945 (by omega) bd2 ⟨bd3, bd4⟩ (PLs_98 pl) FGw.goto (by rw [wa_sm (by omega) (by omega)]) cr (fun m3 w3 a1 a2 a3 a4 a5 => ?_)
  have r9 := a2.2.2.2.1
  have sb : SCs p (wi m 945 (F m 945 + 1)) (wi w 121 (F w 121 + 1)) → SCs p m3 w3 := fun s => a5 (by
    have m1 : ∀ k, (wi m 945 (F m 945 + 1)).1 (pq p k) = m.1 (pq p k) := fun k => wi_1 (fun c => pq_n (by omega) c.symm)
    obtain ⟨s1, s2, s3, s4, s5, s6⟩ := s
    rw [m1] at s1 s2 s3 s4 s5
    refine ⟨s1, s2, s3, s4, s5, fun i hi => s6 i ?_⟩
    have e : F (wi m 945 (F m 945 + 1)) (pq p 15) = F m (pq p 15) := congrArg Int32.toInt (m1 15)
    omega)
  exact (aft_gg hN per ba.2.2.2.1.1 ih (BA_rf ba) (by omega) a3 a4 a1 sb (Or.inl ⟨j, nb, Hs, Os, y, _, _, a2⟩) (by omega) a2.2.2.2.2.2.1.2.1).1
end
end
section
set_option maxRecDepth 100000
section
variable {T : TYc} {Fv Fv' : Int64 → Int64 → Prop} {P : Int64 → Prop} {AN : Nat} {TT : TY} {CC : CY} {pM pE : Nat → Nat} {ND CN PN SN UN FN N PR p i v mu M1 M2 f U B W Y l j a n : Nat} {m w : MS} {Q : MS → Int32 → MS → Int32 → Prop} {b : Int → Nat → Nat → Prop} {ow kw ow' kd' : Nat → Nat} {nb : Nat → Nat} {Hs Os : Nat → List Nat} {y : Option (Nat × Nat × Nat)}
theorem st_kp {m3 w3 : MS} {j3 a3 n3 : Nat} {nb3 : Nat → Nat} {Hs3 Os3 : Nat → List Nat} {y3 : Option (Nat × Nat × Nat)} (ih : ∀ M1 v m w, SIA T Fv P Fv' AN TT CC pM pE ND CN PN SN UN FN p v m w → PP Q (qgo (SAf T Fv P p) N M1 m p (I ((v : Nat) : Int))) (gg_M_go N M2 w (I ((p : Nat) : Int)))) (s : STx T Fv P Fv' AN TT CC pM pE ND CN PN SN UN FN N PR p i v f b U B W Y l ow kw ow' kd' j nb Hs Os y a n m w) (e1 : ∀ k, k = 22 ∨ k = 442 ∨ k = 449 ∨ k = 942 ∨ k = 944 ∨ k = 945 ∨ k = 946 ∨ k = 956 ∨ k = 1106 → m3.1 k = m.1 k) (e2 : ∀ K, K < 49 → m3.2.2.1 K = m.2.2.1 K) (e3 : ∀ k, k = 14 ∨ k = 118 ∨ k = 119 ∨ k = 120 ∨ k = 121 ∨ k = 165 → w3.1 k = w.1 k) (e4 : ∀ K, K < 88 → w3.2.2.1 K = w.2.2.1 K) (pn : PNx m3 w3) (wt : WTs PR m3 w3) (W3 : SFs Fv P Fv' (PWs AN) PR m3 w3 → WLs (RRp p) PR Fv P Fv' (PWs AN) none i 0 m3 w3) (ru3 : RUs m3 w3 p j3 nb3 Hs3 Os3 y3 a3 n3) : PP Q (q195 (SAf T Fv P p) N (qgo (SAf T Fv P p) N M1) m3 p (I ((v : Nat) : Int))) (KRs Fv' AN TT CC ND CN UN FN N p mu M2 w w3) := by
  obtain ⟨-, -, ⟨h955, h956⟩, -, cn, -, tb, -, q942, q118⟩ := id s.2.2.1
  obtain ⟨t1, -, ⟨t3, t4, t5⟩, t6, fa, na, t7⟩ := tb
  have pg : w3.2.2.2 34 = w.2.2.2 34 → PG0 m w m3 w3 := fun h34 => ⟨⟨e2 23 (by omega), e1 22 (by omega), ATc_eq (e2 2 (by omega)) (e2 3 (by omega))⟩, fun K h => e4 K (by unfold PRr at h; omega), h34, e4 12 (by omega), e4 13 (by omega), e3 14 (by omega)⟩
  exact aft_o2 ih s (i3 := i) ((congrArg Int32.toInt (e1 942 (by omega))).trans q942) ((congrArg Int32.toInt (e3 118 (by omega))).trans q118) (Or.inl ru3.2.2.2.2.2.1.2.1) (fun s3 => WL_q (WL_t (W3 s3)) (fun _ => Or.inl ⟨j3, nb3, Hs3, Os3, y3, a3, n3, ru3⟩)) ((congrArg Int32.toInt (e1 956 (by omega))).trans h956) (fun h34 a => CN_pg cn (pg h34) a) wt (fun h34 => ⟨TB_tab t1 ⟨e1 442 (by omega), e1 449 (by omega)⟩ (fun K h => e2 K (by omega)) (fun K h => e4 K (by unfold PRr at h; omega)) h34, pn, ⟨CLk_st t3 (e1 944 (by omega)) (e3 120 (by omega)), by rw [e1 945 (by omega), e3 121 (by omega)]; exact t4, by rw [e1 946 (by omega), e3 119 (by omega)]; exact t5⟩, by rw [e1 1106 (by omega), e3 165 (by omega)]; exact t6, fa, na, ATf_k t7 (e1 22 (by omega)) (e2 2 (by omega)) (e2 3 (by omega)) (e3 14 (by omega)) (e4 12 (by omega)) (e4 13 (by omega))⟩)
theorem FGm_i {m2 : MS} {k : Nat} (f : FGm p m m2) (h : k < 2000) (h2 : k ≠ 1105) : m2.1 k = m.1 k := f.1 k (by simp; unfold pq; omega)
theorem FGm_a {m2 : MS} {K : Nat} (f : FGm p m m2) : m2.2.2.1 K = m.2.2.1 K := f.2.2.1 K (by simp)
theorem FGw_i {w2 : MS} {k jj : Nat} (f : FGw p jj w w2) (h : k < 136 ∨ 140 < k) : w2.1 k = w.1 k := f.1.1 k (by simp; omega)
theorem FGw_a {w2 : MS} {K jj : Nat} (f : FGw p jj w w2) (h : K < 89 ∨ (98 < K ∧ K < 135)) : w2.2.2.1 K = w.2.2.1 K := f.1.2.2.1 K (by simp; omega)
theorem pk_print (ih : ∀ M1 v m w, SIA T Fv P Fv' AN TT CC pM pE ND CN PN SN UN FN p v m w → PP Q (qgo (SAf T Fv P p) N M1 m p (I ((v : Nat) : Int))) (gg_M_go N M2 w (I ((p : Nat) : Int)))) (s : STx T Fv P Fv' AN TT CC pM pE ND CN PN SN UN FN N PR p i v f b U B W Y l ow kw ow' kd' j nb Hs Os y a n m w) (hb : tB TT n + 1 ≤ tH TT n) (cr : ∃ f, CRs (A m 23) (ROs w) (w.2.2.2 34) f y (a + 2) (n + 1) (Hs j) (Os j)) : PP Q (bnd (hm_Ma_predefined N m p (I 10)) (fun u _ => q195 (SAf T Fv P p) N (qgo (SAf T Fv P p) N M1) u p (I ((v : Nat) : Int)))) (bnd (fm_M_predefinedRun N (wa w 98 (60 * p + j) ((n + 1 : Nat) : Int)) (I 11)) (fun u _ => KRs Fv' AN TT CC ND CN UN FN N p mu M2 w u)) := by
  obtain ⟨⟨r5, r8, r2⟩, ⟨ha, hn, hv, hpp, hj⟩, nd, ⟨pl, ru, bd⟩, ⟨n1, n2, n3⟩, bH, bW, bB, bY, nND, hN⟩ := st_b s
  obtain ⟨bd1, bd2, bd3, bd4⟩ := bd
  obtain ⟨⟨-, hpr, pr24, hi, hf⟩, ⟨per, hAN⟩, ba, lp, -, -, ⟨pt, xc, h140⟩, -, -, sc, wl, -⟩ := id s
  obtain ⟨-, -, ⟨h955, h956⟩, -, cn, wt, tb, -, q942, q118⟩ := id ba
  obtain ⟨W1, rfl⟩ : ∃ W1, W = W1 + 1 := ⟨W - 1, by omega⟩
  exact op_print (K1 := fun u => q195 (SAf T Fv P p) N (qgo (SAf T Fv P p) N M1) u p (I ((v : Nat) : Int))) (K2 := fun u => KRs Fv' AN TT CC ND CN UN FN N p mu M2 w u) hpr wl cn tb.2.1 ru sc (by omega) bd2 ⟨bd3, bd4⟩ (PLs_98 pl) pt.1.2.2 xc.2.1 (pt.2.2.1.2 W1 (by omega)) (xc.2.2.2.2.2.2.2.1 W1 (by omega)) FGw.goto (by rw [wa_sm (by omega) (by omega)]) cr (fun mB wB m3 w3 a1 a2 a3 a4 a5 a6 a7 a8 => st_kp ih s (fun k hk => (FGm_i a7 (by omega) (by omega)).trans (a5.1 k (by simp; omega))) (fun K hK => (FGm_a a7).trans (a5.2.2.1 K (by simp; omega))) (fun k hk => (FGw_i a8 (by omega)).trans (a6.1 k (by simp; omega))) (fun K hK => (FGw_a a8 (by omega)).trans (a6.2.2.1 K (by simp; omega))) a2 (WTs_st wt ((FGm_i a7 (by omega) (by omega)).trans (a5.1 950 (by simp))) (fun k hk => (FGm_a a7).trans (a5.2.2.1 k (by simp; omega))) ((FGw_i a8 (by omega)).trans (a6.1 125 (by simp))) (fun k hk => (FGw_a a8 (by omega)).trans (a6.2.2.1 k (by simp; omega)))) a1 a4)
theorem pk_unwatch (ih : ∀ M1 v m w, SIA T Fv P Fv' AN TT CC pM pE ND CN PN SN UN FN p v m w → PP Q (qgo (SAf T Fv P p) N M1 m p (I ((v : Nat) : Int))) (gg_M_go N M2 w (I ((p : Nat) : Int)))) (s : STx T Fv P Fv' AN TT CC pM pE ND CN PN SN UN FN N PR p i v f b U B W Y l ow kw ow' kd' j nb Hs Os y a n m w) (hb : tB TT n + 1 ≤ tH TT n) (cr : ∃ f, CRs (A m 23) (ROs w) (w.2.2.2 34) f y (a + 2) (n + 1) (Hs j) (Os j)) : PP Q (bnd (hm_Ma_predefined N m p (I 5)) (fun u _ => q195 (SAf T Fv P p) N (qgo (SAf T Fv P p) N M1) u p (I ((v : Nat) : Int)))) (bnd (fm_M_predefinedRun N (wa w 98 (60 * p + j) ((n + 1 : Nat) : Int)) (I 5)) (fun u _ => KRs Fv' AN TT CC ND CN UN FN N p mu M2 w u)) := by
  obtain ⟨⟨r5, r8, r2⟩, ⟨ha, hn, hv, hpp, hj⟩, nd, ⟨pl, ru, bd⟩, ⟨n1, n2, n3⟩, bH, bW, bB, bY, nND, hN⟩ := st_b s
  obtain ⟨bd1, bd2, bd3, bd4⟩ := bd
  obtain ⟨⟨-, hpr, pr24, hi, hf⟩, ⟨per, hAN⟩, ba, lp, -, -, ⟨pt, xc, h140⟩, -, -, sc, wl, -⟩ := id s
  obtain ⟨-, -, ⟨h955, h956⟩, -, cn, wt, tb, -, q942, q118⟩ := id ba
  obtain ⟨W1, rfl⟩ : ∃ W1, W = W1 + 1 := ⟨W - 1, by omega⟩
  exact op_unwatch (K1 := fun u => q195 (SAf T Fv P p) N (qgo (SAf T Fv P p) N M1) u p (I ((v : Nat) : Int))) (K2 := fun u => KRs Fv' AN TT CC ND CN UN FN N p mu M2 w u) hpr wl wt ru sc (by omega) bd2 ⟨bd3, bd4⟩ (PLs_98 pl) FGw.goto (by rw [wa_sm (by omega) (by omega)]) cr (fun mB wB m3 w3 a1 a2 a3 a4 a5 a6 a7 a8 => st_kp ih s (fun k hk => (FGm_i a7 (by omega) (by omega)).trans (a5.1 k (by simp; omega))) (fun K hK => (FGm_a a7).trans (a5.2.2.1 K (by simp; omega))) (fun k hk => (FGw_i a8 (by omega)).trans (a6.1 k (by simp; omega))) (fun K hK => (FGw_a a8 (by omega)).trans (a6.2.2.1 K (by simp; omega))) (PN_st tb.2.1 ((FGm_i a7 (by omega) (by omega)).trans (a5.1 953 (by simp))) (fun K hK => (FGm_a a7).trans (a5.2.2.1 K (by simp; omega))) ((FGw_i a8 (by omega)).trans (a6.1 128 (by simp))) (fun K hK => (FGw_a a8 (by omega)).trans (a6.2.2.1 K (by simp; omega)))) a2 a1 a4) (fun w3 a1 a2 a3 => st_wr (c := 11) ih s (by omega) a1 (by omega) (by omega) a2 a3)
end
end
section
set_option maxRecDepth 100000
section
variable {Fv Fv' : Int64 → Int64 → Prop} {P P' : Int64 → Prop} {PR q : Nat} {z : Int} {m w : MS}
theorem SF_98 (s : SFs Fv P Fv' P' PR m w) : SFs Fv P Fv' P' PR m (wa w 98 q z) := by
  obtain ⟨dc, ⟨dw, lk, wt⟩, pb⟩ := s
  have f2 : FR [] [] [98] [] w (wa w 98 q z) := FR.wa FR.rf (by simp)
  exact ⟨dc, ⟨DW_fr dw f2 (by simp) (by simp) (by simp) (by simp) (by simp) (by simp) (by simp) (by simp) (by simp) (by simp) (by simp) (by simp) (by simp) (by simp) (by simp) (by simp) (by simp), LK_fr lk f2 (by simp) (by simp), WTQ_fr wt f2 (by simp) (by simp) (by simp)⟩, pb⟩
end
section
variable {T : TYc} {Fv Fv' : Int64 → Int64 → Prop} {P : Int64 → Prop} {AN : Nat} {TT : TY} {CC : CY} {pM pE : Nat → Nat} {ND CN PN SN UN FN N PR p i v mu M1 M2 f U B W Y l j a n : Nat} {m w : MS} {Q : MS → Int32 → MS → Int32 → Prop} {b : Int → Nat → Nat → Prop} {ow kw ow' kd' : Nat → Nat} {nb : Nat → Nat} {Hs Os : Nat → List Nat} {y : Option (Nat × Nat × Nat)}
theorem st_wo {m3 w3 : MS} {j3 a3 n3 : Nat} {nb3 : Nat → Nat} {Hs3 Os3 : Nat → List Nat} {y3 : Option (Nat × Nat × Nat)} (ih : ∀ M1 v m w, SIA T Fv P Fv' AN TT CC pM pE ND CN PN SN UN FN p v m w → PP Q (qgo (SAf T Fv P p) N M1 m p (I ((v : Nat) : Int))) (gg_M_go N M2 w (I ((p : Nat) : Int)))) (s : STx T Fv P Fv' AN TT CC pM pE ND CN PN SN UN FN N PR p i v f b U B W Y l ow kw ow' kd' j nb Hs Os y a n m w) (W3 : SFs Fv P Fv' (PWs AN) PR m3 w3 → WLs (RRp p) PR Fv P Fv' (PWs AN) none i 0 m3 w3) (ru3 : RUs m3 w3 p j3 nb3 Hs3 Os3 y3 a3 n3) (k : WOs m w m3 w3) : PP Q (q195 (SAf T Fv P p) N (qgo (SAf T Fv P p) N M1) m3 p (I ((v : Nat) : Int))) (KRs Fv' AN TT CC ND CN UN FN N p mu M2 w w3) := by
  obtain ⟨-, -, -, -, cn, wt, tb, -⟩ := id s.2.2.1
  exact st_kp ih s (fun l hl => by
    by_cases e : l = 1106
    · subst e
      exact k.2.2.2.2.2.1
    · by_cases e2 : l = 956
      · subst e2
        exact k.2.2.1.2.2
      · exact k.1.1 l (by omega)) (fun K hK => k.1.2 K (by omega)) (fun l hl => by
    by_cases e : l = 165
    · subst e
      exact k.2.2.2.2.2.2
    · exact k.2.1.1 l (by omega)) (fun K hK => k.2.1.2 K (by omega)) (PN_st tb.2.1 (k.1.1 953 (by omega)) (fun K hK => k.1.2 K (by omega)) (k.2.1.1 128 (by omega)) (fun K hK => k.2.1.2 K (by omega))) (WTs_st wt k.2.2.1.2.1 k.2.2.1.1 k.2.2.2.2.1 k.2.2.2.1) W3 ru3
theorem st_wd {m3 w3 : MS} (ih : ∀ M1 v m w, SIA T Fv P Fv' AN TT CC pM pE ND CN PN SN UN FN p v m w → PP Q (qgo (SAf T Fv P p) N M1 m p (I ((v : Nat) : Int))) (gg_M_go N M2 w (I ((p : Nat) : Int)))) (s : STx T Fv P Fv' AN TT CC pM pE ND CN PN SN UN FN N PR p i v f b U B W Y l ow kw ow' kd' j nb Hs Os y a n m w) (W3 : SFs Fv P Fv' (PWs AN) PR m3 w3 → WLs (RRt p) PR Fv P Fv' (PWs AN) none i 0 m3 w3) (h3 : F m3 (pq p 9) = 3) (a4 : WOs m w m3 w3) (h9 : F m3 1109 = 0) : PP Q (q195 (SAf T Fv P p) N (qgo (SAf T Fv P p) N M1) m3 p (I ((v : Nat) : Int))) (KRs Fv' AN TT CC ND CN UN FN N p mu M2 w w3) := by
  obtain ⟨-, -, ⟨h955, h956⟩, -, cn, wt, tb, -, q942, q118⟩ := id s.2.2.1
  exact aft_o2 ih s (i3 := i) ((congrArg Int32.toInt (a4.1.1 942 (by omega))).trans q942) ((congrArg Int32.toInt (a4.2.1.1 118 (by omega))).trans q118) (Or.inl h9) (fun s3 => WL_q (W3 s3) (fun h => absurd h3 h)) ((congrArg Int32.toInt a4.2.2.1.2.2).trans h956) (fun e a => CN_pg cn (PG_wo a4 e) a) (WTs_st wt a4.2.2.1.2.1 a4.2.2.1.1 a4.2.2.2.2.1 a4.2.2.2.1) (fun e => TB_wo tb a4 e)
theorem st_gl {q : Nat} {m3 w3 : MS} {j3 a3 n3 : Nat} {nb3 : Nat → Nat} {Hs3 Os3 : Nat → List Nat} {y3 : Option (Nat × Nat × Nat)} (ih : ∀ M1 v m w, SIA T Fv P Fv' AN TT CC pM pE ND CN PN SN UN FN p v m w → PP Q (qgo (SAf T Fv P p) N M1 m p (I ((v : Nat) : Int))) (gg_M_go N M2 w (I ((p : Nat) : Int)))) (s : STx T Fv P Fv' AN TT CC pM pE ND CN PN SN UN FN N PR p i v f b U B W Y l ow kw ow' kd' j nb Hs Os y a n m w) (W3 : SFs Fv P Fv' (PWs AN) PR m3 w3 → WLs (RRp p) PR Fv P Fv' (PWs AN) none i 0 m3 w3) (ru3 : RUs m3 w3 p j3 nb3 Hs3 Os3 y3 a3 n3) (a4 : GLm p q m m3) (a5 : GLw p q w w3) : PP Q (q195 (SAf T Fv P p) N (qgo (SAf T Fv P p) N M1) m3 p (I ((v : Nat) : Int))) (KRs Fv' AN TT CC ND CN UN FN N p mu M2 w w3) := by
  obtain ⟨-, -, -, -, cn, wt, tb, -⟩ := id s.2.2.1
  have mi := a4.2.2.2.2.2.2.2
  have ma := a4.2.2.2.2.2.2.1
  have wi := a5.2.2.2.2.2.2.2
  have wa := a5.2.2.2.2.2.2.1
  exact st_kp ih s (fun l hl => mi l (by omega)) (fun K hK => ma K (by omega)) (fun l hl => wi l (by omega)) (fun K hK => wa K (by omega)) (PN_st tb.2.1 (mi 953 (by omega)) (fun K hK => ma K (by omega)) (wi 128 (by omega)) (fun K hK => wa K (by omega))) (WTs_st wt (mi 950 (by omega)) (fun l hl => ma l (by omega)) (wi 125 (by omega)) (fun l hl => wa l (by omega))) W3 ru3
theorem pk_link (ih : ∀ M1 v m w, SIA T Fv P Fv' AN TT CC pM pE ND CN PN SN UN FN p v m w → PP Q (qgo (SAf T Fv P p) N M1 m p (I ((v : Nat) : Int))) (gg_M_go N M2 w (I ((p : Nat) : Int)))) (s : STx T Fv P Fv' AN TT CC pM pE ND CN PN SN UN FN N PR p i v f b U B W Y l ow kw ow' kd' j nb Hs Os y a n m w) (hP4 : ∀ k, k < W → so (m.2.2.2 (pq p 35) k) = 4 → 0 ≤ va (m.2.2.2 (pq p 35) k) ∧ va (m.2.2.2 (pq p 35) k) < ((PR : Nat) : Int)) (hb : tB TT n + 1 ≤ tH TT n) (cr : ∃ f, CRs (A m 23) (ROs w) (w.2.2.2 34) f y (a + 2) (n + 1) (Hs j) (Os j)) : PP Q (bnd (hm_Ma_toward N m p (I 2)) (fun u _ => q195 (SAf T Fv P p) N (qgo (SAf T Fv P p) N M1) u p (I ((v : Nat) : Int)))) (bnd (fm_M_predefinedRun N (wa w 98 (60 * p + j) ((n + 1 : Nat) : Int)) (I 2)) (fun u _ => KRs Fv' AN TT CC ND CN UN FN N p mu M2 w u)) := by
  obtain ⟨⟨r5, r8, r2⟩, ⟨ha, hn, hv, hpp, hj⟩, nd, ⟨pl, ru, bd⟩, ⟨n1, n2, n3⟩, bH, bW, bB, bY, nND, hN⟩ := st_b s
  obtain ⟨bd1, bd2, bd3, bd4⟩ := bd
  obtain ⟨⟨-, hpr, pr24, hi, hf⟩, ⟨per, hAN⟩, ba, lp, -, -, ⟨pt, xc, h140⟩, -, -, sc, wl, -⟩ := id s
  obtain ⟨-, -, ⟨h955, h956⟩, -, cn, wt, tb, -, q942, q118⟩ := id ba
  obtain ⟨W1, rfl⟩ : ∃ W1, W = W1 + 1 := ⟨W - 1, by omega⟩
  have h98 : A (wa w 98 (60 * p + j) ((n + 1 : Nat) : Int)) 98 (60 * p + j) = ((n + 1 : Nat) : Int) := by rw [wa_sm (by omega) (by omega)]
  refine tow_hd2 (K1 := fun u => q195 (SAf T Fv P p) N (qgo (SAf T Fv P p) N M1) u p (I ((v : Nat) : Int))) (K2 := fun u => KRs Fv' AN TT CC ND CN UN FN N p mu M2 w u) (Or.inl ⟨rfl, rfl⟩) hpp wl.1.1.1 (hP4 W1 (by omega)) (w1 := (wa w 98 (60 * p + j) ((n + 1 : Nat) : Int))) ru.2.2.2.2.2.2.1 (by omega) bd2 ⟨bd3, bd4⟩ (PLs_98 pl) (fun q hq e4 => ?_) ?_
  · by_cases dead : F m (pq q 9) = 3
    · exact op_linkE (K1 := fun u => q195 (SAf T Fv P p) N (qgo (SAf T Fv P p) N M1) u p (I ((v : Nat) : Int))) (K2 := fun u => KRs Fv' AN TT CC ND CN UN FN N p mu M2 w u) hpr hq dead wl ru sc (by omega) bd2 ⟨bd3, bd4⟩ (PLs_98 pl) e4 FGw.goto h98 (SF_98 wl.1) cr (by omega) (fun b3 U3 Y3 m3 w3 a1 a2 a3 a4 => st_wo ih s a1 a3 a4) (fun m3 w3 a1 a2 a3 a4 a5 => st_wd ih s a1 a2 a4 a5.1)
    · exact op_link (K1 := fun u => q195 (SAf T Fv P p) N (qgo (SAf T Fv P p) N M1) u p (I ((v : Nat) : Int))) (K2 := fun u => KRs Fv' AN TT CC ND CN UN FN N p mu M2 w u) hpr hq dead wl ru sc (by omega) bd2 ⟨bd3, bd4⟩ (PLs_98 pl) FGw.goto h98 cr (fun m3 w3 a1 a2 a3 a4 a5 => st_gl ih s a1 a3 a4 a5)
  · exact st_wr (c := 11) ih s (by omega) (by rw [wi_id pl.2.2.1.1]; exact PLs_98 pl) (by omega) (by omega) FGw.goto ⟨rfl, rfl⟩
theorem pk_unlink (ih : ∀ M1 v m w, SIA T Fv P Fv' AN TT CC pM pE ND CN PN SN UN FN p v m w → PP Q (qgo (SAf T Fv P p) N M1 m p (I ((v : Nat) : Int))) (gg_M_go N M2 w (I ((p : Nat) : Int)))) (s : STx T Fv P Fv' AN TT CC pM pE ND CN PN SN UN FN N PR p i v f b U B W Y l ow kw ow' kd' j nb Hs Os y a n m w) (hP4 : ∀ k, k < W → so (m.2.2.2 (pq p 35) k) = 4 → 0 ≤ va (m.2.2.2 (pq p 35) k) ∧ va (m.2.2.2 (pq p 35) k) < ((PR : Nat) : Int)) (hb : tB TT n + 1 ≤ tH TT n) (cr : ∃ f, CRs (A m 23) (ROs w) (w.2.2.2 34) f y (a + 2) (n + 1) (Hs j) (Os j)) : PP Q (bnd (hm_Ma_toward N m p (I 3)) (fun u _ => q195 (SAf T Fv P p) N (qgo (SAf T Fv P p) N M1) u p (I ((v : Nat) : Int)))) (bnd (fm_M_predefinedRun N (wa w 98 (60 * p + j) ((n + 1 : Nat) : Int)) (I 3)) (fun u _ => KRs Fv' AN TT CC ND CN UN FN N p mu M2 w u)) := by
  obtain ⟨⟨r5, r8, r2⟩, ⟨ha, hn, hv, hpp, hj⟩, nd, ⟨pl, ru, bd⟩, ⟨n1, n2, n3⟩, bH, bW, bB, bY, nND, hN⟩ := st_b s
  obtain ⟨bd1, bd2, bd3, bd4⟩ := bd
  obtain ⟨⟨-, hpr, pr24, hi, hf⟩, ⟨per, hAN⟩, ba, lp, -, -, ⟨pt, xc, h140⟩, -, -, sc, wl, -⟩ := id s
  obtain ⟨-, -, ⟨h955, h956⟩, -, cn, wt, tb, -, q942, q118⟩ := id ba
  obtain ⟨W1, rfl⟩ : ∃ W1, W = W1 + 1 := ⟨W - 1, by omega⟩
  have h98 : A (wa w 98 (60 * p + j) ((n + 1 : Nat) : Int)) 98 (60 * p + j) = ((n + 1 : Nat) : Int) := by rw [wa_sm (by omega) (by omega)]
  refine tow_hd2 (K1 := fun u => q195 (SAf T Fv P p) N (qgo (SAf T Fv P p) N M1) u p (I ((v : Nat) : Int))) (K2 := fun u => KRs Fv' AN TT CC ND CN UN FN N p mu M2 w u) (Or.inr (Or.inl ⟨rfl, rfl⟩)) hpp wl.1.1.1 (hP4 W1 (by omega)) (w1 := (wa w 98 (60 * p + j) ((n + 1 : Nat) : Int))) ru.2.2.2.2.2.2.1 (by omega) bd2 ⟨bd3, bd4⟩ (PLs_98 pl) (fun q hq e4 => ?_) ?_
  · exact op_unlink (K1 := fun u => q195 (SAf T Fv P p) N (qgo (SAf T Fv P p) N M1) u p (I ((v : Nat) : Int))) (K2 := fun u => KRs Fv' AN TT CC ND CN UN FN N p mu M2 w u) hpr hq wl ru sc (by omega) bd2 ⟨bd3, bd4⟩ (PLs_98 pl) FGw.goto h98 cr (fun m3 w3 a1 a2 a3 a4 a5 => st_gl ih s a1 a3 a4 a5)
  · exact st_wr (c := 11) ih s (by omega) (by rw [wi_id pl.2.2.1.1]; exact PLs_98 pl) (by omega) (by omega) FGw.goto ⟨rfl, rfl⟩
end
end
section
set_option maxRecDepth 100000
section
variable {T : TYc} {Fv Fv' : Int64 → Int64 → Prop} {P : Int64 → Prop} {AN : Nat} {TT : TY} {CC : CY} {pM pE : Nat → Nat} {ND CN PN SN UN FN N PR p i v mu M1 M2 f U B W Y l j a n : Nat} {m w : MS} {Q : MS → Int32 → MS → Int32 → Prop} {b : Int → Nat → Nat → Prop} {ow kw ow' kd' : Nat → Nat} {nb : Nat → Nat} {Hs Os : Nat → List Nat} {y : Option (Nat × Nat × Nat)}
theorem st_k2 {m3 w3 : MS} {i3 : Nat} (ih : ∀ M1 v m w, SIA T Fv P Fv' AN TT CC pM pE ND CN PN SN UN FN p v m w → PP Q (qgo (SAf T Fv P p) N M1 m p (I ((v : Nat) : Int))) (gg_M_go N M2 w (I ((p : Nat) : Int)))) (s : STx T Fv P Fv' AN TT CC pM pE ND CN PN SN UN FN N PR p i v f b U B W Y l ow kw ow' kd' j nb Hs Os y a n m w) (e1 : ∀ k, k = 22 ∨ k = 442 ∨ k = 449 ∨ k = 942 ∨ k = 944 ∨ k = 946 ∨ k = 1106 → m3.1 k = m.1 k) (e2 : ∀ K, K < 49 → m3.2.2.1 K = m.2.2.1 K) (e3 : ∀ k, k = 14 ∨ k = 118 ∨ k = 119 ∨ k = 120 ∨ k = 165 → w3.1 k = w.1 k) (e4 : ∀ K, K < 88 → w3.2.2.1 K = w.2.2.1 K) (t45 : m3.1 945 = w3.1 121) (pn : PNx m3 w3) (wt : WTs PR m3 w3) (h956 : F m3 956 = ((i3 : Nat) : Int)) (h9 : F m3 1109 = 0) (W3 : SFs Fv P Fv' (PWs AN) PR m3 w3 → WLs (RRx p (SPs p)) PR Fv P Fv' (PWs AN) none i3 0 m3 w3) : PP Q (q195 (SAf T Fv P p) N (qgo (SAf T Fv P p) N M1) m3 p (I ((v : Nat) : Int))) (KRs Fv' AN TT CC ND CN UN FN N p mu M2 w w3) := by
  obtain ⟨-, -, -, -, cn, -, tb, -, q942, q118⟩ := id s.2.2.1
  obtain ⟨t1, -, ⟨t3, t4, t5⟩, t6, fa, na, t7⟩ := tb
  have pg : w3.2.2.2 34 = w.2.2.2 34 → PG0 m w m3 w3 := fun h34 => ⟨⟨e2 23 (by omega), e1 22 (by omega), ATc_eq (e2 2 (by omega)) (e2 3 (by omega))⟩, fun K h => e4 K (by unfold PRr at h; omega), h34, e4 12 (by omega), e4 13 (by omega), e3 14 (by omega)⟩
  exact aft_o2 ih s (i3 := i3) ((congrArg Int32.toInt (e1 942 (by omega))).trans q942) ((congrArg Int32.toInt (e3 118 (by omega))).trans q118) (Or.inl h9) W3 h956 (fun h34 a => CN_pg cn (pg h34) a) wt (fun h34 => ⟨TB_tab t1 ⟨e1 442 (by omega), e1 449 (by omega)⟩ (fun K h => e2 K (by omega)) (fun K h => e4 K (by unfold PRr at h; omega)) h34, pn, ⟨CLk_st t3 (e1 944 (by omega)) (e3 120 (by omega)), t45, by rw [e1 946 (by omega), e3 119 (by omega)]; exact t5⟩, by rw [e1 1106 (by omega), e3 165 (by omega)]; exact t6, fa, na, ATf_k t7 (e1 22 (by omega)) (e2 2 (by omega)) (e2 3 (by omega)) (e3 14 (by omega)) (e4 12 (by omega)) (e4 13 (by omega))⟩)
theorem pk_alive (ih : ∀ M1 v m w, SIA T Fv P Fv' AN TT CC pM pE ND CN PN SN UN FN p v m w → PP Q (qgo (SAf T Fv P p) N M1 m p (I ((v : Nat) : Int))) (gg_M_go N M2 w (I ((p : Nat) : Int)))) (s : STx T Fv P Fv' AN TT CC pM pE ND CN PN SN UN FN N PR p i v f b U B W Y l ow kw ow' kd' j nb Hs Os y a n m w) (hP4 : ∀ k, k < W → so (m.2.2.2 (pq p 35) k) = 4 → 0 ≤ va (m.2.2.2 (pq p 35) k) ∧ va (m.2.2.2 (pq p 35) k) < ((PR : Nat) : Int)) (hb : tB TT n + 1 ≤ tH TT n) (cr : ∃ f, CRs (A m 23) (ROs w) (w.2.2.2 34) f y (a + 2) (n + 1) (Hs j) (Os j)) : PP Q (bnd (hm_Ma_toward N m p (I 15)) (fun u _ => q195 (SAf T Fv P p) N (qgo (SAf T Fv P p) N M1) u p (I ((v : Nat) : Int)))) (bnd (fm_M_predefinedRun N (wa w 98 (60 * p + j) ((n + 1 : Nat) : Int)) (I 16)) (fun u _ => KRs Fv' AN TT CC ND CN UN FN N p mu M2 w u)) := by
  obtain ⟨⟨r5, r8, r2⟩, ⟨ha, hn, hv, hpp, hj⟩, nd, ⟨pl, ru, bd⟩, ⟨n1, n2, n3⟩, bH, bW, bB, bY, nND, hN⟩ := st_b s
  obtain ⟨bd1, bd2, bd3, bd4⟩ := bd
  obtain ⟨⟨-, hpr, pr24, hi, hf⟩, ⟨per, hAN⟩, ba, lp, -, -, ⟨pt, xc, h140⟩, -, -, sc, wl, -⟩ := id s
  obtain ⟨-, -, ⟨h955, h956⟩, -, cn, wt, tb, -, q942, q118⟩ := id ba
  obtain ⟨W1, rfl⟩ : ∃ W1, W = W1 + 1 := ⟨W - 1, by omega⟩
  have h98 : A (wa w 98 (60 * p + j) ((n + 1 : Nat) : Int)) 98 (60 * p + j) = ((n + 1 : Nat) : Int) := by rw [wa_sm (by omega) (by omega)]
  refine tow_hd2 (K1 := fun u => q195 (SAf T Fv P p) N (qgo (SAf T Fv P p) N M1) u p (I ((v : Nat) : Int))) (K2 := fun u => KRs Fv' AN TT CC ND CN UN FN N p mu M2 w u) (Or.inr (Or.inr ⟨rfl, rfl⟩)) hpp wl.1.1.1 (hP4 W1 (by omega)) (w1 := (wa w 98 (60 * p + j) ((n + 1 : Nat) : Int))) ru.2.2.2.2.2.2.1 (by omega) bd2 ⟨bd3, bd4⟩ (PLs_98 pl) (fun q hq e4 => ?_) ?_
  · exact op_alive (K1 := fun u => q195 (SAf T Fv P p) N (qgo (SAf T Fv P p) N M1) u p (I ((v : Nat) : Int))) (K2 := fun u => KRs Fv' AN TT CC ND CN UN FN N p mu M2 w u) hpp hq (NDs_of wl) ru (by omega) bd2 ⟨bd3, bd4⟩ (PLs_98 pl) FGw.goto h98 cr (fun m3 w3 a1 a2 a3 a4 => st_fg ih s hj a1 a2 a3 a4)
  · exact st_wr (c := 11) ih s (by omega) (by rw [wi_id pl.2.2.1.1]; exact PLs_98 pl) (by omega) (by omega) FGw.goto ⟨rfl, rfl⟩
end
end
section
set_option maxRecDepth 100000
section
variable {T : TYc} {Fv Fv' : Int64 → Int64 → Prop} {P : Int64 → Prop} {AN : Nat} {TT : TY} {CC : CY} {pM pE : Nat → Nat} {ND CN PN SN UN FN N PR p i v mu M1 M2 f U B W Y l j a n : Nat} {m w : MS} {Q : MS → Int32 → MS → Int32 → Prop} {b : Int → Nat → Nat → Prop} {ow kw ow' kd' : Nat → Nat} {nb : Nat → Nat} {Hs Os : Nat → List Nat} {y : Option (Nat × Nat × Nat)}
theorem st_wr2 {m3 w3 : MS} (ih : ∀ M1 v m w, SIA T Fv P Fv' AN TT CC pM pE ND CN PN SN UN FN p v m w → PP Q (qgo (SAf T Fv P p) N M1 m p (I ((v : Nat) : Int))) (gg_M_go N M2 w (I ((p : Nat) : Int)))) (s : STx T Fv P Fv' AN TT CC pM pE ND CN PN SN UN FN N PR p i v f b U B W Y l ow kw ow' kd' j nb Hs Os y a n m w) (k : WOs (wi m 945 (F m 945 + 1)) (wi w 121 (F m 945 + 1)) m3 w3) (h9 : F m3 1109 = 0) (W3 : SFs Fv P Fv' (PWs AN) PR m3 w3 → WLs (RRx p (SPs p)) PR Fv P Fv' (PWs AN) none i 0 m3 w3) : PP Q (q195 (SAf T Fv P p) N (qgo (SAf T Fv P p) N M1) m3 p (I ((v : Nat) : Int))) (KRs Fv' AN TT CC ND CN UN FN N p mu M2 w w3) := by
  obtain ⟨-, -, ⟨h955, h956⟩, -, cn, wt, tb, -⟩ := id s.2.2.1
  have m1 : ∀ l, l ≠ 945 → (wi m 945 (F m 945 + 1)).1 l = m.1 l := fun l h => wi_1 h
  have w1 : ∀ l, l ≠ 121 → (wi w 121 (F m 945 + 1)).1 l = w.1 l := fun l h => wi_1 h
  exact st_k2 ih s (i3 := i) (fun l hl => by
    by_cases e : l = 1106
    · subst e
      exact k.2.2.2.2.2.1.trans (m1 _ (by omega))
    · exact (k.1.1 l (by omega)).trans (m1 l (by omega))) (fun K hK => k.1.2 K (by omega)) (fun l hl => by
    by_cases e : l = 165
    · subst e
      exact k.2.2.2.2.2.2.trans (w1 _ (by omega))
    · exact (k.2.1.1 l (by omega)).trans (w1 l (by omega))) (fun K hK => k.2.1.2 K (by omega)) (((k.1.1 945 (by omega)).trans wi_s1).trans ((k.2.1.1 121 (by omega)).trans wi_s1).symm) (PN_st tb.2.1 ((k.1.1 953 (by omega)).trans (m1 953 (by omega))) (fun K hK => k.1.2 K (by omega)) ((k.2.1.1 128 (by omega)).trans (w1 128 (by omega))) (fun K hK => k.2.1.2 K (by omega))) (WTs_st wt (k.2.2.1.2.1.trans (m1 950 (by omega))) k.2.2.1.1 (k.2.2.2.2.1.trans (w1 125 (by omega))) k.2.2.2.1) ((congrArg Int32.toInt (k.2.2.1.2.2.trans (m1 956 (by omega)))).trans h956) h9 W3
theorem pk_watch (ih : ∀ M1 v m w, SIA T Fv P Fv' AN TT CC pM pE ND CN PN SN UN FN p v m w → PP Q (qgo (SAf T Fv P p) N M1 m p (I ((v : Nat) : Int))) (gg_M_go N M2 w (I ((p : Nat) : Int)))) (s : STx T Fv P Fv' AN TT CC pM pE ND CN PN SN UN FN N PR p i v f b U B W Y l ow kw ow' kd' j nb Hs Os y a n m w) (hP4 : ∀ k, k < W → so (m.2.2.2 (pq p 35) k) = 4 → 0 ≤ va (m.2.2.2 (pq p 35) k) ∧ va (m.2.2.2 (pq p 35) k) < ((PR : Nat) : Int)) (hb : tB TT n + 1 ≤ tH TT n) (cr : ∃ f, CRs (A m 23) (ROs w) (w.2.2.2 34) f y (a + 2) (n + 1) (Hs j) (Os j)) : PP Q (bnd (hm_Ma_toward N m p (I 4)) (fun u _ => q195 (SAf T Fv P p) N (qgo (SAf T Fv P p) N M1) u p (I ((v : Nat) : Int)))) (bnd (fm_M_predefinedRun N (wa w 98 (60 * p + j) ((n + 1 : Nat) : Int)) (I 4)) (fun u _ => KRs Fv' AN TT CC ND CN UN FN N p mu M2 w u)) := by
  obtain ⟨⟨r5, r8, r2⟩, ⟨ha, hn, hv, hpp, hj⟩, nd, ⟨pl, ru, bd⟩, ⟨n1, n2, n3⟩, bH, bW, bB, bY, nND, hN⟩ := st_b s
  obtain ⟨bd1, bd2, bd3, bd4⟩ := bd
  obtain ⟨⟨-, hpr, pr24, hi, hf⟩, ⟨per, hAN⟩, ba, lp, -, -, ⟨pt, xc, h140⟩, -, -, sc, wl, -⟩ := id s
  obtain ⟨-, -, ⟨h955, h956⟩, -, cn, wt, tb, -, q942, q118⟩ := id ba
  obtain ⟨W1, rfl⟩ : ∃ W1, W = W1 + 1 := ⟨W - 1, by omega⟩
  have h98 : A (wa w 98 (60 * p + j) ((n + 1 : Nat) : Int)) 98 (60 * p + j) = ((n + 1 : Nat) : Int) := by rw [wa_sm (by omega) (by omega)]
  have t945 := tb.2.2.1.2.1
  have h950 : F m 950 = F w 125 ∧ 0 ≤ F m 950 ∧ F m 950 ≤ 200 := by
    obtain ⟨L, ws1, ws2, -⟩ := wt
    have y1 := ws1.1
    have y2 := ws2.1
    have y3 := ws1.2.1
    omega
  refine tow_hd4 (K1 := fun u => q195 (SAf T Fv P p) N (qgo (SAf T Fv P p) N M1) u p (I ((v : Nat) : Int))) (K2 := fun u => KRs Fv' AN TT CC ND CN UN FN N p mu M2 w u) hpp wl.1.1.1 (hP4 W1 (by omega)) (w1 := (wa w 98 (60 * p + j) ((n + 1 : Nat) : Int))) ru.2.2.2.2.2.2.1 h950 (by omega) bd2 ⟨bd3, bd4⟩ (PLs_98 pl) (fun q hq e4 h200 => ?_) ?_
  · by_cases dead : F m (pq q 9) = 3
    · exact op_watchE (K1 := fun u => q195 (SAf T Fv P p) N (qgo (SAf T Fv P p) N M1) u p (I ((v : Nat) : Int))) (K2 := fun u => KRs Fv' AN TT CC ND CN UN FN N p mu M2 w u) hpr hq dead wl t945 ru sc (by omega) bd2 ⟨bd3, bd4⟩ (PLs_98 pl) e4 FGw.goto h98 (SF_98 wl.1) cr (by omega) (fun b3 U3 Y3 m3 w3 a1 a2 a3 a4 => st_wr2 ih s a4 a3.2.2.2.2.2.1.2.1 (fun s3 => WL_q (WL_t (a1 s3)) (fun _ => Or.inl ⟨j, nb, Hs, Os, y, _, _, a3⟩))) (fun m3 w3 a1 a2 a3 a4 a5 => st_wr2 ih s a4 a5.1 (fun s3 => WL_q (a1 s3) (fun h => absurd a2 h)))
    · refine op_watch (K1 := fun u => q195 (SAf T Fv P p) N (qgo (SAf T Fv P p) N M1) u p (I ((v : Nat) : Int))) (K2 := fun u => KRs Fv' AN TT CC ND CN UN FN N p mu M2 w u) hpr hq dead wl wt h200 t945 ru sc (by omega) bd2 ⟨bd3, bd4⟩ (PLs_98 pl) FGw.goto h98 cr (fun mB wB m3 w3 a1 a2 a3 a4 a5 a6 a7 a8 => ?_)
      have m1 : ∀ l, l < 2000 → l ≠ 945 → l ≠ 950 → l ≠ 1105 → m3.1 l = m.1 l := fun l h1 h2 h3 h4 => (FGm_i a7 h1 h4).trans ((a5.1 l (by simp; omega)).trans (wi_1 h2))
      have w1 : ∀ l, l ≠ 121 → l ≠ 125 → (l < 136 ∨ 140 < l) → w3.1 l = w.1 l := fun l h1 h2 h3 => (FGw_i a8 h3).trans ((a6.1 l (by simp; omega)).trans (wi_1 h1))
      have mA : ∀ K, K < 49 ∨ 51 < K → m3.2.2.1 K = m.2.2.1 K := fun K hK => (FGm_a a7).trans (a5.2.2.1 K (by simp; omega))
      have wA : ∀ K, K < 88 ∨ (124 < K ∧ K < 135) → w3.2.2.1 K = w.2.2.1 K := fun K hK => (FGw_a a8 (by omega)).trans (a6.2.2.1 K (by simp; omega))
      exact st_k2 ih s (i3 := i) (fun l hl => m1 l (by omega) (by omega) (by omega) (by omega)) (fun K hK => mA K (by omega)) (fun l hl => w1 l (by omega) (by omega) (by omega)) (fun K hK => wA K (by omega)) (((FGm_i a7 (by omega) (by omega)).trans ((a5.1 945 (by simp)).trans wi_s1)).trans ((FGw_i a8 (by omega)).trans ((a6.1 121 (by simp)).trans wi_s1)).symm) (PN_st tb.2.1 (m1 953 (by omega) (by omega) (by omega) (by omega)) (fun K hK => mA K (by omega)) (w1 128 (by omega) (by omega) (by omega)) (fun K hK => wA K (by omega))) a2 ((congrArg Int32.toInt (m1 956 (by omega) (by omega) (by omega) (by omega))).trans h956) a4.2.2.2.2.2.1.2.1 (fun s3 => WL_q (WL_t (a1 s3)) (fun _ => Or.inl ⟨j, nb, Hs, Os, y, _, _, a4⟩))
  · exact st_wr (c := 11) ih s (by omega) (by rw [wi_id pl.2.2.1.1]; exact PLs_98 pl) (by omega) (by omega) FGw.goto ⟨rfl, rfl⟩
end
end
section
set_option maxRecDepth 100000
section
variable {T : TYc} {Fv Fv' : Int64 → Int64 → Prop} {P : Int64 → Prop} {AN : Nat} {TT : TY} {CC : CY} {pM pE : Nat → Nat} {ND CN PN SN UN FN N PR p i v mu M1 M2 f U B W Y l j a n : Nat} {m w : MS} {Q : MS → Int32 → MS → Int32 → Prop} {b : Int → Nat → Nat → Prop} {ow kw ow' kd' : Nat → Nat} {nb : Nat → Nat} {Hs Os : Nat → List Nat} {y : Option (Nat × Nat × Nat)}
theorem st_nm {q : Nat} {z : Int} {m3 w3 : MS} {b3 : Int → Nat → Nat → Prop} {U3 B3 W3 Y3 j3 a3 n3 : Nat} {nb3 : Nat → Nat} {Hs3 Os3 : Nat → List Nat} {y3 : Option (Nat × Nat × Nat)} (ih : ∀ M1 v m w, SIA T Fv P Fv' AN TT CC pM pE ND CN PN SN UN FN p v m w → PP Q (qgo (SAf T Fv P p) N M1 m p (I ((v : Nat) : Int))) (gg_M_go N M2 w (I ((p : Nat) : Int)))) (s : STx T Fv P Fv' AN TT CC pM pE ND CN PN SN UN FN N PR p i v f b U B W Y l ow kw ow' kd' j nb Hs Os y a n m w) (hq : q < PR) (alq : F m (pq q 9) ≠ 3) (pl3 : PLs b3 p m3 w3 U3 B3 W3 Y3) (ru3 : RUs m3 w3 p j3 nb3 Hs3 Os3 y3 a3 n3) (fm : FGm p (wi m (pq q 12) z) m3) (fw : FGw p j (wa w 113 q z) w3) : PP Q (q195 (SAf T Fv P p) N (qgo (SAf T Fv P p) N M1) m3 p (I ((v : Nat) : Int))) (KRs Fv' AN TT CC ND CN UN FN N p mu M2 w w3) := by
  obtain ⟨⟨r5, r8, r2⟩, ⟨ha, hn, hv, hpp, hj⟩, nd, ⟨pl, ru, bd⟩, ⟨n1, n2, n3⟩, bH, bW, bB, bY, nND, hN⟩ := st_b s
  obtain ⟨bd1, bd2, bd3, bd4⟩ := bd
  obtain ⟨⟨-, hpr, pr24, hi, hf⟩, ⟨per, hAN⟩, ba, lp, -, -, ⟨pt, xc, h140⟩, -, -, sc, wl, -⟩ := id s
  obtain ⟨-, -, ⟨h955, h956⟩, -, cn, wt, tb, -, q942, q118⟩ := id ba
  have alw : A w 109 q ≠ 3 := by
    rcases wl.2.2.1 q hq with ⟨-, x, -⟩ | ⟨x, -⟩
    · exact x
    · exact absurd x alq
  have r6 := ru.2.2.2.1.2
  have m1 : ∀ l, l < 2000 → l ≠ 1105 → m3.1 l = m.1 l := fun l h1 h2 => (FGm_i fm h1 h2).trans (wi_1 (pq_n h1))
  have w1 : ∀ l, (l < 136 ∨ 140 < l) → w3.1 l = w.1 l := fun l h => (FGw_i (w := wa w 113 q z) fw h).trans rfl
  have mA : ∀ K, m3.2.2.1 K = m.2.2.1 K := fun K => (FGm_a (m := wi m (pq q 12) z) fm).trans rfl
  have wA : ∀ K, K < 89 ∨ (113 < K ∧ K < 135) → w3.2.2.1 K = w.2.2.1 K := fun K hK => (FGw_a fw (by omega)).trans (wa_21 (by omega))
  have h9 : F (wi m (pq q 12) z) (pq p 9) ≠ 3 := by
    rw [wi_ne (fun c => by have := (pq_e (by omega) (by omega) c).2; omega)]
    omega
  have h109 : A (wa w 113 q z) 109 p ≠ 3 := by
    rw [wa_rne (by omega)]
    omega
  have r9 := ru3.2.2.2.1
  have t945 := tb.2.2.1.2.1
  exact st_k2 ih s (i3 := i) (fun l hl => m1 l (by omega) (by omega)) (fun K hK => mA K) (fun l hl => w1 l (by omega)) (fun K hK => wA K (by omega)) (by rw [m1 945 (by omega) (by omega), w1 121 (by omega)]; exact t945) (PN_st tb.2.1 (m1 953 (by omega) (by omega)) (fun K hK => mA K) (w1 128 (by omega)) (fun K hK => wA K (by omega))) (WTs_st wt (m1 950 (by omega) (by omega)) (fun l hl => mA l) (w1 125 (by omega)) (fun l hl => wA l (by omega))) ((congrArg Int32.toInt (m1 956 (by omega) (by omega))).trans h956) ru3.2.2.2.2.2.1.2.1 (fun s3 => WL_q (WL_ownt (WL_t (WL_nm wl alq alw)) hpr h9 h109 s3 (GGm_fg fm) (GGw_fg fw hj) pl3 (SC_fg (SCs_nm sc) fm fw) (by omega)) (fun _ => Or.inl ⟨j3, nb3, Hs3, Os3, y3, _, _, ru3⟩))
theorem pk_named {d : Int} (ih : ∀ M1 v m w, SIA T Fv P Fv' AN TT CC pM pE ND CN PN SN UN FN p v m w → PP Q (qgo (SAf T Fv P p) N M1 m p (I ((v : Nat) : Int))) (gg_M_go N M2 w (I ((p : Nat) : Int)))) (s : STx T Fv P Fv' AN TT CC pM pE ND CN PN SN UN FN N PR p i v f b U B W Y l ow kw ow' kd' j nb Hs Os y a n m w) (hd : d = 13 ∨ d = 14) (hb : tB TT n + 1 ≤ tH TT n) (cr : ∃ f, CRs (A m 23) (ROs w) (w.2.2.2 34) f y (a + 2) (n + 1) (Hs j) (Os j)) : PP Q (bnd (hm_Ma_predefined N m p (I d)) (fun u _ => q195 (SAf T Fv P p) N (qgo (SAf T Fv P p) N M1) u p (I ((v : Nat) : Int)))) (bnd (fm_M_predefinedRun N (wa w 98 (60 * p + j) ((n + 1 : Nat) : Int)) (I (d + 1))) (fun u _ => KRs Fv' AN TT CC ND CN UN FN N p mu M2 w u)) := by
  obtain ⟨⟨r5, r8, r2⟩, ⟨ha, hn, hv, hpp, hj⟩, nd, ⟨pl, ru, bd⟩, ⟨n1, n2, n3⟩, bH, bW, bB, bY, nND, hN⟩ := st_b s
  obtain ⟨bd1, bd2, bd3, bd4⟩ := bd
  obtain ⟨⟨-, hpr, pr24, hi, hf⟩, ⟨per, hAN⟩, ba, lp, -, -, ⟨pt, xc, h140⟩, -, -, sc, wl, -⟩ := id s
  obtain ⟨-, -, ⟨h955, h956⟩, -, cn, wt, tb, -, q942, q118⟩ := id ba
  obtain ⟨W1, rfl⟩ : ∃ W1, W = W1 + 1 := ⟨W - 1, by omega⟩
  have h98 : A (wa w 98 (60 * p + j) ((n + 1 : Nat) : Int)) 98 (60 * p + j) = ((n + 1 : Nat) : Int) := by rw [wa_sm (by omega) (by omega)]
  exact op_named (K1 := fun u => q195 (SAf T Fv P p) N (qgo (SAf T Fv P p) N M1) u p (I ((v : Nat) : Int))) (K2 := fun u => KRs Fv' AN TT CC ND CN UN FN N p mu M2 w u) hd hpp (NDs_of wl) ru (by omega) bd2 ⟨bd3, bd4⟩ (PLs_98 pl) FGw.goto h98 cr (fun m3 w3 a1 a2 a3 a4 => st_fg ih s hj a1 a2 a3 a4) (fun q m3 w3 hq alq a1 a2 a3 a4 => st_nm ih s hq alq a1 a2 a3 a4) (fun w3 a1 a2 a3 => st_wr (c := 11) ih s (by omega) a1 (by omega) (by omega) a2 a3)
theorem pk_name2 (ih : ∀ M1 v m w, SIA T Fv P Fv' AN TT CC pM pE ND CN PN SN UN FN p v m w → PP Q (qgo (SAf T Fv P p) N M1 m p (I ((v : Nat) : Int))) (gg_M_go N M2 w (I ((p : Nat) : Int)))) (s : STx T Fv P Fv' AN TT CC pM pE ND CN PN SN UN FN N PR p i v f b U B W Y l ow kw ow' kd' j nb Hs Os y a n m w) (hP4 : ∀ k, k < W → so (m.2.2.2 (pq p 35) k) = 4 → 0 ≤ va (m.2.2.2 (pq p 35) k) ∧ va (m.2.2.2 (pq p 35) k) < ((PR : Nat) : Int)) (hb : tB TT n + 2 ≤ tH TT n) (cr : ∃ f, CRs (A m 23) (ROs w) (w.2.2.2 34) f y (a + 2) (n + 1) (Hs j) (Os j)) : PP Q (bnd (hm_Ma_predefined N m p (I 12)) (fun u _ => q195 (SAf T Fv P p) N (qgo (SAf T Fv P p) N M1) u p (I ((v : Nat) : Int)))) (bnd (fm_M_predefinedRun N (wa w 98 (60 * p + j) ((n + 1 : Nat) : Int)) (I 13)) (fun u _ => KRs Fv' AN TT CC ND CN UN FN N p mu M2 w u)) := by
  obtain ⟨⟨r5, r8, r2⟩, ⟨ha, hn, hv, hpp, hj⟩, nd, ⟨pl, ru, bd⟩, ⟨n1, n2, n3⟩, bH, bW, bB, bY, nND, hN⟩ := st_b s
  obtain ⟨bd1, bd2, bd3, bd4⟩ := bd
  obtain ⟨⟨-, hpr, pr24, hi, hf⟩, ⟨per, hAN⟩, ba, lp, -, -, ⟨pt, xc, h140⟩, -, -, sc, wl, -⟩ := id s
  obtain ⟨-, -, ⟨h955, h956⟩, -, cn, wt, tb, -, q942, q118⟩ := id ba
  obtain ⟨W1, rfl⟩ : ∃ W1, W = W1 + 2 := ⟨W - 2, by omega⟩
  have h98 : A (wa w 98 (60 * p + j) ((n + 1 : Nat) : Int)) 98 (60 * p + j) = ((n + 1 : Nat) : Int) := by rw [wa_sm (by omega) (by omega)]
  exact op_name2 (K1 := fun u => q195 (SAf T Fv P p) N (qgo (SAf T Fv P p) N M1) u p (I ((v : Nat) : Int))) (K2 := fun u => KRs Fv' AN TT CC ND CN UN FN N p mu M2 w u) hpp (NDs_of wl) wl.1.1.1 (hP4 (W1 + 1) (by omega)) ru (by omega) bd2 ⟨bd3, bd4⟩ (PLs_98 pl) FGw.goto h98 cr (fun q z m3 w3 hq alq _ a1 a2 a3 a4 => st_nm ih s hq alq a1 a2 a3 a4) (fun w3 a1 a2 a3 => st_wr (c := 11) ih s (by omega) a1 (by omega) (by omega) a2 a3)
end
end
section
set_option maxRecDepth 100000
section
variable {T : TYc} {Fv Fv' : Int64 → Int64 → Prop} {P : Int64 → Prop} {AN : Nat} {TT : TY} {CC : CY} {pM pE : Nat → Nat} {ND CN PN SN UN FN N PR p i v mu M1 M2 f U B W Y l j a n : Nat} {m w : MS} {Q : MS → Int32 → MS → Int32 → Prop} {b : Int → Nat → Nat → Prop} {ow kw ow' kd' : Nat → Nat} {nb : Nat → Nat} {Hs Os : Nat → List Nat} {y : Option (Nat × Nat × Nat)}
theorem RUb_166 (ru : RUb m w p j nb Hs Os none) : RUb m (wi w 166 1) p j nb Hs Os none := by
  obtain ⟨⟨fa, ct⟩, ⟨r5, r6⟩, r7, ⟨r8, r9, r10⟩, r11, r12, r13⟩ := ru
  have h12 : F m 1112 = 0 ∧ F w 152 = 0 := by
    rcases r7 with ⟨_, c3, c4⟩ | ⟨_, _, _, c, _⟩
    · exact ⟨c3, c4⟩
    · cases c
  exact ⟨⟨fa, ct⟩, ⟨r5, r6⟩, Or.inl ⟨rfl, h12.1, (wi_ne (by omega)).trans h12.2⟩, ⟨r8, r9, (wi_ne (by omega)).trans r10⟩, (wi_ne (by omega)).trans r11, r12.trans (wi_1 (by omega)).symm, r13.trans (wi_1 (by omega)).symm⟩
theorem st_ef {d : Nat} {ar : Int} {t x : Int64} (ih : ∀ M1 v m w, SIA T Fv P Fv' AN TT CC pM pE ND CN PN SN UN FN p v m w → PP Q (qgo (SAf T Fv P p) N M1 m p (I ((v : Nat) : Int))) (gg_M_go N M2 w (I ((p : Nat) : Int)))) (s : STx T Fv P Fv' AN TT CC pM pE ND CN PN SN UN FN N PR p i v f b U B W Y l ow kw ow' kd' j nb Hs Os none a n m w) (har : 0 ≤ ar ∧ ar < 22) (g : GT U ow kw P t) (g' : GT U ow' kd' (PWs AN) x) (rt : RTb (bGd b U ow' kd') t x) : PP Q (q195 (SAf T Fv P p) N (qgo (SAf T Fv P p) N M1) (tld m 1 ar t) p (I ((v : Nat) : Int))) (bnd ((rc_M_error N d).2.1 (wi w 166 1) (I ar) x) (fun u _ => KRs Fv' AN TT CC ND CN UN FN N p mu M2 w u)) := by
  refine q195_s (fun hs => ?_)
  obtain ⟨lb, cx⟩ := SA_er (Or.inl rfl) hs
  obtain ⟨⟨hN, hpr, pr24, hi, hf⟩, ⟨per, hAN⟩, ba, lp, pl, ru, ⟨pt, xc, h140⟩, ⟨bW, bB, bY⟩, bd, sc, wl, rb, rm, ⟨eW, eB, nND⟩, rct, -⟩ := id s
  obtain ⟨⟨fa, ct⟩, -⟩ := id ru
  have h149 : F w 149 = 0 := ba.2.2.2.1.1
  have h150 : F w 150 = 0 := ba.2.2.2.1.2
  have gw3 : GGw p w (wi w 166 1) := GGw_reg (by omega) (by omega)
  have sc3 : SCs p m w → SCs p m (wi w 166 1) := fun s => s
  have pb : PB (PWs AN) PR := wl.1.2.2
  have w150 : F (wi w 166 1) 150 = ((0 : Nat) : Int) := (wi_ne (by omega)).trans h150
  have hP : ∀ t, P t → PWs AN t := by
    obtain ⟨-, -, -, -, fa', na, atf⟩ := ba.2.2.2.2.2.2.1
    exact PT_pw (LPQ_dc lp).2 atf hAN
  have pl3 : PLs (bGd b U ow' kd') p m (wi w 166 1) U B W Y := pl
  have hp3 : HP (hp (wi w 166 1) p) U ow' kd' Fv' (PWs AN) := xc.2.1
  have xc3 := CXf_cx (CXf_of hP pl3 pt hp3 (by omega) ⟨by omega, by omega, bY⟩) ((wi_ne (by omega)).trans h140)
  have nw := (per.1.2.2.1 n nND).1.2.2.2.1
  have ca : CTa m (wi w 166 1) p W := fun c hc => by
    obtain ⟨y1, -⟩ := ct_mon2 ct hc (Nat.lt_succ_self c)
    obtain ⟨W0, B0, z1, z2, -⟩ := rct c y1
    have r3 := A_r (wi w 166 1) 103 (1600 * p + c)
    obtain ⟨nn, c1, -, c3, -⟩ := ct
    exact ⟨by omega, ⟨W0, z1, by omega⟩, fun nd hnd => by omega⟩
  exact errOf_pp (by omega) hpr pl3 (RUb_166 (RUs_b ru)) ⟨by omega, by omega⟩ lb pt cx xc3 pb g g' rt ca har ⟨ba.2.2.1.1, hi⟩ ⟨w150, by omega⟩ (by omega) (fun b3 U3 W3 r k a0 nn m4 w4 a1 a2 a3 a4 a5 => by
      have r5 := a2.2.2.2.1
      exact (aft_gg hN per h149 ih ba (by omega) a3 (GGw.tr gw3 a4) a1 (fun s => a5 (sc3 s)) (Or.inl ⟨r, nb, Hs, _, none, a0, nn, a2⟩) (by omega) a2.2.2.2.2.2.1.2.1).2) (fun m4 w4 wr t3 x3 a1 a2 a3 a4 a5 a6 => (aft_end hN per h149 ih ba (by omega) a1 (GGw.tr gw3 a2) (fun s => a3 (sc3 s)) a4 ⟨ba.2.2.1.1, hi⟩ (show F w 150 = ((0 : Nat) : Int) ∧ 0 < 4000 from ⟨h150, by decide⟩) a5 a6).2)
theorem ZR_c {C : Nat → Int} {R : Nat → Nat → Int} {J : Nat → Int64} {S : Option (Nat × Nat × Nat) → Nat → Nat → List Nat → List Nat → Prop} {kd sc g e c : Nat} {H O : List Nat} (z : ZRs C R J S kd sc H O g e ((c : Nat) : Int)) : c < 100000 := by
  cases g with
  | zero => exact z.elim
  | succ g =>
    rcases z.2 with ⟨h, -⟩ | ⟨k0, ⟨h, h2⟩, -⟩
    · omega
    · omega
theorem ap_le {ar : Nat} {D : MS} {Sf : MS → Int32 → Prop} {G : MS → Nat → Int32 → Option (MS × Int32)} (r5 : F m (pq p 9) = 0) (r8 : F m 1108 = 0) (hv : v < 1000000000) (r2 : F m 1105 = ((a : Nat) : Int)) (ha : a + 2 < 24000) (c0 : A m 23 a = 27 ∨ A m 23 a = 28) (c1 : A m 23 (a + 1) = ((ar : Nat) : Int)) (h : ∀ z : Int32, hm_Ma_apply N m p (I ((ar : Nat) : Int)) z = some (D, ())) : q67 Sf N G m p (I ((v : Nat) : Int)) = q195 Sf N G D p (I ((v : Nat) : Int)) := by
  rcases c0 with c0 | c0
  · rw [go_fl r5 r8 hv r2 (by omega) c0 ⟨by omega, by omega⟩, apl_27, I_F' r2, show I ((a : Nat) : Int) + 1 = I ((a + 1 : Nat) : Int) from addN, Co_e (k := a + 1) rfl (by omega), bnd_so, c1, h, bnd_so, bnd_so]
  · rw [go_fl r5 r8 hv r2 (by omega) c0 ⟨by omega, by omega⟩, apl_28, I_F' r2, show I ((a : Nat) : Int) + 1 = I ((a + 1 : Nat) : Int) from addN, Co_e (k := a + 1) rfl (by omega), bnd_so, c1, h, bnd_so, bnd_so]
theorem sk_13 (ih : ∀ M1 v m w, SIA T Fv P Fv' AN TT CC pM pE ND CN PN SN UN FN p v m w → PP Q (qgo (SAf T Fv P p) N M1 m p (I ((v : Nat) : Int))) (gg_M_go N M2 w (I ((p : Nat) : Int)))) (s : STx T Fv P Fv' AN TT CC pM pE ND CN PN SN UN FN N PR p i v f b U B W Y l ow kw ow' kd' j nb Hs Os none a n m w) (h23 : A w 23 n = 13) (c1 : A m 23 (a + 1) = A w 26 n) (c3 : ∃ t : Nat, A w 24 n = ((t : Nat) : Int) ∧ A m 23 (a + 2) = A w 8 t) (hh : (A w 30 n = 1 ∧ A m 23 a = 28 ∧ a + 2 < 24000) ∨ (A w 30 n = 0 ∧ A m 23 a = 27 ∧ ∃ f, CRs (A m 23) (ROs w) (w.2.2.2 34) f none (a + 3) (n + 1) (Hs j) (Os j))) : PP Q (q67 (SAf T Fv P p) N (qgo (SAf T Fv P p) N M1) m p (I ((v : Nat) : Int))) (bnd (fm_M_one N w (I ((n : Nat) : Int)) (I 13)) (fun u _ => KRs Fv' AN TT CC ND CN UN FN N p mu M2 w u)) := by
  obtain ⟨⟨r5, r8, r2⟩, ⟨ha, hn, hv, hpp, hj⟩, nd, ⟨pl, ru, bd⟩, ⟨n1, n2, n3⟩, bH, bW, bB, bY, nND, hN⟩ := st_b s
  obtain ⟨-, ⟨ar, h26, har6, hb, -⟩, hk⟩ := n2.2.1 h23
  rw [h26] at c1
  obtain ⟨P0, rfl⟩ : ∃ P0, W = P0 + 1 + ar := ⟨W - 1 - ar, by omega⟩
  obtain ⟨i2, h, mm, L0, g2, x2, j2, wb, nb2, cb2, rk, M⟩ := cl_any s.2.2.2.1 r5 r8
  obtain ⟨⟨-, hpr, pr24, hi, hf⟩, ⟨per, hAN⟩, ba, lp, -, -, ⟨pt, xc, h140⟩, -, -, -, wl, rb, rm, ⟨eW2, eB2, -⟩, -, -, -, ⟨r100, -⟩, -⟩ := id s
  obtain ⟨bd1, bd2, bd3, bd4⟩ := bd
  obtain ⟨t0, t1, t2⟩ := c3
  have ht0 : t0 < 100000 := by
    have := n1.2.2.2.2.2.2.2.2.2.2.2.2.2.2
    omega
  have ha2 : a + 2 < 24000 := by
    rcases hh with ⟨-, -, c⟩ | ⟨-, -, f3, c⟩
    · exact c
    · have := CR_b c
      omega
  have c0 : A m 23 a = 27 ∨ A m 23 a = 28 := by
    rcases hh with ⟨-, c, -⟩ | ⟨-, c, -⟩
    · exact Or.inr c
    · exact Or.inl c
  have r11 : F w 133 = ((p : Nat) : Int) := ru.2.2.2.2.2.2.1
  have cx : CTX Fv P m := (LPQ_dc lp).2
  have pb : PB (PWs AN) PR := wl.1.2.2
  have e22 := cx.2.2.2.1
  have h955 := ba.2.2.1.1
  have h150 := ba.2.2.2.1.2
  obtain ⟨ft, far, fus⟩ := ba.2.2.2.2.2.2.1.1
  have g7 := M.1.2.2.2.2.2.2.2
  have wft := M.1.2.2.1
  obtain ⟨⟨q0, q1⟩, q2, ⟨q3, q4⟩, q5, -, q6⟩ := M.1.2.2.2.1
  have lb : LNB m p := GEN_ln M.1 hpr
  obtain ⟨⟨l3, k1, k2, k3⟩, -, -⟩ := pt.2.2.2.2
  have h42 : ((B : Nat) : Int) ≤ F m (pq p 43) ∧ ((B : Nat) : Int) ≤ F m (pq p 42) := by
    obtain ⟨-, ⟨bb, -, y1, y2⟩, -⟩ := lb
    omega
  have nbj : nb j ≤ B := by
    have h1 := pl.2.1.1
    have h2 := ru.1.1.2.2.2
    omega
  have rt := pl.2.2.1.2.2 P0 (by omega)
  have g := pt.2.2.1.2 P0 (by omega)
  have g' := xc.2.2.2.2.2.2.2.1 P0 (by omega)
  have kT : A w 30 n = 1 → ∀ nC c : Nat, F m (pq p 28) = ((nC : Nat) : Int) → c < nC → A w 102 (1600 * p + c) < ((j : Nat) : Int) := fun h30 => sk_102 s (hk (by omega))
  have U5 := pl.1.1.2.2
  generalize ht : m.2.2.2 (pq p 35) P0 = t at rt g
  generalize hx : w.2.2.2 91 (46000 * p + P0) = x at rt g'
  have li : ∀ x : Int, RG x → GT U ow kw P (mk 0 x) ∧ GT U ow' kd' (PWs AN) (mk 0 x) ∧ RTb (bGd b U ow' kd') (mk 0 x) (mk 0 x) := fun x hx => by
    have s0 : so (mk 0 x) = 0 := so_mk (by omega) (by omega)
    have nH : ¬ isH (mk 0 x) := by unfold isH; omega
    exact ⟨Or.inl ⟨nH, (cx.2.2.2.2.1 x hx).1⟩, Or.inl ⟨nH, Or.inl s0⟩, Or.inl ⟨nH, rfl, fun c => by omega⟩⟩
  have e18 : (∀ (D : Option (MS × Int32)) (K : MS → Unit → Option (MS × Int32)), PP Q D (bnd (bnd (fr_M_errorOf N (wi w 166 1) 18 (mk 0 ((ar : Nat) : Int))) (fun u18 _ => some (u18, ()))) K) → PP Q D (bnd (fm_M_callRun N w (I ((n : Nat) : Int)) (I 13)) K)) → (∀ z : Int32, hm_Ma_apply N m p (I ((ar : Nat) : Int)) z = bnd (hm_Ma_tell N m p 1 18 (mk 0 ((ar : Nat) : Int))) (fun u31 _ => some (u31, ()))) → PP Q (q67 (SAf T Fv P p) N (qgo (SAf T Fv P p) N M1) m p (I ((v : Nat) : Int))) (bnd (fm_M_one N w (I ((n : Nat) : Int)) (I 13)) (fun u _ => KRs Fv' AN TT CC ND CN UN FN N p mu M2 w u)) := fun hr hl => by
    obtain ⟨l1, l2, l3⟩ := li ((ar : Nat) : Int) ⟨by omega, by omega⟩
    rw [ap_le (D := tld m 1 18 (mk 0 ((ar : Nat) : Int))) r5 r8 (by omega) r2 ha2 c0 c1 (fun z => (hl z).trans rfl), one_13]
    refine r_bb ?_
    refine hr _ _ ?_
    refine r_bb ?_
    exact st_ef (d := 20) (ar := 18) ih s ⟨by omega, by omega⟩ l1 l2 l3
  by_cases s3 : so t = 3
  · obtain ⟨L, ⟨sx, hvt, hU, hvx, hU'⟩, hL, hL', plr, ⟨fv, fv'⟩, hcs⟩ := TP_fun pl.1.2.1 pt.1.2.2 xc.2.1 ⟨rt, g, g'⟩ s3
    rcases plr with ⟨uu, u1, u2, u3⟩ | ⟨ff, u1, u2, u3⟩
    · obtain ⟨h449, eL⟩ : ((uu : Nat) : Int) < F m 449 ∧ va (m.2.2.2 (pq p 2) (vn t + 1)) = A m 23 (A m 32 uu).toNat := by
        rcases q6 _ _ fv with ⟨pl2, y1, y2, y3⟩ | ⟨f2, y1, y2, y3⟩
        · have e : pl2 = uu := by omega
          subst e
          exact ⟨y2, y3⟩
        · omega
      obtain ⟨hu4, ar', e, ad, L2, c, H, f30, f31, f32, fL, had, hH, nm, ndH, h53, hc, h41, h54, zr⟩ := fus uu h449
      have eL2 : L2 = L := by
        rw [f32, Int.toNat_natCast, fL] at eL
        omega
      subst eL2
      have hL40 : L2 ≤ 40 := by
        obtain ⟨a5, e5, p5, k5, -, -, y3, y4, -, y6, -⟩ := q5 uu h449
        have := (wft _ _ _ _ _ _ y6).2.1.2.1
        have e1 : ad = p5 := by omega
        subst e1
        omega
      have tk := takes_u (N := N) h449 hu4
      rw [f30] at tk
      by_cases har : ar' = ar
      · subst har
        have kd : ∀ (D : Option (MS × Int32)) (K : MS → Unit → Option (MS × Int32)), PP Q D (bnd (fb_M_callRun_213 N () (wi w 166 1) (I ((n : Nat) : Int)) (I ((ar' : Nat) : Int)) (-1) (I ((uu : Nat) : Int))) K) → PP Q D (bnd (fm_M_callRun N w (I ((n : Nat) : Int)) (I 13)) K) := fun D K h => call_13u (P0 := P0) (c := c) hpp (by omega) h26 r11 pl.2.2.1.2.1 (by omega) hx sx hvx (by omega) u3 (by omega) h53 hc h41 h
        by_cases hge : F m 1107 ≤ F m 1106
        · have heq : m.1 1106 = m.1 1107 := Int32.toInt_inj.mp (by
            show F m 1106 = F m 1107
            omega)
          have wdc : ∃ wd : Int, (wd = 27 ∨ wd = 28) ∧ A m 23 a = wd := by
            rcases c0 with c0 | c0
            · exact ⟨27, Or.inl rfl, c0⟩
            · exact ⟨28, Or.inr rfl, c0⟩
          obtain ⟨wd, hwd, c00⟩ := wdc
          rw [go_fl r5 r8 (by omega) r2 (by omega) c00 ⟨by omega, by omega⟩]
          exact op_applyS (K1 := fun u => q195 (SAf T Fv P p) N (qgo (SAf T Fv P p) N M1) u p (I ((v : Nat) : Int))) (K2 := fun u => KRs Fv' AN TT CC ND CN UN FN N p mu M2 w u) (P0 := P0) hpp ru hge heq ha2 hwd c1 pl.2.2.1.1 bd2 ⟨bd3, bd4⟩ ht s3 hvt (by omega) u2 tk t1 ht0 t2 kd (st_li ih s)
        · rcases hh with ⟨h30, c00, -⟩ | ⟨h30, c00, cr⟩
          · rw [go_fl r5 r8 (by omega) r2 (by omega) c00 ⟨by omega, by omega⟩]
            exact op_applyTN (K1 := fun u => q195 (SAf T Fv P p) N (qgo (SAf T Fv P p) N M1) u p (I ((v : Nat) : Int))) (K2 := fun u => KRs Fv' AN TT CC ND CN UN FN N p mu M2 w u) hpp pl ru (by omega) (P0 := rb) (by omega) r100 (kT h30) (by omega) (by omega) ha2 bd2 ⟨bd3, bd4⟩ ⟨by omega, by omega⟩ c1 h26 h30 ht hx s3 sx hvt hvx (by omega) (by omega) u2 u3 hL' hcs h449 hu4 f30 f31 f32 fL had hH nm ndH h53 hc h41 zr (fun m4 w4 b1 b2 b3 b4 b5 b6 => st_ca ih s b1 b2 (by omega) b3 b4 b5 b6)
          · rw [go_fl r5 r8 (by omega) r2 (by omega) c00 ⟨by omega, by omega⟩]
            have ha3 : a + 3 < 24000 := by
              obtain ⟨f3, c⟩ := cr
              have := CR_b c
              omega
            by_cases hj1 : j + 1 < 60
            · exact op_applyN (K1 := fun u => q195 (SAf T Fv P p) N (qgo (SAf T Fv P p) N M1) u p (I ((v : Nat) : Int))) (K2 := fun u => KRs Fv' AN TT CC ND CN UN FN N p mu M2 w u) hpp pl ru (by omega) (by omega) hj1 (by omega) ha3 bd2 ⟨bd3, bd4⟩ h42 c1 h26 h30 ht hx s3 sx hvt (by omega) hvx (by omega) u2 u3 hL' hcs h449 hu4 f30 f31 f32 fL had hH nm ndH h53 hc h41 cr zr (fun m4 w4 b1 b2 b3 b4 b5 b6 => st_ca ih s b1 b2 (by omega) b3 b4 b5 b6)
            · have ej : j = 59 := by omega
              subst ej
              exact op_applyE (K1 := fun u => q195 (SAf T Fv P p) N (qgo (SAf T Fv P p) N M1) u p (I ((v : Nat) : Int))) (K2 := fun u => KRs Fv' AN TT CC ND CN UN FN N p mu M2 w u) hpp hpr pl ru (by omega) ha2 c1 bd2 ⟨bd3, bd4⟩ ht s3 hvt (by omega) u2 tk h30 ⟨h955, hi⟩ (show F w 150 = ((0 : Nat) : Int) ∧ 0 < 4000 from ⟨h150, by decide⟩) (cx.2.2.2.2.2.1 21 (by omega) (by omega)) (pb.1 21 (by omega) (by omega)) kd (fun w3 a1 a2 a3 a4 => (aft_end hN per ba.2.2.2.1.1 ih ba (by omega) GGm.rf a1 a2 a3 ⟨h955, hi⟩ (show F w 150 = ((0 : Nat) : Int) ∧ 0 < 4000 from ⟨h150, by decide⟩) (Or.inl rfl) a4).1)
      · have ra := A_r m 30 uu
        exact e18 (fun D K h => call_13a (P0 := P0) (c := c) (na := ((ar' : Nat) : Int)) hpp (by omega) h26 r11 pl.2.2.1.2.1 (by omega) hx sx hvx (by omega) u3 (by omega) h53 hc h41 (by omega) h) (fun z => apl_a (P0 := P0) pl.2.2.1.1 bd2 ⟨bd3, bd4⟩ ht s3 hvt (by omega) u2 tk ⟨by omega, by omega⟩ (by omega))
    · obtain ⟨h442, eL⟩ : ((ff : Nat) : Int) < F m 442 ∧ va (m.2.2.2 (pq p 2) (vn t + 1)) = 0 := by
        rcases q6 _ _ fv with ⟨pl2, y1, y2, y3⟩ | ⟨f2, y1, y2, y3⟩
        · omega
        · have e : f2 = ff := by omega
          subst e
          exact ⟨y2, y3⟩
      obtain ⟨hu6, e, c, f29, h50, zr⟩ := ft ff h442
      have hc : c < 100000 := by
        obtain ⟨_, _, z⟩ := zr
        exact ZR_c z
      have e48 := far ff h442
      obtain ⟨ar', e5, f25, -⟩ := q2 ff h442
      have h48 : A w 48 ff = ((ar' : Nat) : Int) := by omega
      have tk := takes_f (N := N) h442 hu6
      rw [f25] at tk
      by_cases har : ar' = ar
      · subst har
        have kd : ∀ (D : Option (MS × Int32)) (K : MS → Unit → Option (MS × Int32)), PP Q D (bnd (fb_M_callRun_213 N () (wi w 166 1) (I ((n : Nat) : Int)) (I ((ar' : Nat) : Int)) (I ((ff : Nat) : Int)) (-1)) K) → PP Q D (bnd (fm_M_callRun N w (I ((n : Nat) : Int)) (I 13)) K) := fun D K h => call_13f (P0 := P0) hpp (by omega) h26 r11 pl.2.2.1.2.1 (by omega) hx sx hvx (by omega) u3 (by omega) h48 h
        by_cases hge : F m 1107 ≤ F m 1106
        · have heq : m.1 1106 = m.1 1107 := Int32.toInt_inj.mp (by
            show F m 1106 = F m 1107
            omega)
          have wdc : ∃ wd : Int, (wd = 27 ∨ wd = 28) ∧ A m 23 a = wd := by
            rcases c0 with c0 | c0
            · exact ⟨27, Or.inl rfl, c0⟩
            · exact ⟨28, Or.inr rfl, c0⟩
          obtain ⟨wd, hwd, c00⟩ := wdc
          rw [go_fl r5 r8 (by omega) r2 (by omega) c00 ⟨by omega, by omega⟩]
          exact op_applyS (K1 := fun u => q195 (SAf T Fv P p) N (qgo (SAf T Fv P p) N M1) u p (I ((v : Nat) : Int))) (K2 := fun u => KRs Fv' AN TT CC ND CN UN FN N p mu M2 w u) (P0 := P0) hpp ru hge heq ha2 hwd c1 pl.2.2.1.1 bd2 ⟨bd3, bd4⟩ ht s3 hvt (by omega) u2 tk t1 ht0 t2 kd (st_li ih s)
        · rcases hh with ⟨h30, c00, -⟩ | ⟨h30, c00, cr⟩
          · rw [go_fl r5 r8 (by omega) r2 (by omega) c00 ⟨by omega, by omega⟩]
            exact op_applyTF (K1 := fun u => q195 (SAf T Fv P p) N (qgo (SAf T Fv P p) N M1) u p (I ((v : Nat) : Int))) (K2 := fun u => KRs Fv' AN TT CC ND CN UN FN N p mu M2 w u) hpp pl ru (by omega) (P0 := rb) (by omega) r100 (kT h30) (by omega) (by omega) ha2 bd2 ⟨bd3, bd4⟩ c1 h26 h30 ht hx s3 sx hvt hvx (by omega) (by omega) u2 u3 h442 hu6 q4 f25 f29 h50 hc h48 zr (fun m4 w4 b1 b2 b3 b4 b5 b6 => st_ca ih s b1 b2 (by omega) b3 b4 b5 b6)
          · rw [go_fl r5 r8 (by omega) r2 (by omega) c00 ⟨by omega, by omega⟩]
            have ha3 : a + 3 < 24000 := by
              obtain ⟨f3, c⟩ := cr
              have := CR_b c
              omega
            by_cases hj1 : j + 1 < 60
            · exact op_applyF (K1 := fun u => q195 (SAf T Fv P p) N (qgo (SAf T Fv P p) N M1) u p (I ((v : Nat) : Int))) (K2 := fun u => KRs Fv' AN TT CC ND CN UN FN N p mu M2 w u) hpp pl ru (by omega) (by omega) hj1 (by omega) ha3 bd2 ⟨bd3, bd4⟩ c1 h26 h30 ht hx s3 sx hvt (by omega) hvx (by omega) u2 u3 h442 hu6 q4 f25 f29 h50 hc h48 cr zr (fun m4 w4 b1 b2 b3 b4 b5 b6 => st_ca ih s b1 b2 (by omega) b3 b4 b5 b6)
            · have ej : j = 59 := by omega
              subst ej
              exact op_applyE (K1 := fun u => q195 (SAf T Fv P p) N (qgo (SAf T Fv P p) N M1) u p (I ((v : Nat) : Int))) (K2 := fun u => KRs Fv' AN TT CC ND CN UN FN N p mu M2 w u) hpp hpr pl ru (by omega) ha2 c1 bd2 ⟨bd3, bd4⟩ ht s3 hvt (by omega) u2 tk h30 ⟨h955, hi⟩ (show F w 150 = ((0 : Nat) : Int) ∧ 0 < 4000 from ⟨h150, by decide⟩) (cx.2.2.2.2.2.1 21 (by omega) (by omega)) (pb.1 21 (by omega) (by omega)) kd (fun w3 a1 a2 a3 a4 => (aft_end hN per ba.2.2.2.1.1 ih ba (by omega) GGm.rf a1 a2 a3 ⟨h955, hi⟩ (show F w 150 = ((0 : Nat) : Int) ∧ 0 < 4000 from ⟨h150, by decide⟩) (Or.inl rfl) a4).1)
      · have ra := A_r m 25 ff
        exact e18 (fun D K h => call_13b (P0 := P0) (na := ((ar' : Nat) : Int)) hpp (by omega) h26 r11 pl.2.2.1.2.1 (by omega) hx sx hvx (by omega) u3 (by omega) h48 (by omega) h) (fun z => apl_a (P0 := P0) pl.2.2.1.1 bd2 ⟨bd3, bd4⟩ ht s3 hvt (by omega) u2 tk ⟨by omega, by omega⟩ (by omega))
  · have sx : so x ≠ 3 := by
      rw [RTb_so rt]
      exact s3
    rw [ap_le (D := tld m 1 17 t) r5 r8 (by omega) r2 ha2 c0 c1 (fun z => (apl_e (P0 := P0) pl.2.2.1.1 bd2 ⟨bd3, bd4⟩ ht s3).trans rfl), one_13]
    refine r_bb ?_
    refine call_13x (P0 := P0) hpp (by omega) h26 r11 pl.2.2.1.2.1 (by omega) hx sx ?_
    refine r_bb ?_
    exact st_ef (d := 20) (ar := 17) ih s ⟨by omega, by omega⟩ g g' rt
end
end
section
set_option maxRecDepth 100000
section
variable {T : TYc} {Fv Fv' : Int64 → Int64 → Prop} {P : Int64 → Prop} {AN : Nat} {TT : TY} {CC : CY} {pM pE : Nat → Nat} {ND CN PN SN UN FN N PR p i v mu M1 M2 f U B W Y l j a n : Nat} {m w : MS} {Q : MS → Int32 → MS → Int32 → Prop} {b : Int → Nat → Nat → Prop} {ow kw ow' kd' : Nat → Nat} {nb : Nat → Nat} {Hs Os : Nat → List Nat} {y : Option (Nat × Nat × Nat)}
theorem st_k3 {m3 w3 : MS} {i3 PR3 : Nat} (ih : ∀ M1 v m w, SIA T Fv P Fv' AN TT CC pM pE ND CN PN SN UN FN p v m w → PP Q (qgo (SAf T Fv P p) N M1 m p (I ((v : Nat) : Int))) (gg_M_go N M2 w (I ((p : Nat) : Int)))) (s : STx T Fv P Fv' AN TT CC pM pE ND CN PN SN UN FN N PR p i v f b U B W Y l ow kw ow' kd' j nb Hs Os y a n m w) (hp3 : p < PR3) (n942 : F m3 942 = ((PR3 : Nat) : Int)) (n118 : F w3 118 = ((PR3 : Nat) : Int)) (e1 : ∀ k, k = 22 ∨ k = 442 ∨ k = 449 ∨ k = 944 ∨ k = 946 ∨ k = 1106 → m3.1 k = m.1 k) (e2 : ∀ K, K < 49 → m3.2.2.1 K = m.2.2.1 K) (e3 : ∀ k, k = 14 ∨ k = 119 ∨ k = 120 ∨ k = 165 → w3.1 k = w.1 k) (e4 : ∀ K, K < 88 → w3.2.2.1 K = w.2.2.1 K) (t45 : m3.1 945 = w3.1 121) (pn : PNx m3 w3) (wt : WTs PR3 m3 w3) (h956 : F m3 956 = ((i3 : Nat) : Int)) (h9 : F m3 1109 = 0 ∨ F m3 (pq p 9) = 3) (W3 : SFs Fv P Fv' (PWs AN) PR3 m3 w3 → WLs (RRx p (SPs p)) PR3 Fv P Fv' (PWs AN) none i3 0 m3 w3) : PP Q (q195 (SAf T Fv P p) N (qgo (SAf T Fv P p) N M1) m3 p (I ((v : Nat) : Int))) (KRs Fv' AN TT CC ND CN UN FN N p mu M2 w w3) := by
  obtain ⟨-, -, -, -, cn, -, tb, -⟩ := id s.2.2.1
  obtain ⟨t1, -, ⟨t3, t4, t5⟩, t6, fa, na, t7⟩ := tb
  obtain ⟨⟨hN, hpr, pr24, hi, hf⟩, ⟨per, hAN⟩, ba, -⟩ := id s
  refine pp_clr (fun rs => ?_)
  have h34 : w3.2.2.2 34 = w.2.2.2 34 := by
    obtain ⟨_, _, _, _, g⟩ := rs
    exact g.2.2.2 34 (by decide)
  have pg : PG0 m w m3 w3 := ⟨⟨e2 23 (by omega), e1 22 (by omega), ATc_eq (e2 2 (by omega)) (e2 3 (by omega))⟩, fun K h => e4 K (by unfold PRr at h; omega), h34, e4 12 (by omega), e4 13 (by omega), e3 14 (by omega)⟩
  have h := (aft_on (M1 := M1) (mu := mu) (v := v) hN per ih hp3 (by omega) n942 n118 h9 W3 h956 ba.2.2.2.1.1 (fun a => CN_pg cn pg a) wt ⟨TB_tab t1 ⟨e1 442 (by omega), e1 449 (by omega)⟩ (fun K h => e2 K (by omega)) (fun K h => e4 K (by unfold PRr at h; omega)) h34, pn, ⟨CLk_st t3 (e1 944 (by omega)) (e3 120 (by omega)), t45, by rw [e1 946 (by omega), e3 119 (by omega)]; exact t5⟩, by rw [e1 1106 (by omega), e3 165 (by omega)]; exact t6, fa, na, ATf_k t7 (e1 22 (by omega)) (e2 2 (by omega)) (e2 3 (by omega)) (e3 14 (by omega)) (e4 12 (by omega)) (e4 13 (by omega))⟩).1
  rw [rsc_t rs] at h
  exact h
theorem WTs_up (h : WTs PR m w) : WTs (PR + 1) m w := by
  obtain ⟨L, a, b, c⟩ := h
  refine ⟨L, a, b, fun y hy => ?_⟩
  obtain ⟨⟨a0, e1, e2⟩, ⟨e3, e4⟩, e5⟩ := c y hy
  exact ⟨⟨a0, e1, by omega⟩, ⟨e3, by omega⟩, e5⟩
theorem st_sp {mB wC m3 w3 : MS} {j3 a3 n3 : Nat} {nb3 : Nat → Nat} {Hs3 Os3 : Nat → List Nat} {y3 : Option (Nat × Nat × Nat)} {z : Int} (ih : ∀ M1 v m w, SIA T Fv P Fv' AN TT CC pM pE ND CN PN SN UN FN p v m w → PP Q (qgo (SAf T Fv P p) N M1 m p (I ((v : Nat) : Int))) (gg_M_go N M2 w (I ((p : Nat) : Int)))) (s : STx T Fv P Fv' AN TT CC pM pE ND CN PN SN UN FN N PR p i v f b U B W Y l ow kw ow' kd' j nb Hs Os y a n m w) (W3 : ∀ P2, SFs Fv P Fv' P2 (PR + 1) m3 w3 → WLs (RRp p) (PR + 1) Fv P Fv' P2 none i 0 m3 w3) (ru3 : RUs m3 w3 p j3 nb3 Hs3 Os3 y3 a3 n3) (gm : NGm PR m mB) (gw : NGw PR (wa w 98 (60 * p + j) z) wC) (fm : FGm p mB m3) (fw : FGw p j wC w3) : PP Q (q195 (SAf T Fv P p) N (qgo (SAf T Fv P p) N M1) m3 p (I ((v : Nat) : Int))) (KRs Fv' AN TT CC ND CN UN FN N p mu M2 w w3) := by
  obtain ⟨⟨hN, hpr, pr24, hi, hf⟩, ⟨per, hAN⟩, ba, -⟩ := id s
  obtain ⟨-, -, ⟨h955, h956⟩, -, cn, wt, tb, -, q942, q118⟩ := id ba
  obtain ⟨t1, t2, ⟨t3, t4, t5⟩, t6, -⟩ := id tb
  have mi : ∀ k, k < 2000 → k ≠ 942 → k ≠ 1105 → m3.1 k = m.1 k := fun k h1 h2 h3 => by
    rw [fm.1 k (by
      have q : ∀ l, k ≠ pq p l := fun l => pq_n h1
      simp [q, h3]), gm.2.1 k h1 h2]
  have ma : ∀ K, K < 100 → m3.2.2.1 K = m.2.2.1 K := fun K h => by rw [fm.2.2.1 K (by simp), gm.2.2.2.1 K (by omega) (by omega)]
  have wi : ∀ k, k < 136 → k ≠ 118 → w3.1 k = w.1 k := fun k h1 h2 => by rw [fw.1.1 k (by simp; omega), gw.2.1 k h2]; rfl
  have w165 : w3.1 165 = w.1 165 := by rw [fw.1.1 165 (by simp), gw.2.1 165 (by omega)]; rfl
  have wA : ∀ K, K < 88 ∨ (118 ≤ K ∧ K ≤ 130) → w3.2.2.1 K = w.2.2.1 K := fun K h => by rw [fw.1.2.2.1 K (by simp; omega), gw.2.2.1 K (by omega), wa_21 (by omega)]
  have n942 : F m3 942 = ((PR + 1 : Nat) : Int) := by
    rw [← gm.2.2.2.2]
    exact congrArg Int32.toInt (fm.1 942 (by
      have q : ∀ l, 942 ≠ pq p l := fun l => pq_n (by omega)
      simp [q]))
  have n118 : F w3 118 = ((PR + 1 : Nat) : Int) := by
    rw [← gw.2.2.2.2]
    exact congrArg Int32.toInt (fw.1.1 118 (by simp))
  exact st_k3 ih s (PR3 := PR + 1) (i3 := i) (by omega) n942 n118 (fun k h => mi k (by omega) (by omega) (by omega)) (fun K h => ma K (by omega)) (fun k h => by
    by_cases e : k = 165
    · subst e
      exact w165
    · exact wi k (by omega) (by omega)) (fun K h => wA K (by omega)) (by rw [mi 945 (by omega) (by omega) (by omega), wi 121 (by omega) (by omega)]; exact t4) (PN_st t2 (mi 953 (by omega) (by omega) (by omega)) (fun K h => ma K (by omega)) (wi 128 (by omega) (by omega)) (fun K h => wA K (by omega))) (WTs_st (WTs_up wt) (mi 950 (by omega) (by omega) (by omega)) (fun K h => ma K (by omega)) (wi 125 (by omega) (by omega)) (fun K h => wA K (by omega))) ((congrArg Int32.toInt (mi 956 (by omega) (by omega) (by omega))).trans h956) (Or.inl ru3.2.2.2.2.2.1.2.1) (fun s3 => WL_q (WL_t (W3 _ s3)) (fun _ => Or.inl ⟨_, _, _, _, _, _, _, ru3⟩))
theorem pk_spawn (ih : ∀ M1 v m w, SIA T Fv P Fv' AN TT CC pM pE ND CN PN SN UN FN p v m w → PP Q (qgo (SAf T Fv P p) N M1 m p (I ((v : Nat) : Int))) (gg_M_go N M2 w (I ((p : Nat) : Int)))) (s : STx T Fv P Fv' AN TT CC pM pE ND CN PN SN UN FN N PR p i v f b U B W Y l ow kw ow' kd' j nb Hs Os y a n m w) (hb : tB TT n + 1 ≤ tH TT n) (cr : ∃ f, CRs (A m 23) (ROs w) (w.2.2.2 34) f y (a + 2) (n + 1) (Hs j) (Os j)) : PP Q (bnd (hm_Ma_predefined N m p (I 1)) (fun u _ => q195 (SAf T Fv P p) N (qgo (SAf T Fv P p) N M1) u p (I ((v : Nat) : Int)))) (bnd (fm_M_predefinedRun N (wa w 98 (60 * p + j) ((n + 1 : Nat) : Int)) (I 1)) (fun u _ => KRs Fv' AN TT CC ND CN UN FN N p mu M2 w u)) := by
  obtain ⟨⟨r5, r8, r2⟩, ⟨ha, hn, hv, hpp, hj⟩, nd, ⟨pl, ru, bd⟩, ⟨n1, n2, n3⟩, bH, bW, bB, bY, nND, hN⟩ := st_b s
  obtain ⟨bd1, bd2, bd3, bd4⟩ := bd
  obtain ⟨⟨-, hpr, pr24, hi, hf⟩, ⟨per, hAN⟩, ba, lp, -, -, ⟨pt, xc, h140⟩, -, -, sc, wl, -⟩ := id s
  obtain ⟨-, -, ⟨h955, h956⟩, -, cn, wt, tb, -, q942, q118⟩ := id ba
  obtain ⟨W1, rfl⟩ : ∃ W1, W = W1 + 1 := ⟨W - 1, by omega⟩
  obtain ⟨i2, h, mm, L0, g2, x2, j2, wb, nb2, cb2, rk, M⟩ := cl_any s.2.2.2.1 r5 r8
  obtain ⟨ft, far, fus⟩ := tb.1
  have wft := M.1.2.2.1
  have al := M.1.2.2.2.2.2.1
  obtain ⟨⟨q0, q1⟩, q2, ⟨q3, q4⟩, q5, -, q6⟩ := M.1.2.2.2.1
  have h98 : A (wa w 98 (60 * p + j) ((n + 1 : Nat) : Int)) 98 (60 * p + j) = ((n + 1 : Nat) : Int) := by rw [wa_sm (by omega) (by omega)]
  have pl1 : PLs (bGd b U ow' kd') p m (wa w 98 (60 * p + j) ((n + 1 : Nat) : Int)) U B (W1 + 1) Y := PLs_98 pl
  have hP : ∀ t, P t → PWs AN t := by
    obtain ⟨-, -, -, -, fa', na, atf⟩ := tb
    exact PT_pw (LPQ_dc lp).2 atf hAN
  have xc1 := CXf_cx (w := wa w 98 (60 * p + j) ((n + 1 : Nat) : Int)) (CXf_of (w := wa w 98 (60 * p + j) ((n + 1 : Nat) : Int)) hP pl1 pt xc.2.1 (by omega) ⟨by omega, by omega, bY⟩) h140
  have x33 : F (wa w 98 (60 * p + j) ((n + 1 : Nat) : Int)) 133 = ((p : Nat) : Int) := ru.2.2.2.2.2.2.1
  have rw1 : ∀ K i, K ≠ 98 → A (wa w 98 (60 * p + j) ((n + 1 : Nat) : Int)) K i = A w K i := fun K i h => by
    show ((wa w 98 (60 * p + j) ((n + 1 : Nat) : Int)).2.2.1 K i).toInt = _
    rw [wa_21 h]
    rfl
  have rt := pl.2.2.1.2.2 W1 (by omega)
  have g := pt.2.2.1.2 W1 (by omega)
  have g' := xc.2.2.2.2.2.2.2.1 W1 (by omega)
  have U5 := pl.1.1.2.2
  have eX := st_wr (M1 := M1) (M2 := M2) (mu := mu) (c := 11) ih s (by omega) (by rw [wi_id pl.2.2.1.1]; exact pl1) (by omega) (by omega) FGw.goto ⟨rfl, rfl⟩
  generalize ht : m.2.2.2 (pq p 35) W1 = t at rt g
  generalize hx : w.2.2.2 91 (46000 * p + W1) = x at rt g'
  by_cases s3 : so t = 3
  · obtain ⟨L, ⟨sx, hvt, hU, hvx, hU'⟩, hL, hL', plr, ⟨fv, fv'⟩, hcs⟩ := TP_fun pl.1.2.1 pt.1.2.2 xc.2.1 ⟨rt, g, g'⟩ s3
    rcases plr with ⟨uu, u1, u2, u3⟩ | ⟨ff, u1, u2, u3⟩
    · obtain ⟨h449, eL⟩ : ((uu : Nat) : Int) < F m 449 ∧ va (m.2.2.2 (pq p 2) (vn t + 1)) = A m 23 (A m 32 uu).toNat := by
        rcases q6 _ _ fv with ⟨pl2, y1, y2, y3⟩ | ⟨f2, y1, y2, y3⟩
        · have e : pl2 = uu := by omega
          subst e
          exact ⟨y2, y3⟩
        · omega
      obtain ⟨hu4, ar', e, ad, L2, c, H, f30, f31, f32, fL, had, hH, nm, ndH, h53, hc, h41, h54, zr⟩ := fus uu h449
      have eL2 : L2 = L := by
        rw [f32, Int.toNat_natCast, fL] at eL
        omega
      subst eL2
      have har : ar' < 2000 := by
        obtain ⟨a5, e5, p5, k5, y1, -, -, -, -, y6, -⟩ := q5 uu h449
        have := (wft _ _ _ _ _ _ y6).2.1.1
        omega
      by_cases hz : ar' = 0 ∧ PR < 24
      · obtain ⟨rfl, hPR⟩ := hz
        exact op_spawnU (K1 := fun u => q195 (SAf T Fv P p) N (qgo (SAf T Fv P p) N M1) u p (I ((v : Nat) : Int))) (K2 := fun u => KRs Fv' AN TT CC ND CN UN FN N p mu M2 w u) hpr hPR wl al h955 ru sc (by omega) bd2 ⟨bd3, bd4⟩ pl1 pt xc1 FGw.goto h98 cr ht hx s3 hvt (by omega) hvx (by omega) u2 hL u3 hL' h449 hu4 f30 f31 f32 fL had hH nm ndH h53 hc h41 zr (by omega) (fun mB wC m3 w3 a1 a2 a3 a4 a5 a6 a7 => st_sp ih s a1 a3 a4 a5 a6 a7)
      · exact op_spawnX (K1 := fun u => q195 (SAf T Fv P p) N (qgo (SAf T Fv P p) N M1) u p (I ((v : Nat) : Int))) (K2 := fun u => KRs Fv' AN TT CC ND CN UN FN N p mu M2 w u) (PR := PR) (ar := ar') hpp q942 q118 pr24 pl.2.2.1.1 bd2 ⟨bd3, bd4⟩ x33 pl1.2.2.1.2.1 (by omega) ht hx s3 sx hvt (by omega) hvx (by omega) har (by omega) (Or.inl ⟨uu, c, u2, u3, h449, hu4, f30, (rw1 53 uu (by omega)).trans h53, hc, (rw1 41 c (by omega)).trans h41⟩) eX
    · obtain ⟨h442, eL⟩ : ((ff : Nat) : Int) < F m 442 ∧ va (m.2.2.2 (pq p 2) (vn t + 1)) = 0 := by
        rcases q6 _ _ fv with ⟨pl2, y1, y2, y3⟩ | ⟨f2, y1, y2, y3⟩
        · omega
        · have e : f2 = ff := by omega
          subst e
          exact ⟨y2, y3⟩
      obtain ⟨hu6, e, c, f29, h50, zr⟩ := ft ff h442
      have e48 := far ff h442
      obtain ⟨ar', e5, f25, -, y6⟩ := q2 ff h442
      have h48 : A w 48 ff = ((ar' : Nat) : Int) := by omega
      have har : ar' < 2000 := by
        have := (wft _ _ _ _ _ _ y6).2.1.1
        omega
      by_cases hz : ar' = 0 ∧ PR < 24
      · obtain ⟨rfl, hPR⟩ := hz
        exact op_spawnF (K1 := fun u => q195 (SAf T Fv P p) N (qgo (SAf T Fv P p) N M1) u p (I ((v : Nat) : Int))) (K2 := fun u => KRs Fv' AN TT CC ND CN UN FN N p mu M2 w u) hpr hPR wl al h955 ru sc (by omega) bd2 ⟨bd3, bd4⟩ pl1 pt xc1 FGw.goto h98 cr ht hx s3 hvt (by omega) hvx (by omega) u2 u3 h442 hu6 q4 f25 f29 h48 h50 zr (by omega) (fun mB wC m3 w3 a1 a2 a3 a4 a5 a6 a7 => st_sp ih s a1 a3 a4 a5 a6 a7)
      · exact op_spawnX (K1 := fun u => q195 (SAf T Fv P p) N (qgo (SAf T Fv P p) N M1) u p (I ((v : Nat) : Int))) (K2 := fun u => KRs Fv' AN TT CC ND CN UN FN N p mu M2 w u) (PR := PR) (ar := ar') hpp q942 q118 pr24 pl.2.2.1.1 bd2 ⟨bd3, bd4⟩ x33 pl1.2.2.1.2.1 (by omega) ht hx s3 sx hvt (by omega) hvx (by omega) har (by omega) (Or.inr ⟨ff, u2, u3, h442, hu6, f25, (rw1 48 ff (by omega)).trans h48⟩) eX
  · have sx : so x ≠ 3 := by
      rw [RTb_so rt]
      exact s3
    exact op_spawnN (K1 := fun u => q195 (SAf T Fv P p) N (qgo (SAf T Fv P p) N M1) u p (I ((v : Nat) : Int))) (K2 := fun u => KRs Fv' AN TT CC ND CN UN FN N p mu M2 w u) hpp pl.2.2.1.1 bd2 ⟨bd3, bd4⟩ x33 pl1.2.2.1.2.1 (by omega) ht hx s3 sx eX
end
end
