/-! a step: what is known at its beginning -/
set_option maxRecDepth 100000
/-- heights of a node, here: what waits, names, catches, a GUARD -/
def RFx (TT : TY) (ND : Nat) (w : MS) (p j W B n : Nat) : Prop := ∃ rb rm : Nat, (W = rb + tH TT n ∧ B = rm + tM TT n ∧ n < ND) ∧ (∀ c : Nat, A w 106 p = ((c + 1 : Nat) : Int) → ∃ W0 B0 : Nat, A w 104 (1600 * p + c) = ((W0 : Nat) : Int) ∧ W0 ≤ rb + tB TT n ∧ A w 105 (1600 * p + c) = ((B0 : Nat) : Int) ∧ B0 ≤ rm + tD TT n ∧ (F w 152 = 1 → ((B0 : Nat) : Int) ≤ F w 156)) ∧ (F w 152 = 1 → F w 157 = ((rb + tB TT n : Nat) : Int) ∧ (0 ≤ F w 154 ∧ F w 154 < 100000) ∧ tG TT n ≠ 0) ∧ (F w 152 = 0 → tG TT n = 0) ∧ (A w 100 (60 * p + j) = ((rb : Nat) : Int) ∧ A w 99 (60 * p + j) + A w 101 (60 * p + j) = ((rm : Nat) : Int)) ∧ (tK TT n = 0 → ∀ c : Nat, A w 106 p = ((c + 1 : Nat) : Int) → A w 102 (1600 * p + c) < ((j : Nat) : Int))
section
variable {T : TY} {C : CY} {Fv : Int64 → Int64 → Prop} {P : Int64 → Prop} {pM pE ro rn rh cb pc ct ow kd : Nat → Nat} {ND CN PN SN UN FN PR p fr q n bxM mu W B : Nat} {w : MS}
theorem ct_top {i c0 k tp ro0 rn0 rh0 : Nat} (h : CTI w T ND p ct i c0 k tp ro0 rn0 rh0) (hk : 0 < k) : A w 104 (1600 * p + (c0 + k - 1)) = ((ro0 + tH T tp : Nat) : Int) ∧ A w 105 (1600 * p + (c0 + k - 1)) = ((rn0 + rh0 + tM T tp : Nat) : Int) ∧ A w 102 (1600 * p + (c0 + k - 1)) = ((i : Nat) : Int) := by
  obtain ⟨h0, -, -, -, -, -, h1, h2, h3, -⟩ := h (k - 1) (by omega)
  have e := h3 (by omega)
  rw [e] at h1 h2
  rw [show c0 + k - 1 = c0 + (k - 1) by omega]
  exact ⟨h1, h2, h0⟩
theorem ct_low {k tp : Nat} (h : FRS w T ND p fr ro rn rh cb pc ct k tp) (hg : PRG w T C pM pE ND CN PN SN UN FN) : ∀ e, e < fr → 0 < cb e → ∃ W0 B0 : Nat, A w 104 (1600 * p + (cb e - 1)) = ((W0 : Nat) : Int) ∧ W0 ≤ ro e ∧ A w 105 (1600 * p + (cb e - 1)) = ((B0 : Nat) : Int) ∧ B0 ≤ rn e ∧ A w 102 (1600 * p + (cb e - 1)) < ((e : Nat) : Int) := by
  obtain ⟨-, ⟨-, -, z0⟩, -, h4, -⟩ := h
  intro e
  induction e with
  | zero => intro _ c; omega
  | succ e ih =>
    intro he hc
    obtain ⟨-, q1, -, q3, q4, -, q6, q7, q8⟩ := h4 e he
    obtain ⟨n1, n2, n3, n4, n5, n6, n7, -⟩ := (hg.2.2.1 _ q1).1
    by_cases z : 0 < tK T (pc e)
    · obtain ⟨c1, c2, c3⟩ := ct_top q8 z
      obtain ⟨-, -, -, -, s5, s6, -⟩ := n7 z
      rw [q7]
      exact ⟨_, _, c1, by omega, c2, by omega, by omega⟩
    · have e0 : cb (e + 1) = cb e := by omega
      obtain ⟨W0, B0, g1, g2, g3, g4, g5⟩ := ih (by omega) (by omega)
      rw [e0]
      exact ⟨W0, B0, g1, by omega, g3, by omega, by omega⟩
theorem rf_fct (atq : ATQ Fv P PR T ND p w fr ro rn rh cb pc ct q n ow kd bxM) (mode : MODE w T C ND CN p (ro (fr - 1)) (rn (fr - 1)) (rh (fr - 1)) (sR T pc (fr - 1)) q bxM mu) (hg : PRG w T C pM pE ND CN PN SN UN FN) (h92 : A w 92 p = ((W : Nat) : Int)) (h94 : A w 94 p = ((B : Nat) : Int)) : RFx T ND w p (fr - 1) W B q := by
  obtain ⟨mei, frs, q98, qND, qL, q106⟩ := atq
  have e92 := mei.2.2.2.2.2.2.2.2.2.1.1
  have e94 := mei.2.2.2.2.2.2.2.2.2.2.1.1
  obtain ⟨n1, n2, n3, n4, n5, n6, n7, n8, -⟩ := (hg.2.2.1 _ qND).1
  have f1 := frs.1.1
  refine ⟨ro (fr - 1), rn (fr - 1) + rh (fr - 1), ⟨by omega, by omega, qND⟩, fun c hc => ?_, fun h1 => ?_, fun h0 => ?_, ?_, fun z c hc => ?_⟩
  · have gd : ∀ B0 : Nat, (B0 ≤ rn (fr - 1) ∨ (0 < tK T q ∧ B0 = rn (fr - 1) + rh (fr - 1) + tM T (tC T q))) → F w 152 = 1 → ((B0 : Nat) : Int) ≤ F w 156 := fun B0 hb h1 => by
      rcases mode with ⟨-, g1, -⟩ | ⟨-, c, s, many, hg', hb', m, r, trs, -⟩
      · omega
      · have t6 := trs.2.1
        have t7 := trs.2.2.2.2.1
        rcases hb with hb | ⟨hk, hb⟩
        · omega
        · have := (t7 hk).2.1
          omega
    by_cases z : 0 < tK T q
    · obtain ⟨c1, c2, -⟩ := ct_top frs.2.2.2.2 z
      obtain ⟨-, -, -, -, s5, s6, -⟩ := n7 z
      rw [show cb (fr - 1) + tK T q - 1 = c by omega] at c1 c2
      exact ⟨_, _, c1, by omega, c2, by omega, gd _ (Or.inr ⟨z, rfl⟩)⟩
    · obtain ⟨W0, B0, g1, g2, g3, g4, -⟩ := ct_low frs hg (fr - 1) (by omega) (by omega)
      rw [show cb (fr - 1) - 1 = c by omega] at g1 g3
      exact ⟨W0, B0, g1, by omega, g3, by omega, gd _ (Or.inl g4)⟩
  · rcases mode with ⟨-, g1, -⟩ | ⟨-, c, s, many, hg', hb', m, r, trs, g2, g3, g4, -⟩
    · omega
    · obtain ⟨c2, y1, y2, -, -, -, -, y3, -⟩ := n8 (by omega)
      have ec : c2 = c := by omega
      subst ec
      have hcn := hg.1.2.1
      rcases trs.2.2.1 with h | ⟨c3, k1, k2, -, k4, -⟩
      · omega
      · have ec : c3 = c2 := by omega
        subst ec
        exact ⟨by rw [g4, ← k4, y3], ⟨by omega, by omega⟩, by omega⟩
  · rcases mode with ⟨g0, -⟩ | ⟨g1, -⟩
    · exact g0
    · omega
  · obtain ⟨k1, k2, k3, -⟩ := frs.2.2.1 (fr - 1) (by omega)
    exact ⟨k1, by omega⟩
  · obtain ⟨W0, B0, -, -, -, -, g5⟩ := ct_low frs hg (fr - 1) (by omega) (by omega)
    rw [show cb (fr - 1) - 1 = c by omega] at g5
    exact g5
end
/-- what comes behind a step, here -/
noncomputable def KRs (Fv' : Int64 → Int64 → Prop) (AN : Nat) (TT : TY) (CC : CY) (ND CN UN FN N p mu M2 : Nat) (w0 u : MS) : Option (MS × Int32) := rsc (RSW Fv' AN TT CC ND CN UN FN p mu w0 u) (bnd (fm_M_allEnds N u) (fun u _ => gg_M_go N M2 u (I ((p : Nat) : Int))))
/-- the one that goes stands before a word and a node -/
def STx (T : TYc) (Fv : Int64 → Int64 → Prop) (P : Int64 → Prop) (Fv' : Int64 → Int64 → Prop) (AN : Nat) (TT : TY) (CC : CY) (pM pE : Nat → Nat) (ND CN PN SN UN FN N PR p i v f : Nat) (b : Int → Nat → Nat → Prop) (U B W Y l : Nat) (ow kw ow' kd' : Nat → Nat) (j : Nat) (nb : Nat → Nat) (Hs Os : Nat → List Nat) (y : Option (Nat × Nat × Nat)) (a n : Nat) (m w : MS) : Prop :=
  (11000000 ≤ N ∧ p < PR ∧ PR ≤ 24 ∧ i < 24 ∧ f + v ≤ 900000000) ∧ (PER Fv' AN TT CC pM pE ND CN PN SN UN FN w ∧ F w 14 = ((AN : Nat) : Int)) ∧ BAs Fv P Fv' (PWs AN) PR p i m w ∧ LPQ T Fv P PR p f m ∧ PLs (bGd b U ow' kd') p m w U B W Y ∧ RUs m w p j nb Hs Os y a n ∧ (PTQ m p U ow kw Fv P B W Y ∧ CX w p (hp w p) U ow' kd' Fv' (PWs AN) W B Y ∧ F w 140 = -1) ∧ (W ≤ 45600 ∧ B ≤ 2400 ∧ Y ≤ 30) ∧ BDr p W l m ∧ SCs p m w ∧ WLs (RRp p) PR Fv P Fv' (PWs AN) none i 0 m w ∧ RFx TT ND w p j W B n
section
variable {T : TYc} {Fv Fv' : Int64 → Int64 → Prop} {P : Int64 → Prop} {AN : Nat} {TT : TY} {CC : CY} {pM pE : Nat → Nat} {ND CN PN SN UN FN N PR p i v mu M1 M2 : Nat} {m w : MS} {Q : MS → Int32 → MS → Int32 → Prop}
/-- one that goes, in a GUARD or not -/
theorem cl_any {f : Nat} (l : LPQ T Fv P PR p f m) (h9 : F m (pq p 9) = 0) (h8 : F m 1108 = 0) : ∃ i h mm L g x j wb nb cb rk, MIc T Fv P PR p m i h mm L g x j wb nb cb rk := by
  rcases l with ⟨⟨i, h, mm, L, g, x, j, wb, nb, cb, rk, M, -⟩, -⟩ | l | l
  · exact ⟨i, h, mm, L, g, x, j, wb, nb, cb, rk, M⟩
  · have := l.2.1
    omega
  · exact absurd h8 (l.2.1.2 h9)
theorem st_of (hN : 11000000 ≤ N) (s : SIA T Fv P Fv' AN TT CC pM pE ND CN PN SN UN FN p v m w) (h9 : F m (pq p 9) = 0) (h8 : F m 1108 = 0) : ∃ PR i f b U B W Y l ow kw ow' kd' j nb Hs Os y a n mu, STx T Fv P Fv' AN TT CC pM pE ND CN PN SN UN FN N PR p i v f b U B W Y l ow kw ow' kd' j nb Hs Os y a n m w ∧ PK (fun u _ => RSW Fv' AN TT CC ND CN UN FN p mu w u) (fm_M_one N w (I ((n : Nat) : Int)) (I (A w 23 n))) ∧ ∀ k, k < W → so (m.2.2.2 (pq p 35) k) = 4 → 0 ≤ va (m.2.2.2 (pq p 35) k) ∧ va (m.2.2.2 (pq p 35) k) < ((PR : Nat) : Int) := by
  obtain ⟨PR, f, mu, hpr, ⟨hf, l⟩, ⟨al, wd, per⟩, ⟨i, W, ⟨h956, h955⟩, ⟨h149, h150⟩, cn, wt⟩, tb⟩ := s
  obtain ⟨sf, -, pr, -⟩ := id W
  rcases pr p hpr with ⟨x1, x2, b, U, B, W4, Y, pl, sc, rr⟩ | ⟨x1, -⟩
  · have sp : SPs p m w := by
      rcases rr with ⟨-, sp⟩ | ⟨c, -⟩
      · exact sp
      · exact absurd rfl c
    rcases sp with ⟨j, nb, Hs, Os, y, a, n, ru⟩ | ⟨j, nb, Hs, Os, sc, wn⟩ | ⟨j, nb, Hs, Os, a, n, li⟩
    · obtain ⟨⟨fa, -⟩, ⟨r2, r3⟩, -, ⟨r5, r6⟩, -, ⟨r8, r9, r10⟩, r11, -⟩ := id ru
      obtain ⟨⟨ow, kw, pt⟩, ⟨ow', kd', xc⟩, ⟨bW, bB, bY⟩, -⟩ := SF_al sf hpr x1 pl
      have pr24 : PR ≤ 24 := sf.1.1.1.1.2
      have hi : i < 24 := by
        have h2 := sf.1.1.1.2.2.2.1.1
        have h3 := cEc_lt (m := m) (q := p) PR hpr x1
        omega
      obtain ⟨fr, ro, rn, rh, cb, pc, ct, q, n0, ow2, kd2, bxM, mm, atq, h109, mode⟩ : ∃ fr ro rn rh cb pc ct q n0 ow2 kd2 bxM mm, ATQ Fv' (PQ AN PR) PR TT ND p w fr ro rn rh cb pc ct q n0 ow2 kd2 bxM ∧ A w 109 p = 0 ∧ MODE w TT CC ND CN p (ro (fr - 1)) (rn (fr - 1)) (rh (fr - 1)) (sR TT pc (fr - 1)) q bxM mm := by
        rcases al with al | al | al | ⟨mm, -, fr, ro, rn, rh, cb, pc, ct, q, n0, ow2, kd2, bxM, a1, a2, a3⟩
        · have := al.2
          omega
        · obtain ⟨_, _, _, _, _, _, _, _, _, _, _, _, -, c, -⟩ := al
          omega
        · obtain ⟨_, _, _, _, _, _, _, _, _, _, _, _, -, -, -, c⟩ := al
          omega
        · exact ⟨fr, ro, rn, rh, cb, pc, ct, q, n0, ow2, kd2, bxM, mm, a1, a2, a3⟩
      obtain ⟨mei, ⟨⟨f1, f2, f3⟩, -, f5, -⟩, q98, qND, -⟩ := id atq
      have efr : fr = j + 1 := by
        have := fa.1.2.1
        omega
      subst efr
      have eq : q = n := by
        have q98' : A w 98 (60 * p + j) = ((q : Nat) : Int) := q98
        omega
      subst eq
      have bW2 : W4 ≤ 45600 := by
        have e1 := mei.2.2.2.2.2.2.2.2.2.1.1
        have e2 := pl.2.2.1.2.1
        have e3 := (f5 (j + 1 - 1) (by omega)).2.2.2.2.1
        have e4 := (per.1.2.2.1 q qND).1.1
        have hj := fa.1.2.2
        have ej : j + 1 - 1 = j := by omega
        rw [ej] at e1 e3
        have e5 : W4 = ro j + tH TT q := by omega
        omega
      have bB2 : B ≤ 2400 := by
        obtain ⟨i2, h, mm2, L, g, x, j2, wb, nb2, cb2, rk, M⟩ := cl_any l r5 r8
        have e1 := (MI_b M).2.2.1
        have e2 := M.2.2.2.2.1.2
        have e3 := pl.2.1.1
        omega
      have hA2 : AN ≤ 3000 := by
        obtain ⟨-, -, -, -, fa', na, atf⟩ := id tb
        have e2 : F w 14 = ((na : Nat) : Int) := by
          show (w.1 14).toInt = _
          rw [atf.2.1.1, I_ti (by omega) (by have := atf.1.2.2.2.2; omega)]
        have e3 := per.2.2.2.1
        have e4 := atf.1.2.2.2.2
        omega
      obtain ⟨-, ⟨l5, d1, d2, d3⟩, -⟩ := pt.2.2.2.2
      have hE : F w 149 = F w 150 ∧ F w 151 = 0 := ⟨by omega, r10⟩
      refine ⟨PR, i, f, b, U, B, W4, Y, l5, ow, kw, ow', kd', j, nb, Hs, Os, y, a, q, mm, ⟨⟨hN, hpr, pr24, hi, hf⟩, ⟨per, per.2.2.2.1⟩, ⟨hpr, WL_mono W (fun r h => ?_) RRt_stb, ⟨h955, h956⟩, ⟨h149, h150⟩, cn, wt, tb, ⟨x1, x2⟩, sf.1.1.1.1.1, sf.2.1.1.1.1⟩, l, PLs_gd pl xc, ru, ⟨pt, xc, sf.2.1.1.2.2.2.1⟩, ⟨bW2, bB2, bY⟩, ⟨by omega, d1, d2, d3⟩, sc, WL_mono W (fun r h => ?_) RRp_stb, rf_fct atq mode per.1 pl.2.2.1.2.1 pl.2.1.2.1⟩, pk_ok (one_ok (N := N) atq h109 mode per.2.2.2.2.1 hA2 per.2.2.2.1 (PER_pgm per pr24) per.2.2.2.2.2 wd hE rfl hN), fun k hk h4 => ?_⟩
      · rcases h with ⟨e, -⟩ | ⟨-, h⟩
        · exact Or.inl e
        · exact Or.inr h
      · rcases h with ⟨e, -⟩ | ⟨e, h⟩
        · exact Or.inl ⟨e, j, nb, Hs, Os, y, a, q, ru⟩
        · exact Or.inr ⟨e, h⟩
      · have e1 := mei.2.2.2.2.2.2.2.2.2.1.1
        have e2 := pl.2.2.1.2.1
        have gt := mei.2.2.2.2.2.2.2.2.2.2.2.2.1 k (by omega)
        rw [RTb_n (pl.2.2.1.2.2 k hk) (by unfold isH; omega)] at gt
        rcases gt with ⟨-, q⟩ | ⟨z, -⟩
        · rcases q with q | q | q | q | q
          · omega
          · omega
          · omega
          · have := q.1
            omega
          · exact q.2
        · exfalso
          unfold isH at z
          omega
    · have := wn.2.1.1
      omega
    · exact absurd h8 li.2.2.2.2.1.1
  · omega
variable {f U B W Y l j a n : Nat} {b : Int → Nat → Nat → Prop} {ow kw ow' kd' : Nat → Nat} {nb : Nat → Nat} {Hs Os : Nat → List Nat} {y : Option (Nat × Nat × Nat)}
/-- up to the node that is met -/
theorem st_go {Z : Option (MS × Int32)} (s : STx T Fv P Fv' AN TT CC pM pE ND CN PN SN UN FN N PR p i v f b U B W Y l ow kw ow' kd' j nb Hs Os y a n m w) (pk : PK (fun u _ => RSW Fv' AN TT CC ND CN UN FN p mu w u) (fm_M_one N w (I ((n : Nat) : Int)) (I (A w 23 n)))) (k : PP Q Z (bnd (fm_M_one N w (I ((n : Nat) : Int)) (I (A w 23 n))) (fun u _ => KRs Fv' AN TT CC ND CN UN FN N p mu M2 w u))) : PP Q Z (gg_M_go N (M2 + 1) w (I ((p : Nat) : Int))) := by
  obtain ⟨⟨hN, hpr, pr24, -⟩, -, -, -, -, ru, -⟩ := s
  obtain ⟨⟨fa, -⟩, ⟨r2, r3⟩, ⟨f0, cr0⟩, ⟨r5, r6⟩, -, ⟨r8, r9, r10⟩, r11, -⟩ := id ru
  have cb := CR_b cr0
  exact go_r (by omega) r10 r6 r11 fa.1.2.1 fa.1.2.2 r3 (by omega) (r_cl pk k)
/-- behind a step that has changed p alone; it goes on -/
theorem st_ru {m3 w3 : MS} {b3 : Int → Nat → Nat → Prop} {U3 B3 W3 Y3 j3 a3 n3 : Nat} {nb3 : Nat → Nat} {Hs3 Os3 : Nat → List Nat} {y3 : Option (Nat × Nat × Nat)} (ih : ∀ M1 v m w, SIA T Fv P Fv' AN TT CC pM pE ND CN PN SN UN FN p v m w → PP Q (qgo (SAf T Fv P p) N M1 m p (I ((v : Nat) : Int))) (gg_M_go N M2 w (I ((p : Nat) : Int)))) (s : STx T Fv P Fv' AN TT CC pM pE ND CN PN SN UN FN N PR p i v f b U B W Y l ow kw ow' kd' j nb Hs Os y a n m w) (pl : PLs b3 p m3 w3 U3 B3 W3 Y3) (ru : RUs m3 w3 p j3 nb3 Hs3 Os3 y3 a3 n3) (gm : GGm p m m3) (gw : GGw p w w3) (sc : SCs p m w → SCs p m3 w3) : PP Q (q195 (SAf T Fv P p) N (qgo (SAf T Fv P p) N M1) m3 p (I ((v : Nat) : Int))) (KRs Fv' AN TT CC ND CN UN FN N p mu M2 w w3) ∧ PP Q (q206 (SAf T Fv P p) N (qgo (SAf T Fv P p) N M1) m3 p (I ((v : Nat) : Int))) (KRs Fv' AN TT CC ND CN UN FN N p mu M2 w w3) := by
  obtain ⟨⟨hN, hpr, pr24, hi, hf⟩, ⟨per, -⟩, ba, -⟩ := s
  have h149 : F w 149 = 0 := ba.2.2.2.1.1
  have r5 := ru.2.2.2.1
  exact aft_gg hN per h149 ih ba (by omega) gm gw pl sc (Or.inl ⟨j3, nb3, Hs3, Os3, y3, a3, n3, ru⟩) (by omega) ru.2.2.2.2.2.1.2.1
/-- the same, words and cells alone -/
theorem st_fg {m3 w3 : MS} {b3 : Int → Nat → Nat → Prop} {U3 B3 W3 Y3 j3 a3 n3 jj : Nat} {nb3 : Nat → Nat} {Hs3 Os3 : Nat → List Nat} {y3 : Option (Nat × Nat × Nat)} (ih : ∀ M1 v m w, SIA T Fv P Fv' AN TT CC pM pE ND CN PN SN UN FN p v m w → PP Q (qgo (SAf T Fv P p) N M1 m p (I ((v : Nat) : Int))) (gg_M_go N M2 w (I ((p : Nat) : Int)))) (s : STx T Fv P Fv' AN TT CC pM pE ND CN PN SN UN FN N PR p i v f b U B W Y l ow kw ow' kd' j nb Hs Os y a n m w) (hj : jj < 60) (pl : PLs b3 p m3 w3 U3 B3 W3 Y3) (ru : RUs m3 w3 p j3 nb3 Hs3 Os3 y3 a3 n3) (fm : FGm p m m3) (fw : FGw p jj w w3) : PP Q (q195 (SAf T Fv P p) N (qgo (SAf T Fv P p) N M1) m3 p (I ((v : Nat) : Int))) (KRs Fv' AN TT CC ND CN UN FN N p mu M2 w w3) := (st_ru ih s pl ru (GGm_fg fm) (GGw_fg fw hj) (fun s => SC_fg s fm fw)).1
end
