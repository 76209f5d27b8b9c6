/-! between two steps: all that goes together -/
set_option maxRecDepth 100000
abbrev TYc := Nat → Option (Nat × Nat × List Nat × Nat × Nat)
/-- the table of FUNS -/
def FUs (m w : MS) : Prop := ∀ u : Nat, ((u : Nat) : Int) < F m 449 → u < 400 ∧ ∃ (ar e ad L c : Nat) (H : List Nat), A m 30 u = ((ar : Nat) : Int) ∧ A m 31 u = ((e : Nat) : Int) ∧ A m 32 u = ((ad : Nat) : Int) ∧ A m 23 ad = ((L : Nat) : Int) ∧ ad + 1 + L < 24000 ∧ H.length = L ∧ (∀ i x : Nat, H[i]? = some x → A m 23 (ad + 1 + i) = ((x : Nat) : Int)) ∧ H.Nodup ∧ A w 53 u = ((c : Nat) : Int) ∧ c < 100000 ∧ A w 41 c = ((ar : Nat) : Int) ∧ A w 54 u = ((L : Nat) : Int) ∧ ∃ g g2, ZRs (A m 23) (ROs w) (w.2.2.2 34) (CRs (A m 23) (ROs w) (w.2.2.2 34) g) 0 0 H [] g2 e ((c : Nat) : Int)
/-- FUNCTIONS: how many ARGUMENTS -/
def FAr (m w : MS) : Prop := ∀ f : Nat, ((f : Nat) : Int) < F m 442 → A m 25 f = A w 48 f
/-- the CLOCK: alike, none is behind its beginning -/
def CLk (m w : MS) : Prop := m.1 944 = w.1 120 ∧ 0 ≤ F w 120
theorem CLk_st {m w m2 w2 : MS} (h : CLk m w) (e1 : m2.1 944 = m.1 944) (e2 : w2.1 120 = w.1 120) : CLk m2 w2 := by
  refine ⟨by rw [e1, e2]; exact h.1, ?_⟩
  show 0 ≤ (w2.1 120).toInt
  rw [e2]
  exact h.2
/-- tables and numbers -/
def TBs (m w : MS) : Prop := (FTs m w ∧ FAr m w ∧ FUs m w) ∧ PNx m w ∧ (CLk m w ∧ m.1 945 = w.1 121 ∧ m.1 946 = w.1 119) ∧ m.1 1106 = w.1 165 ∧ ∃ fa na, ATf m w fa na
section
variable {m w m2 w2 : MS} {p : Nat}
/-- the tables of a text stay -/
theorem TB_tab (h : FTs m w ∧ FAr m w ∧ FUs m w) (e1 : m2.1 442 = m.1 442 ∧ m2.1 449 = m.1 449) (e2 : ∀ K, K = 23 ∨ K = 25 ∨ K = 29 ∨ K = 30 ∨ K = 31 ∨ K = 32 → m2.2.2.1 K = m.2.2.1 K) (e3 : ∀ K, PRr K → w2.2.2.1 K = w.2.2.1 K) (e4 : w2.2.2.2 34 = w.2.2.2 34) : FTs m2 w2 ∧ FAr m2 w2 ∧ FUs m2 w2 := by
  obtain ⟨t1, t2, t3⟩ := h
  have f1 : F m2 442 = F m 442 := congrArg Int32.toInt e1.1
  have f2 : F m2 449 = F m 449 := congrArg Int32.toInt e1.2
  have am : ∀ K i, K = 23 ∨ K = 25 ∨ K = 29 ∨ K = 30 ∨ K = 31 ∨ K = 32 → A m2 K i = A m K i := fun K i h => by show (m2.2.2.1 K i).toInt = _; rw [e2 K h]; rfl
  have aw : ∀ K i, PRr K → A w2 K i = A w K i := fun K i h => by show (w2.2.2.1 K i).toInt = _; rw [e3 K h]; rfl
  have h23 : A m2 23 = A m 23 := funext fun i => am 23 i (by omega)
  have ro := ROs_eq e3
  refine ⟨fun f hf => ?_, fun f hf => ?_, fun u hu => ?_⟩
  · rw [f1] at hf
    obtain ⟨a1, e, c, a2, a3, a4⟩ := t1 f hf
    exact ⟨a1, e, c, by rw [am 29 f (by omega)]; exact a2, by rw [aw 50 f (by unfold PRr; omega)]; exact a3, by rw [h23, ro, e4]; exact a4⟩
  · rw [f1] at hf
    rw [am 25 f (by omega), aw 48 f (by unfold PRr; omega)]
    exact t2 f hf
  · rw [f2] at hu
    obtain ⟨a0, ar, e, ad, L, c, H, a1, a2, a3, a4, a5, a6, a7, a8, a9, a10, a11, a12, a13⟩ := t3 u hu
    exact ⟨a0, ar, e, ad, L, c, H, by rw [am 30 u (by omega)]; exact a1, by rw [am 31 u (by omega)]; exact a2, by rw [am 32 u (by omega)]; exact a3, by rw [h23]; exact a4, a5, a6, fun i x hx => by rw [h23]; exact a7 i x hx, a8, by rw [aw 53 u (by unfold PRr; omega)]; exact a9, a10, by rw [aw 41 c (by unfold PRr; omega)]; exact a11, by rw [aw 54 u (by unfold PRr; omega)]; exact a12, by rw [h23, ro, e4]; exact a13⟩
theorem PN_st (h : PNx m w) (e1 : m2.1 953 = m.1 953) (e2 : ∀ K, K = 52 ∨ K = 53 → m2.2.2.1 K = m.2.2.1 K) (e3 : w2.1 128 = w.1 128) (e4 : ∀ K, K = 126 ∨ K = 127 → w2.2.2.1 K = w.2.2.1 K) : PNx m2 w2 := by
  refine ⟨by rw [e1, e3]; exact h.1, fun l hl => ?_⟩
  have hl' : ((l : Nat) : Int) < F m 953 := by
    rw [show F m2 953 = F m 953 from congrArg Int32.toInt e1] at hl
    exact hl
  obtain ⟨b1, b2⟩ := h.2 l hl'
  refine ⟨by rw [e2 53 (by omega), e4 127 (by omega)]; exact b1, fun i hi => ?_⟩
  rw [e2 52 (by omega), e4 126 (by omega)]
  refine b2 i ?_
  rw [show A m2 53 l = A m 53 l from by show (m2.2.2.1 53 l).toInt = _; rw [e2 53 (by omega)]; rfl] at hi
  exact hi
theorem TB_gg (h : TBs m w) (f : GGm p m m2) (g : GGw p w w2) : TBs m2 w2 := by
  obtain ⟨t1, t2, ⟨t3, t4, t5⟩, t6, fa, na, t7⟩ := h
  have fi := f.2.2.2.2.2.2
  have fA := f.2.2.2.2.2.1
  have gi := g.2.2.2.2.2.2
  have gA := g.2.2.2.2.2.1
  exact ⟨TB_tab t1 ⟨fi 442 (by omega), fi 449 (by omega)⟩ (fun K h => fA K (by omega)) g.2.1.1 g.2.1.2.1, PN_st t2 (fi 953 (by omega)) (fun K h => fA K (by omega)) (gi 128 (by omega)) (fun K h => gA K (by omega)), ⟨CLk_st t3 (fi 944 (by omega)) (gi 120 (by omega)), by rw [fi 945 (by omega), gi 121 (by omega)]; exact t4, by rw [fi 946 (by omega), gi 119 (by omega)]; exact t5⟩, by rw [fi 1106 (by omega), gi 165 (by omega)]; exact t6, fa, na, ATf_k t7 (fi 22 (by omega)) (fA 2 (by omega)) (fA 3 (by omega)) (gi 14 (by omega)) (gA 12 (by omega)) (gA 13 (by omega))⟩
theorem TB_eg (h : TBs m w) (f : EGm m m2) (g : EGw w w2) (h34 : w2.2.2.2 34 = w.2.2.2 34) : TBs m2 w2 := by
  obtain ⟨t1, t2, ⟨t3, t4, t5⟩, t6, fa, na, t7⟩ := h
  have fi := f.2
  have fA := f.1
  have gi := g.2
  have gA := g.1
  exact ⟨TB_tab t1 ⟨fi 442 (by omega) (by omega), fi 449 (by omega) (by omega)⟩ (fun K h => fA K (by omega) (by omega)) (fun K h => gA K (by unfold PRr at h; omega)) h34, PN_st t2 (fi 953 (by omega) (by omega)) (fun K h => fA K (by omega) (by omega)) (gi 128 (by omega)) (fun K h => gA K (by omega)), ⟨CLk_st t3 (fi 944 (by omega) (by omega)) (gi 120 (by omega)), by rw [fi 945 (by omega) (by omega), gi 121 (by omega)]; exact t4, by rw [fi 946 (by omega) (by omega), gi 119 (by omega)]; exact t5⟩, by rw [fi 1106 (by omega) (by omega), gi 165 (by omega)]; exact t6, fa, na, ATf_k t7 (fi 22 (by omega) (by omega)) (fA 2 (by omega) (by omega)) (fA 3 (by omega) (by omega)) (gi 14 (by omega)) (gA 12 (by omega)) (gA 13 (by omega))⟩
/-- behind ends -/
theorem TB_en (h : TBs m w) (f : WFR m m2) (g : FR [125, 136, 138, 140, 144, 149, 150] [139] [89, 90, 108, 109, 113, 116, 117, 122, 123, 124, 131, 132, 135, 142, 143, 145, 146, 147] [88, 91, 93, 107, 134, 137, 141, 148] w w2) : TBs m2 w2 := by
  obtain ⟨t1, t2, ⟨t3, t4, t5⟩, t6, fa, na, t7⟩ := h
  have fi : ∀ k, k < 2000 → k ≠ 950 → k ≠ 955 → k ≠ 956 → m2.1 k = m.1 k := fun k h1 h2 h3 h4 => f.2.1 k h1 (by simp; omega)
  have fA : ∀ K, K < 49 ∨ K = 52 ∨ K = 53 → m2.2.2.1 K = m.2.2.1 K := fun K h => f.2.2.2.1 K (by omega) (by simp; omega)
  exact ⟨TB_tab t1 ⟨fi 442 (by omega) (by omega) (by omega) (by omega), fi 449 (by omega) (by omega) (by omega) (by omega)⟩ (fun K h => fA K (by omega)) (fun K h => g.2.2.1 K (by unfold PRr at h; simp; omega)) (g.2.2.2 34 (by simp)), PN_st t2 (fi 953 (by omega) (by omega) (by omega) (by omega)) (fun K h => fA K (by omega)) (g.1 128 (by simp)) (fun K h => g.2.2.1 K (by simp; omega)), ⟨CLk_st t3 (fi 944 (by omega) (by omega) (by omega) (by omega)) (g.1 120 (by simp)), by rw [fi 945 (by omega) (by omega) (by omega) (by omega), g.1 121 (by simp)]; exact t4, by rw [fi 946 (by omega) (by omega) (by omega) (by omega), g.1 119 (by simp)]; exact t5⟩, by rw [fi 1106 (by omega) (by omega) (by omega) (by omega), g.1 165 (by simp)]; exact t6, fa, na, ATf_k t7 (fi 22 (by omega) (by omega) (by omega) (by omega)) (fA 2 (by omega)) (fA 3 (by omega)) (g.1 14 (by simp)) (g.2.2.1 12 (by simp)) (g.2.2.1 13 (by simp))⟩
end
/-- literals, whatever PROCESS they name -/
def PWs (AN : Nat) (t : Int64) : Prop := so t = 0 ∨ so t = 2 ∨ so t = 6 ∨ so t = 4 ∨ (so t = 1 ∧ 0 ≤ va t ∧ va t < AN)
theorem PW_q {AN PR : Nat} : ∀ t, PQ AN PR t → PWs AN t := fun t h => by
  rcases h with h | h | h | h | h
  · exact Or.inl h
  · exact Or.inr (Or.inl h)
  · exact Or.inr (Or.inr (Or.inl h))
  · exact Or.inr (Or.inr (Or.inr (Or.inr h)))
  · exact Or.inr (Or.inr (Or.inr (Or.inl h.1)))
theorem PB_mo {P P2 : Int64 → Prop} {PR : Nat} (hP : ∀ t, P t → P2 t) (h : PB P PR) : PB P2 PR := ⟨fun a h1 h2 => hP _ (h.1 a h1 h2), fun p h1 => hP _ (h.2.1 p h1), fun r h1 h2 => hP _ (h.2.2.1 r h1 h2), fun r h1 h2 => hP _ (h.2.2.2.1 r h1 h2), hP _ h.2.2.2.2⟩
theorem DW_mo {Fv : Int64 → Int64 → Prop} {P P2 : Int64 → Prop} {PR : Nat} {w : MS} (hP : ∀ t, P t → P2 t) (d : DW Fv P PR w) : DW Fv P2 PR w := by
  obtain ⟨d1, d2, ⟨n4, ow4, kd4, d3a, d3b, d3c⟩, d4, ⟨eF, eM, e1, e2, e3, e4, e5⟩, d6⟩ := d
  refine ⟨d1, fun q hq => ?_, ⟨n4, ow4, kd4, d3a, d3b, HP_mo hP d3c⟩, d4, ⟨eF, eM, e1, e2, e3, e4, fun i h1 h2 => ?_⟩, d6⟩
  · obtain ⟨n, ow, kd, a, b, c, h1, h2⟩ := d2 q hq
    exact ⟨n, ow, kd, a, b, c, h1, CX_mo hP h2⟩
  · obtain ⟨f1, f2, f3, f4⟩ := e5 i h1 h2
    refine ⟨f1, f2, f3, ?_⟩
    rcases f4 with f4 | ⟨g1, g2, g3⟩
    · exact Or.inl ⟨f4.1, hP _ f4.2⟩
    · exact Or.inr ⟨g1, g2, GTP_mo hP g3⟩
/-- all that goes together between two steps; v: how many steps there have been -/
def SIA (T : TYc) (Fv : Int64 → Int64 → Prop) (P : Int64 → Prop) (Fv' : Int64 → Int64 → Prop) (AN : Nat) (TT : TY) (CC : CY) (pM pE : Nat → Nat) (ND CN PN SN UN FN p v : Nat) (m w : MS) : Prop := ∃ PR f mu, p < PR ∧ (f + v ≤ 900000000 ∧ LPQ T Fv P PR p f m) ∧ (ALT Fv' (PQ AN PR) PR TT CC ND CN p mu w ∧ WLD w TT ND UN FN PR p ∧ PER Fv' AN TT CC pM pE ND CN PN SN UN FN w) ∧ FQs (RRx p (SPs p)) PR Fv P Fv' (PWs AN) m w ∧ TBs m w
/-- what is known of a state there behind a step -/
def SAf (T : TYc) (Fv : Int64 → Int64 → Prop) (P : Int64 → Prop) (p : Nat) (u : MS) (v : Int32) : Prop := ∃ PR c k : Nat, v = I ((k : Nat) : Int) ∧ c + k + 1 ≤ 900000000 ∧ OPQ T Fv P PR p c u
section
variable {T : TYc} {Fv Fv' : Int64 → Int64 → Prop} {P : Int64 → Prop} {AN : Nat} {TT : TY} {CC : CY} {pM pE : Nat → Nat} {ND CN PN SN UN FN N PR p i v mu M1 M2 : Nat} {m w m3 w3 : MS} {Q : MS → Int32 → MS → Int32 → Prop}
theorem OPQ_d {c : Nat} (o : OPQ T Fv P PR p c m) (h9 : F m 1109 = 0) : DWc Fv P PR m ∧ CTX Fv P m ∧ LPQ T Fv P PR p c m := by
  rcases o with o | o | o | o
  · obtain ⟨⟨i, h, mm, L, g, x, j, wb, nb, cb, rk, M, -⟩, -⟩ := id o
    exact ⟨M.1.1, M.1.2.1, Or.inl o⟩
  · exfalso
    obtain ⟨u, how, ar, t, -, -, -, -, hh, ha, rfl⟩ := o
    have e : F (wi (wi u 1109 how) 1111 ar) 1109 = 0 := h9
    rw [F_wi (by omega) (by omega), if_neg (by decide), F_wi (by omega) (by omega), if_pos rfl] at e
    omega
  · exact ⟨o.1.1, o.1.2.1, Or.inr (Or.inl o)⟩
  · exact ⟨o.1.1, o.1.2.1, Or.inr (Or.inr o)⟩
/-- one that has ENDED, there -/
theorem OPQ_e {c : Nat} (o : OPQ T Fv P PR p c m) (h3 : F m (pq p 9) = 3) : DWc Fv P PR m ∧ CTX Fv P m ∧ LPQ T Fv P PR p c m ∧ F m 1109 = 0 := by
  rcases o with o | o | o | o
  · obtain ⟨⟨i, h, mm, L, g, x, j, wb, nb, cb, rk, M, -⟩, -⟩ := id o
    have := M.2.1
    omega
  · exfalso
    obtain ⟨u, how, ar, t, ⟨i, h, mm, L, g, x, j, wb, nb, cb, rk, M, -⟩, -, -, -, hh, ha, rfl⟩ := o
    have e : F (wi (wi u 1109 how) 1111 ar) (pq p 9) = 3 := h3
    rw [wi_ne (fun c => pq_n (by omega) c.symm), wi_ne (fun c => pq_n (by omega) c.symm)] at e
    have := M.2.1
    omega
  · exact ⟨o.1.1, o.1.2.1, Or.inr (Or.inl o), o.2.2.1⟩
  · exfalso
    exact o.2.1.1 h3
theorem CN_pg {P' : Int64 → Prop} (c : CNq P P' m w) (pg : PG0 m w m3 w3) (at3 : ATM w3) : CNq P P' m3 w3 := by
  obtain ⟨n1, n2, n3, n4, n5, n6⟩ := c
  obtain ⟨⟨-, g2, g3⟩, -, -, g6, g7, g8⟩ := pg
  have e14 : F w3 14 = F w 14 := congrArg Int32.toInt g8
  have e22 : F m3 22 = F m 22 := congrArg Int32.toInt g2
  have eA := ATr_eq g6 g7
  exact ⟨fun t ht => by rw [g3, eA]; exact n1 t (by rw [← e14]; exact ht), at3, by rw [e14]; exact n3, fun a ha => by rw [eA]; exact n4 a ha, fun t ht => by rw [e14]; exact n5 t ht, fun t ht => by rw [e22]; exact n6 t ht⟩
/-- behind a step, whatever has come of p; q: behind what has been taken up -/
theorem aft_on (hN : 11000000 ≤ N) (per : PER Fv' AN TT CC pM pE ND CN PN SN UN FN w) (ih : ∀ M1 v m w, SIA T Fv P Fv' AN TT CC pM pE ND CN PN SN UN FN p v m w → PP Q (qgo (SAf T Fv P p) N M1 m p (I ((v : Nat) : Int))) (gg_M_go N M2 w (I ((p : Nat) : Int))))
    (hpp : p < PR) (hv : v < 2000000000) (n942 : F m3 942 = ((PR : Nat) : Int)) (n118 : F w3 118 = ((PR : Nat) : Int)) (h9 : F m3 1109 = 0 ∨ F m3 (pq p 9) = 3) (W : SFs Fv P Fv' (PWs AN) PR m3 w3 → WLs (RRx p (SPs p)) PR Fv P Fv' (PWs AN) none i 0 m3 w3) (h956 : F m3 956 = ((i : Nat) : Int)) (h149 : F w 149 = 0) (cn : ATM w3 → CNq P (PWs AN) m3 w3) (wt : WTs PR m3 w3) (tb : TBs m3 w3) :
    PP Q (q195 (SAf T Fv P p) N (qgo (SAf T Fv P p) N M1) m3 p (I ((v : Nat) : Int))) (rsc (RSW Fv' AN TT CC ND CN UN FN p mu w w3) (bnd (fm_M_allEnds N w3) (fun u _ => gg_M_go N M2 u (I ((p : Nat) : Int))))) ∧ PP Q (q206 (SAf T Fv P p) N (qgo (SAf T Fv P p) N M1) m3 p (I ((v : Nat) : Int))) (rsc (RSW Fv' AN TT CC ND CN UN FN p mu w w3) (bnd (fm_M_allEnds N w3) (fun u _ => gg_M_go N M2 u (I ((p : Nat) : Int))))) := by
  have core : SAf T Fv P p m3 (I ((v : Nat) : Int)) → F m3 1109 = 0 ∧ PP Q (q206 (SAf T Fv P p) N (qgo (SAf T Fv P p) N M1) m3 p (I ((v : Nat) : Int))) (rsc (RSW Fv' AN TT CC ND CN UN FN p mu w w3) (bnd (fm_M_allEnds N w3) (fun u _ => gg_M_go N M2 u (I ((p : Nat) : Int))))) := fun hs => by
    obtain ⟨PR2, c, k, ek, hk, o⟩ := hs
    have ev : v = k := by
      have := congrArg Int32.toInt ek
      rw [I_ti (by omega) (by omega), I_ti (by omega) (by omega)] at this
      omega
    subst ev
    obtain ⟨dc, cx, lp, t9⟩ : DWc Fv P PR2 m3 ∧ CTX Fv P m3 ∧ LPQ T Fv P PR2 p c m3 ∧ F m3 1109 = 0 := by
      rcases h9 with h | h
      · obtain ⟨a1, a2, a3⟩ := OPQ_d o h
        exact ⟨a1, a2, a3, h⟩
      · exact OPQ_e o h
    refine ⟨t9, pp_clr (fun rs => ?_)⟩
    obtain ⟨PR', hp', al, wd, gf⟩ := rs
    obtain ⟨mu2, al2⟩ : ∃ mu2, ALT Fv' (PQ AN PR') PR' TT CC ND CN p mu2 w3 := by
      rcases al with al | al | al | ⟨mm, h1, h2⟩
      · exact ⟨0, Or.inl al⟩
      · exact ⟨0, Or.inr (Or.inl al)⟩
      · exact ⟨0, Or.inr (Or.inr (Or.inl al))⟩
      · exact ⟨mm + 1, Or.inr (Or.inr (Or.inr ⟨mm, by omega, h2⟩))⟩
    have dw := ALT_dw al2
    have per3 : PER Fv' AN TT CC pM pE ND CN PN SN UN FN w3 := PER_fr per gf (by decide) (by decide)
    have e2 : PR2 = PR := by
      have := dc.1.1.1
      omega
    subst e2
    have e3 : PR' = PR2 := by
      have := dw.1.1
      omega
    subst e3
    have pb := PQ_b per3.2.2.2.2.1 dw.1.2
    have s3 : SFs Fv P Fv' (PWs AN) PR' m3 w3 := ⟨⟨dc, cx⟩, ⟨DW_mo PW_q dw, wd.1, wd.2.1⟩, PB_mo PW_q pb⟩
    have h149' : F w3 149 = 0 := by rw [FR.F gf (by decide)]; exact h149
    refine aft_206 (W s3) h956 h149' (cn per3.2.2.1) wt (by omega) (fun m4 w4 _ e1 e2 fq _ _ => ?_)
    have wq := pk_ok (settle_ok (N := N) dc cx (by omega)) m4 () e1
    have ae := pk_ok (ae_step (N := N) per3 al2 wd hN) w4 () e2
    have fr := pk_ok (allEnds_ok (N := N) pb PQ_s hN ⟨dw, wd.1, wd.2.1⟩ per3.2.2.1 (PER_pa per3)) w4 () e2
    exact ih M1 (v + 1) m4 w4 ⟨PR', c, mu2, hpp, ⟨by omega, LPQ_w lp wq⟩, ⟨ae.1, ae.2.1, PER_g per3 ae.2.2.2.2.2.2⟩, fq, TB_en tb wq.2.1 fr.2.1⟩
  constructor
  · unfold q195
    refine pp_cll (fun hs => ?_)
    obtain ⟨t9, h⟩ := core hs
    rw [I_F' t9, show decide (I 0 = 0) = true from rfl, br_t]
    exact h
  · unfold q206
    refine pp_cll (fun hs => ?_)
    have h := (core hs).2
    unfold q206 at h
    rw [rsc_t hs] at h
    exact h
/-- the base of a step -/
def BAs (Fv : Int64 → Int64 → Prop) (P : Int64 → Prop) (Fv' : Int64 → Int64 → Prop) (P' : Int64 → Prop) (PR p i : Nat) (m w : MS) : Prop := p < PR ∧ WLs (RRt p) PR Fv P Fv' P' none i 0 m w ∧ (F m 955 = ((i : Nat) : Int) ∧ F m 956 = ((i : Nat) : Int)) ∧ (F w 149 = 0 ∧ F w 150 = 0) ∧ CNq P P' m w ∧ WTs PR m w ∧ TBs m w ∧ (F m (pq p 9) ≠ 3 ∧ A w 109 p ≠ 3) ∧ (F m 942 = ((PR : Nat) : Int) ∧ F w 118 = ((PR : Nat) : Int))
/-- behind a step of p's own: it lives -/
theorem aft_gg {b : Int → Nat → Nat → Prop} {U B W Y : Nat} {w0 : MS} (hN : 11000000 ≤ N) (per : PER Fv' AN TT CC pM pE ND CN PN SN UN FN w0) (h149 : F w0 149 = 0) (ih : ∀ M1 v m w, SIA T Fv P Fv' AN TT CC pM pE ND CN PN SN UN FN p v m w → PP Q (qgo (SAf T Fv P p) N M1 m p (I ((v : Nat) : Int))) (gg_M_go N M2 w (I ((p : Nat) : Int))))
    (ba : BAs Fv P Fv' (PWs AN) PR p i m w) (hv : v < 2000000000) (gm : GGm p m m3) (gw : GGw p w w3) (pl : PLs b p m3 w3 U B W Y) (sc : SCs p m w → SCs p m3 w3) (sp : SPs p m3 w3) (al : F m3 (pq p 9) ≠ 3 ∧ A w3 109 p ≠ 3) (h9 : F m3 1109 = 0) :
    PP Q (q195 (SAf T Fv P p) N (qgo (SAf T Fv P p) N M1) m3 p (I ((v : Nat) : Int))) (rsc (RSW Fv' AN TT CC ND CN UN FN p mu w0 w3) (bnd (fm_M_allEnds N w3) (fun u _ => gg_M_go N M2 u (I ((p : Nat) : Int))))) ∧ PP Q (q206 (SAf T Fv P p) N (qgo (SAf T Fv P p) N M1) m3 p (I ((v : Nat) : Int))) (rsc (RSW Fv' AN TT CC ND CN UN FN p mu w0 w3) (bnd (fm_M_allEnds N w3) (fun u _ => gg_M_go N M2 u (I ((p : Nat) : Int))))) := by
  obtain ⟨hpp, W, ⟨h955, h956⟩, -, cn, wt, tb, ⟨hal, hal'⟩, n1, n2⟩ := ba
  have fi := gm.2.2.2.2.2.2
  have fA := gm.2.2.2.2.2.1
  have gi := gw.2.2.2.2.2.2
  have gA := gw.2.2.2.2.2.1
  have scp : SCs p m w := by
    rcases W.2.2.1 p hpp with ⟨-, -, _, _, _, _, _, _, s, -⟩ | ⟨x, -⟩
    · exact s
    · exact absurd x hal
  refine aft_on (i := i) hN per ih hpp hv ?_ ?_ (Or.inl h9) (fun s3 => WL_q (WL_ownt W hpp hal hal' s3 gm gw pl (sc scp) al) (fun _ => sp)) ?_ h149 (fun a3 => CN_pg cn (PG0_gg gm gw) a3) (WTs_st wt (fi 950 (by omega)) (fun k hk => fA k (by omega)) (gi 125 (by omega)) (fun k hk => gA k (by omega))) (TB_gg tb gm gw)
  · rw [← n1]
    exact congrArg Int32.toInt (fi 942 (by omega))
  · rw [← n2]
    exact congrArg Int32.toInt (gi 118 (by omega))
  · rw [← h956]
    exact congrArg Int32.toInt gm.2.2.2.2.1
/-- behind a step of p's own: it ENDS -/
theorem aft_end {w0 : MS} {wr : Int} {t x : Int64} {ee ee' : Nat} (hN : 11000000 ≤ N) (per : PER Fv' AN TT CC pM pE ND CN PN SN UN FN w0) (h149 : F w0 149 = 0) (ih : ∀ M1 v m w, SIA T Fv P Fv' AN TT CC pM pE ND CN PN SN UN FN p v m w → PP Q (qgo (SAf T Fv P p) N M1 m p (I ((v : Nat) : Int))) (gg_M_go N M2 w (I ((p : Nat) : Int))))
    (ba : BAs Fv P Fv' (PWs AN) PR p i m w) (hv : v < 2000000000) (gm : GGm p m m3) (gw : GGw p w w3) (sc : SCs p m w → SCs p m3 w3) (h5 : m3.1 (pq p 5) = w3.2.2.1 90 p) (hee : F m 955 = ((ee : Nat) : Int) ∧ ee < 24) (hee' : F w 150 = ((ee' : Nat) : Int) ∧ ee' < 4000) (hw : wr = 0 ∨ wr = 1 ∨ wr = 2) (rq : RQs Fv P Fv' (PWs AN) PR (enS m3 p t p ee) (enR w3 p wr ((p : Nat) : Int) x ee') p wr p x) :
    PP Q (q195 (SAf T Fv P p) N (qgo (SAf T Fv P p) N M1) (enS m3 p t p ee) p (I ((v : Nat) : Int))) (rsc (RSW Fv' AN TT CC ND CN UN FN p mu w0 (wi (enR w3 p wr ((p : Nat) : Int) x ee') 151 1)) (bnd (fm_M_allEnds N (wi (enR w3 p wr ((p : Nat) : Int) x ee') 151 1)) (fun u _ => gg_M_go N M2 u (I ((p : Nat) : Int))))) ∧ PP Q (q206 (SAf T Fv P p) N (qgo (SAf T Fv P p) N M1) (enS m3 p t p ee) p (I ((v : Nat) : Int))) (rsc (RSW Fv' AN TT CC ND CN UN FN p mu w0 (wi (enR w3 p wr ((p : Nat) : Int) x ee') 151 1)) (bnd (fm_M_allEnds N (wi (enR w3 p wr ((p : Nat) : Int) x ee') 151 1)) (fun u _ => gg_M_go N M2 u (I ((p : Nat) : Int))))) := by
  obtain ⟨hpp, W, ⟨h955, h956⟩, -, cn, wt, tb, ⟨hal, hal'⟩, n1, n2⟩ := ba
  have p24 := W.1.2.1.1.1.2
  have fi := gm.2.2.2.2.2.2
  have fA := gm.2.2.2.2.2.1
  have gi := gw.2.2.2.2.2.2
  have gA := gw.2.2.2.2.2.1
  have scp : SCs p m w := by
    rcases W.2.2.1 p hpp with ⟨-, -, _, _, _, _, _, _, s, -⟩ | ⟨x, -⟩
    · exact s
    · exact absurd x hal
  have v := enS_v (m := m3) (q := p) (t := t) (hm := p) (e := ee)
  have e1 : ∀ k, k < 2000 → k ≠ 955 → (enS m3 p t p ee).1 k = m3.1 k := fun k h1 h2 => enS_1 (pq_n h1) (pq_n h1) h2
  have eA : ∀ K, K ≠ 54 → (enS m3 p t p ee).2.2.1 K = m3.2.2.1 K := fun K h => enS_3 h
  have fr := enR_fr (w := w3) (q := p) (wr := wr) (o := p) (x := x) (e := ee')
  have fr2 : FR [150, 151] [] [109, 145, 146, 147] [148] w3 (wi (enR w3 p wr ((p : Nat) : Int) x ee') 151 1) := FR.wi (FR.mo fr (by simp) (by simp) (by simp) (by simp)) (by simp)
  have eg1 : EGm m3 (enS m3 p t p ee) := ⟨fun K _ h => eA K h, fun k h1 h2 => e1 k (by omega) h2⟩
  have eg2 : EGw w3 (wi (enR w3 p wr ((p : Nat) : Int) x ee') 151 1) := ⟨fun K h => fr2.2.2.1 K (by simp; omega), fun k h => fr2.1 k (by simp; omega)⟩
  have pg : PG0 m3 w3 (enS m3 p t p ee) (wi (enR w3 p wr ((p : Nat) : Int) x ee') 151 1) := ⟨⟨eA 23 (by omega), e1 22 (by omega) (by omega), ATc_eq (eA 2 (by omega)) (eA 3 (by omega))⟩, fun K hK => fr2.2.2.1 K (by unfold PRr at hK; simp; omega), fr2.2.2.2 34 (by simp), fr2.2.2.1 12 (by simp), fr2.2.2.1 13 (by simp), fr2.1 14 (by simp)⟩
  refine aft_on (i := i) hN per ih hpp hv ?_ ?_ (Or.inr v.1) (fun s3 => ?_) ?_ h149 (fun a3 => CN_pg cn (PG0.tr (PG0_gg gm gw) pg) a3) (WTs_st wt ((e1 950 (by omega) (by omega)).trans (fi 950 (by omega))) (fun k hk => (eA k (by omega)).trans (fA k (by omega))) ((fr2.1 125 (by simp)).trans (gi 125 (by omega))) (fun k hk => (fr2.2.2.1 k (by simp; omega)).trans (gA k (by omega)))) (TB_eg (TB_gg tb gm gw) eg1 eg2 (fr2.2.2.2 34 (by simp)))
  · rw [← n1]
    exact congrArg Int32.toInt ((e1 942 (by omega) (by omega)).trans (fi 942 (by omega)))
  · rw [← n2]
    exact congrArg Int32.toInt ((fr2.1 118 (by simp)).trans (gi 118 (by omega)))
  · have rg : RGw (enR w3 p wr ((p : Nat) : Int) x ee') (wi (enR w3 p wr ((p : Nat) : Int) x ee') 151 1) := FR.wi FR.rf (by simp)
    have rgb : RGw (wi (enR w3 p wr ((p : Nat) : Int) x ee') 151 1) (enR w3 p wr ((p : Nat) : Int) x ee') := ⟨fun k hk => (if_neg (fun c => hk (by rw [c]; simp))).symm, fun _ _ => rfl, fun _ _ => rfl, fun _ _ => rfl⟩
    have s2 : SFs Fv P Fv' (PWs AN) PR (enS m3 p t p ee) (enR w3 p wr ((p : Nat) : Int) x ee') := by
      obtain ⟨⟨d, cx⟩, ⟨dw, lk, wq⟩, pb⟩ := s3
      refine ⟨⟨d, cx⟩, ⟨?_, ?_, ?_⟩, pb⟩
      · exact DW_fr dw rgb (by simp) (by simp) (by simp) (by simp) (by simp) (by simp) (by simp) (by simp) (by simp) (by simp) (by simp) (by simp) (by simp) (by simp) (by simp) (by simp) (by simp)
      · exact LK_fr lk rgb (by simp) (by simp)
      · exact WTQ_fr wq rgb (by simp) (by simp) (by simp)
    have e15 : F (enS m3 p t p ee) (pq p 15) = F m3 (pq p 15) := congrArg Int32.toInt (enS_1 (pq_inj (by omega)) (pq_inj (by omega)) (fun c => pq_n (by omega) c.symm))
    have b15 : 0 ≤ F m3 (pq p 15) ∧ F m3 (pq p 15) ≤ 24 := by
      have := (s3.1.1.2 p hpp).1.1
      omega
    have W2 := WL_end2 (wr := wr) W hpp ⟨hal, hal'⟩ (fun c => by cases c) gm gw (sc scp) b15 h5 hee hee' ⟨by omega, by omega⟩ (by omega) s2 rq
    exact WL_q (WL_reg W2 FR.rf rg) (fun h => absurd v.1 h)
  · rw [← h956]
    exact congrArg Int32.toInt ((e1 956 (by omega) (by omega)).trans gm.2.2.2.2.1)
end
