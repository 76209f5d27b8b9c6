/-! what is PREDEFINED: print, both sides -/
set_option maxRecDepth 100000
section
variable {α β : Type} {b : Int → Nat → Nat → Prop} {Fv Fv' : Int64 → Int64 → Prop} {P P' : Int64 → Prop} {ow kd ow' kd' : Nat → Nat} {N PR p i j0 U B W Y l j a n : Nat} {m w w1 m5 wB : MS} {nb : Nat → Nat} {Hs Os : Nat → List Nat} {y : Option (Nat × Nat × Nat)} {Q : MS → α → MS → β → Prop} {K1 : MS → Option (MS × α)} {K2 : MS → Option (MS × β)}
theorem prt_cr (f1 : PFm m m5) (f2 : PFw w wB) (cr : ∃ f, CRs (A m 23) (ROs w) (w.2.2.2 34) f y (a + 2) (n + 1) (Hs j) (Os j)) : ∃ f, CRs (A m5 23) (ROs wB) (wB.2.2.2 34) f y (a + 2) (n + 1) (Hs j) (Os j) := by
  rw [show A m5 23 = A m 23 from by funext k; show (m5.2.2.1 23 k).toInt = _; rw [f1.2.2.1 23 (by simp)]; rfl, ROs_eq (w := w) (fun K h => f2.2.2.1 K (by unfold PRr at h; simp; omega)), f2.2.2.2 34 (by simp)]
  exact cr
/-- a term is printed -/
theorem op_print (hpp : p < PR) (wl : WLs (RRp p) PR Fv P Fv' P' none i j0 m w) (cn : CNq P P' m w) (pn : PNx m w) (ru : RUs m w p j nb Hs Os y a n) (sc : SCs p m w) (hW : W + 1 ≤ 46000) (hl : F m (pq p 45) = ((l : Nat) : Int)) (hl2 : W + 1 ≤ l ∧ l ≤ 1000000) (pl : PLs b p m w1 U B (W + 1) Y) (g : HPc (m.2.2.2 (pq p 2)) U ow kd Fv P) (g' : HP (hp w1 p) U ow' kd' Fv' P') (gt : GT U ow kd P (m.2.2.2 (pq p 35) W)) (gt' : GT U ow' kd' P' (w1.2.2.2 91 (46000 * p + W))) (g1 : FGw p j w w1) (h98 : A w1 98 (60 * p + j) = ((n + 1 : Nat) : Int)) (cr : ∃ f, CRs (A m 23) (ROs w) (w.2.2.2 34) f y (a + 2) (n + 1) (Hs j) (Os j))
    (c : ∀ mB wB m3 w3, (SFs Fv P Fv' P' PR m3 w3 → WLs (RRp p) PR Fv P Fv' P' none i j0 m3 w3) → PNx m3 w3 → PLs b p m3 w3 U B (W + 1) Y → RUs m3 w3 p j nb Hs Os y (a + 2) (n + 1) → PFm m mB → PFw w wB → FGm p mB m3 → FGw p j wB w3 → PP Q (K1 m3) (K2 w3)) : PP Q (bnd (hm_Ma_predefined N m p (I 10)) (fun u _ => K1 u)) (bnd (fm_M_predefinedRun N w1 (I 11)) (fun u _ => K2 u)) := by
  obtain ⟨⟨fa, -⟩, ⟨r2, -⟩, -, ⟨q9, q9w⟩, -, ⟨-, r9, -⟩, r11, -, -⟩ := id ru
  have hj : j < 60 := fa.1.2.2
  have p24 : PR ≤ 24 := wl.1.2.1.1.1.2
  have hU := pl.1.1.2.2
  have cb2 : a + 2 + 1 < 24000 := by
    obtain ⟨f9, cr9⟩ := cr
    exact (CR_b cr9).1
  have x33 : F w1 133 = ((p : Nat) : Int) := by rw [FR.F g1.1 (by simp)]; exact r11
  have rt := pl.2.2.1.2.2 W (by omega)
  have is := pl.1.2.1
  have be : hm_Fr_below N m p 0 = some (m, m.2.2.2 (pq p 35) W) := by
    have := below_e (N := N) (x := 0) (k := 0) (W := W + 1) (l := l) pl.2.2.1.1 hl hl2.1 hl2.2 rfl (by omega)
    rw [show W + 1 - 1 - 0 = W by omega] at this
    exact this
  have g3 : FGw p j w (wa w1 92 p ((W : Nat) : Int)) := FGw.tr g1 FGw.w92
  have x33' : F (wa w1 92 p ((W : Nat) : Int)) 133 = ((p : Nat) : Int) := x33
  have h983 : A (wa w1 92 p ((W : Nat) : Int)) 98 (60 * p + j) = ((n + 1 : Nat) : Int) := by rw [wa_rne (by omega)]; exact h98
  have tk := take_r (N := N) (W := W) (show p < 24 by omega) x33 pl.2.2.1.2.1 (by omega)
  have pdm : ∀ m5, PFm m m5 → PLs b p (wi m5 (pq p 26) ((W : Nat) : Int)) (wa w1 92 p ((W : Nat) : Int)) U B W Y := fun m5 f => PLs_drop (k := 1) (W := W) (PLs_prt pl f) (by omega)
  have hp3 : hp (wa w1 92 p ((W : Nat) : Int)) p = hp w1 p := rfl
  -- texts
  obtain ⟨cn1, cn2, cn3, cn4, cn5, cn6⟩ := cn
  obtain ⟨kf, ks, sz⟩ := HP_szc g gt
  obtain ⟨kf', ks', sz'⟩ := HP_sz g' gt'
  have z1 := SZ_max g sz
  have z2 := SZ_1000 g' (by omega) sz'
  have sp := SZp_c (R := LFs (F m 22)) (show U ≤ 1000 by omega) cn6 sz
  have sp' := SZp_m (R := LFr (F w 14)) (show U ≤ 1000 by omega) cn5 sz'
  have e14 : F (wa w1 92 p ((W : Nat) : Int)) 14 = F w 14 := FR.F g3.1 (by simp)
  have r13 : (wa w1 92 p ((W : Nat) : Int)).2.2.1 13 = w.2.2.1 13 := g3.1.2.2.1 13 (by simp)
  have r12 : (wa w1 92 p ((W : Nat) : Int)).2.2.1 12 = w.2.2.1 12 := g3.1.2.2.1 12 (by simp)
  have eAT : ATr (wa w1 92 p ((W : Nat) : Int)) = ATr w := ATr_eq r12 r13
  have atm3 : ATM (wa w1 92 p ((W : Nat) : Int)) := by
    have ea : ∀ k, A (wa w1 92 p ((W : Nat) : Int)) 13 k = A w 13 k := fun k => by show ((wa w1 92 p ((W : Nat) : Int)).2.2.1 13 k).toInt = _; rw [r13]; rfl
    obtain ⟨v1, v2, v3⟩ := cn2
    refine ⟨by rw [e14]; exact v1, by rw [e14]; exact v2, fun k hk => ?_⟩
    rw [e14] at hk
    rw [ea, ea]
    exact v3 k hk
  have eT : TXs (m.2.2.2 (pq p 2)) (ATc m) (m.2.2.2 (pq p 35) W) = TXs (hp w1 p) (ATr w) (w1.2.2.2 91 (46000 * p + W)) := TXs_isr is.w cn1 rt sp'
  have x128 : (wa w1 92 p ((W : Nat) : Int)).1 128 = m.1 953 := by rw [g3.1.1 128 (by simp)]; exact pn.1.symm
  have f128 : F (wa w1 92 p ((W : Nat) : Int)) 128 = F m 953 := congrArg Int32.toInt x128
  have pn3 : PNx m (wa w1 92 p ((W : Nat) : Int)) := ⟨x128.symm, fun l hl => by rw [g3.1.2.2.1 127 (by simp), g3.1.2.2.1 126 (by simp)]; exact pn.2 l hl⟩
  have d53 := wl.1.1.1.1.2.2.2.2.2
  generalize hw3 : wa w1 92 p ((W : Nat) : Int) = w3 at g3 h983 x33' pdm hp3 e14 eAT atm3 f128 pn3 tk
  generalize ht : m.2.2.2 (pq p 35) W = t at rt be eT sp
  generalize hx : w1.2.2.2 91 (46000 * p + W) = x at rt eT sp' tk
  -- it answers
  have ans : ∀ (m5 wC : MS) (fm : PFm m m5) (fw : PFw w3 wC) (b1 : (0 ≤ F m5 953 ∧ F m5 953 ≤ 200) ∧ ∀ i : Nat, (i : Int) < F m5 953 → 0 ≤ A m5 53 i ∧ A m5 53 i ≤ 100) (pnC : PNx m5 wC), PP Q (bnd (bnd (hm_Ma_atom N m5 2) (fun u23 r23 => bnd (hm_Ma_answer N u23 p 1 r23) (fun u24 _ => hb_Ma_predefined_146 N () u24 p))) (fun u _ => K1 u)) (bnd (bnd (fm_M_term N wC 1 2) (fun u22 r22 => bnd (fm_M_put N u22 r22) (fun u23 _ => some (u23, ())))) (fun u _ => K2 u)) := fun m5 wC fm fw b1 pnC => by
    obtain ⟨wB, fB, gB⟩ := prt_sw g3 fw
    have e26 : F m5 (pq p 26) = ((W + 1 : Nat) : Int) := by
      rw [← pl.2.2.1.1]
      exact congrArg Int32.toInt ((prt_n (r := p) fm).1 26 (by omega) (by simp))
    have e45 : F m5 (pq p 45) = ((l : Nat) : Int) := by
      rw [← hl]
      exact congrArg Int32.toInt ((prt_n (r := p) fm).1 45 (by omega) (by simp))
    rw [show hm_Ma_atom N m5 2 = some (m5, mk 1 2) from rfl, bnd_so, show fm_M_term N wC 1 2 = some (wC, mk 1 2) from rfl, bnd_so]
    unfold hm_Ma_answer hb_Ma_answer_0
    rw [show (1 : Int32) = I 1 from rfl, drop_e (W := W + 1) (k := 1) (x := 1) e26 rfl (by omega), bnd_so, Nat.add_sub_cancel]
    simp only [bb_e, bnd_so]
    refine pre_pp (l := l) (by omega) (RUs_prt ru fm fB) (by omega) ⟨by omega, hl2.2⟩ (lit_b (b := b) (v := 1) (Or.inr (Or.inl rfl)) (z := 2) (fun h => by omega) ⟨by omega, by omega⟩) FGm.drop gB (PLs_prtw (pdm m5 fm) fw) (by rw [wi_ne (pq_inj (by omega))]; exact e45) (by rw [FR.A fw (by simp)]; exact h983) (by rw [wi_ne (pq_n (by omega)), FR.F fm (by simp)]; exact r2) (by omega) (prt_cr fm fB cr) (fun m8 w8 pl8 ru8 f8 g8 => ?_)
    have gC : FR [136, 138, 140] [139] [89, 90, 92, 98, 135, 142] [88, 91, 93, 107, 134, 137, 141] wB wC := gB.1
    have hB : ∀ k, k = 128 → w8.1 k = wC.1 k := fun k hk => by subst hk; rw [g8.1.1 128 (by simp), gC.1 128 (by simp)]
    have hR : ∀ K, K = 126 ∨ K = 127 → w8.2.2.1 K = wC.2.2.1 K := fun K hK => by rw [g8.1.2.2.1 K (by simp; omega), gC.2.2.1 K (by simp; omega)]
    have m953 : m8.1 953 = m5.1 953 := f8.1 953 (by simp; unfold pq; omega)
    have mr : ∀ K, K < 100 → m8.2.2.1 K = m5.2.2.1 K := fun K _ => f8.2.2.1 K (by simp)
    refine c m5 wB m8 w8 (fun s2 => WL_own (WL_t (WL_prt wl fm b1 fB)) hpp ?_ ?_ s2 (GGm_fg f8) (GGw_fg g8 hj) pl8 (SC_fg (SCs_prt sc fm fB) f8 g8) ru8) ⟨by rw [m953, hB 128 rfl]; exact pnC.1, fun l hl => ?_⟩ pl8 ru8 fm fB f8 g8
    · rw [FR.F fm (by simp; exact ⟨fun c => pq_n (by omega) c.symm, fun c => pq_n (by omega) c.symm, fun c => pq_n (by omega) c.symm, fun c => pq_n (by omega) c.symm⟩), q9]
      omega
    · rw [FR.A fB (by simp), q9w]
      omega
    · have h1 : ((l : Nat) : Int) < F m5 953 := by
        have : F m8 953 = F m5 953 := congrArg Int32.toInt m953
        rw [← this]
        exact hl
      have e53 : A m8 53 l = A m5 53 l := by show (m8.2.2.1 53 l).toInt = _; rw [mr 53 (by omega)]; rfl
      rw [mr 53 (by omega), mr 52 (by omega), hR 127 (by omega), hR 126 (by omega), e53]
      exact pnC.2 l h1
  rw [pm10, pr11]
  refine l_bb (r_bb ?_)
  refine r_bnd (pk_mo tk (fun w4 r e => ?_))
  obtain ⟨rfl, rfl⟩ := e
  rw [be, bnd_so]
  by_cases c2 : 200 ≤ F m 953
  · rw [print_m0 c2, bnd_so, print_r0 (by rw [f128]; exact c2), bnd_so]
    exact ans m w4 FR.rf FR.rf d53 pn3
  · obtain ⟨nn, hn⟩ : ∃ nn : Nat, F m 953 = ((nn : Nat) : Int) := ⟨(F m 953).toNat, by have := d53.1.1; omega⟩
    refine lb_bnd (pk_mo (print_m (N := N) (p := p) (n := nn) (T := TXs (m.2.2.2 (pq p 2)) (ATc m) t) wl.1.1.2.2.2.1 hn (by omega) sp (by omega) rfl) (fun m5 _ h5 => ?_))
    refine rb_bnd (pk_mo (print_r (N := N) (p := p) (n := nn) (T := TXs (m.2.2.2 (pq p 2)) (ATc m) t) (show p < 24 by omega) x33' atm3 (by rw [f128]; exact hn) (by omega) (by rw [e14, hp3]; exact sp') z2 (by rw [hp3, eAT]; exact eT.symm)) (fun w5 _ h6 => ?_))
    refine ans m5 w5 h5.1 h6.1 ⟨by rw [h5.2.1]; omega, fun k hk => ?_⟩ (PN_add pn3 hn (by omega) d53.2 h5 h6)
    have e53 : A m5 53 k = (if k = nn then I ((min (TXs (m.2.2.2 (pq p 2)) (ATc m) t).length 100 : Nat) : Int) else m.2.2.1 53 k).toInt := by
      show (m5.2.2.1 53 k).toInt = _
      rw [h5.2.2.1 k]
    rw [h5.2.1] at hk
    rw [e53]
    by_cases e : k = nn
    · rw [if_pos e, I_ti (by omega) (by omega)]
      omega
    · rw [if_neg e]
      exact d53.2 k (by rw [hn]; omega)
end
