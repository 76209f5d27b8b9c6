/-! what goes up: all of it -/
set_option maxRecDepth 100000
section
variable {α β γ δ : Type} {R : MS → α → MS → β → Prop} {a : Option (MS × α)} {z : Option (MS × β)}
theorem l_bb {o : Option (MS × γ)} {f : MS → γ → Option (MS × δ)} {K : MS → δ → Option (MS × α)} (h : PP R (bnd o (fun u r => bnd (f u r) K)) z) : PP R (bnd (bnd o f) K) z := by rw [bb_e]; exact h
theorem r_bb {o : Option (MS × γ)} {f : MS → γ → Option (MS × δ)} {K : MS → δ → Option (MS × β)} (h : PP R a (bnd o (fun u r => bnd (f u r) K))) : PP R a (bnd (bnd o f) K) := by rw [bb_e]; exact h
theorem lb_bnd {o : Option (MS × γ)} {f : MS → γ → Option (MS × δ)} {K : MS → δ → Option (MS × α)} (h : PK (fun u r => PP R (bnd (f u r) K) z) o) : PP R (bnd (bnd o f) K) z := by
  rw [bb_e]
  exact l_bnd h
theorem lb_ck {c : Bool} {p : Option (MS × δ)} {K : MS → δ → Option (MS × α)} (h : c = true → PP R (bnd p K) z) : PP R (bnd (ck c p) K) z := by
  cases c with
  | true => exact h rfl
  | false => exact pp_nl
theorem lb_br {c : Bool} {p q : Option (MS × δ)} {K : MS → δ → Option (MS × α)} (h1 : c = true → PP R (bnd p K) z) (h2 : c = false → PP R (bnd q K) z) : PP R (bnd (br c p q) K) z := by
  cases c with
  | true => exact h1 rfl
  | false => exact h2 rfl
end
/-- something is told; it is taken up -/
def tld (m : MS) (how ar : Int) (t : Int64) : MS := wl (wi (wi m 1109 how) 1111 ar) 1110 t
def trs (m : MS) (how ar : Int) (t : Int64) : MS := wi (tld m how ar t) 1109 0
section
variable {p j d : Nat} {m w m2 w2 m3 w3 : MS} {nb : Nat → Nat} {Hs Os : Nat → List Nat} {y : Option (Nat × Nat × Nat)} {how ar : Int} {t : Int64}
theorem RUs_b {a n : Nat} (h : RUs m w p j nb Hs Os y a n) : RUb m w p j nb Hs Os y := ⟨h.1, h.2.2.2⟩
theorem RUb_fg (h : RUb m w p j nb Hs Os y) (f : FGm p m m2) (g : FGw p j w w2) : RUb m2 w2 p j nb Hs Os y := by
  obtain ⟨r1, ⟨r5, r6⟩, r7, ⟨r8, r9, r10⟩, r11, r12, r13⟩ := h
  obtain ⟨g1, g2, g3, -⟩ := g
  have hj : j < 60 := r1.1.1.2.2
  have ai : ∀ {x y : Int32}, x.toInt = y.toInt → x = y := fun h => Int32.toInt_inj.mp h
  have i1 : ∀ k, k < 100 → k ≠ 4 → k ≠ 5 → k ≠ 26 → k ≠ 45 → m2.1 (pq p k) = m.1 (pq p k) := fun k h0 h1 h2 h3 h4 => f.1 _ (by
    simp only [List.mem_cons, List.not_mem_nil, or_false]
    intro c
    rcases c with c | c | c | c | c
    · exact pq_inj h1 c
    · exact pq_inj h2 c
    · exact pq_inj h3 c
    · exact pq_inj h4 c
    · exact pq_n (by omega) c.symm)
  have fm : ∀ k, 1106 ≤ k → k < 1120 → m2.1 k = m.1 k := fun k c1 c2 => f.1 k (by simp; unfold pq; omega)
  have fF : ∀ k, 1106 ≤ k → k < 1120 → F m2 k = F m k := fun k c1 c2 => congrArg Int32.toInt (fm k c1 c2)
  have fw : ∀ k, k = 133 ∨ (151 ≤ k ∧ k ≤ 165) → w2.1 k = w.1 k := fun k c => g1.1 k (by simp; omega)
  have wF : ∀ k, k = 133 ∨ (151 ≤ k ∧ k ≤ 165) → F w2 k = F w k := fun k c => congrArg Int32.toInt (fw k c)
  have pr : ∀ K, PRr K → w2.2.2.1 K = w.2.2.1 K := fun K c => g1.2.2.1 K (by unfold PRr at c; simp; omega)
  have h34 : w2.2.2.2 34 = w.2.2.2 34 := g1.2.2.2 34 (by simp)
  refine ⟨FC_w r1 (fun k c => i1 k (by omega) (by omega) (by omega) (by omega) (by omega)) (fun k c => f.2.2.1 _ (by simp)) (f.2.2.1 23 (by simp)) (fun K c => by rw [g1.2.2.1 K (by simp; omega)]) (fun K r c1 c2 c3 c4 => ?_) (fun K c c1 c2 c3 => by rw [g1.2.2.1 K (by simp; omega)]) pr h34, ⟨?_, ?_⟩, GD_w r7 (i1 8 (by omega) (by omega) (by omega) (by omega) (by omega)) (f.2.1 _ (by simp)) (by rw [g1.2.2.2 111 (by simp)]) fm fw (f.2.2.1 23 (by simp)) pr h34, ⟨by rw [fF 1108 (by omega) (by omega)]; exact r8, by rw [fF 1109 (by omega) (by omega)]; exact r9, by rw [wF 151 (by omega)]; exact r10⟩, by rw [wF 133 (by omega)]; exact r11, by rw [fm 1106 (by omega) (by omega), fw 165 (by omega)]; exact r12, by rw [fm 1107 (by omega) (by omega), fw 164 (by omega)]; exact r13⟩
  · by_cases c5 : K = 98
    · subst c5
      exact ai (g3 _ (by have := c4 rfl; omega))
    · rw [g1.2.2.1 K (by simp; omega)]
  · show (m2.1 (pq p 9)).toInt = _
    rw [i1 9 (by omega) (by omega) (by omega) (by omega) (by omega)]
    exact r5
  · rw [FR.A g1 (by simp)]
    exact r6
theorem trs_1 (h1 : d ≠ 1109) (h2 : d ≠ 1111) : (trs m how ar t).1 d = m.1 d := (wi_1 h1).trans ((wi_1 h2).trans (wi_1 h1))
theorem trs_q {k : Nat} : (trs m how ar t).1 (pq p k) = m.1 (pq p k) := trs_1 (fun c => pq_n (by omega) c.symm) (fun c => pq_n (by omega) c.symm)
theorem trs_9 : F (trs m how ar t) 1109 = 0 := wi_sm (by omega) (by omega)
theorem wl_s1 {u : MS} {k : Nat} {t : Int64} : (wl u k t).2.1 k = t := if_pos rfl
theorem trs_10 : (trs m how ar t).2.1 1110 = t := (wl_s1 : (wl (wi (wi m 1109 how) 1111 ar) 1110 t).2.1 1110 = t)
theorem trs_l (h : d ≠ 1110) : (trs m how ar t).2.1 d = m.2.1 d := if_neg h
theorem trs_3 : (trs m how ar t).2.2 = m.2.2 := rfl
theorem trs_11 (h : RG ar) : F (trs m how ar t) 1111 = ar := (wi_ne (by omega)).trans (wi_sm h.1 h.2)
theorem tld_9 (h : RG how) : F (tld m how ar t) 1109 = how := (wi_ne (by omega)).trans (wi_sm h.1 h.2)
theorem GGm_trs : GGm p m (trs m how ar t) := by
  refine ⟨fun d _ k hk => ⟨trs_q, trs_l (fun c => pq_n (by omega) c.symm), rfl, rfl⟩, ⟨rfl, trs_1 (by omega) (by omega), rfl, rfl⟩, trs_1 (by omega) (by omega), rfl, trs_1 (by omega) (by omega), fun _ _ => rfl, fun k hk => trs_1 (by omega) (by omega)⟩
theorem RUb_trs (h : RUb m w p j nb Hs Os y) : RUb (trs m how ar t) w p j nb Hs Os y := by
  obtain ⟨r1, ⟨r5, r6⟩, r7, ⟨r8, r9, r10⟩, r11, r12, r13⟩ := h
  have fT : ∀ k, k ≠ 1109 → k ≠ 1111 → F (trs m how ar t) k = F m k := fun k h1 h2 => congrArg Int32.toInt (trs_1 h1 h2)
  refine ⟨FC_w r1 (fun k c => trs_q) (fun k c => rfl) rfl (fun K c => rfl) (fun K r c1 c2 c3 c4 => rfl) (fun K c c1 c2 c3 => rfl) (fun _ _ => rfl) rfl, ⟨?_, r6⟩, ?_, ⟨by rw [fT 1108 (by omega) (by omega)]; exact r8, trs_9, r10⟩, r11, by rw [trs_1 (by omega) (by omega)]; exact r12, by rw [trs_1 (by omega) (by omega)]; exact r13⟩
  · show ((trs m how ar t).1 (pq p 9)).toInt = _
    rw [trs_q]
    exact r5
  · rcases r7 with ⟨c1, c2, c3⟩ | ⟨kd, k, sc, c1, fl, W0, O0, X, c2, ⟨c3, c4, c5, c6⟩, cw, c12, f2, g, c13⟩
    · exact Or.inl ⟨c1, by rw [fT 1112 (by omega) (by omega)]; exact c2, c3⟩
    · refine Or.inr ⟨kd, k, sc, c1, fl, W0, O0, X, c2, ⟨by rw [fT 1112 (by omega) (by omega)]; exact c3, c4, by rw [fT 1113 (by omega) (by omega)]; exact c5, by rw [fT 1114 (by omega) (by omega)]; exact c6⟩, cw, fun e3 => ?_, f2, g, c13⟩
      obtain ⟨d1, n2, d2⟩ := c12 e3
      have e8 : F (trs m how ar t) (pq p 8) = F m (pq p 8) := congrArg Int32.toInt trs_q
      exact ⟨⟨by rw [e8]; exact d1.1, by rw [trs_l (fun c => pq_n (by omega) c.symm)]; exact d1.2⟩, n2, d2⟩
end
section
variable {b : Int → Nat → Nat → Prop} {N p U B W Y n : Nat} {m w : MS} {how ar : Int} {t : Int64} {ow kd : Nat → Nat} {Fv : Int64 → Int64 → Prop} {P : Int64 → Prop}
theorem PLs_trs (pl : PLs b p m w U B W Y) : PLs b p (trs m how ar t) w U B W Y := PLs_cg pl (fun _ _ => trs_q) (fun _ _ => rfl) (fun _ _ => rfl) (fun _ _ => rfl) (fun _ _ => rfl) (fun _ _ => rfl) (fun _ _ => rfl) (fun _ _ => rfl) (fun _ _ => rfl) (fun _ _ => rfl)
theorem PLs_trW (pl : PLs b p (wi m (pq p 26) ((W : Nat) : Int)) w U B W Y) : PLs b p (wi (trs m how ar t) (pq p 26) ((W : Nat) : Int)) w U B W Y := PLs_cg pl (fun k hk => by
  by_cases c : pq p k = pq p 26
  · show (if pq p k = pq p 26 then _ else _) = (if pq p k = pq p 26 then _ else _)
    rw [if_pos c, if_pos c]
  · rw [wi_1 c, wi_1 c]
    exact trs_q) (fun _ _ => rfl) (fun _ _ => rfl) (fun _ _ => rfl) (fun _ _ => rfl) (fun _ _ => rfl) (fun _ _ => rfl) (fun _ _ => rfl) (fun _ _ => rfl) (fun _ _ => rfl)
theorem PTQ_trs (pt : PTQ m p n ow kd Fv P B W Y) : PTQ (trs m how ar t) p n ow kd Fv P B W Y := PTQ_same pt (fun _ _ => trs_q) (fun _ _ => rfl)
theorem CTX_trs (cx : CTX Fv P m) : CTX Fv P (trs m how ar t) := CTX_fr cx (trs_1 (by omega) (by omega)) rfl
theorem LNB_trs (lb : LNB m p) : LNB (trs m how ar t) p := by
  have e : ∀ k, F (trs m how ar t) (pq p k) = F m (pq p k) := fun k => congrArg Int32.toInt trs_q
  unfold LNB
  rw [e, e, e, e, e]
  exact lb
/-- taken up outside of a GUARD -/
theorem raise_n (h12 : F m 1112 = 0) (hr : RG how) : hm_Ma_raise N (tld m how (-1) t) p = hb_Ma_raise_65 N () (trs m how (-1) t) p (I how) := by
  unfold hm_Ma_raise hb_Ma_raise_0
  have e1 : F (trs m how (-1) t) 1112 = 0 := (congrArg Int32.toInt (trs_1 (by omega) (by omega))).trans h12
  have e2 : F (trs m how (-1) t) 1111 = -1 := trs_11 ⟨by omega, by omega⟩
  rw [lit0, show upI (tld m how (-1) t) 1109 (I 0) = trs m how (-1) t from rfl, lt_e, I_F' e1, show decide (I 0 = I 0) = true from rfl, br_t, I_F' e2, show decide (I (-1) = -1) = true from rfl, br_t, I_F' (tld_9 hr)]
/-- in a GUARD -/
theorem raise_g {fl : Nat} (h12 : F m 1112 = ((fl : Nat) : Int)) (hf : 0 < fl) : hm_Ma_raise N (tld m how ar t) p = bnd (hm_Ma_guardFails N (trs m how ar t) p) (fun u37 _ => some (u37, ())) := by
  unfold hm_Ma_raise hb_Ma_raise_0
  have r := F_r m 1112
  rw [h12] at r
  have e1 : F (trs m how ar t) 1112 = ((fl : Nat) : Int) := (congrArg Int32.toInt (trs_1 (by omega) (by omega))).trans h12
  rw [lit0, show upI (tld m how ar t) 1109 (I 0) = trs m how ar t from rfl, lt_e, I_F' e1, decE (by omega) (by omega) (by omega) (by omega), decide_eq_false (by omega), br_f]
end
section
variable {α β : Type} {b : Int → Nat → Nat → Prop} {N p PR U B W Wc Y j ee ee' : Nat} {m w m2 w2 : MS} {t x : Int64} {nb : Nat → Nat} {Hs Os : Nat → List Nat} {y : Option (Nat × Nat × Nat)} {Q : MS → α → MS → β → Prop} {K1 : MS → Option (MS × α)} {K2 : MS → Option (MS × β)} {S : SG_M_error} {ow kd ow' kd' : Nat → Nat} {Fv Fv' : Int64 → Int64 → Prop} {P P' : Int64 → Prop} {how kn : Int}
theorem RQ_lit {e e' : Nat} (hp' : p < PR) (p24 : p < 24) (h1 : ¬ isH t) (h6 : so t = 6 → va t = 0) (hP : P t) (hP' : P' t) : RQs Fv P Fv' P' PR (enS m p t p e) (enR w p 0 ((p : Nat) : Int) t e') p 0 p t := by
  have v := enS_v (m := m) (q := p) (t := t) (hm := p) (e := e)
  exact ⟨p, 0, by rw [v.2.1]; exact rf_some p24, hp', v.1, Or.inr ⟨hp', by rw [enR_9, if_pos rfl]⟩, by rw [v.2.2]; exact SRs_lit h1 h6 hP hP' (by omega) (by omega), Or.inl ⟨h1, hP'⟩⟩
/-- what is asked of the catches -/
def CTa (m w : MS) (p W : Nat) : Prop := ∀ c : Nat, F m (pq p 28) = ((c + 1 : Nat) : Int) → c < 1600 ∧ (∃ W0 : Nat, A w 104 (1600 * p + c) = ((W0 : Nat) : Int) ∧ W0 ≤ W) ∧ ∀ nd : Nat, A w 103 (1600 * p + c) = ((nd : Nat) : Int) → nd < 2147483648
/-- what goes up comes to a catch, or it ENDS -/
theorem up_pp (hv : (how = 1 ∧ kn = 0) ∨ (how = 2 ∧ kn = 1) ∨ (how = 3 ∧ kn = 2)) (hpp : p < 24) (hpr : p < PR) (pl : PLs b p (wi m (pq p 26) ((W : Nat) : Int)) w U B W Y) (ru : RUb m w p j nb Hs Os none) (hW : W ≤ Wc) (bd : B ≤ 2500 ∧ W < 46000) (lb : LNB m p) (pt : PTQ m p U ow kd Fv P B Wc Y) (cx : CTX Fv P m) (xc : CX w p (hp w p) U ow' kd' Fv' P' W B Y) (pb : PB P' PR) (g : GT U ow kd P (m.2.1 1110)) (g' : GT U ow' kd' P' x) (rt : RTb b (m.2.1 1110) x) (ca : CTa m w p W) (hee : F m 955 = ((ee : Nat) : Int) ∧ ee < 24) (hee' : F w 150 = ((ee' : Nat) : Int) ∧ ee' < 4000) (hN : 2200000 ≤ N)
    (kk : ∀ b3 U3 W3 r k a0 nn m3 w3, PLs b3 p m3 w3 U3 (nb r + (Hs r).length + k) (W3 + 1) Y → RUs m3 w3 p r nb Hs (tkO Os r k) none a0 nn → GGm p m m3 → GGw p w w3 → (SCs p m w → SCs p m3 w3) → PP Q (K1 m3) (K2 w3))
    (ke : ∀ m3 w3 wr t3 x3, GGm p m m3 → GGw p w w3 → (SCs p m w → SCs p m3 w3) → m3.1 (pq p 5) = w3.2.2.1 90 p → (wr = 0 ∨ wr = 1 ∨ wr = 2) → RQs Fv P Fv' P' PR (enS m3 p t3 p ee) (enR w3 p wr ((p : Nat) : Int) x3 ee') p wr p x3 → PP Q (K1 (enS m3 p t3 p ee)) (K2 (wi (enR w3 p wr ((p : Nat) : Int) x3 ee') 151 1))) : PP Q (bnd (hb_Ma_raise_65 N () m p (I how)) (fun u _ => K1 u)) (bnd (fm_M_goesUp N S w (I kn) x) (fun u _ => K2 u)) := by
  obtain ⟨⟨fa, ct⟩, ⟨r5, r6⟩, r7, -, r11, -, -⟩ := id ru
  have h152 : F w 152 = 0 := by
    rcases r7 with ⟨_, _, c3⟩ | ⟨_, _, _, c, _⟩
    · exact c3
    · cases c
  obtain ⟨nC, c1, c2, -⟩ := id ct
  cases nC with
  | zero =>
    have h28 : F m (pq p 28) = 0 := c1
    have h106 : A w 106 p = 0 := c2
    rcases hv with ⟨rfl, rfl⟩ | ⟨rfl, rfl⟩ | ⟨rfl, rfl⟩
    · exact err_n (wr := 1) (v := 7) (Or.inl ⟨rfl, rfl, rfl, rfl⟩) hpp hpr pl h28 h106 h152 r11 ⟨by omega, by omega⟩ pt cx xc g g' rt hee hee' (fun m1 t1 a1 a2 _ a3 a4 => ke m1 w 1 t1 x a1 GGw.rf a2 a3 (by omega) a4)
    · exact exit_n hpp hpr pl h28 h106 h152 r11 ⟨by omega, by omega⟩ pt xc g g' rt hee hee' (fun a3 a4 => ke m w 0 _ x GGm.rf GGw.rf id a3 (by omega) a4)
    · exact err_n (wr := 2) (v := 19) (Or.inr ⟨rfl, rfl, rfl, rfl⟩) hpp hpr pl h28 h106 h152 r11 ⟨by omega, by omega⟩ pt cx xc g g' rt hee hee' (fun m1 t1 a1 a2 _ a3 a4 => ke m1 w 2 t1 x a1 GGw.rf a2 a3 (by omega) a4)
  | succ c =>
    obtain ⟨hc, ⟨W0, hW0, hW1⟩, hnd⟩ := ca c c1
    have p20 : P (mk 1 20) := cx.2.2.2.2.2.1 20 (by omega) (by have := cx.2.2.2.1; omega)
    have p20' : P' (mk 1 20) := pb.1 20 (by omega) (by omega)
    have kE : ∀ m3 w3, GGm p m m3 → GGw p w w3 → (SCs p m w → SCs p m3 w3) → m3.1 (pq p 5) = w3.2.2.1 90 p → PP Q (K1 (enS m3 p (mk 1 20) p ee)) (K2 (wi (enR w3 p 0 ((p : Nat) : Int) (mk 1 20) ee') 151 1)) := fun m3 w3 a1 a2 a3 a4 => ke m3 w3 0 _ _ a1 a2 a3 a4 (by omega) (RQ_lit hpr hpp (nh_mk (by omega)) (fun c => by rw [so_mk (by omega) (by omega)] at c; omega) p20 p20')
    rcases hv with ⟨rfl, rfl⟩ | ⟨rfl, rfl⟩ | ⟨rfl, rfl⟩
    · exact err_c (v := 7) (Or.inl ⟨rfl, rfl, rfl⟩) hpp pl ru c1 hc hW0 ⟨hW1, hW⟩ bd lb pt cx xc g g' rt hnd hee hee' hN (fun b3 U3 r k a0 nn m3 w3 => kk b3 U3 W0 r k a0 nn m3 w3) kE
    · exact err_c (v := 8) (Or.inr ⟨rfl, rfl, rfl⟩) hpp pl ru c1 hc hW0 ⟨hW1, hW⟩ bd lb pt cx xc g g' rt hnd hee hee' hN (fun b3 U3 r k a0 nn m3 w3 => kk b3 U3 W0 r k a0 nn m3 w3) kE
    · obtain ⟨⟨la, la1, la2⟩, -⟩ := id lb
      have l2 : 64 * 2 ^ la ≤ 1000000 := by
        have : 2 ^ la ≤ 2 ^ 10 := Nat.pow_le_pow_right (by omega) la1
        omega
      have hl : W0 ≤ 64 * 2 ^ la := by
        obtain ⟨-, -, ⟨q6, -⟩, -, -, ⟨l, z1, z2, z3⟩, -⟩ := pt
        have : ((Wc : Nat) : Int) ≤ F m (pq p 45) := by rw [z1]; omega
        rw [la2] at this
        omega
      exact throw_c hpp pl ru c1 hc hW0 hW1 bd la2 ⟨hl, l2⟩ rt hnd (fun r k a0 nn m3 w3 => kk b U W0 r k a0 nn m3 w3)
end
