/-! something goes wrong: what is told goes up, or a GUARD fails -/
set_option maxRecDepth 100000
section
variable {Sf : MS → Int32 → Prop} {α β : Type} {b : Int → Nat → Nat → Prop} {N p PR U B W Wc Y j ee ee' d kd k sc : Nat} {m w m2 w2 : MS} {t x : Int64} {nb : Nat → Nat} {Hs Os : Nat → List Nat} {y : Option (Nat × Nat × Nat)} {Q : MS → α → MS → β → Prop} {Z : Option (MS × α)} {K2 : MS → Option (MS × β)} {S : SG_M_error} {ow kw ow' kd' : Nat → Nat} {Fv Fv' : Int64 → Int64 → Prop} {P P' : Int64 → Prop} {how kn ar c : Int} {v3 : Int32} {v1 : Int32}
/-- what is told is taken up -/
theorem err195 {γ : Type} {G : MS → Nat → Int32 → Option (MS × Int32)} {R : MS → Int32 → MS → γ → Prop} {z : Option (MS × γ)} (hh : how = 1 ∨ how = 2 ∨ how = 3) (k : PP R (bnd (hm_Ma_raise N (tld m how ar t) p) (fun u _ => q206 Sf N G u p v3)) z) : PP R (q195 Sf N G (tld m how ar t) p v3) z := by
  unfold q195
  refine pp_cll (fun _ => ?_)
  rw [I_F' (tld_9 (m := m) (ar := ar) (t := t) ⟨by omega, by omega⟩), lit0, decE (by omega) (by omega) (by omega) (by omega), decide_eq_false (by omega), br_f]
  exact k
theorem CTa_trs (ca : CTa m w p W) : CTa (trs m how ar t) w p W := fun c h => ca c ((congrArg Int32.toInt trs_q).symm.trans h)
/-- an ATOM tells what is wrong, here -/
theorem er_pp (h : ∀ d, PP Q Z (bnd (fm_M_goesUp N (rc_M_error N d) w (I 0) (mk 1 c)) (fun u _ => K2 u))) : PP Q Z (bnd ((rc_M_error N d).1 w (I c)) (fun u _ => K2 u)) := by
  cases d with
  | zero => exact pp_nr
  | succ d =>
    show PP Q Z (bnd (fm_M_error N (rc_M_error N d) w (I c)) (fun u _ => K2 u))
    unfold fm_M_error fb_M_error_0
    rw [lit1, term_e, bnd_so]
    refine r_bb ?_
    cases d with
    | zero => exact pp_nr
    | succ d => exact h d
/-- in a GUARD, here -/
theorem gu_g (h152 : F w 152 = 1) (h : ∀ d, PP Q Z (bnd (fm_M_guardFails N (rc_M_error N d) w) (fun u _ => K2 u))) : PP Q Z (bnd (fm_M_goesUp N (rc_M_error N d) w v1 x) (fun u _ => K2 u)) := by
  unfold fm_M_goesUp fb_M_goesUp_0
  rw [I_F' h152, show decide (I 1 = 0) = false from rfl, br_f]
  refine r_bb ?_
  cases d with
  | zero => exact pp_nr
  | succ d => exact h d
end
section
variable {Sf : MS → Int32 → Prop} {β : Type} {b : Int → Nat → Nat → Prop} {N p PR U B W Wc Y j ee ee' d kd k sc : Nat} {m w m2 w2 : MS} {t x : Int64} {nb : Nat → Nat} {Hs Os : Nat → List Nat} {y : Option (Nat × Nat × Nat)} {Q : MS → Int32 → MS → β → Prop} {K2 : MS → Option (MS × β)} {ow kw ow' kd' : Nat → Nat} {Fv Fv' : Int64 → Int64 → Prop} {P P' : Int64 → Prop} {how kn ar : Int} {v3 v1 : Int32} {G : MS → Nat → Int32 → Option (MS × Int32)}
/-- outside of a GUARD -/
theorem wrong_up {S : SG_M_error} (hv : (how = 1 ∧ kn = 0) ∨ (how = 2 ∧ kn = 1) ∨ (how = 3 ∧ kn = 2)) (hpp : p < 24) (hpr : p < PR) (pl : PLs b p (wi m (pq p 26) ((W : Nat) : Int)) w U B W Y) (ru : RUb m w p j nb Hs Os none) (hW : W ≤ Wc) (bd : B ≤ 2500 ∧ W < 46000) (lb : LNB m p) (pt : PTQ m p U ow kw Fv P B Wc Y) (cx : CTX Fv P m) (xc : CX w p (hp w p) U ow' kd' Fv' P' W B Y) (pb : PB P' PR) (g : GT U ow kw P t) (g' : GT U ow' kd' P' x) (rt : RTb b t x) (ca : CTa m w p W) (hee : F m 955 = ((ee : Nat) : Int) ∧ ee < 24) (hee' : F w 150 = ((ee' : Nat) : Int) ∧ ee' < 4000) (hN : 2200000 ≤ N)
    (kk : ∀ b3 U3 W3 r k a0 nn m3 w3, PLs b3 p m3 w3 U3 (nb r + (Hs r).length + k) (W3 + 1) Y → RUs m3 w3 p r nb Hs (tkO Os r k) none a0 nn → GGm p m m3 → GGw p w w3 → (SCs p m w → SCs p m3 w3) → PP Q (q206 Sf N G m3 p v3) (K2 w3))
    (ke : ∀ m3 w3 wr t3 x3, GGm p m m3 → GGw p w w3 → (SCs p m w → SCs p m3 w3) → m3.1 (pq p 5) = w3.2.2.1 90 p → (wr = 0 ∨ wr = 1 ∨ wr = 2) → RQs Fv P Fv' P' PR (enS m3 p t3 p ee) (enR w3 p wr ((p : Nat) : Int) x3 ee') p wr p x3 → PP Q (q206 Sf N G (enS m3 p t3 p ee) p v3) (K2 (wi (enR w3 p wr ((p : Nat) : Int) x3 ee') 151 1))) : PP Q (q195 Sf N G (tld m how (-1) t) p v3) (bnd (fm_M_goesUp N S w (I kn) x) (fun u _ => K2 u)) := by
  have h12 : F m 1112 = 0 := by
    rcases ru.2.2.1 with ⟨_, c3, _⟩ | ⟨_, _, _, c, _⟩
    · exact c3
    · cases c
  have sc' : SCs p m w → SCs p (trs m how (-1) t) w := fun s => SC_ow s (fun _ _ => trs_q) rfl (fun _ _ _ => rfl)
  refine err195 (by omega) ?_
  rw [raise_n h12 ⟨by omega, by omega⟩]
  exact up_pp hv hpp hpr (PLs_trW pl) (RUb_trs ru) hW bd (LNB_trs lb) (PTQ_trs pt) (CTX_trs cx) xc pb (by rw [trs_10]; exact g) g' (by rw [trs_10]; exact rt) (CTa_trs ca) ⟨(congrArg Int32.toInt (trs_1 (by omega) (by omega))).trans hee.1, hee.2⟩ hee' hN (fun b3 U3 W3 r k a0 nn m3 w3 a1 a2 a3 a4 a5 => kk b3 U3 W3 r k a0 nn m3 w3 a1 a2 (GGm.tr GGm_trs a3) a4 (fun s => a5 (sc' s))) (fun m3 w3 wr t3 x3 a1 a2 a3 a4 a5 a6 => ke m3 w3 wr t3 x3 (GGm.tr GGm_trs a1) a2 (fun s => a3 (sc' s)) a4 a5 a6)
/-- in a GUARD: it fails -/
theorem wrong_gd (hh : how = 1 ∨ how = 2 ∨ how = 3) (hpp : p < 24) (pl : PLs b p (wi m (pq p 26) ((W : Nat) : Int)) w U B W Y) (ru : RUb m w p j nb Hs Os (some (kd, k, sc))) (bd : B ≤ 2500 ∧ W < 46000) (hk : k < 100000) (hw : F m 1114 ≤ ((W : Nat) : Int)) (nd : (Os j).Nodup ∧ (Hs j).Nodup) (hct : ∀ nC c : Nat, F m (pq p 28) = ((nC : Nat) : Int) → c < nC → A w 105 (1600 * p + c) + F m 1113 ≤ ((B : Nat) : Int))
    (kt : ∀ d m3 w3 B3 W3 a, PLs b p m3 (wa w3 94 p ((B3 : Nat) : Int)) U B3 W3 Y → A w3 92 p = ((W3 : Nat) : Int) → TRs m3 w3 p j nb Hs (fun i => if i = j then (Os j).take (B3 - (nb j + (Hs j).length)) else Os i) kd sc a (A w 45 k) → B3 ≤ B → W3 ≤ W → GGm p m m3 → GGw p w w3 → (SCs p m w → SCs p m3 w3) → (w3.2.2.2 88 = w.2.2.2 88 ∧ w3.1 140 = w.1 140) → PP Q (q206 Sf N G m3 p v3) (bnd ((rc_M_error N d).2.2.2.1 w3) (fun u _ => K2 u))) : PP Q (q195 Sf N G (tld m how ar t) p v3) (bnd (fm_M_goesUp N (rc_M_error N d) w v1 x) (fun u _ => K2 u)) := by
  obtain ⟨fl, h12, hf, h152⟩ : ∃ fl : Nat, F m 1112 = ((fl : Nat) : Int) ∧ 0 < fl ∧ F w 152 = 1 := by
    rcases ru.2.2.1 with ⟨c, _⟩ | ⟨_, _, _, _, fl, W0, O0, X, _, ⟨c3, c4, _⟩, ⟨c7, _⟩, _⟩
    · cases c
    · exact ⟨fl, c3, c4, c7⟩
  have sc' : SCs p m w → SCs p (trs m how ar t) w := fun s => SC_ow s (fun _ _ => trs_q) rfl (fun _ _ _ => rfl)
  refine err195 hh ?_
  rw [raise_g h12 hf, bb_e]
  refine gu_g h152 (fun d => ?_)
  have e28 : F (trs m how ar t) (pq p 28) = F m (pq p 28) := congrArg Int32.toInt trs_q
  have e13 : F (trs m how ar t) 1113 = F m 1113 := congrArg Int32.toInt (trs_1 (by omega) (by omega))
  have e14 : F (trs m how ar t) 1114 = F m 1114 := congrArg Int32.toInt (trs_1 (by omega) (by omega))
  exact gf_pp (K1 := fun u => q206 Sf N G u p v3) hpp (PLs_trW pl) (RUb_trs ru) bd hk (by rw [e14]; exact hw) nd (fun nC c h1 h2 => by rw [e13]; exact hct nC c (by rw [← e28]; exact h1) h2) (fun m3 w3 B3 W3 a a1 a2 a3 a4 a5 a6 a7 a8 a9 => kt d m3 w3 B3 W3 a a1 a2 a3 a4 a5 (GGm.tr GGm_trs a6) a7 (fun s => a8 (sc' s)) a9)
end
