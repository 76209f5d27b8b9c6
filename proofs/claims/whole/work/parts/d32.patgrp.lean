/-! patterns: ( ), a minus, TUPLES, both -/
set_option maxRecDepth 100000
section
variable {α β γ : Type} {m0 w0 m w mS wS m2 w2 m3 w3 M : MS} {K nm Nk : Nat → Nat} {T N n lo lo0 mid hi f s a a0 cm cm0 b pi pj rt j kk first last p d D xa xb q r : Nat} {sc sc0 sc2 : SCT} {own : Bool} {v1 v2 v3 v5 : Int32} {R : MS → α → MS → β → Prop} {A' : Option (MS × α)} {B' : Option (MS × β)}
theorem pp_rb {X : Option (MS × γ)} {g : MS → γ → Option (MS × β)} (h : PP (fun m z w r => PK (fun v q => R m z v q) (g w r)) A' X) : PP R A' (bnd X g) := fun m z w r ea eb => by
  cases X with
  | none => cases eb
  | some x => exact h m z x.1 x.2 ea rfl w r eb
theorem pp_lb {X : Option (MS × γ)} {g : MS → γ → Option (MS × α)} (h : PP (fun m z w r => PK (fun v q => R v q w r) (g m z)) X B') : PP R (bnd X g) B' := fun m z w r ea eb => by
  cases X with
  | none => cases ea
  | some x => exact h x.1 x.2 w r rfl eb m z ea
theorem kA (c : CTZ m0 w0 K T nm Nk) {p k : Nat} (hp : p ≤ T) (h : A m0 6 p = ((k : Nat) : Int)) : K p = k := by
  have z2 : A m0 6 p = ((K p : Nat) : Int) := by
    show (m0.2.2.1 6 p).toInt = _
    rw [c.1.2 p hp]
    have := c.1.1.k46 hp
    exact I_ti (by omega) (by omega)
  rw [z2] at h
  omega
theorem need_k (h : WP w K T p) (h0 : w.1 67 = 0) {k : Nat} {s : Int32} (hk : 20 ≤ k ∧ k ≤ 44) (hs : s = I (svK k : Nat)) {g : MS → Unit → Option (MS × β)} (hh : K p = k → PP R A' (g (adv w p) ())) : PP R A' (bnd (km_M_needSign N w s) g) := by
  unfold km_M_needSign kb_M_needSign_0 kb_M_needSign_13
  rw [tkS_e h h0 hk hs]
  by_cases z : K p = k
  · rw [if_pos z]
    exact hh z
  · rw [if_neg z]
    exact pp_nr
end
section
variable {m0 w0 m w mS wS m2 w2 m3 w3 M : MS} {K nm Nk : Nat → Nat} {T N n n1 lo lo0 mid hi f s a a0 cm cm0 b pi pj rt j kk first last p d D xa xb q r : Nat} {sc sc0 sc2 : SCT} {own : Bool} {v1 v2 v3 v5 : Int32}
/-- a number with a minus -/
theorem ptd_neg {S : SF_Cm_listPattern} {S2 : SG_M_rowPattern} (c : CTZ m0 w0 K T nm Nk) (cv : CTV m0 w0 K T) (hC : PCS m0 nm m a cm sc own) (hR : PRd w0 T w lo pi sc) (hn : n ≤ 100000) (hn1 : n1 ≤ 100000) (h16 : A m0 16 n = 17) (h18 : A m0 18 n = ((n1 : Nat) : Int)) (hlf : LFc m0 n1 (lo + 1)) (h61 : A m0 6 (lo + 1) = 1) (h60 : A m0 6 lo = 34) : PP (PTZ m0 w0 K T nm Nk (f + 1) lo (lo + 2) own a cm pi sc m w) (jm_Cm_pattern N S m (I (n : Nat))) (km_M_patternAt N S2 w v1) := by
  have k0 : K lo = 34 := kA c hR.2.1.2 h60
  have hl : lo < T := c.1.1.lt hR.2.1.2 (by omega) (by omega)
  have k1 : K (lo + 1) = 1 := kA c hl h61
  have hl1 : lo + 1 < T := c.1.1.lt hl (by omega) (by omega)
  obtain ⟨e, t, rfl⟩ := PRS_ne hR
  have no3 : ∀ j, lo ≤ j → j < lo + 2 → K j ≠ 3 := fun j a b => by
    by_cases z : j = lo
    · rw [z]; omega
    · rw [show j = lo + 1 by omega]; omega
  refine rp_neg c hR k0 k1 (fun w2 r1 r2 _ h5 r3 => ?_)
  refine cp_neg hC hn h16 h18 hn1 (fun m2 q1 q2 q3 q4 => pp_end ?_)
  refine ⟨pi, a + 3, pi + 1, cm, e :: t, fun _ => 0, rfl, ⟨Nat.le_refl _, by omega, r3.1⟩, by omega, q1, r1, ⟨NMX_rf, by omega⟩, HDw_gap no3, by rw [wup_0 no3, q3], q2, r2, fun C R J H gc gr gp gh => ?_⟩
  have g := gp pi (Nat.le_refl _) (by omega)
  have e18 : m0.2.2.1 18 n1 = w0.2.2.1 7 (lo + 1) := by
    rw [show m0.2.2.1 18 n1 = m0.2.2.1 7 (lo + 1) from by rw [I_of (m0.2.2.1 18 n1), I_of (m0.2.2.1 7 (lo + 1))]; exact congrArg I hlf.2.2.2]
    exact (cv (lo + 1) hl1).2.1 (Or.inl k1)
  refine Or.inr (Or.inr (Or.inr (Or.inl ⟨g.1.trans r3.2.1, (gc a (Nat.le_refl _) (by omega)).trans q4.1, rfl, rfl, ?_, Or.inl ((gc (a + 1) (by omega) (by omega)).trans q4.2.1)⟩)))
  rw [g.2.2.2.2.1, r3.2.2, gc (a + 1) (by omega) (by omega), q4.2.1, gc (a + 2) (by omega) (by omega), q4.2.2, e18]
/-- ( P ) -/
theorem ptd_grp (c : CTZ m0 w0 K T nm Nk) (IH : HPT N m0 w0 K T nm Nk f) (hC : PCS m0 nm m a cm sc own) (hR : PRd w0 T w lo pi sc) (hn : n ≤ 100000) (h16 : A m0 16 n = 5) (h18 : A m0 18 n = ((n1 : Nat) : Int)) (pa : PAcK m0 f n1 (lo + 1) (hi - 1) xa xb q r) (hxb : xb ≤ 8015) (h60 : A m0 6 lo = 20) (h61 : A m0 6 (hi - 1) = 21) (hlh : lo + 2 ≤ hi) (htot : tot sc + (hi - lo) ≤ 4000) (ho : decide (v1 = 0) = !own) : PP (PTZ m0 w0 K T nm Nk (f + 1) lo hi own a cm pi sc m w) (jm_Cm_pattern N (jrc_Cm_listPattern N D) m (I (n : Nat))) (km_M_patternAt N (krc_M_rowPattern N d) w v1) := by
  have fr := hC.1
  have k0 : K lo = 20 := kA c hR.2.1.2 h60
  have hl : lo < T := c.1.1.lt hR.2.1.2 (by omega) (by omega)
  have t4 := c.1.1.1
  unfold jm_Cm_pattern jb_Cm_pattern_0
  refine l_ck (fun hb => ?_)
  rw [i_nt2 hn, tre fr (by decide) h16]
  rw [decide_eq_false (show ¬ (I 5 = (1 : Int32)) by decide), br_f, decide_eq_false (show ¬ (I 5 = (2 : Int32)) by decide), br_f, decide_eq_false (show ¬ (I 5 = (3 : Int32)) by decide), br_f, decide_eq_false (show ¬ (I 5 = (4 : Int32)) by decide), br_f, decide_eq_true (show (I 5 = (5 : Int32)) by decide), br_t]
  refine l_ck (fun _ => ?_)
  rw [tre fr (by decide) h18]
  refine kpA (PRS_w c hR) hR.2.2.1 (by rw [k0]; rfl) ?_
  rw [if_neg (by omega)]
  have hM := PRS_70 (x := w.1 70 + 1) hR
  have er : (upI w 70 (w.1 70 + 1)).2.2.1 = w.2.2.1 := rfl
  have cl : ∀ (v : MS) (pi : Nat), RFP (upI w 70 (w.1 70 + 1)) v pi → RFP w (upI v 70 (v.1 70 - 1)) pi := fun v pi h => cl70 h
  generalize upI w 70 (w.1 70 + 1) = M at hM er cl
  have hM1 := PRS_w c hM
  obtain ⟨-, b0, -⟩ := WP_i hM1
  have s2 : decide (M.2.2.1 6 lo = 2) = decide (K lo = 3) := srt_dc hM1 srK_2
  have s4 : decide (M.2.2.1 6 lo = 4) = decide (K lo = 1) := srt_dc hM1 srK_4
  have s1 : decide (M.2.2.1 6 lo = 1) = decide (K lo = 2) := srt_dc hM1 srK_1
  have s5 : decide (M.2.2.1 6 lo = 5) = decide (K lo = 4) := srt_dc hM1 srK_5
  unfold kpB
  refine r_ck (fun _ => ?_)
  rw [b0, s2, decide_eq_false (by omega), br_f, show decide ((0 : Int32) = 0) = true from rfl, br_t]
  refine r_ck (fun _ => ?_)
  rw [s4, decide_eq_false (by omega), br_f]
  refine r_ck (fun _ => ?_)
  rw [s1, decide_eq_false (by omega), br_f]
  refine r_ck (fun _ => ?_)
  rw [s5, decide_eq_false (by omega), br_f, tkS_e (k := 20) (s := 0) hM1 hM.2.2.1 (by decide) rfl, if_pos k0, bnd_s, show decide ((1 : Int32) = 0) = false from rfl, br_f]
  have hA := PRS_ad hM hl
  refine pp_bb (pp_mo (IH D d n1 (lo + 1) (hi - 1) xa xb q r m (adv M lo) a cm pi sc own v1 pa hxb hC hA (by omega) ho) (fun m2 z w2 rr h => ?_))
  obtain ⟨pn, b, pj, cm2, sc2, W, e1, e2, e3, e4, e5, e6, e7, e8, e9, e10, e11⟩ := h
  unfold jb_Cm_pattern_298 kb_M_patternAt_388
  refine need_k (PRS_w c e5) e5.2.2.1 (k := 21) (by decide) rfl (fun k21 => r_lt ?_)
  have hl2 : hi - 1 < T := c.1.1.lt e5.2.1.2 (by omega) (by omega)
  have f1 : RFP M (adv w2 (hi - 1)) pi := RFP_I (RFP_tr (RFP_I RFP_rf (Or.inr (Or.inr rfl))) e10 (Nat.le_refl _)) (Or.inr (Or.inr rfl))
  have n20 : ∀ j, lo ≤ j → j < lo + 1 → K j ≠ 3 := fun j a b => by rw [show j = lo by omega]; omega
  have n21 : ∀ j, hi - 1 ≤ j → j < hi → K j ≠ 3 := fun j a b => by rw [show j = hi - 1 by omega]; omega
  have p1 := PRS_ad e5 hl2
  rw [show hi - 1 + 1 = hi by omega] at p1
  refine pp_end ⟨pn, b, pj, cm2, sc2, W, e1, e2, e3, e4, PRS_70 p1, ⟨e6.1, by have := e6.2; omega⟩, HDw_tr (by omega) (by omega) (HDw_gap n20) (HDw_tr (by omega) (by omega) e7 (HDw_gap n21)), ?_, e9, cl _ _ f1, fun C R J H gc gr gp gh => PT_mo (by omega) (e11 C R J H gc gr gp gh)⟩
  rw [e8, ← wup_tr (p := lo) (q := lo + 1) (p2 := hi) (by omega) (by omega), wup_0 (p := lo) n20, ← wup_tr (p := lo + 1) (q := hi - 1) (p2 := hi) (by omega) (by omega), wup_0 (p := hi - 1) n21]
end
