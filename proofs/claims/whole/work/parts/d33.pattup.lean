/-! patterns: TUPLES, both -/
set_option maxRecDepth 100000
/-- a TUPLE's and a LIST's signs -/
def RKD (kd cl : Nat) (x v2 v3 : Int32) : Prop := (kd = 22 ∧ cl = 23 ∧ x = 5 ∧ v2 = 1 ∧ v3 = 3) ∨ (kd = 24 ∧ cl = 25 ∧ x = 6 ∧ v2 = 0 ∧ v3 = 5)
/-- the row is begun, here -/
def wRW (w : MS) (pi : Nat) (x : Int32) (lo : Nat) : MS := adv (nPd (upI w 70 (w.1 70 + 1)) pi x) lo
section
variable {α : Type} {m0 w0 m w : MS} {K nm Nk : Nat → Nat} {T N lo pi d kd cl : Nat} {sc : SCT} {x v1 v2 v3 : Int32} {R : MS → α → MS → Int32 → Prop} {A' : Option (MS × α)}
theorem PRS_P (h : PRd w0 T w lo pi sc) (h5 : pi < 5000) : PRd w0 T (nPd w pi x) lo (pi + 1) sc := PRS_k h (fun k h1 h2 h3 => nwP_i h1) (fun k hk => nwP_r hk) (by rw [nwP_i (by decide)]; exact h.2.1.1) h.2.1.2 nwP_n (by omega)
theorem nat_n0 {k : Nat} (h1 : 1 ≤ k) (hk : k ≤ 100000) : ¬ (I (k : Nat) = (0 : Int32)) := fun h => by
  have := (I_eq (x := ((k : Nat) : Int)) (y := 0) (by omega) (by omega) (by decide) (by decide)).mp (h.trans (show (0 : Int32) = I 0 from rfl))
  omega
/-- how patterns begin -/
theorem pa_k1 {u : MS} {f n lo hi a b q r : Nat} (h : PAcK u f n lo hi a b q r) : A u 6 lo ≠ 21 ∧ A u 6 lo ≠ 23 ∧ A u 6 lo ≠ 25 ∧ A u 6 lo ≠ 19 ∧ A u 6 lo ≠ 29 := by
  cases f with
  | zero => exact h.elim
  | succ f =>
    obtain ⟨-, -, -, h⟩ := h
    rcases h with ⟨⟨-, h, -⟩, -⟩ | ⟨-, m, -, -, -, -, -, h⟩ | ⟨-, m, c, -, -, -, h, -⟩ | ⟨-, k, m, c, -, -, ⟨-, h, -⟩, -⟩ | ⟨-, k, m, mid, c, s, -, -, ⟨-, h, -⟩, -⟩ <;> omega
theorem rw_k1 {u : MS} {f k n lo hi a b q r : Nat} (h : RWcK u 1 26 (PAcK u f) k n lo hi a b q r) : A u 6 lo ≠ 21 ∧ A u 6 lo ≠ 23 ∧ A u 6 lo ≠ 25 ∧ A u 6 lo ≠ 19 ∧ A u 6 lo ≠ 29 := by
  cases k with
  | zero => exact h.elim
  | succ k =>
    obtain ⟨m, c, s, h, -⟩ := h
    exact pa_k1 h
theorem Kne (c : CTZ m0 w0 K T nm Nk) {p k : Nat} (hp : p ≤ T) (h : A m0 6 p ≠ ((k : Nat) : Int)) : K p ≠ k := fun e => h (by
  show (m0.2.2.1 6 p).toInt = _
  rw [c.1.2 p hp]
  have := c.1.1.k46 hp
  rw [e]
  exact I_ti (by omega) (by omega))
theorem rr_start (c : CTZ m0 w0 K T nm Nk) (hR : PRd w0 T w lo pi sc) (hk : K lo = kd) (hd : RKD kd cl x v2 v3) (hh : ∀ d2, lo < T → pi < 5000 → PRd w0 T (wRW w pi x lo) (lo + 1) (pi + 1) sc → PP (fun m z v r => R m z (upI v 70 (v.1 70 - 1)) r) A' (if K (lo + 1) = cl then kb_M_rowPattern_194 N (krc_M_rowPattern N d2) (kg_M_rowPattern N (krc_M_rowPattern N d2) N) (wRW w pi x lo) v3 (I (pi : Nat)) 0 else kg_M_rowPattern N (krc_M_rowPattern N d2) N (wRW w pi x lo) v1 v2 v3 (I (pi : Nat)) (-1) 0 1)) : PP R A' (km_M_patternAt N (krc_M_rowPattern N d) w v1) := by
  have hkk : K lo = 22 ∨ K lo = 24 := by rcases hd with h | h <;> omega
  have hl : lo < T := c.1.1.lt hR.2.1.2 (by omega) (by omega)
  have t4 := c.1.1.1
  refine kpA (PRS_w c hR) hR.2.2.1 (by rcases hkk with z | z <;> rw [z] <;> rfl) ?_
  rw [if_neg (by omega)]
  have hM := PRS_70 (x := w.1 70 + 1) hR
  unfold wRW at hh
  generalize upI w 70 (w.1 70 + 1) = M at hM hh
  have hM1 := PRS_w c hM
  obtain ⟨-, b0, -⟩ := WP_i hM1
  have s2 : decide (M.2.2.1 6 lo = 2) = decide (K lo = 3) := srt_dc hM1 srK_2
  have s4 : decide (M.2.2.1 6 lo = 4) = decide (K lo = 1) := srt_dc hM1 srK_4
  have s1 : decide (M.2.2.1 6 lo = 1) = decide (K lo = 2) := srt_dc hM1 srK_1
  have s5 : decide (M.2.2.1 6 lo = 5) = decide (K lo = 4) := srt_dc hM1 srK_5
  unfold kpB
  refine r_ck (fun _ => ?_)
  rw [b0, s2, decide_eq_false (by omega), br_f, show decide ((0 : Int32) = 0) = true from rfl, br_t]
  refine r_ck (fun _ => ?_)
  rw [s4, decide_eq_false (by omega), br_f]
  refine r_ck (fun _ => ?_)
  rw [s1, decide_eq_false (by omega), br_f]
  refine r_ck (fun _ => ?_)
  rw [s5, decide_eq_false (by omega), br_f, tkS_e (k := 20) (s := 0) hM1 hM.2.2.1 (by decide) rfl, if_neg (by omega), bnd_s, show decide ((0 : Int32) = 0) = true from rfl, br_t]
  refine pp_rb ?_
  cases d with
  | zero => exact pp_nr
  | succ d2 =>
    show PP _ A' (km_M_rowPattern N (krc_M_rowPattern N d2) M v1)
    unfold km_M_rowPattern kb_M_rowPattern_0
    rw [isS_e (k := 22) (s := 2) hM1 (by decide) rfl, bnd_s]
    have main : PP (fun m z w r => PK (fun v q => R m z v q) (kb_M_patternAt_388 N (krc_M_rowPattern N (d2 + 1)) () w r)) A' (kb_M_rowPattern_27 N (krc_M_rowPattern N d2) (kg_M_rowPattern N (krc_M_rowPattern N d2) N) M v1 v2 v3 x) := by
      unfold kb_M_rowPattern_27
      refine r_pat hM.2.2.2.2.2.1 hM.2.2.2.2.2.2 (by rcases hd with h | h <;> rw [h.2.2.1] <;> rfl) (fun h5 => r_lt ?_)
      have e69 : upI (nPd M pi x) 69 ((nPd M pi x).1 69 + 1) = adv (nPd M pi x) lo := by
        rw [nwP_i (by decide), hM.2.1.1, i_suc]
        rfl
      rw [e69]
      have hA : PRd w0 T (adv (nPd M pi x) lo) (lo + 1) (pi + 1) sc := PRS_ad (PRS_P hM h5) hl
      have hh2 := pp_mo (R2 := fun m z w r => PK (fun v q => R m z v q) (kb_M_patternAt_388 N (krc_M_rowPattern N (d2 + 1)) () w r)) (hh d2 hl h5 hA) (fun m z v r h => by
        unfold kb_M_patternAt_388
        rw [lt_e]
        exact pk_some h)
      generalize adv (nPd M pi x) lo = v at hA hh2
      rw [decide_eq_true hA.2.2.1, br_t, isS_e (k := cl) (s := v3) (PRS_w c hA) (by rcases hd with h | h <;> omega) (by rcases hd with h | h <;> rw [h.2.1, h.2.2.2.2] <;> rfl), bnd_s]
      by_cases z : K (lo + 1) = cl
      · rw [if_pos z] at hh2 ⊢
        rw [show decide ((1 : Int32) = 0) = false from rfl, br_f]
        exact hh2
      · rw [if_neg z] at hh2 ⊢
        rw [show decide ((0 : Int32) = 0) = true from rfl, br_t]
        exact hh2
    rcases hd with ⟨h1, -, h3, h4, h5⟩ | ⟨h1, -, h3, h4, h5⟩
    · rw [if_pos (by omega), show decide ((1 : Int32) = 0) = false from rfl, br_f]
      unfold kb_M_rowPattern_15
      rw [show decide ((1 : Int32) = 0) = false from rfl, br_f]
      rw [h3, h4, h5] at main
      exact main
    · rw [if_neg (by omega), show decide ((0 : Int32) = 0) = true from rfl, br_t]
      unfold kb_M_rowPattern_15
      rw [show decide ((0 : Int32) = 0) = true from rfl, br_t]
      rw [h3, h4, h5] at main
      exact main
end
section
variable {m0 w0 m w mS m2 w2 m3 w3 : MS} {K nm Nk W : Nat → Nat} {T N n lo hi f s a a0 b cm cm2 cm3 pi pj kk first last d D xb r kd cl : Nat} {sc sc2 sc3 : SCT} {own : Bool} {x v1 v2 v3 : Int32}
/-- what is left of the row behind -/
theorem rowd_fin {S : SG_M_rowPattern} {G : MS → Int32 → Int32 → Int32 → Int32 → Int32 → Int32 → Int32 → Option (MS × Int32)} (c : CTZ m0 w0 K T nm Nk) (hlo : lo < T) (hk : K lo = kd) (hd : RKD kd cl x v2 v3) (hp5 : pi < 5000) (hlh : lo + 2 ≤ hi) (hC : PCS m0 nm m3 b cm3 sc3 own) (hR : PRd w0 T w3 (hi - 1) pj sc3) (hpj : pi < pj) (hab : a < b) (hX : NMX cm cm3 sc sc3) (ht : tot sc3 ≤ tot sc + (hi - 1 - lo)) (hH : HDw own nm Nk K W (lo + 1) (hi - 1) sc sc3) (h42 : m3.2.2.1 42 = wup (m.2.2.1 42) K W (lo + 1) (hi - 1)) (hf : CFP m m3 a (sc.length - 1)) (hf2 : RFP (wRW w pi x lo) w3 pi) (h37 : w3.2.2.1 37 pi = -1) (hPT : ∀ C R J H, AGC C m3 a b → GRS R w0 → AGP R J (upA w3 35 (upd (w3.2.2.1 35) pi (I (kk : Nat)))) pi pj pi → HPX nm sc3 H → PTs C R J H (f + 1) a pi (Onm nm sc) b (Onm nm sc3)) : PP (fun m3 z v r => PTZ m0 w0 K T nm Nk (f + 1) lo hi own a cm pi sc m w m3 z (upI v 70 (v.1 70 - 1)) r) (some (m3, ())) (kb_M_rowPattern_194 N S G w3 v3 (I (pi : Nat)) (I (kk : Nat))) := by
  have hkk : K lo ≠ 3 := by rcases hd with h | h <;> omega
  unfold kb_M_rowPattern_194
  refine r_ck (fun _ => r_lt ?_)
  rw [i_nt2 (by omega)]
  have hR4 : PRd w0 T (upA w3 35 (upd (w3.2.2.1 35) pi (I (kk : Nat)))) (hi - 1) pj sc3 := PRS_k hR (fun _ _ _ _ => rfl) (fun k hk => upA_no (by omega)) hR.2.1.1 hR.2.1.2 hR.2.2.2.2.2.1 hR.2.2.2.2.2.2
  have hf4 : RFP (wRW w pi x lo) (upA w3 35 (upd (w3.2.2.1 35) pi (I (kk : Nat)))) pi := RFP_A hf2 (by decide) (Nat.le_refl _)
  have h374 : (upA w3 35 (upd (w3.2.2.1 35) pi (I (kk : Nat)))).2.2.1 37 pi = -1 := by rw [upA_no (by decide)]; exact h37
  generalize upA w3 35 (upd (w3.2.2.1 35) pi (I (kk : Nat))) = w4 at hPT hR4 hf4 h374
  refine need_k (k := cl) (PRS_w c hR4) hR4.2.2.1 (by rcases hd with h | h <;> omega) (by rcases hd with h | h <;> rw [h.2.1, h.2.2.2.2] <;> rfl) (fun k1 => ?_)
  have hk1 : K (hi - 1) ≠ 3 := by rcases hd with h | h <;> omega
  have hl2 : hi - 1 < T := c.1.1.lt hR4.2.1.2 (by rcases hd with h | h <;> omega) (by rcases hd with h | h <;> omega)
  have p1 := PRS_ad hR4 hl2
  rw [show hi - 1 + 1 = hi by omega] at p1
  have n20 : ∀ j, lo ≤ j → j < lo + 1 → K j ≠ 3 := fun j a b => by rw [show j = lo by omega]; exact hkk
  have n21 : ∀ j, hi - 1 ≤ j → j < hi → K j ≠ 3 := fun j a b => by rw [show j = hi - 1 by omega]; exact hk1
  refine pp_end ⟨pi, b, pj, cm3, sc3, W, rfl, ⟨Nat.le_refl _, hpj, h374⟩, hab, hC, PRS_70 p1, ⟨hX, by omega⟩, HDw_tr (by omega) (by omega) (HDw_gap n20) (HDw_tr (by omega) (by omega) hH (HDw_gap n21)), ?_, hf, cl70 ?_, hPT⟩
  · rw [h42, ← wup_tr (p := lo) (q := lo + 1) (p2 := hi) (by omega) (by omega), wup_0 (p := lo) n20, ← wup_tr (p := lo + 1) (q := hi - 1) (p2 := hi) (by omega) (by omega), wup_0 (p := hi - 1) n21]
  · exact RFP_I (RFP_tr (RFP_I (RFP_P RFP_rf (Nat.le_refl _)) (Or.inr (Or.inr rfl))) hf4 (Nat.le_refl _)) (Or.inr (Or.inr rfl))
/-- at its beginning -/
theorem RWA_0 (hC : PCS m0 nm mS a0 cm sc own) (hR : PRd w0 T (wRW w pi x lo) (lo + 1) (pi + 1) sc) : RWA m0 w0 K T nm Nk f s (lo + 1) own a0 cm pi sc mS (wRW w pi x lo) 0 0 0 mS (wRW w pi x lo) (lo + 1) a0 cm (pi + 1) sc := by
  obtain ⟨e, t, rfl⟩ := PRS_ne hR
  exact ⟨hC, hR, ⟨Nat.le_refl _, Nat.le_refl _, Nat.lt_succ_self _⟩, ⟨NMX_rf, by omega⟩, ⟨fun _ => 0, HDw_gap (fun j a b => by omega), by rw [wup_0 (fun j a b => by omega)]⟩, CFP_rf, RFP_rf, ⟨rfl, rfl, rfl⟩, Or.inl ⟨rfl, rfl, rfl, rfl, (nwP_at (w := upI w 70 (w.1 70 + 1)) (p := pi) (k := x)).2.2.1⟩⟩
theorem wRW_at : (wRW w pi x lo).2.2.1 33 pi = x ∧ (wRW w pi x lo).2.2.1 37 pi = -1 ∧ (wRW w pi x lo).2.2.1 38 pi = 0 := by
  obtain ⟨h1, h2, h3, h4, h5⟩ := nwP_at (w := upI w 70 (w.1 70 + 1)) (p := pi) (k := x)
  exact ⟨h1, h4, h5⟩
/-- rows at the end -/
theorem agp_1 {R : Nat → Nat → Int} {J : Nat → Int64} {v : Int32} (h : AGP R J (upA w2 35 (upd (w2.2.2.1 35) pi v)) pi pj pi) (hl : pi < last) : AGP R J w2 (pi + 1) pj last := fun q q1 q2 => by
  obtain ⟨g1, g2, g3, g4, g5, g6⟩ := h q (by omega) q2
  refine ⟨?_, ?_, ?_, ?_, g5, fun z => ?_⟩
  · rw [g1]
    show ((upA w2 35 _).2.2.1 33 q).toInt = _
    rw [upA_no (by decide)]; rfl
  · rw [g2]
    show ((upA w2 35 _).2.2.1 35 q).toInt = _
    rw [upA_at, upd_no (by omega)]; rfl
  · rw [g3]
    show ((upA w2 35 _).2.2.1 36 q).toInt = _
    rw [upA_no (by decide)]; rfl
  · rw [g4]
    show ((upA w2 35 _).2.2.1 38 q).toInt = _
    rw [upA_no (by decide)]; rfl
  · rw [g6 (by omega)]
    show ((upA w2 35 _).2.2.1 37 q).toInt = _
    rw [upA_no (by decide)]; rfl
/-- the end of a TUPLE -/
theorem tup_fin {S : SG_M_rowPattern} {G : MS → Int32 → Int32 → Int32 → Int32 → Int32 → Int32 → Int32 → Option (MS × Int32)} (c : CTZ m0 w0 K T nm Nk) (hlo : lo < T) (hk : K lo = 22) (hp5 : pi < 5000) (hlh : lo + 2 ≤ hi) (hkk : kk ≤ 8) (ha : a ≤ 23990) (ra : RWA m0 w0 K T nm Nk f 0 (lo + 1) own (a + 2) cm pi sc (ptc (ptc m a 6) (a + 1) (I (kk : Nat))) (wRW w pi 5 lo) kk first last m2 w2 (hi - 1) b cm2 pj sc2) : PP (fun m3 z v r => PTZ m0 w0 K T nm Nk (f + 1) lo hi own a cm pi sc m w m3 z (upI v 70 (v.1 70 - 1)) r) (some (m2, ())) (kb_M_rowPattern_194 N S G w2 3 (I (pi : Nat)) (I (kk : Nat))) := by
  obtain ⟨r1, r2, r3, r4, ⟨W, r5, r6⟩, r7, r8, r9, r10⟩ := ra
  obtain ⟨x1, x2, x3⟩ := wRW_at (w := w) (pi := pi) (x := 5) (lo := lo)
  refine rowd_fin (x := 5) (v2 := 1) (kd := 22) (cl := 23) (W := W) c hlo hk (Or.inl ⟨rfl, rfl, rfl, rfl, rfl⟩) hp5 hlh r1 r2 r3.2.2 (by omega) r4.1 (by have := r4.2; omega) r5 ?_ ?_ r8 ?_ (fun C R J H gc gr gp gh => ?_)
  · rw [r6, ptc_r (by decide), ptc_r (by decide)]
  · exact CFP_tr (CFP_put (CFP_put CFP_rf (Nat.le_refl _)) (by omega)) r7 (by omega)
  · rw [r9.2.2]; exact x2
  · obtain ⟨g1, g2, g3, -, -, -⟩ := gp pi (Nat.le_refl _) r3.2.2
    have p33 : R 33 pi = 5 := by
      rw [g1]
      show ((upA w2 35 _).2.2.1 33 pi).toInt = 5
      rw [upA_no (by decide), r9.1, x1]; rfl
    have p35 : R 35 pi = ((kk : Nat) : Int) := by
      rw [g2]
      show ((upA w2 35 _).2.2.1 35 pi).toInt = _
      rw [upA_at, upd_at]
      exact I_ti (by omega) (by omega)
    have p36 : R 36 pi = (w2.2.2.1 36 pi).toInt := by
      rw [g3]
      show ((upA w2 35 _).2.2.1 36 pi).toInt = _
      rw [upA_no (by decide)]
    have c0 : C a = 6 := by
      rw [gc a (Nat.le_refl _) (by omega)]
      show (m2.2.2.1 23 a).toInt = 6
      rw [r7.2.2.1 a (by omega), ptc_o (by omega), ptc_n]; rfl
    have c1 : C (a + 1) = R 35 pi := by
      rw [p35, gc (a + 1) (by omega) (by omega)]
      show (m2.2.2.1 23 (a + 1)).toInt = _
      rw [r7.2.2.1 (a + 1) (by omega), ptc_n]
      exact I_ti (by omega) (by omega)
    refine Or.inr (Or.inr (Or.inr (Or.inr (Or.inr (Or.inl ⟨p33, c0, c1, kk, ⟨p35, hkk⟩, ?_⟩)))))
    rcases r10 with ⟨y1, y2, y3, y4, y5⟩ | ⟨y1, y2, y3, y4, y5⟩
    · subst y1
      subst y4
      refine ⟨fun _ => a + 2, fun _ => 0, fun _ => Onm nm sc2, rfl, y2.symm, rfl, rfl, fun z => by omega, fun _ => ?_, fun k hk => by omega⟩
      rw [p36, y5]; rfl
    · obtain ⟨ci, cp, co, h1, h2, h3, h4, h5, h6, h7⟩ := PTL_fn (y5 C R J H (fun k k1 k2 => gc k (by omega) k2) gr (agp_1 gp y3.2.1) gh)
      have pj5 := r2.2.2.2.2.2.2
      have hfi : R 36 pi = ((first : Nat) : Int) := by
        rw [p36, y2]
        exact I_ti (by omega) (by omega)
      refine ⟨ci, cp, co, h1, h2, h3, h4, fun _ => by rw [hfi, h5], fun z => by omega, fun k hk => ⟨?_, (h7 k hk).2.2, fun z => ?_⟩⟩
      · have := (h7 k hk).2.1
        exact this
      · rw [show k = kk - 1 by omega, h6, (gp last (by omega) y3.2.2).2.2.2.2.2 (by omega)]
        show ((upA w2 35 _).2.2.1 37 last).toInt = _
        rw [upA_no (by decide), y4]; rfl
/-- a TUPLE -/
theorem pt_tup (c : CTZ m0 w0 K T nm Nk) (IH : HPT N m0 w0 K T nm Nk f) (hC : PCS m0 nm m a cm sc own) (hR : PRd w0 T w lo pi sc) (hn : n ≤ 8015) (h16 : A m0 16 n = 6) (xa q : Nat) (hT : TUcK m0 (PAcK m0 f) n lo hi xa q r) (hlh : lo + 2 ≤ hi) (htot : tot sc + (hi - lo) ≤ 4000) (ho : decide (v1 = 0) = !own) : PP (PTZ m0 w0 K T nm Nk (f + 1) lo hi own a cm pi sc m w) (jm_Cm_pattern N (jrc_Cm_listPattern N D) m (I (n : Nat))) (km_M_patternAt N (krc_M_rowPattern N d) w v1) := by
  obtain ⟨kk, n1, c1, e18, e19, ⟨hkk, k22, k23⟩, hO, hcn⟩ := hT
  have fr := hC.1
  have k0 : K lo = 22 := kA c hR.2.1.2 k22
  have aa := hC.2.2.1
  unfold jm_Cm_pattern jb_Cm_pattern_0
  refine l_ck (fun hb => ?_)
  rw [i_nt2 (by omega), tre fr (by decide) h16]
  rw [decide_eq_false (show ¬ (I 6 = (1 : Int32)) by decide), br_f, decide_eq_false (show ¬ (I 6 = (2 : Int32)) by decide), br_f, decide_eq_false (show ¬ (I 6 = (3 : Int32)) by decide), br_f, decide_eq_false (show ¬ (I 6 = (4 : Int32)) by decide), br_f, decide_eq_false (show ¬ (I 6 = (5 : Int32)) by decide), br_f, decide_eq_true (show (I 6 = (6 : Int32)) by decide), br_t]
  refine l_put aa.1 aa.2.2 (fun ha => l_ck (fun _ => ?_))
  have c1p := PCS_put (x := 6) hC ha
  rw [show (ptc m a 6).2.2.1 19 n = I (kk : Nat) by rw [ptc_r (by decide)]; exact tre fr (by decide) e19]
  refine l_put c1p.2.2.1.1 c1p.2.2.1.2.2 (fun ha2 => l_ck (fun _ => ?_))
  have c2p := PCS_put (x := I (kk : Nat)) c1p ha2
  rw [show (ptc (ptc m a 6) (a + 1) (I (kk : Nat))).2.2.1 18 n = I (n1 : Nat) by rw [ptc_r (by decide), ptc_r (by decide)]; exact tre fr (by decide) e18]
  refine rr_start (x := 5) (v2 := 1) (v3 := 3) c hR k0 (Or.inl ⟨rfl, rfl, rfl, rfl, rfl⟩) (fun d2 hl h5 hS => ?_)
  have ra0 := RWA_0 (K := K) (Nk := Nk) (f := f) (s := 0) c2p hS
  rcases hO with ⟨y1, y2, y3, y4, y5⟩ | ⟨y1, hrw⟩
  · -- none
    subst y1
    subst y2
    have k1 : K (lo + 1) = 23 := by rw [y3]; exact kA c (by rw [← y3]; exact hS.2.1.2) k23
    rw [if_pos k1]
    cases N with
    | zero => exact pp_nl
    | succ N =>
      show PP _ (jb_Cm_pattern_268 (N + 1) (jrc_Cm_listPattern (N + 1) D) (jg_Cm_pattern (N + 1) (jrc_Cm_listPattern (N + 1) D) N) _ (I ((0 : Nat) : Int))) _
      unfold jb_Cm_pattern_268 jb_Cm_pattern_298
      rw [decide_eq_true (show I ((0 : Nat) : Int) = (0 : Int32) from rfl), br_t]
      have e2 : hi = lo + 2 := by omega
      subst e2
      exact tup_fin (hi := lo + 2) c hl k0 h5 hlh hkk aa.2.2 ra0
  · have hdr := (RW_hdK (PA_bdK _) hrw).1
    unfold HDc at hdr
    have k1 : K (lo + 1) ≠ 23 := Kne c hS.2.1.2 (rw_k1 hrw).2.1
    rw [if_neg k1]
    exact rowd_lp (CL := jg_Cm_pattern N (jrc_Cm_listPattern N D)) (D := D) (s := 0) (xb := c1) (r := r) c IH (fun _ _ => rfl) (fun M m n h1 h2 => by
        show jb_Cm_pattern_268 N (jrc_Cm_listPattern N D) (jg_Cm_pattern N (jrc_Cm_listPattern N D) M) m (I ((n : Nat) : Int)) = _
        unfold jb_Cm_pattern_268 stp
        rw [decide_eq_false (nat_n0 h1 (by omega)), br_f, if_pos rfl, i_nt2 (by omega)]) (by omega) (by omega) (by omega) (by omega) ho (fun h => by have := kA (k := 23) c h k23; omega) hkk (fun M1 M2 m2 w2 b cm2 pj sc2 f2 l2 ra2 => by
        cases M1 with
        | zero => exact pp_nl
        | succ M1 =>
          show PP _ (jb_Cm_pattern_268 N (jrc_Cm_listPattern N D) (jg_Cm_pattern N (jrc_Cm_listPattern N D) M1) m2 (I 0)) _
          unfold jb_Cm_pattern_268 jb_Cm_pattern_298 kb_M_rowPattern_151
          rw [decide_eq_true (show I 0 = (0 : Int32) from rfl), br_t, show decide ((1 : Int32) = 0) = false from rfl, br_f]
          exact tup_fin c hl k0 h5 hlh hkk aa.2.2 ra2) kk n1 (lo + 1) xa q N N 0 0 0 _ _ (a + 2) cm (pi + 1) sc (-1) hrw ra0 (Or.inl ⟨rfl, rfl⟩) (by omega)
end
