/-! spawn, both sides: a FUN of a FUNCTION; what goes WRONG -/
set_option maxRecDepth 100000
section
variable {α β : Type} {b : Int → Nat → Nat → Prop} {Fv Fv' : Int64 → Int64 → Prop} {P P' : Int64 → Prop} {N PR p i j0 U B W Y l j a n ff e c : Nat} {ow kd ow' kd' : Nat → Nat} {m w w1 : MS} {t x : Int64} {nb : Nat → Nat} {Hs Os : Nat → List Nat} {y : Option (Nat × Nat × Nat)} {Q : MS → α → MS → β → Prop} {K1 : MS → Option (MS × α)} {K2 : MS → Option (MS × β)}
theorem op_spawnF (hpp : p < PR) (hPR : PR < 24) (wl : WLs (RRp p) PR Fv P Fv' P' none i j0 m w) (al : ALN m) (hq : F m 955 = ((i : Nat) : Int)) (ru : RUs m w p j nb Hs Os y a n) (sc : SCs p m w) (hW : W + 1 ≤ 46000) (hl : F m (pq p 45) = ((l : Nat) : Int)) (hl2 : W + 1 ≤ l ∧ l ≤ 1000000) (pl : PLs b p m w1 U B (W + 1) Y) (pt : PTQ m p U ow kd Fv P B (W + 1) Y) (xc : CX w1 p (hp w1 p) U ow' kd' Fv' P' (W + 1) B Y) (g1 : FGw p j w w1) (h98 : A w1 98 (60 * p + j) = ((n + 1 : Nat) : Int)) (cr : ∃ f, CRs (A m 23) (ROs w) (w.2.2.2 34) f y (a + 2) (n + 1) (Hs j) (Os j))
    (ht : m.2.2.2 (pq p 35) W = t) (hx : w1.2.2.2 91 (46000 * p + W) = x) (st : so t = 3) (hv : va t = ((vn t : Nat) : Int)) (hv2 : vn t + 2 ≤ 500) (hv' : va x = ((vn x : Nat) : Int)) (hv2' : vn x + 2 ≤ 500) (hc0 : va (m.2.2.2 (pq p 2) (vn t)) = ((1000000 + ff : Nat) : Int)) (hd : (hp w1 p (vn x)).toInt = -1 - ((ff : Nat) : Int))
    (h442 : ((ff : Nat) : Int) < F m 442) (hu : ff < 666) (h449 : F m 449 ≤ 400) (f25 : A m 25 ff = 0) (f29 : A m 29 ff = ((e : Nat) : Int)) (h48 : A w 48 ff = 0) (h50 : A w 50 ff = ((c : Nat) : Int)) (zr : ∃ g g2, ZRs (A m 23) (ROs w) (w.2.2.2 34) (CRs (A m 23) (ROs w) (w.2.2.2 34) g) 0 0 [] [] g2 e ((c : Nat) : Int)) (hN : 6000 ≤ N)
    (k : ∀ mB wC m3 w3, (∀ P2, SFs Fv P Fv' P2 (PR + 1) m3 w3 → WLs (RRp p) (PR + 1) Fv P Fv' P2 none i j0 m3 w3) → PLs b p m3 w3 U B (W + 1) Y → RUs m3 w3 p j nb Hs Os y (a + 2) (n + 1) → NGm PR m mB → NGw PR w1 wC → FGm p mB m3 → FGw p j wC w3 → PP Q (K1 m3) (K2 w3)) : PP Q (bnd (hm_Ma_predefined N m p (I 1)) (fun u _ => K1 u)) (bnd (fm_M_predefinedRun N w1 (I 1)) (fun u _ => K2 u)) := by
  obtain ⟨⟨fa, -⟩, ⟨r2, -⟩, -, ⟨q9, q9w⟩, -, -, r11, -, -⟩ := id ru
  have hj : j < 60 := fa.1.2.2
  have pn : p ≠ PR := by omega
  have ebd : e + 1 < 24000 := by
    obtain ⟨g, g2, z⟩ := zr
    cases g2 with
    | zero => exact z.elim
    | succ g2 => exact z.1
  have dw := wl.1.1.1
  have cx := wl.1.1.2
  have h942 : F m 942 = ((PR : Nat) : Int) := dw.1.1.1
  have h118 : F w1 118 = ((PR : Nat) : Int) := by rw [FR.F g1.1 (by simp)]; exact wl.1.2.1.1.1.1
  have x33 : F w1 133 = ((p : Nat) : Int) := by rw [FR.F g1.1 (by simp)]; exact r11
  have tp : TPb b U ow kd P U ow' kd' P' t x := by
    rw [← ht, ← hx]
    exact ⟨pl.2.2.1.2.2 W (by omega), pt.2.2.1.2 W (by omega), xc.2.2.2.2.2.2.2.1 W (by omega)⟩
  have sx : so x = 3 := by rw [RTb_so tp.1]; exact st
  have tk := takes_f (N := N) h442 hu
  rw [f25] at tk
  have w48 : A w1 48 ff = ((0 : Nat) : Int) := by rw [FR.A g1.1 (by simp)]; exact h48
  rw [pm1, pr1, spw_f (ar := 0) (v := vn t) (cc := 1000000 + ff) pl.2.2.1.1 hl hl2 ht st hv (by omega) hc0 tk (by omega), if_pos rfl]
  refine l_bb (l_bb (l_bnd (fun m0 r eb => ?_)))
  refine r_bb ?_
  have hb := pk_ok (bornc_ok (N := N) dw al) m0 r eb
  have bv0 : ∀ j, r = some j → m0.1 (pq j 11) = 0 ∧ m0.1 (pq j 12) = -1 ∧ m0.1 (pq j 29) = 0 ∧ m0.1 (pq j 13) = 0 ∧ m0.1 (pq j 15) = 0 ∧ m0.1 (pq j 5) = 0 := born_v (N := N) m0 r eb
  have nn : r ≠ none := born_s (N := N) (m := m) (by rw [h942]; omega) m0 r eb
  rcases hb with ⟨hb, -⟩ | ⟨rfl, -, d0, f0, al0, z0, -⟩
  · exact absurd hb nn
  have bv := bv0 PR rfl
  have e942 : F m0 942 = ((PR + 1 : Nat) : Int) := d0.1.1.1
  have hh : m0.2.2.2 (pq p 2) = m.2.2.2 (pq p 2) := f0.jo pn (by omega)
  have en := entry_f (N := N) (p := p) (m := m0) (uu := ff) (by rw [f0.Fg (by omega) (by simp)]; exact h442) hu
  have e29 : A m0 29 ff = ((e : Nat) : Int) := by rw [f0.ag (by omega) (by simp)]; exact f29
  rw [e29] at en
  refine sp_f (K := fun u _ => K2 u) (v := vn x) (ff := ff) (ar := 0) (by omega) x33 pl.2.2.1.2.1 hW hx sx hv' (by omega) hd (by omega) w48 ?_
  refine sp_75f (ff := ff) h118 hPR hd (by omega) ?_
  have sR : ∀ K, K ≠ 170 → K ≠ 96 → (spF w1 PR ff).2.2.1 K = (npS w1 PR).2.2.1 K := fun K h h2 => by
    unfold spF
    rw [wa_21 h2, wa_21 h]
  have sF : FR [] [] [96, 170] [] (npS w1 PR) (spF w1 PR ff) := FR.wa (FR.wa FR.rf (by simp)) (by simp)
  have npf := np_fr (u := w1) (z := PR)
  have hpS : hp (spF w1 PR ff) p = hp w1 p := by
    funext k
    show (npS w1 PR).2.2.2 88 (500 * p + k) = _
    rw [npf.2.2.2 88 (by decide)]
    rfl
  have s33 : F (spF w1 PR ff) 133 = ((p : Nat) : Int) := by rw [FR.F sF (by simp), FR.F npf (by decide)]; exact x33
  have s89 : A (spF w1 PR ff) 89 PR = 0 := by rw [FR.A sF (by simp), np_row (by decide), if_pos rfl]
  have s96 : A (spF w1 PR ff) 96 (60 * PR) = ((ff : Nat) : Int) := wa_sm (by omega) (by omega)
  have sloc : ∀ d, d ≠ PR → LOCw d w1 (spF w1 PR ff) := fun d hd => ((np_loc hd).tr2 ((GGw_own (p := PR) (Or.inl ⟨by omega, rfl⟩)).1 d hd)).tr2 ((GGw_own (p := PR) (Or.inr (Or.inl ⟨by omega, by omega, by omega⟩))).1 d hd)
  refine sp_mid (b := b) (h := m.2.2.2 (pq p 2)) (U := U) (ow := ow) (kd := kd) (ow' := ow') (kd' := kd') (Fv := Fv) (Fv' := Fv') (P := P) (P' := P') (fn := I ((ff : Nat) : Int)) (en := I ((e : Nat) : Int)) (by omega) hPR pn hh pt.1.2.2 pt.1.2.1 cx.1 (by rw [hpS]; exact xc.2.1) (by rw [hpS]; exact pl.1.2.1) tp st hv (by omega) (z0 21 (by simp)) (z0 24 (by simp)) (z0 26 (by simp)) (z0 4 (by simp)) (by rw [valI, hc0]; exact en.2) (by rw [valI, hc0]; exact en.1) s33 s89 hN (fun m4 r w4 r2' b2 s f4 s4 fw4 h89 h88 is2 rt2 hs cm cw => ?_)
  obtain ⟨sr, vr, c0, c1⟩ := cm
  have i4 : ∀ k, k < 2000 → F m4 k = F m0 k := fun k h => by
    show (m4.1 k).toInt = (m0.1 k).toInt
    rw [f4.1 k (by simp; exact pq_n h), opS_1 (pq_n h)]
  have a4 : ∀ K i, K < 1948 → A m4 K i = A m K i := fun K i h => by
    show (m4.2.2.1 K i).toInt = (m.2.2.1 K i).toInt
    rw [f4.2.2.1 K (by simp), opS_A (pq_n (by omega)), f0.2.2.1 K (by omega) (by simp; omega)]
  have q4 : ∀ k, k < 100 → k ≠ 4 → k ≠ 21 → F m4 (pq PR k) = F m0 (pq PR k) := fun k h0 h1 h2 => by
    show (m4.1 (pq PR k)).toInt = (m0.1 (pq PR k)).toInt
    rw [f4.1 _ (by simp; exact fun c => h1 (pq_e h0 (by omega) c).2), opS_1 (pq_inj h2)]
  have vr' : va r = ((0 : Nat) : Int) := vr
  rw [hold_pp (p' := PR)]
  refine l_bnd (pk_mo (hold_0 (N := N) (m := m4) (p := PR) (t := r) (v := 0) (uu := ff) vr' (by omega) (by rw [c0]; exact hc0) (by omega) (by rw [i4 449 (by omega), f0.Fg (by omega) (by simp)]; exact h449)) (fun m5 _ hx5 => ?_))
  subst hx5
  have dlt : decide (lg_cmp (hp w1 p (vn x)) 0 < 0) = true := decide_eq_true (Int32.not_le.mp (fun z => by have := (lgc_ge _).mp z; rw [hd] at this; omega))
  rw [dlt, br_t]
  have uR2 : ∀ K, K ≠ 89 → K ≠ 142 → w4.2.2.1 K = (spF w1 PR ff).2.2.1 K := fun K h3 h4 => fw4.2.2.1 K (by simp; omega)
  have uA : ∀ K i, K ≠ 89 → K ≠ 142 → A w4 K i = A (spF w1 PR ff) K i := fun K i h3 h4 => by
    show (w4.2.2.1 K i).toInt = _
    rw [uR2 K h3 h4]
    rfl
  have u94 : A w4 94 PR = ((0 : Nat) : Int) := by rw [uA 94 _ (by omega) (by omega), FR.A sF (by simp), np_row (by decide), if_pos rfl]; rfl
  have u101 : A w4 101 (60 * PR) = ((0 : Nat) : Int) := by rw [uA 101 _ (by omega) (by omega), FR.A sF (by simp), np_fr0 (by decide), if_pos rfl]; rfl
  have u89 : A w4 89 PR = ((s : Nat) : Int) := by rw [h89 PR, if_pos rfl]
  have u96 : A w4 96 (60 * PR) = ((ff : Nat) : Int) := by rw [uA 96 _ (by omega) (by omega)]; exact s96
  have fN : FR [] [] [89, 94, 96, 101, 142, 170] [88, 93, 141] (npS w1 PR) w4 := FR.tr (FR.mo sF (by simp) (by simp) (by simp) (by simp)) (FR.mo fw4 (by simp) (by simp) (by simp) (by simp))
  have uloc : ∀ d, d ≠ PR → LOCw d w1 w4 := fun d hd => (sloc d hd).tr2 (cp_loc hd fw4 h89 h88)
  have gw := ng_w hPR uloc fN
  have gm := ng_m f0 e942 f4 (FC.rf (u := m5))
  have A23 : A m5 23 = A m 23 := by
    funext k
    exact a4 23 k (by omega)
  have gR : ∀ K, PRr K → w4.2.2.1 K = w.2.2.1 K := fun K hK => (gw.2.2.1 K (by unfold PRr at hK; omega)).trans (g1.1.2.2.1 K (by unfold PRr at hK; simp; omega))
  have g34 : w4.2.2.2 34 = w.2.2.2 34 := gw.2.2.2.1.trans (g1.1.2.2.2 34 (by simp))
  have nwm : NWm PR e 0 ((ff : Nat) : Int) [] m5 := nw_m (e := e) (H := []) z0 bv f4 FC.rf (I_ti (by omega) (by omega)) (by omega) (by rw [q4 24 (by omega) (by omega) (by omega)]; exact z0 24 (by simp)) (fun i x hx => by cases hx)
  have nww : NWw PR 0 ((ff : Nat) : Int) w4 := nw_w (u := w1) (by omega) u96 (fun K h1 h2 h3 h4 h5 h6 => by rw [uR2 K h5 h6, sR K h4 h3]) u94 u101
  have nal := new_al (b := b2) (c := c) nwm nww rfl ⟨s4, u89⟩ hs is2 (fun i hi => absurd hi (by omega)) (Or.inl ⟨by omega, by
    rw [Int.toNat_natCast]
    show (w4.2.2.1 50 ff).toInt = _
    rw [gR 50 (by unfold PRr; omega)]
    exact h50⟩) List.nodup_nil (by rw [A23, ROs_eq (w := w) gR, g34]; exact zr)
  exact spawn_fin (b2 := b2) (s := s) (L := 0) hpp hPR wl hq ru sc hW ⟨xc.2.2.2.2.2.1.2, xc.2.2.2.2.2.2.1.2⟩ hl hl2 pl g1 h98 cr gm gw (by omega) nal ⟨nwm.1.2.2.2.2.2.2, nww.1.2.2.2.2.2.2, by show (m5.1 (pq PR 15)).toInt = 0; rw [nwm.2.1.2.2.2.1]; rfl⟩ (fun m3 w3 z1 z2 z3 z4 z5 z6 z7 => k m5 w4 m3 w3 z1 z2 z3 z4 z5 z6 z7)
end
section
variable {α β : Type} {N PR p W l uu ff c ar v v' : Nat} {m w1 : MS} {t x : Int64} {Q : MS → α → MS → β → Prop} {K1 : MS → Option (MS × α)} {K2 : MS → Option (MS × β)}
/-- no FUN -/
theorem op_spawnN (hpp : p < 24) (h26 : F m (pq p 26) = ((W + 1 : Nat) : Int)) (hl : F m (pq p 45) = ((l : Nat) : Int)) (hl2 : W + 1 ≤ l ∧ l ≤ 1000000) (x33 : F w1 133 = ((p : Nat) : Int)) (h92 : A w1 92 p = ((W + 1 : Nat) : Int)) (hW : W + 1 ≤ 46000) (ht : m.2.2.2 (pq p 35) W = t) (hx : w1.2.2.2 91 (46000 * p + W) = x) (st : so t ≠ 3) (sx : so x ≠ 3) (kX : PP Q (K1 (tld m 1 (-1) (mk 1 11))) (bnd (fr_M_error N w1 11) (fun u _ => K2 u))) : PP Q (bnd (hm_Ma_predefined N m p (I 1)) (fun u _ => K1 u)) (bnd (fm_M_predefinedRun N w1 (I 1)) (fun u _ => K2 u)) := by
  rw [pm1, pr1, spw_n h26 hl hl2 ht st, bnd_so, pre_tl ⟨by omega, by omega⟩ (by omega), bnd_so]
  refine r_bb ?_
  exact sp_n (K := fun u _ => K2 u) hpp x33 h92 hW hx sx kX
/-- a FUN that takes ARGUMENTS, or no more PROCESSES -/
theorem op_spawnX (hpp : p < 24) (h942 : F m 942 = ((PR : Nat) : Int)) (h118 : F w1 118 = ((PR : Nat) : Int)) (hPR : PR ≤ 24) (h26 : F m (pq p 26) = ((W + 1 : Nat) : Int)) (hl : F m (pq p 45) = ((l : Nat) : Int)) (hl2 : W + 1 ≤ l ∧ l ≤ 1000000) (x33 : F w1 133 = ((p : Nat) : Int)) (h92 : A w1 92 p = ((W + 1 : Nat) : Int)) (hW : W + 1 ≤ 46000) (ht : m.2.2.2 (pq p 35) W = t) (hx : w1.2.2.2 91 (46000 * p + W) = x) (st : so t = 3) (sx : so x = 3) (hv : va t = ((v : Nat) : Int)) (hv2 : v < 500) (hv' : va x = ((v' : Nat) : Int)) (hv2' : v' < 500) (har : ar < 2000) (hz : ar ≠ 0 ∨ PR = 24)
    (hu : (∃ uu c : Nat, va (m.2.2.2 (pq p 2) v) = ((uu : Nat) : Int) ∧ (hp w1 p v').toInt = ((uu : Nat) : Int) ∧ ((uu : Nat) : Int) < F m 449 ∧ uu < 400 ∧ A m 30 uu = ((ar : Nat) : Int) ∧ A w1 53 uu = ((c : Nat) : Int) ∧ c < 100000 ∧ A w1 41 c = ((ar : Nat) : Int)) ∨ (∃ ff : Nat, va (m.2.2.2 (pq p 2) v) = ((1000000 + ff : Nat) : Int) ∧ (hp w1 p v').toInt = -1 - ((ff : Nat) : Int) ∧ ((ff : Nat) : Int) < F m 442 ∧ ff < 666 ∧ A m 25 ff = ((ar : Nat) : Int) ∧ A w1 48 ff = ((ar : Nat) : Int)))
    (kX : PP Q (K1 (tld m 1 (-1) (mk 1 11))) (bnd (fr_M_error N w1 11) (fun u _ => K2 u))) : PP Q (bnd (hm_Ma_predefined N m p (I 1)) (fun u _ => K1 u)) (bnd (fm_M_predefinedRun N w1 (I 1)) (fun u _ => K2 u)) := by
  have lf : ∀ cc : Nat, va (m.2.2.2 (pq p 2) v) = ((cc : Nat) : Int) → hm_Co_takes N m (I ((cc : Nat) : Int)) = some (m, I ((ar : Nat) : Int)) → hm_Ma_spawn N m p = some (tld m 1 (-1) (mk 1 11), ()) := fun cc h0 tk => by
    rw [spw_f h26 hl hl2 ht st hv (by omega) h0 tk har]
    by_cases e : ar = 0
    · have e24 : PR = 24 := by omega
      rw [if_pos e, born_x (by rw [h942, e24]; rfl), bnd_so, spw_w]
    · rw [if_neg e]
  have rx : ∀ v3, PP Q (K1 (tld m 1 (-1) (mk 1 11))) (bnd (fb_M_spawnRun_75 N (gg_M_spawnRun N N) w1 x v3 (I ((ar : Nat) : Int))) (fun u _ => K2 u)) := fun v3 => sp_x (K := fun u _ => K2 u) har h118 (by omega) hz kX
  rw [pm1, pr1]
  rcases hu with ⟨uu, c, u1, u2, u3, u4, u5, u6, u7, u8⟩ | ⟨ff, u1, u2, u3, u4, u5, u6⟩
  · have tk := takes_u (N := N) u3 u4
    rw [u5] at tk
    rw [lf uu u1 tk, bnd_so, pre_tl ⟨by omega, by omega⟩ (by omega), bnd_so]
    refine r_bb ?_
    exact sp_u (K := fun u _ => K2 u) hpp x33 h92 hW hx sx hv' hv2' u2 (by omega) u6 u7 u8 (rx _)
  · have tk := takes_f (N := N) u3 u4
    rw [u5] at tk
    rw [lf (1000000 + ff) u1 tk, bnd_so, pre_tl ⟨by omega, by omega⟩ (by omega), bnd_so]
    refine r_bb ?_
    exact sp_f (K := fun u _ => K2 u) hpp x33 h92 hW hx sx hv' hv2' u2 (by omega) u6 (rx _)
end
