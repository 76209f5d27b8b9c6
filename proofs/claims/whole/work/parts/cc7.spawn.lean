/-! spawn, both sides: a FUN with CLAUSES of its own -/
set_option maxRecDepth 100000
section
variable {N p W l v cc ar : Nat} {m w : MS} {t : Int64}
theorem pm1 : hm_Ma_predefined N m p (I 1) = bnd (hm_Ma_spawn N m p) (fun u _ => hb_Ma_predefined_146 N () u p) := rfl
theorem pr1 : fm_M_predefinedRun N w (I 1) = bnd (fm_M_spawnRun N w) (fun u _ => some (u, ())) := rfl
theorem spw_w : hb_Ma_spawn_59 N () m p t none = some (tld m 1 (-1) (mk 1 11), ()) := rfl
/-- no FUN -/
theorem spw_n (h26 : F m (pq p 26) = ((W + 1 : Nat) : Int)) (hl : F m (pq p 45) = ((l : Nat) : Int)) (hl2 : W + 1 ≤ l ∧ l ≤ 1000000) (ht : m.2.2.2 (pq p 35) W = t) (st : so t ≠ 3) : hm_Ma_spawn N m p = some (tld m 1 (-1) (mk 1 11), ()) := by
  have be : hm_Fr_below N m p 0 = some (m, m.2.2.2 (pq p 35) W) := by
    have := below_e (N := N) (x := 0) (k := 0) (W := W + 1) (l := l) h26 hl hl2.1 hl2.2 rfl (by omega)
    rw [show W + 1 - 1 - 0 = W by omega] at this
    exact this
  unfold hm_Ma_spawn hb_Ma_spawn_0
  rw [be, bnd_so, e_tag, bnd_so, ht, show decide (I (so t) = 3) = false from by rw [show (3 : Int32) = I 3 from rfl, decE (so_r _).1 (so_r _).2 (by omega) (by omega)]; exact decide_eq_false st, br_f]
  rfl
/-- a FUN -/
theorem spw_f (h26 : F m (pq p 26) = ((W + 1 : Nat) : Int)) (hl : F m (pq p 45) = ((l : Nat) : Int)) (hl2 : W + 1 ≤ l ∧ l ≤ 1000000) (ht : m.2.2.2 (pq p 35) W = t) (st : so t = 3) (hv : va t = ((v : Nat) : Int)) (hv2 : v < 512) (hc0 : va (m.2.2.2 (pq p 2) v) = ((cc : Nat) : Int)) (tk : hm_Co_takes N m (I ((cc : Nat) : Int)) = some (m, I ((ar : Nat) : Int))) (har : ar < 2000) : hm_Ma_spawn N m p = if ar = 0 then bnd (hm_Wl_born N m) (fun u r => hb_Ma_spawn_59 N () u p t r) else some (tld m 1 (-1) (mk 1 11), ()) := by
  have be : hm_Fr_below N m p 0 = some (m, m.2.2.2 (pq p 35) W) := by
    have := below_e (N := N) (x := 0) (k := 0) (W := W + 1) (l := l) h26 hl hl2.1 hl2.2 rfl (by omega)
    rw [show W + 1 - 1 - 0 = W by omega] at this
    exact this
  unfold hm_Ma_spawn hb_Ma_spawn_0
  have ib : inb (t.toInt32) 512 = true := by
    rw [valI, hv]
    exact (I_inb (by omega) (by omega)).mpr ⟨by omega, by omega⟩
  rw [be, bnd_so, e_tag, bnd_so, ht, show decide (I (so t) = 3) = true from by rw [st]; rfl, br_t, ib, ck_t, show (t.toInt32).toNatClampNeg = v from by rw [valI, hv]; exact tnI (n := v) rfl (by omega), valI, hc0, tk, bnd_so]
  by_cases e : ar = 0
  · subst e
    rfl
  · rw [if_neg e, show decide (I ((ar : Nat) : Int) = 0) = false from by rw [lit0, decE (by omega) (by omega) (by omega) (by omega)]; exact decide_eq_false (by omega), br_f]
    rfl
/-- room for one more -/
theorem born_s (h : F m 942 < 24) : PK (fun _ r => r ≠ none) (hm_Wl_born N m) := by
  have k43 : ∀ u, PK (fun (_ : MS) r => r ≠ none) (hb_Wl_born_43 N () u) := fun u => by
    unfold hb_Wl_born_43
    refine pk_ck (fun _ => ?_)
    cases h : rf (u.2.2.1 1948 (u.1 942).toNatClampNeg) with
    | none => exact fun _ _ e => by cases e
    | some d =>
      intro m2 r e
      rw [bo_s] at e
      cases hc : hm_Pr_clear N u d with
      | none => rw [hc] at e; cases e
      | some z =>
        rw [hc] at e
        injection e with e
        injection e with ea eb
        rw [← eb]
        exact fun c => by cases c
  have r9 := F_r m 942
  unfold hm_Wl_born hb_Wl_born_0
  rw [I_F (k := 942), show (24 : Int32) = I 24 from rfl, decL r9.1 r9.2 (by omega) (by omega), decide_eq_true h, br_t]
  exact pk_ck (fun _ => pk_br (fun _ => pk_lt (k43 _)) (fun _ => k43 _))
theorem born_x (h : F m 942 = 24) : hm_Wl_born N m = some (m, none) := by
  unfold hm_Wl_born hb_Wl_born_0
  rw [I_F (k := 942), h]
  rfl
end
section
variable {α β : Type} {b : Int → Nat → Nat → Prop} {Fv Fv' : Int64 → Int64 → Prop} {P P' : Int64 → Prop} {N PR p i j0 U B W Y l j a n uu e ad L c : Nat} {ow kd ow' kd' : Nat → Nat} {m w w1 : MS} {t x : Int64} {nb : Nat → Nat} {Hs Os : Nat → List Nat} {H : List Nat} {y : Option (Nat × Nat × Nat)} {Q : MS → α → MS → β → Prop} {K1 : MS → Option (MS × α)} {K2 : MS → Option (MS × β)}
theorem op_spawnU (hpp : p < PR) (hPR : PR < 24) (wl : WLs (RRp p) PR Fv P Fv' P' none i j0 m w) (al : ALN m) (hq : F m 955 = ((i : Nat) : Int)) (ru : RUs m w p j nb Hs Os y a n) (sc : SCs p m w) (hW : W + 1 ≤ 46000) (hl : F m (pq p 45) = ((l : Nat) : Int)) (hl2 : W + 1 ≤ l ∧ l ≤ 1000000) (pl : PLs b p m w1 U B (W + 1) Y) (pt : PTQ m p U ow kd Fv P B (W + 1) Y) (xc : CX w1 p (hp w1 p) U ow' kd' Fv' P' (W + 1) B Y) (g1 : FGw p j w w1) (h98 : A w1 98 (60 * p + j) = ((n + 1 : Nat) : Int)) (cr : ∃ f, CRs (A m 23) (ROs w) (w.2.2.2 34) f y (a + 2) (n + 1) (Hs j) (Os j))
    (ht : m.2.2.2 (pq p 35) W = t) (hx : w1.2.2.2 91 (46000 * p + W) = x) (st : so t = 3) (hv : va t = ((vn t : Nat) : Int)) (hv2 : vn t + 2 + L ≤ 500) (hv' : va x = ((vn x : Nat) : Int)) (hv2' : vn x + 2 + L ≤ 500) (hc0 : va (m.2.2.2 (pq p 2) (vn t)) = ((uu : Nat) : Int)) (hLm : va (m.2.2.2 (pq p 2) (vn t + 1)) = ((L : Nat) : Int)) (hd : (hp w1 p (vn x)).toInt = ((uu : Nat) : Int)) (hLw : va (hp w1 p (vn x + 1)) = ((L : Nat) : Int))
    (h449 : ((uu : Nat) : Int) < F m 449) (hu : uu < 400) (f30 : A m 30 uu = 0) (f31 : A m 31 uu = ((e : Nat) : Int)) (f32 : A m 32 uu = ((ad : Nat) : Int)) (fL : A m 23 ad = ((L : Nat) : Int)) (had : ad + 1 + L < 24000) (hH : H.length = L) (nm : ∀ i x : Nat, H[i]? = some x → A m 23 (ad + 1 + i) = ((x : Nat) : Int)) (nd : H.Nodup) (h53 : A w 53 uu = ((c : Nat) : Int)) (hc : c < 100000) (h41 : A w 41 c = 0) (zr : ∃ g g2, ZRs (A m 23) (ROs w) (w.2.2.2 34) (CRs (A m 23) (ROs w) (w.2.2.2 34) g) 0 0 H [] g2 e ((c : Nat) : Int)) (hN : 6000 ≤ N)
    (k : ∀ mB wC m3 w3, (∀ P2, SFs Fv P Fv' P2 (PR + 1) m3 w3 → WLs (RRp p) (PR + 1) Fv P Fv' P2 none i j0 m3 w3) → PLs b p m3 w3 U B (W + 1) Y → RUs m3 w3 p j nb Hs Os y (a + 2) (n + 1) → NGm PR m mB → NGw PR w1 wC → FGm p mB m3 → FGw p j wC w3 → PP Q (K1 m3) (K2 w3)) : PP Q (bnd (hm_Ma_predefined N m p (I 1)) (fun u _ => K1 u)) (bnd (fm_M_predefinedRun N w1 (I 1)) (fun u _ => K2 u)) := by
  obtain ⟨⟨fa, -⟩, ⟨r2, -⟩, -, ⟨q9, q9w⟩, -, -, r11, -, -⟩ := id ru
  have hj : j < 60 := fa.1.2.2
  have pn : p ≠ PR := by omega
  have hL : L ≤ 498 := by omega
  have ebd : e + 1 < 24000 := by
    obtain ⟨g, g2, z⟩ := zr
    cases g2 with
    | zero => exact z.elim
    | succ g2 => exact z.1
  have dw := wl.1.1.1
  have cx := wl.1.1.2
  have h942 : F m 942 = ((PR : Nat) : Int) := dw.1.1.1
  have h118 : F w1 118 = ((PR : Nat) : Int) := by rw [FR.F g1.1 (by simp)]; exact wl.1.2.1.1.1.1
  have x33 : F w1 133 = ((p : Nat) : Int) := by rw [FR.F g1.1 (by simp)]; exact r11
  have tp : TPb b U ow kd P U ow' kd' P' t x := by
    rw [← ht, ← hx]
    exact ⟨pl.2.2.1.2.2 W (by omega), pt.2.2.1.2 W (by omega), xc.2.2.2.2.2.2.2.1 W (by omega)⟩
  have sx : so x = 3 := by rw [RTb_so tp.1]; exact st
  have tk := takes_u (N := N) h449 hu
  rw [f30] at tk
  have w53 : A w1 53 uu = ((c : Nat) : Int) := by rw [FR.A g1.1 (by simp)]; exact h53
  have w41 : A w1 41 c = ((0 : Nat) : Int) := by rw [FR.A g1.1 (by simp)]; exact h41
  rw [pm1, pr1, spw_f (ar := 0) (v := vn t) (cc := uu) pl.2.2.1.1 hl hl2 ht st hv (by omega) hc0 tk (by omega), if_pos rfl]
  refine l_bb (l_bb (l_bnd (fun m0 r eb => ?_)))
  refine r_bb ?_
  have hb := pk_ok (bornc_ok (N := N) dw al) m0 r eb
  have bv0 : ∀ j, r = some j → m0.1 (pq j 11) = 0 ∧ m0.1 (pq j 12) = -1 ∧ m0.1 (pq j 29) = 0 ∧ m0.1 (pq j 13) = 0 ∧ m0.1 (pq j 15) = 0 ∧ m0.1 (pq j 5) = 0 := born_v (N := N) m0 r eb
  have nn : r ≠ none := born_s (N := N) (m := m) (by rw [h942]; omega) m0 r eb
  rcases hb with ⟨hb, -⟩ | ⟨rfl, -, d0, f0, al0, z0, -⟩
  · exact absurd hb nn
  have bv := bv0 PR rfl
  have e942 : F m0 942 = ((PR + 1 : Nat) : Int) := d0.1.1.1
  have ln0 : LNB m0 PR := by
    rcases al0 PR hPR with z | ⟨-, z⟩
    · rw [d0.1.2.1 PR (by omega)] at z; cases z
    · exact z
  have hh : m0.2.2.2 (pq p 2) = m.2.2.2 (pq p 2) := f0.jo pn (by omega)
  have en := entry_u (N := N) (p := p) (m := m0) (uu := uu) (by rw [f0.Fg (by omega) (by simp)]; exact h449) hu
  have e31 : A m0 31 uu = ((e : Nat) : Int) := by rw [f0.ag (by omega) (by simp)]; exact f31
  rw [e31] at en
  refine sp_u (K := fun u _ => K2 u) (v := vn x) (uu := uu) (c := c) (ar := 0) (by omega) x33 pl.2.2.1.2.1 hW hx sx hv' (by omega) hd (by omega) w53 hc w41 ?_
  refine sp_75u (uu := uu) h118 hPR hd (by omega) ?_
  have sR : ∀ K, K ≠ 170 → (spU w1 PR uu).2.2.1 K = (npS w1 PR).2.2.1 K := fun K h => by
    unfold spU
    rw [wa_21 h, wa_21 h]
  have sF : FR [] [] [170] [] (npS w1 PR) (spU w1 PR uu) := FR.wa (FR.wa FR.rf (by simp)) (by simp)
  have npf := np_fr (u := w1) (z := PR)
  have hpS : hp (spU w1 PR uu) p = hp w1 p := by
    funext k
    show (npS w1 PR).2.2.2 88 (500 * p + k) = _
    rw [npf.2.2.2 88 (by decide)]
    rfl
  have s33 : F (spU w1 PR uu) 133 = ((p : Nat) : Int) := by rw [FR.F sF (by simp), FR.F npf (by decide)]; exact x33
  have s89 : A (spU w1 PR uu) 89 PR = 0 := by rw [FR.A sF (by simp), np_row (by decide), if_pos rfl]
  have s170 : A (spU w1 PR uu) 170 PR = ((uu : Nat) : Int) := wa_sm (by omega) (by omega)
  have sloc : ∀ d, d ≠ PR → LOCw d w1 (spU w1 PR uu) := fun d hd => ((np_loc hd).tr2 ((GGw_own (Or.inl ⟨by omega, rfl⟩)).1 d hd)).tr2 ((GGw_own (Or.inl ⟨by omega, rfl⟩)).1 d hd)
  refine sp_mid (b := b) (h := m.2.2.2 (pq p 2)) (U := U) (ow := ow) (kd := kd) (ow' := ow') (kd' := kd') (Fv := Fv) (Fv' := Fv') (P := P) (P' := P') (fn := I (-1)) (en := I ((e : Nat) : Int)) (by omega) hPR pn hh pt.1.2.2 pt.1.2.1 cx.1 (by rw [hpS]; exact xc.2.1) (by rw [hpS]; exact pl.1.2.1) tp st hv (by omega) (z0 21 (by simp)) (z0 24 (by simp)) (z0 26 (by simp)) (z0 4 (by simp)) (by rw [valI, hc0]; exact en.2) (by rw [valI, hc0]; exact en.1) s33 s89 hN (fun m4 r w4 r2' b2 s f4 s4 fw4 h89 h88 is2 rt2 hs cm cw => ?_)
  obtain ⟨sr, vr, c0, c1⟩ := cm
  obtain ⟨v2, cc⟩ := cw
  rw [hpS] at cc
  have i4 : ∀ k, k < 2000 → F m4 k = F m0 k := fun k h => by
    show (m4.1 k).toInt = (m0.1 k).toInt
    rw [f4.1 k (by simp; exact pq_n h), opS_1 (pq_n h)]
  have a4 : ∀ K i, K < 1948 → A m4 K i = A m K i := fun K i h => by
    show (m4.2.2.1 K i).toInt = (m.2.2.1 K i).toInt
    rw [f4.2.2.1 K (by simp), opS_A (pq_n (by omega)), f0.2.2.1 K (by omega) (by simp; omega)]
  have q4 : ∀ k, k < 100 → k ≠ 4 → k ≠ 21 → F m4 (pq PR k) = F m0 (pq PR k) := fun k h0 h1 h2 => by
    show (m4.1 (pq PR k)).toInt = (m0.1 (pq PR k)).toInt
    rw [f4.1 _ (by simp; exact fun c => h1 (pq_e h0 (by omega) c).2), opS_1 (pq_inj h2)]
  have h4342 : (((0 : Nat) : Int) ≤ F m4 (pq PR 43) ∧ ((0 : Nat) : Int) ≤ F m4 (pq PR 42)) := by
    obtain ⟨-, ⟨bb, -, b4, b5⟩, -⟩ := ln0
    rw [q4 43 (by omega) (by omega) (by omega), q4 42 (by omega) (by omega) (by omega), b4, b5]
    omega
  rw [hold_pp (p' := PR)]
  refine l_bnd (pk_mo (hold_m (N := N) (m := m4) (p := PR) (t := r) (v := 0) (L := L) (uu := uu) (ad := ad) (B := 0) vr (by omega) (by rw [c0]; exact hc0) (by rw [i4 449 (by omega), f0.Fg (by omega) (by simp)]; exact h449) hu (by rw [a4 32 uu (by omega)]; exact f32) had (by rw [a4 23 ad (by omega)]; exact fL) (by rw [q4 24 (by omega) (by omega) (by omega)]; exact z0 24 (by simp)) h4342) (fun m5 _ hx5 => ?_))
  obtain ⟨fx, q44, q24, q43, q32, q33⟩ := hx5
  rw [Nat.zero_add] at q24
  have dlt : decide (lg_cmp (hp w1 p (vn x)) 0 < 0) = false := decide_eq_false (Int32.not_lt.mpr ((lgc_ge _).mpr (by rw [hd]; omega)))
  rw [dlt, br_f, valueOf_e, bnd_so, v2, show I 0 + 1 = I ((1 : Nat) : Int) from rfl, cell_e (by omega) (by omega), bnd_so, cc, valI, hLw]
  refine rb_ck (fun _ => ?_)
  rw [lt_e, tnI (n := 60 * PR) rfl (by omega), wa_e]
  have v2' : va r2' = ((0 : Nat) : Int) := v2
  refine sh_lp (w0 := wa w4 101 (60 * PR) ((L : Nat) : Int)) (q := PR) (L := L) (v := 0) (t7 := r2') hPR (by omega) v2' (by omega) (fun u fu ru93 => ?_) L N _ 0 (by omega) FR.rf (fun k => by rw [if_neg (by omega)])
  -- all of the new one
  have uR : ∀ K, K ≠ 94 → (wa u 94 PR ((L : Nat) : Int)).2.2.1 K = (wa w4 101 (60 * PR) ((L : Nat) : Int)).2.2.1 K := fun K h => by rw [wa_21 h, fu.2.2.1 K (by simp)]
  have uR2 : ∀ K, K ≠ 94 → K ≠ 101 → K ≠ 89 → K ≠ 142 → (wa u 94 PR ((L : Nat) : Int)).2.2.1 K = (spU w1 PR uu).2.2.1 K := fun K h1 h2 h3 h4 => by rw [uR K h1, wa_21 h2, fw4.2.2.1 K (by simp; omega)]
  have uA : ∀ K i, K ≠ 94 → K ≠ 101 → K ≠ 89 → K ≠ 142 → A (wa u 94 PR ((L : Nat) : Int)) K i = A (spU w1 PR uu) K i := fun K i h1 h2 h3 h4 => by
    show ((wa u 94 PR ((L : Nat) : Int)).2.2.1 K i).toInt = _
    rw [uR2 K h1 h2 h3 h4]
    rfl
  have u94 : A (wa u 94 PR ((L : Nat) : Int)) 94 PR = ((L : Nat) : Int) := wa_sm (by omega) (by omega)
  have u101 : A (wa u 94 PR ((L : Nat) : Int)) 101 (60 * PR) = ((L : Nat) : Int) := by
    show ((wa u 94 PR ((L : Nat) : Int)).2.2.1 101 (60 * PR)).toInt = _
    rw [uR 101 (by omega)]
    exact wa_sm (by omega) (by omega)
  have u89 : A (wa u 94 PR ((L : Nat) : Int)) 89 PR = ((s : Nat) : Int) := by
    show ((wa u 94 PR ((L : Nat) : Int)).2.2.1 89 PR).toInt = _
    rw [uR 89 (by omega), wa_21 (by omega)]
    show A w4 89 PR = _
    rw [h89 PR, if_pos rfl]
  have u96 : A (wa u 94 PR ((L : Nat) : Int)) 96 (60 * PR) = -1 := by
    rw [uA 96 _ (by omega) (by omega) (by omega) (by omega), FR.A sF (by simp), np_fr1 (by decide), if_pos rfl]
  have u170 : A (wa u 94 PR ((L : Nat) : Int)) 170 PR = ((uu : Nat) : Int) := by rw [uA 170 _ (by omega) (by omega) (by omega) (by omega)]; exact s170
  have fN : FR [] [] [89, 94, 96, 101, 142, 170] [88, 93, 141] (npS w1 PR) (wa u 94 PR ((L : Nat) : Int)) := FR.wa (FR.tr (FR.wa (FR.tr (FR.mo sF (by simp) (by simp) (by simp) (by simp)) (FR.mo fw4 (by simp) (by simp) (by simp) (by simp))) (by simp)) (FR.mo fu (by simp) (by simp) (by simp) (by simp))) (by simp)
  have uloc : ∀ d, d ≠ PR → LOCw d w1 (wa u 94 PR ((L : Nat) : Int)) := fun d hd => by
    have s1 := (sloc d hd).tr2 (cp_loc hd fw4 h89 h88)
    have s2 : LOCw d w4 (wa w4 101 (60 * PR) ((L : Nat) : Int)) := (GGw_own (p := PR) (Or.inr (Or.inl ⟨by omega, by omega, by omega⟩))).1 d hd
    have s3 := j93_loc hd (show L ≤ 2500 by omega) fu ru93
    have s4 : LOCw d u (wa u 94 PR ((L : Nat) : Int)) := (GGw_own (p := PR) (Or.inl ⟨by omega, rfl⟩)).1 d hd
    exact ((s1.tr2 s2).tr2 s3).tr2 s4
  have gw := ng_w hPR uloc fN
  have gm := ng_m f0 e942 f4 fx
  have hm5 : m5.2.2.2 (pq PR 2) = m4.2.2.2 (pq PR 2) := fx.2.2.2.2.2.2.2 PR 2 (by omega) (fun _ => by simp)
  have hpC : hp (wa u 94 PR ((L : Nat) : Int)) PR = hp w4 PR := by
    funext k
    show u.2.2.2 88 (500 * PR + k) = _
    rw [fu.2.2.2 88 (by simp)]
    rfl
  have zr0 : isH r := Or.inl sr
  have vnr : vn r = 0 := by unfold vn; rw [vr]; rfl
  have vnr2 : vn r2' = 0 := by unfold vn; rw [v2]; rfl
  have prr : prt r = 2 := by unfold prt; rw [sr]; rfl
  have bl : blk (m4.2.2.2 (pq PR 2)) r = 2 + L := by
    unfold blk
    rw [if_neg (by omega), if_neg (by omega), if_pos sr, vnr, Nat.zero_add, c1]
    show 2 + (va (m.2.2.2 (pq p 2) (vn t + 1))).toNat = 2 + L
    rw [hLm, Int.toNat_natCast]
  obtain ⟨-, cs, -⟩ := is2.1 r r2' zr0 rt2
  have held : ∀ i, i < L → RTb b2 (m5.2.2.2 (pq PR 33) i) ((wa u 94 PR ((L : Nat) : Int)).2.2.2 93 (2500 * PR + i)) := fun i hi => by
    have h1 := cs (2 + i) (by omega) (by omega)
    rw [vnr, vnr2, Nat.zero_add] at h1
    rw [q33 i (by omega), if_neg (by omega), show 0 + 2 + (i - 0) = 2 + i by omega]
    show RTb b2 _ (u.2.2.2 93 (2500 * PR + i))
    rw [ru93, if_pos (by omega), show 0 + 2 + (2500 * PR + i - 2500 * PR) = 2 + i by omega]
    exact h1
  have A23 : A m5 23 = A m 23 := by
    funext k
    show (m5.2.2.1 23 k).toInt = _
    rw [fx.2.2.1 23 (by omega) (by simp)]
    exact a4 23 k (by omega)
  have gR : ∀ K, PRr K → (wa u 94 PR ((L : Nat) : Int)).2.2.1 K = w.2.2.1 K := fun K hK => (gw.2.2.1 K (by unfold PRr at hK; omega)).trans (g1.1.2.2.1 K (by unfold PRr at hK; simp; omega))
  have g34 : (wa u 94 PR ((L : Nat) : Int)).2.2.2 34 = w.2.2.2 34 := gw.2.2.2.1.trans (g1.1.2.2.2 34 (by simp))
  have nwm : NWm PR e L (-1) H m5 := nw_m (e := e) (H := H) z0 bv f4 fx (by rfl) (by omega) q24 (fun i x hx => by
    have hi : i < L := by
      rcases Nat.lt_or_ge i H.length with h | h
      · omega
      · rw [List.getElem?_eq_none h] at hx
        cases hx
    show (m5.2.2.1 (pq PR 32) i).toInt = _
    rw [q32 i (by omega), if_neg (by omega), show i - 0 = i by omega, a4 23 _ (by omega), nm i x hx]
    have := A_r m 23 (ad + 1 + i)
    rw [nm i x hx] at this
    exact I_ti this.1 this.2)
  have nww : NWw PR L (-1) (wa u 94 PR ((L : Nat) : Int)) := nw_w (u := w1) (by omega) u96 (fun K h1 h2 h3 h4 h5 h6 => by rw [uR2 K h1 h2 h5 h6, sR K h4]) u94 u101
  have f54 : F m5 (pq PR 4) = ((s : Nat) : Int) := by
    rw [← s4]
    exact congrArg Int32.toInt (fx.2.2.2.2.1 PR 4 (by omega) (fun _ => by simp))
  have nal := new_al (b := b2) (c := c) nwm nww hH ⟨f54, u89⟩ hs (by rw [hm5, hpC]; exact is2) held (Or.inr ⟨rfl, uu, u170, by
    show ((wa u 94 PR ((L : Nat) : Int)).2.2.1 53 uu).toInt = _
    rw [gR 53 (by unfold PRr; omega)]
    exact h53⟩) nd (by rw [A23, ROs_eq (w := w) gR, g34]; exact zr)
  exact spawn_fin (b2 := b2) (s := s) (L := L) hpp hPR wl hq ru sc hW ⟨xc.2.2.2.2.2.1.2, xc.2.2.2.2.2.2.1.2⟩ hl hl2 pl g1 h98 cr gm gw (by omega) nal ⟨nwm.1.2.2.2.2.2.2, nww.1.2.2.2.2.2.2, by show (m5.1 (pq PR 15)).toInt = 0; rw [nwm.2.1.2.2.2.1]; rfl⟩ (fun m3 w3 z1 z2 z3 z4 z5 z6 z7 => k m5 (wa u 94 PR ((L : Nat) : Int)) m3 w3 z1 z2 z3 z4 z5 z6 z7)
end
