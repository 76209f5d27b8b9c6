/-! spawn: size, room, copy, both sides -/
set_option maxRecDepth 100000
section
variable {b : Int → Nat → Nat → Prop} {h h' : Nat → Int64} {n n' : Nat}
theorem ISb_no : ISb (fun _ _ _ => False) h n h' n' := ⟨fun t x z r => by
  rcases r with ⟨c, -⟩ | ⟨-, -, -, c⟩
  · exact absurd z c
  · exact c.elim, fun _ _ _ _ _ _ c => c.elim, fun _ _ _ c => c.elim⟩
end
section
variable {N q : Nat} {m : MS} {z : Nat}
/-- room is there -/
theorem want_0 (h4 : F m (pq q 4) = 0) (hz : z ≤ 500) : hm_Pr_want N m q (I ((z : Nat) : Int)) = some (m, 1) := by
  unfold hm_Pr_want hb_Pr_want_0 hb_Pr_want_16 hb_Pr_want_33
  have h4' : F m (pq q 4) = ((0 : Nat) : Int) := h4
  rw [I_F' h4', addN, show (500 : Int32) = I 500 from rfl, decI (by omega) (by omega) (by omega) (by omega), show decide (((0 + z : Nat) : Int) ≤ 500) = true from decide_eq_true (by omega), br_t, decL (by omega) (by omega) (by omega) (by omega), show decide ((500 : Int) < ((0 + z : Nat) : Int)) = false from decide_eq_false (by omega), br_f]
  rfl
end
section
variable {α β : Type} {b : Int → Nat → Nat → Prop} {Fv Fv' : Int64 → Int64 → Prop} {P P' : Int64 → Prop} {N PR p U : Nat} {ow kd ow' kd' : Nat → Nat} {m0 wS : MS} {t x v3 : Int64} {fn en : Int32} {Q : MS → α → MS → β → Prop} {KL : MS → Unit → Option (MS × α)} {KR : MS → Unit → Option (MS × β)} {h : Nat → Int64} {G : MS → Int32 → Int64 → Int32 → Int32 → Option (MS × Unit)}
theorem sp_mid (hpp : p < 24) (hPR : PR < 24) (hpn : p ≠ PR) (hh : m0.2.2.2 (pq p 2) = h) (g : HPc h U ow kd Fv P) (hU : U ≤ 500) (hF : FVc Fv) (g' : HP (hp wS p) U ow' kd' Fv' P') (is : ISb b h U (hp wS p) U) (tp : TPb b U ow kd P U ow' kd' P' t x) (e3 : so t = 3) (hv : va t = ((vn t : Nat) : Int)) (hv2 : vn t < 512) (h21 : F m0 (pq PR 21) = 0) (h24 : F m0 (pq PR 24) = 0) (h26 : F m0 (pq PR 26) = 0) (h4 : F m0 (pq PR 4) = 0) (fo : hm_Ma_functionOf N m0 ((h (vn t)).toInt32) = some (m0, fn)) (eo : hm_Ma_entryOf N m0 p ((h (vn t)).toInt32) = some (m0, en)) (h133 : F wS 133 = ((p : Nat) : Int)) (h89 : A wS 89 PR = 0) (hN : 6000 ≤ N)
    (kk : ∀ m4 r w4 r2 b2 s, FR [pq PR 4] [] [] [pq PR 2, 45] (opS m0 PR 0 0 0 fn en) m4 → F m4 (pq PR 4) = ((s : Nat) : Int) → FR [] [] [89, 142] [88, 141] wS w4 → (∀ r, A w4 89 r = if r = PR then ((s : Nat) : Int) else A wS 89 r) → (∀ i, ¬ (500 * PR ≤ i ∧ i < 500 * PR + 500) → w4.2.2.2 88 i = wS.2.2.2 88 i) → ISb b2 (m4.2.2.2 (pq PR 2)) s (hp w4 PR) s → RTb b2 r r2 → s ≤ 500 → (so r = 3 ∧ va r = 0 ∧ m4.2.2.2 (pq PR 2) 0 = h (vn t) ∧ m4.2.2.2 (pq PR 2) 1 = h (vn t + 1)) → (va r2 = 0 ∧ hp w4 PR 1 = hp wS p (vn x + 1)) → PP Q (bnd (hm_Ma_hold N m4 p PR (pq PR 2) r) (fun u _ => bnd (hb_Ma_spawn_170 N () u p PR) KL)) (bnd (br (decide ((lg_cmp v3 0) < 0)) (an4 N w4 (I ((PR : Nat) : Int))) (bnd (fm_M_valueOf N w4 r2) (fun u10 r10 => bnd (fm_M_cell N u10 (I ((PR : Nat) : Int)) (r10 + 1)) (fun u11 r11 => ck (inb (I ((60 * PR : Nat) : Int)) (ln 101)) (lt (upA u11 101 (upd (u11.2.2.1 101) (I ((60 * PR : Nat) : Int)).toNatClampNeg (r11.toInt32))) (fun w12 => G w12 (I ((PR : Nat) : Int)) r2 (r11.toInt32) (0))))))) KR)) :
    PP Q (bnd (hb_Ma_spawn_59 N () m0 p t (some PR)) KL) (bnd (fb_M_spawnRun_150 N G wS x v3 (I ((PR : Nat) : Int)) (I ((60 * PR : Nat) : Int))) KR) := by
  obtain ⟨rt, gt, gt'⟩ := id tp
  have zt : isH t := Or.inl e3
  have zx : isH x := (RTb_isH rt).mpr zt
  have ex : so x = 3 := by rw [RTb_so rt]; exact e3
  unfold hb_Ma_spawn_59 fb_M_spawnRun_150
  rw [show decide ((some PR : Option Nat) = none) = false from rfl, br_f]
  have oe : hm_Fr_open N m0 PR fn en 0 = some (opS m0 PR 0 0 0 fn en, ()) := open_e (j := 0) (B := 0) (P0 := 0) (ar := 0) h21 (by omega) h24 h26
  refine lb_ck (fun _ => ?_)
  rw [bo_s, show (t.toInt32).toNatClampNeg = vn t from by rw [valI, hv]; exact tnI (n := vn t) rfl (by omega), hh, fo, bnd_so, eo, bnd_so, oe, bnd_so, I_F' h133]
  generalize hO : opS m0 PR 0 0 0 fn en = mO at kk
  have oJ : mO.2.2.2 = m0.2.2.2 := by rw [← hO]; rfl
  have o4 : F mO (pq PR 4) = 0 := by
    rw [← hO, ← h4]
    show ((wi m0 (pq PR 21) ((0 + 1 : Nat) : Int)).1 (pq PR 4)).toInt = _
    rw [wi_1 (pq_inj (by omega))]
    rfl
  refine l_bb (r_bb (pp_bb (pp_mo (size_pp (N := N) (v := pq p 2) (h := h) (p := p) (by unfold pq; omega) (by rw [oJ]; exact hh) rfl g hU hF g' hU (by omega) is tp hN) (fun m3 r w3 r' e => ?_))))
  obtain ⟨⟨fm3, fw3⟩, z, z1, ⟨f1, sz⟩, ⟨f2, sz'⟩, rfl, rfl⟩ := e
  obtain ⟨f9, s9, sz9, big⟩ := g t zt gt
  have es := SZ_func sz9 sz
  subst es
  have hs : s9 ≤ 500 := by
    rcases Nat.lt_or_ge 500 s9 with c | c
    · have := (big c).1
      omega
    · exact c
  have m34 : F m3 (pq PR 4) = 0 := by rw [FR.F fm3 (by simp)]; exact o4
  have w33 : F w3 133 = ((p : Nat) : Int) := by rw [FR.F fw3 (by simp)]; exact h133
  have hp3 : hp w3 p = hp wS p := by unfold hp; rw [fw3.2.2.2 88 (by simp)]
  have hh3 : m3.2.2.2 (pq p 2) = h := by rw [fm3.2.2.2 _ (by simp; unfold pq; omega), oJ]; exact hh
  have w389 : A w3 89 PR = 0 := by rw [FR.A fw3 (by simp)]; exact h89
  rw [if_pos hs, want_0 m34 hs, bnd_so, show decide ((1 : Int32) = 0) = false from rfl, br_f, show (500 : Int32) = I 500 from rfl, decI (by omega) (by omega) (by omega) (by omega), show decide (((s9 : Nat) : Int) ≤ 500) = true from decide_eq_true (by omega), br_t, I_F' w33]
  refine l_bb (r_bb (pp_bb (fun m4 r w4 r2 e1 e2 => ?_)))
  have g3 : HP (hp w3 p) U ow' kd' Fv' P' := by rw [hp3]; exact g'
  have sz3 : SZ (hp w3 p) U ow' kd' Fv' P' f2 x s9 := by rw [hp3]; exact sz'
  obtain ⟨⟨b2, -, -, is2, rt2⟩, ⟨y1, y2, -⟩, y4, y5, y6⟩ := copy_pp (N := N) (m := m3) (w := w3) (q := PR) (v := pq p 2) (o := p) (h := h) (s0 := 0) (s0' := 0) (bD := fun _ _ _ => False) (owd := fun _ => 0) (kdd := fun _ => 0) g hF hh3 (by omega) (fun c => absurd c (by unfold pq; omega)) g3 hU (by omega) hPR (fun c => absurd c hpn) (by rw [hp3]; exact is.w) rt sz sz3 (by rw [m34]; rfl) (by rw [w389]; rfl) ISb_no ⟨by omega, by omega⟩ HP_0 (by omega) m4 r w4 r2 e1 e2
  obtain ⟨-, -, -, ow2, kd2, -, -, -, -, -, sr, hdr⟩ := pk_ok (copyIn_hd (N := N) (u := m3) (q := PR) (b := pq p 2) (s0 := 0) (owd := fun _ => 0) (kdd := fun _ => 0) g hF (by omega) (by omega) (fun c _ => by rw [hh3]) (fun c => absurd c (by unfold pq; omega)) sz (by rw [m34]; rfl) HP_0 (by omega)) m4 r e1
  obtain ⟨vr, cl⟩ := hdr zt
  have pr : prt t = 2 := by unfold prt; rw [e3]; rfl
  have c0 := cl 0 (by omega)
  have c1 := cl 1 (by omega)
  have rr := copy_res (N := N) (w := w3) (s0' := 0) (by omega) zx (by rw [w389]; rfl) w4 r2 e2
  have v2 : va r2 = 0 := by rw [rr, va_rp (by omega) (by omega)]; rfl
  have cc : hp w4 PR (vn r2 + 1) = hp w3 p (vn x + 1) := copy_c1 (N := N) (p := p) (q := PR) (by omega) (by omega) hpn hU hs g3 sz3 w389 (by omega) ex w4 r2 e2
  rw [show vn r2 + 1 = 1 by unfold vn; rw [v2]; rfl, hp3] at cc
  rw [Nat.zero_add] at is2 y2
  show PP Q (bnd (bnd (hm_Ma_hold N m4 p PR (pq PR 2) r) (fun u36 _ => hb_Ma_spawn_170 N () u36 p PR)) KL) _
  refine l_bb ?_
  refine kk m4 r w4 r2 b2 s9 (FR.tr (FR.mo fm3 (by simp) (by simp) (by simp) (by simp)) (FR.mo y1 (by simp) (by simp) (by simp) (by simp))) y2 (FR.tr (FR.mo fw3 (by simp) (by simp) (by simp) (by simp)) y4) (fun r => ?_) (fun i hi => ?_) is2 rt2 hs ⟨sr.trans e3, vr, c0, c1⟩ ⟨v2, cc⟩
  · rw [y5 r, Nat.zero_add, FR.A fw3 (by simp)]
  · rw [y6 i (by omega), fw3.2.2.2 88 (by simp)]
end
