/-! send: a pair, both sides; send itself -/
set_option maxRecDepth 100000
/-- a pair is told, here -/
def sdT (N : Nat) (w4 : MS) (v1 v3 : Int32) : Option (MS × Unit) := ck (inb v1 (ln 109)) (br (decide ((w4.2.2.1 109 v1.toNatClampNeg) = 3)) (fb_M_send_238 N () w4) (ck (inb v1 (ln 108)) (br (decide (30 ≤ (w4.2.2.1 108 v1.toNatClampNeg))) (fb_M_send_238 N () w4) (bnd (fm_M_wants N w4 v1 3) (fun u5 r5 => br (decide (r5 = 0)) (bnd (fm_M_term N u5 1 20) (fun u6 r6 => bnd (fm_M_willEnd N u6 v1 0 v1 r6) (fun u7 _ => fb_M_send_238 N () u7))) (ck (inb v1 (ln 89)) (ck (inb v1 (ln 89)) (ck (inb v1 (ln 89)) (lt (upA u5 89 (upd (u5.2.2.1 89) v1.toNatClampNeg ((u5.2.2.1 89 v1.toNatClampNeg) + 3))) (fun w8 => ck (inb ((v1 * 500) + (u5.2.2.1 89 v1.toNatClampNeg)) (ln 88)) (lt (upJ w8 88 (vp_updL (w8.2.2.2 88) ((v1 * 500) + (u5.2.2.1 89 v1.toNatClampNeg)).toNatClampNeg 2)) (fun w9 => bnd (fm_M_term N w9 0 v3) (fun u10 r10 => ck (inb (((v1 * 500) + (u5.2.2.1 89 v1.toNatClampNeg)) + 1) (ln 88)) (lt (upJ u10 88 (vp_updL (u10.2.2.2 88) (((v1 * 500) + (u5.2.2.1 89 v1.toNatClampNeg)) + 1).toNatClampNeg r10)) (fun w11 => bnd (fm_M_term N w11 4 v1) (fun u12 r12 => ck (inb (((v1 * 500) + (u5.2.2.1 89 v1.toNatClampNeg)) + 2) (ln 88)) (lt (upJ u12 88 (vp_updL (u12.2.2.2 88) (((v1 * 500) + (u5.2.2.1 89 v1.toNatClampNeg)) + 2).toNatClampNeg r12)) (fun w13 => ck (inb v1 (ln 108)) (bnd (fm_M_term N w13 5 (u5.2.2.1 89 v1.toNatClampNeg)) (fun u14 r14 => ck (inb ((v1 * 30) + (w13.2.2.1 108 v1.toNatClampNeg)) (ln 107)) (lt (upJ u14 107 (vp_updL (u14.2.2.2 107) ((v1 * 30) + (w13.2.2.1 108 v1.toNatClampNeg)).toNatClampNeg r14)) (fun w15 => ck (inb v1 (ln 108)) (ck (inb v1 (ln 108)) (lt (upA w15 108 (upd (w15.2.2.1 108) v1.toNatClampNeg ((w15.2.2.1 108 v1.toNatClampNeg) + 1))) (fun w16 => fb_M_send_238 N () w16)))))))))))))))))))))))))
section
variable {b : Int → Nat → Nat → Prop} {Fv Fv' : Int64 → Int64 → Prop} {P P' : Int64 → Prop} {N PR q i j U B Wt Y e e' n2 opM bnM bxM : Nat} {ow2 kd2 : Nat → Nat} {m w m2 w2 v0 v1 : MS} {x : Int} {t : Int64} {cur : Option Nat} {RR : Nat → MS → MS → Prop}
theorem ck_i {α : Type} {c : Bool} {o : Option α} {y : α} (h : ck c o = some y) : o = some y := by
  cases c
  · cases h
  · exact h
theorem XMr_co (hY : Y < 30) : XMr q w (coR w q Y t) := by
  unfold coR
  refine ⟨FR.wa (FR.wj FR.rf (by simp)) (by simp), fun r hr => ⟨?_, ?_, ?_⟩, fun i _ => ?_, fun i _ => ?_, fun i _ => ?_, fun i hi => ?_⟩
  · rw [wa_rne (by omega)]
    rfl
  · rw [wa_21 (by omega)]
    rfl
  · rw [wa_ro (by omega) (by omega), if_neg hr]
    rfl
  · show (wj w 107 (30 * q + Y) t).2.2.2 88 i = _
    rw [wj_22 (by omega)]
  · show (wj w 107 (30 * q + Y) t).2.2.2 91 i = _
    rw [wj_22 (by omega)]
  · show (wj w 107 (30 * q + Y) t).2.2.2 93 i = _
    rw [wj_22 (by omega)]
  · show (wj w 107 (30 * q + Y) t).2.2.2 107 i = _
    rw [wj_row, if_neg (by omega)]
/-- the world behind a message that has come, or for which there was no room -/
theorem wl_mps (W : WLs RR PR Fv P Fv' P' cur i j m w) (hq : q < PR) (hal : F m (pq q 9) ≠ 3) (h9 : A w 109 q ≠ 3) (qc : some q ≠ cur) (pl : PLs b q m w U B Wt Y) (rs : SCs q m w ∧ RR q m w) (he : F m 955 = ((e : Nat) : Int) ∧ e < 24) (he' : F w 150 = ((e' : Nat) : Int) ∧ e' < 4000) (mp : MPs q B Wt Y e e' m w m2 w2) (sf2 : SFs Fv P Fv' P' PR m2 w2) : WLs RR PR Fv P Fv' P' cur i j m2 w2 ∧ MVs m w m2 w2 := by
  have W0 := W
  obtain ⟨sf, -, pr, hR⟩ := W
  have sf0 := sf
  obtain ⟨⟨d, cx⟩, ⟨dw, lk, wt⟩, pb⟩ := sf
  have p24 := dw.1.2
  obtain ⟨-, -, -, b4⟩ := SF_al sf0 hq hal pl
  rcases mp with ⟨-, rfl, rfl⟩ | ⟨m1, w1, x1, x2, x5, rfl, rfl⟩ | ⟨hY, U2, ⟨b2, pl2⟩, x1, x2⟩
  · exact ⟨W0, MVs.rf⟩
  · have v := enS_v (m := m1) (q := q) (t := mk 1 20) (hm := q) (e := e)
    have a9 := enR_9 (w := w1) (q := q) (wr := 0) (o := q) (x := mk 1 20) (e := e')
    have p20 : P (mk 1 20) := cx.2.2.2.2.2.1 20 (by omega) (by have := cx.2.2.2.1; omega)
    have p20' : P' (mk 1 20) := pb.1 20 (by omega) (by omega)
    have so1 : so (mk 1 20) = 1 := so_mk (by omega) (by omega)
    have k := wl_end W0 hq ⟨hal, h9⟩ qc x1 x2 he he' x5 ⟨by omega, by omega⟩ (by omega) sf2 ⟨q, 0, by rw [v.2.1]; exact rf_some (by omega), hq, v.1, Or.inr ⟨hq, by rw [a9, if_pos rfl]⟩, by
      rw [v.2.2]
      exact SRs_lit (nh_mk (by omega)) (fun c => by omega) p20 p20' (by omega) (by omega), Or.inl ⟨nh_mk (by omega), p20'⟩⟩
    exact ⟨k.1, k.2.1⟩
  · have pg := PGs_xm x1 x2
    have D : ∀ d, d ≠ q → LOCm d m m2 ∧ LOCw d w w2 := fun d hd => ⟨LOCm_xm x1 hd, LOCw_xm x2 hd⟩
    refine ⟨WL_move W0 sf2 pg hq ⟨hal, h9⟩ D ⟨e, e', he.1, he'.1, fun k _ => FR.A x1 (by simp), fun k _ => ⟨fun K hK => FR.A x2.1 (by simp; omega), by rw [x2.1.2.2.2 148 (by simp)]⟩, Or.inl ⟨?_, ?_, ?_, ?_, b2, U2, B, Wt, Y + 1, pl2, SC_eq rs.1 b4.2 (EQm.xm x1 q) (EQw.xm x2 q), hR _ _ _ _ _ rs.2 (EQm.xm x1 q).n (EQw.xm x2 q).v pg⟩⟩, pg, fun d hd => (D d (fun c => hal (by rw [← c]; exact hd))).1, fun d hd => (D d (fun c => ?_)).2, ⟨fun k hk => x1.2.2.1 k (by simp), x1.1 950 (by simp [pq_n]), x1.1 956 (by simp [pq_n])⟩, fun k hk => x2.1.2.2.1 k (by simp; omega), x2.1.1 125 (by simp), x2.1.1 149 (by simp)⟩
    · rw [FR.F x1 (by simp [pq_n])]; exact he.1
    · rw [FR.F x2.1 (by simp)]; exact he'.1
    · rw [FR.F x1 (by simp; exact ⟨pq_inj (by omega), pq_inj (by omega), pq_inj (by omega)⟩)]; exact hal
    · rw [FR.A x2.1 (by simp)]; exact h9
    · rcases hd with hd | hd
      · omega
      · exact h9 (by rw [← c]; exact hd)
/-- the pair's cells, here -/
def prW (w : MS) (q U : Nat) (x : Int) : MS := wj (wj (wj (wa w 89 q ((U : Int) + 3)) 88 (500 * q + U) 2) 88 (500 * q + (U + 1)) (mk 0 x)) 88 (500 * q + (U + 2)) (mk 4 q)
/-- there -/
def prM (m : MS) (q U : Nat) (x : Int) : MS := wi (wj (wj (wj m (pq q 2) U (mk 8 2)) (pq q 2) (U + 1) (mk 0 x)) (pq q 2) (U + 2) (mk 4 ((q : Nat) : Int))) (pq q 4) ((U + 3 : Nat) : Int)
/-- safety of the pair, here -/
theorem pr_dw (d0 : DW Fv P PR v0) (hPB : PB P PR) (hq : q < PR) (e9 : ¬ A v0 109 q = 3) (hb : bxM < 30) (hv : -2147483648 ≤ x ∧ x < 2147483648) (mq : MQ Fv P v0 v1 q n2 ow2 kd2 opM bnM bxM) (hroom : n2 + 3 ≤ 500) : DW Fv P PR (coR (prW v1 q n2 x) q bxM (mk 5 (n2 : Int))) := by
  have pr := d0.1.2
  have un : ∀ j, n2 + j < owH n2 ow2 (n2 + j) := fun j => by unfold owH; rw [if_pos (by omega)]; omega
  have mh := MQ_hole mq 3 (by omega)
  have mc := MQ_cell (t := mk 4 q) (MQ_cell (t := mk 0 x) (MQ_cell (t := 2) mh (i := n2) (by omega) (un 0)) (i := n2 + 1) (by omega) (un 1)) (i := n2 + 2) (by omega) (un 2)
  rw [show (n2 : Int) + ((3 : Nat) : Int) = (n2 : Int) + 3 from by omega] at mc
  have k0 : hp (prW v1 q n2 x) q n2 = 2 := by unfold prW; rw [hp_wj, if_neg (by omega), hp_wj, if_neg (by omega), hp_wj, if_pos rfl]
  have k1 : hp (prW v1 q n2 x) q (n2 + 1) = mk 0 x := by unfold prW; rw [hp_wj, if_neg (by omega), hp_wj, if_pos rfl]
  have k2 : hp (prW v1 q n2 x) q (n2 + 2) = mk 4 q := by unfold prW; rw [hp_wj, if_pos rfl]
  have mc2 : MQ Fv P v0 (prW v1 q n2 x) q (n2 + 3) (owH n2 ow2) kd2 opM bnM bxM := mc
  clear mc
  generalize prW v1 q n2 x = y at *
  have e5 : so (mk 5 (n2 : Int)) = 5 := so_mk (by omega) (by omega)
  have v5 : va (mk 5 (n2 : Int)) = n2 := va_mk (by omega) (by omega)
  have n5 : vn (mk 5 (n2 : Int)) = n2 := by unfold vn; rw [v5]; omega
  have va2 : va (2 : Int64) = 2 := by decide
  have bb : blk (hp y q) (mk 5 (n2 : Int)) = 3 := by unfold blk; rw [e5, n5, k0]; simp; unfold vn; rw [va2]; decide
  have pp : prt (mk 5 (n2 : Int)) = 1 := by unfold prt; rw [e5]; rfl
  have na : ¬ isH (mk 0 x) := nh_mk (by omega)
  obtain ⟨ow3, kd3, p1, p2, p3, p4, p5, p6, -⟩ := HP_put mc2.2.1.2.1 (h2 := hp y q) (m := 3) (k := n2) (x := mk 5 (n2 : Int)) (fun _ _ => rfl) (by omega) (fun j _ => un j) (Or.inr (Or.inl e5)) (by omega) n5 bb (fun _ => by rw [k0]; exact HDC2) (fun e => by omega) (fun j h1 h2 => by
    rw [pp] at h1
    by_cases e : j = 1
    · rw [e, k1]; exact Or.inl ⟨na, hPB.2.2.2.1 x hv.1 hv.2⟩
    · have : j = 2 := by omega
      rw [this, k2]; exact Or.inl ⟨nh_mk (by omega), hPB.2.1 q hq⟩) (Or.inl ⟨e5, rfl, by rw [k1]; exact na⟩)
  have m4 : MQ Fv P v0 y q (n2 + 3) ow3 kd3 opM bnM bxM := MQ_heap mc2 FR.rf mc2.1 (by omega) (fun _ _ => rfl) (fun _ _ => rfl) p4 (fun t g => GT_own g (Nat.le_refl _) p1 p2)
  have bx := box_ok (N := 0) m4 d0 hq e9 hb p5
  rw [box_e (by omega) m4.2.1.2.2.2.2.2.2.1.1 hb] at bx
  exact (ok_some.mp bx).1
/-- the pair: cells of both go together -/
theorem pr_pl (hq : q < 24) (pl : PLs b q m w U B Wt Y) (hU : U + 3 ≤ 500) (hY : Y < 30) (hv : -2147483648 ≤ x ∧ x < 2147483648) : ∃ b2, PLs b2 q (coS (prM m q U x) q Y (mk 5 ((U : Nat) : Int))) (coR (prW w q U x) q Y (mk 5 ((U : Nat) : Int))) (U + 3) B Wt (Y + 1) := by
  have r1 : ∀ k, (prM m q U x).2.2.2 (pq q 2) k = if k = U + 2 then mk 4 ((q : Nat) : Int) else if k = U + 1 then mk 0 x else if k = U then mk 8 2 else m.2.2.2 (pq q 2) k := fun k => by
    show (wj (wj (wj m (pq q 2) U (mk 8 2)) (pq q 2) (U + 1) (mk 0 x)) (pq q 2) (U + 2) (mk 4 ((q : Nat) : Int))).2.2.2 (pq q 2) k = _
    rw [wj_row, wj_row, wj_row]
  have r2 : ∀ k, hp (prW w q U x) q k = if k = U + 2 then mk 4 ((q : Nat) : Int) else if k = U + 1 then mk 0 x else if k = U then 2 else hp w q k := fun k => by
    unfold prW
    rw [hp_wj, hp_wj, hp_wj]
    rfl
  have ti := tup_iso (k := 2) (L := [mk 0 x, mk 4 ((q : Nat) : Int)]) (L' := [mk 0 x, mk 4 ((q : Nat) : Int)]) (h2 := (prM m q U x).2.2.2 (pq q 2)) (h2' := hp (prW w q U x) q) pl.1.2.1 rfl rfl (fun i t y h1 h2 => by
    have e : y = t := by
      rw [h1] at h2
      injection h2 with h2
      exact h2.symm
    subst e
    rcases (show i = 0 ∨ i = 1 ∨ 2 ≤ i by omega) with rfl | rfl | h
    · have : y = mk 0 x := by simpa using h1.symm
      subst this
      exact RTb_lit (nh_mk (by omega)) (fun c => by rw [so_mk (by omega) (by omega)] at c; omega)
    · have : y = mk 4 ((q : Nat) : Int) := by simpa using h1.symm
      subst this
      exact RTb_lit (nh_mk (by omega)) (fun c => by rw [so_mk (by omega) (by omega)] at c; omega)
    · rw [List.getElem?_eq_none (by simpa using h)] at h1
      cases h1) (by omega) (by rw [r1, if_neg (by omega), if_neg (by omega), if_pos rfl]; unfold vn; rw [va_mk (by omega) (by omega)]; rfl) (by rw [r2, if_neg (by omega), if_neg (by omega), if_pos rfl]; unfold vn; rw [show va (2 : Int64) = 2 by decide]; rfl) (fun i t h => by
    rcases (show i = 0 ∨ i = 1 ∨ 2 ≤ i by omega) with rfl | rfl | h'
    · have : t = mk 0 x := by simpa using h.symm
      rw [r1, if_neg (by omega), if_pos (by omega), this]
    · have : t = mk 4 ((q : Nat) : Int) := by simpa using h.symm
      rw [r1, if_pos (by omega), this]
    · rw [List.getElem?_eq_none (by simpa using h')] at h
      cases h) (fun i t h => by
    rcases (show i = 0 ∨ i = 1 ∨ 2 ≤ i by omega) with rfl | rfl | h'
    · have : t = mk 0 x := by simpa using h.symm
      rw [r2, if_neg (by omega), if_pos (by omega), this]
    · have : t = mk 4 ((q : Nat) : Int) := by simpa using h.symm
      rw [r2, if_pos (by omega), this]
    · rw [List.getElem?_eq_none (by simpa using h')] at h
      cases h) (fun i hi => by rw [r1, if_neg (by omega), if_neg (by omega), if_neg (by omega)]) (fun i hi => by rw [r2, if_neg (by omega), if_neg (by omega), if_neg (by omega)])
  have pn := PLs_new (m2 := prM m q U x) (w2 := prW w q U x) (n := U + 3) pl (fun k a c h => Or.inl h) (fun k hk => by
    unfold prM
    rw [wi_1 (pq_inj (by simp at hk; omega))]
    rfl) (fun k hk => by
    show (wj (wj (wj m (pq q 2) U (mk 8 2)) (pq q 2) (U + 1) (mk 0 x)) (pq q 2) (U + 2) (mk 4 ((q : Nat) : Int))).2.2.2 (pq q k) = _
    rw [wj_22 (pq_inj (by simp at hk; omega)), wj_22 (pq_inj (by simp at hk; omega)), wj_22 (pq_inj (by simp at hk; omega))]) (fun k hk => by
    show (wa w 89 q ((U : Int) + 3)).2.2.1 k q = _
    rw [wa_21 (by simp at hk; omega)]) (fun k hk => by
    unfold prW
    rw [wj_22 (by simp at hk; omega), wj_22 (by simp at hk; omega), wj_22 (by simp at hk; omega)]
    rfl) (by unfold prM; rw [wi_sm (by omega) (by omega)]) (by
    show A (wa w 89 q ((U : Int) + 3)) 89 q = _
    rw [wa_sm (by omega) (by omega)]
    omega) (by omega) ti.1
  exact ⟨_, PLs_comes pn ti.2 hY⟩
end
