/-! copyIn: which cell points where -/
set_option maxRecDepth 100000
/-- cells point to later and later blocks, each block but the first has one that points to it -/
def PTRc (d : Nat → Int64) (s0 U i : Nat) (bs : Nat → Nat) : Prop := (∀ c, s0 ≤ c → c < i → isH (d c) → s0 < vn (d c) ∧ vn (d c) < U ∧ c < vn (d c)) ∧ (∀ c1 c2, s0 ≤ c1 → c1 < c2 → c2 < i → isH (d c1) → isH (d c2) → vn (d c1) < vn (d c2)) ∧ ∀ a, s0 < a → a < U → bs a = a → ∃ c, s0 ≤ c ∧ c < i ∧ isH (d c) ∧ vn (d c) = a
/-- a copy -/
def CPXc (h : Nat → Int64) (n : Nat) (ow kd : Nat → Nat) (P : Int64 → Prop) (d : Nat → Int64) (s0 s : Nat) (t r : Int64) : Prop := ∃ src bs, CPc h n ow kd P d s0 (s0 + s) (s0 + s) src bs ∧ PTRc d s0 (s0 + s) (s0 + s) bs ∧ 0 < s ∧ bs s0 = s0 ∧ src s0 = t ∧ so r = so t ∧ va r = ((s0 : Nat) : Int)
section
variable {h d0 d d2 : Nat → Int64} {n N b s0 q s U i m : Nat} {ow kd owd kdd bs : Nat → Nat} {Fv : Int64 → Int64 → Prop} {P : Int64 → Prop} {u v w u0 : MS} {t x y : Int64}
theorem PTR_add (p : PTRc d s0 U i bs) (h6 : s0 ≤ i) (hi : i < U) (e1 : isH (d2 i)) (e2 : va (d2 i) = ((U : Nat) : Int)) (e3 : ∀ k, s0 ≤ k → k < U → k ≠ i → d2 k = d k) (hm : 0 < m) : PTRc d2 s0 (U + m) (i + 1) (fun k => if U ≤ k then U else bs k) := by
  obtain ⟨p1, p2, p3⟩ := p
  have ev : vn (d2 i) = U := by unfold vn; rw [e2]; omega
  have old : ∀ c, s0 ≤ c → c < i → d2 c = d c := fun c a1 a2 => e3 c a1 (by omega) (by omega)
  refine ⟨fun c a1 a2 z => ?_, fun c1 c2 a1 a2 a3 z1 z2 => ?_, fun a a1 a2 a3 => ?_⟩
  · by_cases e : c = i
    · subst e; rw [ev]; omega
    · rw [old c a1 (by omega)] at z ⊢
      have := p1 c a1 (by omega) z
      omega
  · rw [old c1 a1 (by omega)] at z1 ⊢
    by_cases e : c2 = i
    · subst e; rw [ev]; exact (p1 c1 a1 (by omega) z1).2.1
    · rw [old c2 (by omega) (by omega)] at z2 ⊢
      exact p2 c1 c2 a1 a2 (by omega) z1 z2
  · by_cases e : U ≤ a
    · have e9 : (if U ≤ a then U else bs a) = a := a3
      rw [if_pos e] at e9
      exact ⟨i, h6, by omega, e1, by omega⟩
    · have e9 : (if U ≤ a then U else bs a) = a := a3
      rw [if_neg e] at e9
      obtain ⟨c, k1, k2, k3, k4⟩ := p3 a a1 (by omega) e9
      exact ⟨c, k1, by omega, by rw [old c k1 k2]; exact k3, by rw [old c k1 k2]; exact k4⟩
theorem PTR_next (p : PTRc d s0 U i bs) (e1 : ¬ isH (d i)) : PTRc d s0 U (i + 1) bs := by
  obtain ⟨p1, p2, p3⟩ := p
  refine ⟨fun c a1 a2 z => ?_, fun c1 c2 a1 a2 a3 z1 z2 => ?_, fun a a1 a2 a3 => ?_⟩
  · by_cases e : c = i
    · subst e; exact absurd z e1
    · exact p1 c a1 (by omega) z
  · by_cases e : c2 = i
    · subst e; exact absurd z2 e1
    · exact p2 c1 c2 a1 a2 (by omega) z1 z2
  · obtain ⟨c, k1, k2, k3⟩ := p3 a a1 a2 a3
    exact ⟨c, k1, by omega, k3⟩
theorem PTR_0 : PTRc d s0 U s0 (fun _ => s0) := ⟨fun c a1 a2 _ => by omega, fun c1 c2 a1 a2 a3 _ _ => by omega, fun a a1 _ a3 => by have a3 : s0 = a := a3; omega⟩
/-- as CIS, with that -/
def CISx (h : Nat → Int64) (n : Nat) (ow kd : Nat → Nat) (Fv : Int64 → Int64 → Prop) (P : Int64 → Prop) (q b s0 s : Nat) (d0 : Nat → Int64) (t : Int64) (u0 w : MS) (i : Nat) (cp : Int64) : Prop :=
  ∃ (U : Nat) (src : Nat → Int64) (bs z : Nat → Nat), FR [pq q 4] [] [] [pq q 2] u0 w ∧ F w (pq q 4) = ((U : Nat) : Int) ∧ CPc h n ow kd P (w.2.2.2 (pq q 2)) s0 U i src bs ∧ (∀ c, i ≤ c → c < U → (isH (xcO h src bs c) → ∃ f, SZc h n ow kd Fv P f (xcO h src bs c) (z c)) ∧ (¬ isH (xcO h src bs c) → z c = 0)) ∧ U + smm z i (U - i) = s0 + s ∧ (∀ k, k < s0 → w.2.2.2 (pq q 2) k = d0 k) ∧ s0 < U ∧ bs s0 = s0 ∧ src s0 = t ∧ so cp = so t ∧ va cp = ((s0 : Nat) : Int) ∧ s0 ≤ i ∧ i ≤ U ∧ PTRc (w.2.2.2 (pq q 2)) s0 U i bs
theorem copy_loopx (g : HPc h n ow kd Fv P) (hF : FVc Fv) (hn : n ≤ 512) (hs : s0 + s ≤ 512) (hb : ∀ c, c < n → u0.2.2.2 b c = h c) (hbq : b = pq q 2 → n ≤ s0 ∧ ∀ k, k < s0 → u0.2.2.2 b k = d0 k) : ∀ (M i : Nat) (w : MS) (cp : Int64), 513 - i < M → CISx h n ow kd Fv P q b s0 s d0 t u0 w i cp → OK (fun w r => ∃ U, CISx h n ow kd Fv P q b s0 s d0 t u0 w U r ∧ U = s0 + s) (hg_Pr_copyIn N M w q b t cp (I s0) (I i)) := by
  intro M
  induction M with
  | zero => intro i w cp z; omega
  | succ M ih =>
    intro i w cp hm hc
    have hc' := hc
    obtain ⟨U, src, bs, z, f, hU, hC, hz, hsum, hd, h1, h2, h3, h4, h5, h6, h7, h8⟩ := hc
    have hrow := src_row hb hbq f hd
    have hUb : U ≤ 512 := by omega
    show OK _ (hb_Pr_copyIn_15 N (hg_Pr_copyIn N M) w q b t cp (I s0) (I i))
    unfold hb_Pr_copyIn_15
    rw [I_F (k := pq q 4), hU]
    refine k_le ⟨by omega, by omega⟩ ⟨by omega, by omega⟩ (fun e => ?_) (fun e => ?_)
    · have ei : i = U := by omega
      subst ei
      rw [Nat.sub_self] at hsum
      have e0 : smm z i 0 = 0 := rfl
      exact ok_some.mpr ⟨i, hc', by omega⟩
    · have hi : i < U := by omega
      refine k_le ⟨by omega, by omega⟩ ⟨by omega, by omega⟩ (fun _ => ?_) (fun e2 => by omega)
      refine e_in ⟨by omega, by omega⟩ (by decide) ?_
      rw [tnI (n := i) rfl (by omega)]
      unfold hb_Pr_copyIn_42 hb_Pr_copyIn_140
      have nextI : I (i : Int) + 1 = I ((i + 1 : Nat) : Int) := by rw [lit1, I_add]; congr 1
      by_cases hx : isH (w.2.2.2 (pq q 2) i)
      · have hxe := CPc_at hC h6 hi hx
        have gx : GT n ow kd P (w.2.2.2 (pq q 2) i) := by rw [hxe]; exact xcO_gt g hF hC h6 hi (by rw [← hxe]; exact hx)
        obtain ⟨bk, -⟩ := HP_bkc g hx gx
        obtain ⟨bk2, eb⟩ := BK_agree (h2 := w.2.2.2 b) hrow hx bk
        have hbp := blk_pos (h := h) hx
        have hbl := bk.2.2.2.1
        obtain ⟨fz, zz⟩ := (hz i (Nat.le_refl _) hi).1 (by rw [← hxe]; exact hx)
        rw [← hxe] at zz
        obtain ⟨f2, cc, -, zp, ze⟩ := SZ_blkc zz hx
        have hp := prt_le (h := h) hx
        have hcut := smm_cut (c := z) hi
        generalize hX : w.2.2.2 (pq q 2) i = X at *
        have hv := vn_e bk.1
        rw [cellsAt_h rfl hn hx bk2, bnd_so, eb, lit0]
        refine k_eq ⟨by omega, by omega⟩ ⟨by decide, by decide⟩ (fun e3 => by omega) (fun _ => ?_)
        rw [I_F (k := pq q 4), hU, I_add, I_lit (n := 512)]
        refine k_le ⟨by omega, by omega⟩ ⟨by decide, by decide⟩ (fun _ => ?_) (fun e3 => absurd e3 (by show ¬ (512 : Int) < _; omega))
        refine ok_lt.mpr ?_
        rw [valI, hv]
        refine e_cp ⟨by omega, by omega, by omega, by omega, by omega⟩ (by decide) (by decide) (ok_lt.mpr ?_)
        rw [tnI (n := vn X) rfl (by omega), tnI (n := U) rfl (by omega), tnI (n := blk h X) rfl (by omega)]
        generalize hw9 : upJ w (pq q 2) (va_cpy (w.2.2.2 b) (w.2.2.2 (pq q 2)) (vn X) U (blk h X)) = w9
        have f9 : FR [pq q 4] [] [] [pq q 2] u0 w9 := by rw [← hw9]; exact FR_upJ f (by simp)
        have e9 : w9.1 (pq q 4) = I (U : Int) := by rw [← hw9]; show w.1 (pq q 4) = _; rw [I_F, hU]
        have r9 : w9.2.2.2 (pq q 2) = va_cpy (w.2.2.2 b) (w.2.2.2 (pq q 2)) (vn X) U (blk h X) := by rw [← hw9]; exact upJ_row
        refine ok_lt.mpr ?_
        rw [e9, I_add, wi_e]
        refine k_le ⟨by omega, by omega⟩ ⟨by omega, by omega⟩ (fun _ => ?_) (fun e2 => by omega)
        refine e_in ⟨by omega, by omega⟩ (by decide) (ok_lt.mpr ?_)
        rw [tnI (n := i) rfl (by omega), wj_e, nextI]
        generalize hpt : (((X >>> ((32 : Int32).toInt64 &&& 63)) <<< ((32 : Int32).toInt64 &&& 63)) ||| (I (U : Int)).toInt64) = pt
        have sp : so pt = so X := by rw [← hpt]; exact so_up (by omega) (by omega)
        have vp : va pt = ((U : Nat) : Int) := by rw [← hpt]; exact va_or (by omega) (by omega)
        have rr : ∀ k, (wj (wi w9 (pq q 4) ((U : Int) + (blk h X : Int))) (pq q 2) i pt).2.2.2 (pq q 2) k = if k = i then pt else va_cpy (w.2.2.2 b) (w.2.2.2 (pq q 2)) (vn X) U (blk h X) k := by
          intro k
          rw [wj_row]
          by_cases ek : k = i
          · rw [if_pos ek, if_pos ek]
          · rw [if_neg ek, if_neg ek]
            show w9.2.2.2 (pq q 2) k = _
            rw [r9]
        have hC2 := CPc_add (d2 := (wj (wi w9 (pq q 4) ((U : Int) + (blk h X : Int))) (pq q 2) i pt).2.2.2 (pq q 2)) g hF hC h6 hi (by rw [hX]; exact hx) (fun j hj => by
          rw [hX] at hj ⊢
          rw [rr, if_neg (by omega), cpy_in hj]
          exact hrow _ (by omega)) (by rw [hX, rr, if_pos rfl]; exact ⟨sp, vp⟩) (fun k k1 k2 k3 => by rw [rr, if_neg k3, cpy_out (by omega)])
        rw [hX] at hC2
        have hz2e : ∀ c, U ≤ c → (if U ≤ c then wgt cc (prt X) (c - U) else z c) = wgt cc (prt X) (c - U) := fun c hc => if_pos hc
        refine ih (i + 1) _ cp (by omega) ⟨U + blk h X, _, _, fun c => if U ≤ c then wgt cc (prt X) (c - U) else z c, FR.wj (FR.wi f9 (by simp)) (by simp), ?_, hC2, fun c c1 c2 => ?_, ?_, fun k hk => ?_, by omega, ?_, ?_, h4, h5, by omega, by omega, PTR_add h8 h6 hi (by rw [rr, if_pos rfl]; unfold isH; rw [sp]; exact hx) (by rw [rr, if_pos rfl]; exact vp) (fun k k1 k2 k3 => by rw [rr, if_neg k3, cpy_out (by omega)]) hbp⟩
        · rw [F_wj, F_wi (by omega) (by omega), if_pos rfl]; omega
        · by_cases ec : c < U
          · have hbs := (hC.2.1 c (by omega) ec).2.1
            have hxo : xcO h (fun k => if k = U then X else src k) (fun k => if U ≤ k then U else bs k) c = xcO h src bs c := by
              unfold xcO
              simp only [if_neg (show ¬ U ≤ c by omega), if_neg (show ¬ bs c = U by omega)]
            rw [hxo]
            simp only [if_neg (show ¬ U ≤ c by omega)]
            exact hz c (by omega) ec
          · have hxn : xcO h (fun k => if k = U then X else src k) (fun k => if U ≤ k then U else bs k) c = h (vn X + (c - U)) := by
              unfold xcO
              simp only [if_pos (show U ≤ c by omega), if_true]
            rw [hxn]
            simp only [if_pos (show U ≤ c by omega)]
            unfold wgt
            by_cases ep : c - U < prt X
            · rw [if_pos ep]
              exact ⟨fun y => absurd y (head_nh bk hx hF.1 ep), fun _ => rfl⟩
            · rw [if_neg ep]
              have zc := zp (c - U) (by omega) (by omega)
              exact ⟨fun _ => ⟨f2, zc⟩, fun y => SZ_nhc zc y⟩
        · have e1 := smm_add (c := fun c => if U ≤ c then wgt cc (prt X) (c - U) else z c) (a := i + 1) (x := U - (i + 1)) (y := blk h X)
          rw [show U - (i + 1) + blk h X = U + blk h X - (i + 1) by omega, show i + 1 + (U - (i + 1)) = U by omega] at e1
          have e2 : smm (fun c => if U ≤ c then wgt cc (prt X) (c - U) else z c) (i + 1) (U - (i + 1)) = smm z (i + 1) (U - (i + 1)) := smm_eq (fun j j1 j2 => if_neg (by omega))
          have e3 : smm (fun c => if U ≤ c then wgt cc (prt X) (c - U) else z c) U (blk h X) = smm (wgt cc (prt X)) 0 (blk h X) := by
            have gen : ∀ m, smm (fun c => if U ≤ c then wgt cc (prt X) (c - U) else z c) U m = smm (wgt cc (prt X)) 0 m := by
              intro m
              induction m with
              | zero => rfl
              | succ m ihm =>
                show smm _ U m + (if U ≤ U + m then wgt cc (prt X) (U + m - U) else z (U + m)) = smm _ 0 m + wgt cc (prt X) (0 + m)
                rw [ihm, if_pos (by omega), show U + m - U = 0 + m by omega]
            exact gen _
          have e4 := wgt_sum (d := cc) hp
          omega
        · rw [rr, if_neg (by omega), cpy_out (by omega)]; exact hd k hk
        · show (if U ≤ s0 then U else bs s0) = s0
          rw [if_neg (by omega)]; exact h2
        · show (if s0 = U then X else src s0) = t
          rw [if_neg (by omega)]; exact h3
      · rw [cellsAt_n hx, bnd_so]
        refine ok_br.mpr ⟨fun _ => ?_, fun y => absurd y (by decide)⟩
        rw [nextI]
        have hcut := smm_cut (c := z) hi
        have z0 : z i = 0 := by
          refine (hz i (Nat.le_refl _) hi).2 (fun y => ?_)
          have := ((hC.2.2 i h6 hi).2 y).1 (Nat.le_refl _)
          rw [this] at hx
          exact hx y
        exact ih (i + 1) w cp (by omega) ⟨U, src, bs, z, f, hU, CPc_next hC h6 hi hx, fun c c1 c2 => hz c (by omega) c2, by omega, hd, h1, h2, h3, h4, h5, by omega, by omega, PTR_next h8 hx⟩
theorem copyIn_x {f0 : Nat} (g : HPc h n ow kd Fv P) (hF : FVc Fv) (hn : n ≤ 512) (hs : s0 + s ≤ 512) (hb : ∀ c, c < n → u.2.2.2 b c = h c) (hbq : b = pq q 2 → n ≤ s0) (z : SZc h n ow kd Fv P f0 t s) (hu : F u (pq q 4) = ((s0 : Nat) : Int)) (hN : 600 ≤ N) (hx : isH t) :
    OK (fun w r => CPXc h n ow kd P (w.2.2.2 (pq q 2)) s0 s t r) (hm_Pr_copyIn N u q b t) := by
  unfold hm_Pr_copyIn hb_Pr_copyIn_0
  rw [I_F (k := pq q 4), hu, lit1, I_sub]
  have gt := SZ_gtc z
  cases N with
  | zero => omega
  | succ M =>
    show OK _ (hb_Pr_copyIn_15 (M + 1) (hg_Pr_copyIn (M + 1) M) u q b t t (I s0) (I ((s0 : Int) - 1)))
    unfold hb_Pr_copyIn_15
    rw [I_F (k := pq q 4), hu]
    refine k_le ⟨by omega, by omega⟩ ⟨by omega, by omega⟩ (fun e => by omega) (fun _ => ?_)
    refine k_le ⟨by omega, by omega⟩ ⟨by omega, by omega⟩ (fun e => by omega) (fun _ => ?_)
    unfold hb_Pr_copyIn_42 hb_Pr_copyIn_140
    have nextI : I ((s0 : Int) - 1) + 1 = I (s0 : Int) := by rw [lit1, I_add]; congr 1; omega
    · obtain ⟨f2, cc, bk, zp, ze⟩ := SZ_blkc z hx
      obtain ⟨bk2, eb⟩ := BK_agree (h2 := u.2.2.2 b) hb hx bk
      have hbp := blk_pos (h := h) hx
      have hbl := bk.2.2.2.1
      have hp := prt_le (h := h) hx
      have hv := vn_e bk.1
      rw [cellsAt_h rfl hn hx bk2, bnd_so, eb, lit0]
      refine k_eq ⟨by omega, by omega⟩ ⟨by decide, by decide⟩ (fun e3 => by omega) (fun _ => ?_)
      rw [I_F (k := pq q 4), hu, I_add, I_lit (n := 512)]
      refine k_le ⟨by omega, by omega⟩ ⟨by decide, by decide⟩ (fun _ => ?_) (fun e3 => absurd e3 (by show ¬ (512 : Int) < _; omega))
      refine ok_lt.mpr ?_
      rw [valI, hv]
      refine e_cp ⟨by omega, by omega, by omega, by omega, by omega⟩ (by decide) (by decide) (ok_lt.mpr ?_)
      rw [tnI (n := vn t) rfl (by omega), tnI (n := s0) rfl (by omega), tnI (n := blk h t) rfl (by omega)]
      generalize hw9 : upJ u (pq q 2) (va_cpy (u.2.2.2 b) (u.2.2.2 (pq q 2)) (vn t) s0 (blk h t)) = w9
      have f9 : FR [pq q 4] [] [] [pq q 2] u w9 := by rw [← hw9]; exact FR_upJ FR.rf (by simp)
      have e9 : w9.1 (pq q 4) = I (s0 : Int) := by rw [← hw9]; show u.1 (pq q 4) = _; rw [I_F, hu]
      have r9 : w9.2.2.2 (pq q 2) = va_cpy (u.2.2.2 b) (u.2.2.2 (pq q 2)) (vn t) s0 (blk h t) := by rw [← hw9]; exact upJ_row
      refine ok_lt.mpr ?_
      rw [e9, I_add, wi_e]
      refine k_le ⟨by omega, by omega⟩ ⟨by omega, by omega⟩ (fun e => by omega) (fun _ => ?_)
      rw [nextI]
      generalize hpt : (((t >>> ((32 : Int32).toInt64 &&& 63)) <<< ((32 : Int32).toInt64 &&& 63)) ||| (I (s0 : Int)).toInt64) = pt
      have sp : so pt = so t := by rw [← hpt]; exact so_up (by omega) (by omega)
      have vp : va pt = ((s0 : Nat) : Int) := by rw [← hpt]; exact va_or (by omega) (by omega)
      have rr : (wi w9 (pq q 4) ((s0 : Int) + (blk h t : Int))).2.2.2 (pq q 2) = va_cpy (u.2.2.2 b) (u.2.2.2 (pq q 2)) (vn t) s0 (blk h t) := r9
      have hC := CPc_root (h := h) (n := n) (ow := ow) (kd := kd) (P := P) (d := (wi w9 (pq q 4) ((s0 : Int) + (blk h t : Int))).2.2.2 (pq q 2)) (s0 := s0) hx gt (fun j hj => by rw [rr, cpy_in hj]; exact hb _ (by omega))
      refine ok_mono (copy_loopx (N := M + 1) (u0 := u) (d0 := u.2.2.2 (pq q 2)) g hF hn hs hb (fun e => ⟨hbq e, fun k _ => by rw [e]⟩) M s0 (wi w9 (pq q 4) ((s0 : Int) + (blk h t : Int))) pt (by omega) ⟨s0 + blk h t, _, _, fun c => wgt cc (prt t) (c - s0), FR.wi f9 (by simp), ?_, hC, fun c c1 c2 => ?_, ?_, fun k hk => ?_, by omega, rfl, rfl, sp, vp, Nat.le_refl _, by omega, PTR_0⟩) (fun w r hw => ?_)
      · rw [F_wi (by omega) (by omega), if_pos rfl]; omega
      · have hxn : xcO h (fun _ => t) (fun _ => s0) c = h (vn t + (c - s0)) := rfl
        rw [hxn]
        show (_ → ∃ f, SZc h n ow kd Fv P f _ (wgt cc (prt t) (c - s0))) ∧ (_ → wgt cc (prt t) (c - s0) = 0)
        unfold wgt
        by_cases ep : c - s0 < prt t
        · rw [if_pos ep]
          exact ⟨fun y => absurd y (head_nh bk hx hF.1 ep), fun _ => rfl⟩
        · rw [if_neg ep]
          have zc := zp (c - s0) (by omega) (by omega)
          exact ⟨fun _ => ⟨f2, zc⟩, fun y => SZ_nhc zc y⟩
      · have gen : ∀ m, smm (fun c => wgt cc (prt t) (c - s0)) s0 m = smm (wgt cc (prt t)) 0 m := by
          intro m
          induction m with
          | zero => rfl
          | succ m ihm =>
            show smm _ s0 m + wgt cc (prt t) (s0 + m - s0) = smm _ 0 m + wgt cc (prt t) (0 + m)
            rw [ihm, show s0 + m - s0 = 0 + m by omega]
        have e4 := wgt_sum (d := cc) hp
        rw [show s0 + blk h t - s0 = blk h t by omega, gen]
        omega
      · rw [rr, cpy_out (by omega)]
      · obtain ⟨U, ⟨U2, src, bs, z, f, hU, hC, hz, hsum, hd, h1, h2, h3, h4, h5, h6, h7, h8⟩, hUe⟩ := hw
        have : U2 = s0 + s := by omega
        subst this
        subst hUe
        exact ⟨src, bs, hC, h8, by omega, h2, h3, h4, h5⟩
end
