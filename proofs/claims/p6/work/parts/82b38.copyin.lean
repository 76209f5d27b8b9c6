set_option maxRecDepth 100000
section
variable {h d0 : Nat → Int64} {n N b s0 q s : Nat} {ow kd owd kdd : Nat → Nat} {Fv : Int64 → Int64 → Prop} {P : Int64 → Prop} {u v w u0 : MS} {t x y : Int64}
def CIS (h : Nat → Int64) (n : Nat) (ow kd : Nat → Nat) (Fv : Int64 → Int64 → Prop) (P : Int64 → Prop) (q b s0 s : Nat) (d0 : Nat → Int64) (t : Int64) (u0 w : MS) (i : Nat) (cp : Int64) : Prop :=
  ∃ (U : Nat) (src : Nat → Int64) (bs z : Nat → Nat), FR [pq q 4] [] [] [pq q 2] u0 w ∧ F w (pq q 4) = ((U : Nat) : Int) ∧ CPc h n ow kd P (w.2.2.2 (pq q 2)) s0 U i src bs ∧ (∀ c, i ≤ c → c < U → (isH (xcO h src bs c) → ∃ f, SZc h n ow kd Fv P f (xcO h src bs c) (z c)) ∧ (¬ isH (xcO h src bs c) → z c = 0)) ∧ U + smm z i (U - i) = s0 + s ∧ (∀ k, k < s0 → w.2.2.2 (pq q 2) k = d0 k) ∧ s0 < U ∧ bs s0 = s0 ∧ src s0 = t ∧ so cp = so t ∧ va cp = ((s0 : Nat) : Int) ∧ s0 ≤ i ∧ i ≤ U
theorem smm_z {z z2 : Nat → Nat} {a m : Nat} (h : ∀ j, a ≤ j → j < a + m → z j = z2 j) : smm z a m = smm z2 a m := smm_eq h
theorem src_row (hb : ∀ c, c < n → u0.2.2.2 b c = h c) (hbq : b = pq q 2 → n ≤ s0 ∧ ∀ k, k < s0 → u0.2.2.2 b k = d0 k) (f : FR [pq q 4] [] [] [pq q 2] u0 w) (e : ∀ k, k < s0 → w.2.2.2 (pq q 2) k = d0 k) : ∀ c, c < n → w.2.2.2 b c = h c := by
  intro c hc
  by_cases eb : b = pq q 2
  · have := hbq eb
    rw [eb, e c (by omega), ← this.2 c (by omega)]
    exact hb c hc
  · rw [FRj f (by simpa using eb)]; exact hb c hc
theorem wi_row {k : Nat} {x : Int} : (wi u k x).2.2.2 = u.2.2.2 := rfl
theorem upJ_row {k : Nat} {g : Nat → Int64} : (upJ u k g).2.2.2 k = g := if_pos rfl
theorem FR_upJ {is ls as js : List Nat} {k : Nat} {g : Nat → Int64} (f : FR is ls as js u w) (h : k ∈ js) : FR is ls as js u (upJ w k g) := ⟨f.1, f.2.1, f.2.2.1, fun j hj => (if_neg (fun (e : j = k) => hj (e ▸ h))).trans (f.2.2.2 j hj)⟩
theorem FR_upA {is ls as js : List Nat} {k : Nat} {g : Nat → Int32} (f : FR is ls as js u w) (h : k ∈ as) : FR is ls as js u (upA w k g) := ⟨f.1, f.2.1, fun j hj => (if_neg (fun (e : j = k) => hj (e ▸ h))).trans (f.2.2.1 j hj), f.2.2.2⟩
theorem cpOkI {a c k : Int} {x y : Nat} (h : 0 ≤ a ∧ 0 ≤ c ∧ 0 ≤ k ∧ a + k ≤ x ∧ c + k ≤ y) (hx : x ≤ 2147483647) (hy : y ≤ 2147483647) : cpOk (I a) (I c) (I k) x y = true := by
  unfold cpOk
  have z : (OfNat.ofNat 0 : Int) = 0 := rfl
  refine decide_eq_true ⟨?_, ?_, ?_, ?_, ?_⟩
  · rw [I_lit (n := 0), I_lt (by omega) (by omega) (by decide) (by decide)]; omega
  · rw [I_lit (n := 0), I_lt (by omega) (by omega) (by decide) (by decide)]; omega
  · rw [I_lit (n := 0), I_lt (by omega) (by omega) (by decide) (by decide)]; omega
  · rw [I_tn (by omega) (by omega), I_tn (by omega) (by omega)]; omega
  · rw [I_tn (by omega) (by omega), I_tn (by omega) (by omega)]; omega
theorem e_cp {α : Type} {Q : MS → α → Prop} {a c k : Int} {x y : Nat} {p : Option (MS × α)} (h : 0 ≤ a ∧ 0 ≤ c ∧ 0 ≤ k ∧ a + k ≤ x ∧ c + k ≤ y) (hx : x ≤ 2147483647) (hy : y ≤ 2147483647) (q : OK Q p) : OK Q (ck (cpOk (I a) (I c) (I k) x y) p) := ok_ck.mpr ⟨cpOkI h hx hy, q⟩
theorem cpy_in {α : Type} {f g : Nat → α} {a c k j : Nat} (h : j < k) : va_cpy f g a c k (c + j) = f (a + j) := by
  unfold va_cpy
  rw [if_pos (by omega), show c + j - c = j by omega]
theorem cpy_out {α : Type} {f g : Nat → α} {a c k i : Nat} (h : ¬ (c ≤ i ∧ i < c + k)) : va_cpy f g a c k i = g i := if_neg h
theorem copy_loop (g : HPc h n ow kd Fv P) (hF : FVc Fv) (hn : n ≤ 512) (hs : s0 + s ≤ 512) (hb : ∀ c, c < n → u0.2.2.2 b c = h c) (hbq : b = pq q 2 → n ≤ s0 ∧ ∀ k, k < s0 → u0.2.2.2 b k = d0 k) : ∀ (M i : Nat) (w : MS) (cp : Int64), 513 - i < M → CIS h n ow kd Fv P q b s0 s d0 t u0 w i cp → OK (fun w r => ∃ U, CIS h n ow kd Fv P q b s0 s d0 t u0 w U r ∧ U = s0 + s) (hg_Pr_copyIn N M w q b t cp (I s0) (I i)) := by
  intro M
  induction M with
  | zero => intro i w cp z; omega
  | succ M ih =>
    intro i w cp hm hc
    have hc' := hc
    obtain ⟨U, src, bs, z, f, hU, hC, hz, hsum, hd, h1, h2, h3, h4, h5, h6, h7⟩ := hc
    have hrow := src_row hb hbq f hd
    have hUb : U ≤ 512 := by omega
    show OK _ (hb_Pr_copyIn_15 N (hg_Pr_copyIn N M) w q b t cp (I s0) (I i))
    unfold hb_Pr_copyIn_15
    rw [I_F (k := pq q 4), hU]
    refine k_le ⟨by omega, by omega⟩ ⟨by omega, by omega⟩ (fun e => ?_) (fun e => ?_)
    · have ei : i = U := by omega
      subst ei
      rw [Nat.sub_self] at hsum
      have e0 : smm z i 0 = 0 := rfl
      exact ok_some.mpr ⟨i, hc', by omega⟩
    · have hi : i < U := by omega
      refine k_le ⟨by omega, by omega⟩ ⟨by omega, by omega⟩ (fun _ => ?_) (fun e2 => by omega)
      refine e_in ⟨by omega, by omega⟩ (by decide) ?_
      rw [tnI (n := i) rfl (by omega)]
      unfold hb_Pr_copyIn_42 hb_Pr_copyIn_140
      have nextI : I (i : Int) + 1 = I ((i + 1 : Nat) : Int) := by rw [lit1q, I_add]; congr 1
      by_cases hx : isH (w.2.2.2 (pq q 2) i)
      · have hxe := CPc_at hC h6 hi hx
        have gx : GT n ow kd P (w.2.2.2 (pq q 2) i) := by rw [hxe]; exact xcO_gt g hF hC h6 hi (by rw [← hxe]; exact hx)
        obtain ⟨bk, -⟩ := HP_bkc g hx gx
        obtain ⟨bk2, eb⟩ := BK_agree (h2 := w.2.2.2 b) hrow hx bk
        have hbp := blk_pos (h := h) hx
        have hbl := bk.2.2.2.1
        obtain ⟨fz, zz⟩ := (hz i (Nat.le_refl _) hi).1 (by rw [← hxe]; exact hx)
        rw [← hxe] at zz
        obtain ⟨f2, cc, -, zp, ze⟩ := SZ_blkc zz hx
        have hp := prt_le (h := h) hx
        have hcut := smm_cut (c := z) hi
        generalize hX : w.2.2.2 (pq q 2) i = X at *
        have hv := vn_e bk.1
        rw [cellsAt_h rfl hn hx bk2, bnd_so, eb, lit0q]
        refine k_eq ⟨by omega, by omega⟩ ⟨by decide, by decide⟩ (fun e3 => by omega) (fun _ => ?_)
        rw [I_F (k := pq q 4), hU, I_add, I_lit (n := 512)]
        refine k_le ⟨by omega, by omega⟩ ⟨by decide, by decide⟩ (fun _ => ?_) (fun e3 => absurd e3 (by show ¬ (512 : Int) < _; omega))
        refine ok_lt.mpr ?_
        rw [valI, hv]
        refine e_cp ⟨by omega, by omega, by omega, by omega, by omega⟩ (by decide) (by decide) (ok_lt.mpr ?_)
        rw [tnI (n := vn X) rfl (by omega), tnI (n := U) rfl (by omega), tnI (n := blk h X) rfl (by omega)]
        generalize hw9 : upJ w (pq q 2) (va_cpy (w.2.2.2 b) (w.2.2.2 (pq q 2)) (vn X) U (blk h X)) = w9
        have f9 : FR [pq q 4] [] [] [pq q 2] u0 w9 := by rw [← hw9]; exact FR_upJ f (by simp)
        have e9 : w9.1 (pq q 4) = I (U : Int) := by rw [← hw9]; show w.1 (pq q 4) = _; rw [I_F, hU]
        have r9 : w9.2.2.2 (pq q 2) = va_cpy (w.2.2.2 b) (w.2.2.2 (pq q 2)) (vn X) U (blk h X) := by rw [← hw9]; exact upJ_row
        refine ok_lt.mpr ?_
        rw [e9, I_add, wi_e]
        refine k_le ⟨by omega, by omega⟩ ⟨by omega, by omega⟩ (fun _ => ?_) (fun e2 => by omega)
        refine e_in ⟨by omega, by omega⟩ (by decide) (ok_lt.mpr ?_)
        rw [tnI (n := i) rfl (by omega), wj_e, nextI]
        generalize hpt : (((X >>> ((32 : Int32).toInt64 &&& 63)) <<< ((32 : Int32).toInt64 &&& 63)) ||| (I (U : Int)).toInt64) = pt
        have sp : so pt = so X := by rw [← hpt]; exact so_up (by omega) (by omega)
        have vp : va pt = ((U : Nat) : Int) := by rw [← hpt]; exact va_or (by omega) (by omega)
        have rr : ∀ k, (wj (wi w9 (pq q 4) ((U : Int) + (blk h X : Int))) (pq q 2) i pt).2.2.2 (pq q 2) k = if k = i then pt else va_cpy (w.2.2.2 b) (w.2.2.2 (pq q 2)) (vn X) U (blk h X) k := by
          intro k
          rw [wj_row]
          by_cases ek : k = i
          · rw [if_pos ek, if_pos ek]
          · rw [if_neg ek, if_neg ek]
            show w9.2.2.2 (pq q 2) k = _
            rw [r9]
        have hC2 := CPc_add (d2 := (wj (wi w9 (pq q 4) ((U : Int) + (blk h X : Int))) (pq q 2) i pt).2.2.2 (pq q 2)) g hF hC h6 hi (by rw [hX]; exact hx) (fun j hj => by
          rw [hX] at hj ⊢
          rw [rr, if_neg (by omega), cpy_in hj]
          exact hrow _ (by omega)) (by rw [hX, rr, if_pos rfl]; exact ⟨sp, vp⟩) (fun k k1 k2 k3 => by rw [rr, if_neg k3, cpy_out (by omega)])
        rw [hX] at hC2
        have hz2e : ∀ c, U ≤ c → (if U ≤ c then wgt cc (prt X) (c - U) else z c) = wgt cc (prt X) (c - U) := fun c hc => if_pos hc
        refine ih (i + 1) _ cp (by omega) ⟨U + blk h X, _, _, fun c => if U ≤ c then wgt cc (prt X) (c - U) else z c, FR.wj (FR.wi f9 (by simp)) (by simp), ?_, hC2, fun c c1 c2 => ?_, ?_, fun k hk => ?_, by omega, ?_, ?_, h4, h5, by omega, by omega⟩
        · rw [F_wj, F_wi (by omega) (by omega), if_pos rfl]; omega
        · by_cases ec : c < U
          · have hbs := (hC.2.1 c (by omega) ec).2.1
            have hxo : xcO h (fun k => if k = U then X else src k) (fun k => if U ≤ k then U else bs k) c = xcO h src bs c := by
              unfold xcO
              simp only [if_neg (show ¬ U ≤ c by omega), if_neg (show ¬ bs c = U by omega)]
            rw [hxo]
            simp only [if_neg (show ¬ U ≤ c by omega)]
            exact hz c (by omega) ec
          · have hxn : xcO h (fun k => if k = U then X else src k) (fun k => if U ≤ k then U else bs k) c = h (vn X + (c - U)) := by
              unfold xcO
              simp only [if_pos (show U ≤ c by omega), if_true]
            rw [hxn]
            simp only [if_pos (show U ≤ c by omega)]
            unfold wgt
            by_cases ep : c - U < prt X
            · rw [if_pos ep]
              exact ⟨fun y => absurd y (head_nh bk hx hF.1 ep), fun _ => rfl⟩
            · rw [if_neg ep]
              have zc := zp (c - U) (by omega) (by omega)
              exact ⟨fun _ => ⟨f2, zc⟩, fun y => SZ_nhc zc y⟩
        · have e1 := smm_add (c := fun c => if U ≤ c then wgt cc (prt X) (c - U) else z c) (a := i + 1) (x := U - (i + 1)) (y := blk h X)
          rw [show U - (i + 1) + blk h X = U + blk h X - (i + 1) by omega, show i + 1 + (U - (i + 1)) = U by omega] at e1
          have e2 : smm (fun c => if U ≤ c then wgt cc (prt X) (c - U) else z c) (i + 1) (U - (i + 1)) = smm z (i + 1) (U - (i + 1)) := smm_eq (fun j j1 j2 => if_neg (by omega))
          have e3 : smm (fun c => if U ≤ c then wgt cc (prt X) (c - U) else z c) U (blk h X) = smm (wgt cc (prt X)) 0 (blk h X) := by
            have gen : ∀ m, smm (fun c => if U ≤ c then wgt cc (prt X) (c - U) else z c) U m = smm (wgt cc (prt X)) 0 m := by
              intro m
              induction m with
              | zero => rfl
              | succ m ihm =>
                show smm _ U m + (if U ≤ U + m then wgt cc (prt X) (U + m - U) else z (U + m)) = smm _ 0 m + wgt cc (prt X) (0 + m)
                rw [ihm, if_pos (by omega), show U + m - U = 0 + m by omega]
            exact gen _
          have e4 := wgt_sum (d := cc) hp
          omega
        · rw [rr, if_neg (by omega), cpy_out (by omega)]; exact hd k hk
        · show (if U ≤ s0 then U else bs s0) = s0
          rw [if_neg (by omega)]; exact h2
        · show (if s0 = U then X else src s0) = t
          rw [if_neg (by omega)]; exact h3
      · rw [cellsAt_n hx, bnd_so]
        refine ok_br.mpr ⟨fun _ => ?_, fun y => absurd y (by decide)⟩
        rw [nextI]
        have hcut := smm_cut (c := z) hi
        have z0 : z i = 0 := by
          refine (hz i (Nat.le_refl _) hi).2 (fun y => ?_)
          have := ((hC.2.2 i h6 hi).2 y).1 (Nat.le_refl _)
          rw [this] at hx
          exact hx y
        exact ih (i + 1) w cp (by omega) ⟨U, src, bs, z, f, hU, CPc_next hC h6 hi hx, fun c c1 c2 => hz c (by omega) c2, by omega, hd, h1, h2, h3, h4, h5, by omega, by omega⟩
theorem copyIn_hd {f0 : Nat} (g : HPc h n ow kd Fv P) (hF : FVc Fv) (hn : n ≤ 512) (hs : s0 + s ≤ 512) (hb : ∀ c, c < n → u.2.2.2 b c = h c) (hbq : b = pq q 2 → n ≤ s0) (z : SZc h n ow kd Fv P f0 t s) (hu : F u (pq q 4) = ((s0 : Nat) : Int)) (gd : HPc (u.2.2.2 (pq q 2)) s0 owd kdd Fv P) (hN : 600 ≤ N) :
    OK (fun w r => FR [pq q 4] [] [] [pq q 2] u w ∧ F w (pq q 4) = ((s0 + s : Nat) : Int) ∧ (∀ k, k < s0 → w.2.2.2 (pq q 2) k = u.2.2.2 (pq q 2) k) ∧ ∃ ow2 kd2, HPc (w.2.2.2 (pq q 2)) (s0 + s) ow2 kd2 Fv P ∧ (∀ k, k < s0 → ow2 k = owd k ∧ kd2 k = kdd k) ∧ (∀ t, GT s0 owd kdd P t → GT (s0 + s) ow2 kd2 P t) ∧ GT (s0 + s) ow2 kd2 P r ∧ (∃ f2, SZc (w.2.2.2 (pq q 2)) (s0 + s) ow2 kd2 Fv P f2 r s) ∧ so r = so t ∧ (isH t → va r = ((s0 : Nat) : Int) ∧ ∀ j, j < prt t → w.2.2.2 (pq q 2) (s0 + j) = h (vn t + j))) (hm_Pr_copyIn N u q b t) := by
  unfold hm_Pr_copyIn hb_Pr_copyIn_0
  rw [I_F (k := pq q 4), hu, lit1q, I_sub]
  have gt := SZ_gtc z
  cases N with
  | zero => omega
  | succ M =>
    show OK _ (hb_Pr_copyIn_15 (M + 1) (hg_Pr_copyIn (M + 1) M) u q b t t (I s0) (I ((s0 : Int) - 1)))
    unfold hb_Pr_copyIn_15
    rw [I_F (k := pq q 4), hu]
    refine k_le ⟨by omega, by omega⟩ ⟨by omega, by omega⟩ (fun e => by omega) (fun _ => ?_)
    refine k_le ⟨by omega, by omega⟩ ⟨by omega, by omega⟩ (fun e => by omega) (fun _ => ?_)
    unfold hb_Pr_copyIn_42 hb_Pr_copyIn_140
    have nextI : I ((s0 : Int) - 1) + 1 = I (s0 : Int) := by rw [lit1q, I_add]; congr 1; omega
    by_cases hx : isH t
    · obtain ⟨f2, cc, bk, zp, ze⟩ := SZ_blkc z hx
      obtain ⟨bk2, eb⟩ := BK_agree (h2 := u.2.2.2 b) hb hx bk
      have hbp := blk_pos (h := h) hx
      have hbl := bk.2.2.2.1
      have hp := prt_le (h := h) hx
      have hv := vn_e bk.1
      rw [cellsAt_h rfl hn hx bk2, bnd_so, eb, lit0q]
      refine k_eq ⟨by omega, by omega⟩ ⟨by decide, by decide⟩ (fun e3 => by omega) (fun _ => ?_)
      rw [I_F (k := pq q 4), hu, I_add, I_lit (n := 512)]
      refine k_le ⟨by omega, by omega⟩ ⟨by decide, by decide⟩ (fun _ => ?_) (fun e3 => absurd e3 (by show ¬ (512 : Int) < _; omega))
      refine ok_lt.mpr ?_
      rw [valI, hv]
      refine e_cp ⟨by omega, by omega, by omega, by omega, by omega⟩ (by decide) (by decide) (ok_lt.mpr ?_)
      rw [tnI (n := vn t) rfl (by omega), tnI (n := s0) rfl (by omega), tnI (n := blk h t) rfl (by omega)]
      generalize hw9 : upJ u (pq q 2) (va_cpy (u.2.2.2 b) (u.2.2.2 (pq q 2)) (vn t) s0 (blk h t)) = w9
      have f9 : FR [pq q 4] [] [] [pq q 2] u w9 := by rw [← hw9]; exact FR_upJ FR.rf (by simp)
      have e9 : w9.1 (pq q 4) = I (s0 : Int) := by rw [← hw9]; show u.1 (pq q 4) = _; rw [I_F, hu]
      have r9 : w9.2.2.2 (pq q 2) = va_cpy (u.2.2.2 b) (u.2.2.2 (pq q 2)) (vn t) s0 (blk h t) := by rw [← hw9]; exact upJ_row
      refine ok_lt.mpr ?_
      rw [e9, I_add, wi_e]
      refine k_le ⟨by omega, by omega⟩ ⟨by omega, by omega⟩ (fun e => by omega) (fun _ => ?_)
      rw [nextI]
      generalize hpt : (((t >>> ((32 : Int32).toInt64 &&& 63)) <<< ((32 : Int32).toInt64 &&& 63)) ||| (I (s0 : Int)).toInt64) = pt
      have sp : so pt = so t := by rw [← hpt]; exact so_up (by omega) (by omega)
      have vp : va pt = ((s0 : Nat) : Int) := by rw [← hpt]; exact va_or (by omega) (by omega)
      have rr : (wi w9 (pq q 4) ((s0 : Int) + (blk h t : Int))).2.2.2 (pq q 2) = va_cpy (u.2.2.2 b) (u.2.2.2 (pq q 2)) (vn t) s0 (blk h t) := r9
      have hC := CPc_root (h := h) (n := n) (ow := ow) (kd := kd) (P := P) (d := (wi w9 (pq q 4) ((s0 : Int) + (blk h t : Int))).2.2.2 (pq q 2)) (s0 := s0) hx gt (fun j hj => by rw [rr, cpy_in hj]; exact hb _ (by omega))
      refine ok_mono (copy_loop (N := M + 1) (u0 := u) (d0 := u.2.2.2 (pq q 2)) g hF hn hs hb (fun e => ⟨hbq e, fun k _ => by rw [e]⟩) M s0 (wi w9 (pq q 4) ((s0 : Int) + (blk h t : Int))) pt (by omega) ⟨s0 + blk h t, _, _, fun c => wgt cc (prt t) (c - s0), FR.wi f9 (by simp), ?_, hC, fun c c1 c2 => ?_, ?_, fun k hk => ?_, by omega, rfl, rfl, sp, vp, Nat.le_refl _, by omega⟩) (fun w r hw => ?_)
      · rw [F_wi (by omega) (by omega), if_pos rfl]; omega
      · have hxn : xcO h (fun _ => t) (fun _ => s0) c = h (vn t + (c - s0)) := rfl
        rw [hxn]
        show (_ → ∃ f, SZc h n ow kd Fv P f _ (wgt cc (prt t) (c - s0))) ∧ (_ → wgt cc (prt t) (c - s0) = 0)
        unfold wgt
        by_cases ep : c - s0 < prt t
        · rw [if_pos ep]
          exact ⟨fun y => absurd y (head_nh bk hx hF.1 ep), fun _ => rfl⟩
        · rw [if_neg ep]
          have zc := zp (c - s0) (by omega) (by omega)
          exact ⟨fun _ => ⟨f2, zc⟩, fun y => SZ_nhc zc y⟩
      · have gen : ∀ m, smm (fun c => wgt cc (prt t) (c - s0)) s0 m = smm (wgt cc (prt t)) 0 m := by
          intro m
          induction m with
          | zero => rfl
          | succ m ihm =>
            show smm _ s0 m + wgt cc (prt t) (s0 + m - s0) = smm _ 0 m + wgt cc (prt t) (0 + m)
            rw [ihm, show s0 + m - s0 = 0 + m by omega]
        have e4 := wgt_sum (d := cc) hp
        rw [show s0 + blk h t - s0 = blk h t by omega, gen]
        omega
      · rw [rr, cpy_out (by omega)]
      · obtain ⟨U, ⟨U2, src, bs, z, f, hU, hC, hz, hsum, hd, h1, h2, h3, h4, h5, h6, h7⟩, hUe⟩ := hw
        have : U2 = s0 + s := by omega
        subst this
        subst hUe
        obtain ⟨a1, a2⟩ := CPc_hp (owd := owd) (kdd := kdd) g hF hC gd hd
        obtain ⟨b1, b2, b3⟩ := CPc_sz (owd := owd) (kdd := kdd) g hF hC f0 s0 r s (Nat.le_refl _) h1 h2 (by rw [h3]; exact h4) h5 (by rw [h3]; assumption)
        refine ⟨f, hU, hd, _, _, a1, fun k hk => ⟨if_pos hk, if_pos hk⟩, a2, SZ_gtc b3, ⟨f0, b3⟩, h4, fun _ => ⟨h5, fun j hj => ?_⟩⟩
        obtain ⟨c1, c2, c3⟩ := hC
        have c4 := (c2 s0 (Nat.le_refl _) h1).2.2.2.2.2.2.2 j (by rw [h2, h3]; omega)
        rw [h2] at c4
        have c5 := (c2 s0 (Nat.le_refl _) h1).2.2.2.2.2.2.1
        rw [h2, h3] at c5
        have ex : xcO h src bs (s0 + j) = h (vn t + j) := by unfold xcO; rw [c4, h3, show s0 + j - s0 = j by omega]
        have c6 := (c3 (s0 + j) (by omega) (by omega)).1 (by rw [ex]; exact head_nh bk hx hF.1 hj)
        rw [c6, ex]
    · have es := SZ_nhc z hx
      subst es
      rw [cellsAt_n hx, bnd_so]
      refine ok_br.mpr ⟨fun _ => ?_, fun y => absurd y (by decide)⟩
      rw [nextI]
      cases M with
      | zero => omega
      | succ M =>
        show OK _ (hb_Pr_copyIn_15 (M + 1 + 1) (hg_Pr_copyIn (M + 1 + 1) M) u q b t t (I s0) (I s0))
        unfold hb_Pr_copyIn_15
        rw [I_F (k := pq q 4), hu]
        refine k_le ⟨by omega, by omega⟩ ⟨by omega, by omega⟩ (fun _ => ?_) (fun e => by omega)
        refine ok_some.mpr ⟨FR.rf, hu, fun _ _ => rfl, owd, kdd, gd, fun _ _ => ⟨rfl, rfl⟩, fun t q => q, ?_, ?_, rfl, fun y => absurd y hx⟩
        · rcases gt with y | y
          · exact Or.inl y
          · exact absurd y.1 hx
        · cases f0 with
          | zero => exact z.elim
          | succ f0 =>
            rcases z with y | y
            · exact ⟨1, Or.inl y⟩
            · exact absurd y.1 hx
theorem copyIn_ok {f0 : Nat} (g : HPc h n ow kd Fv P) (hF : FVc Fv) (hn : n ≤ 512) (hs : s0 + s ≤ 512) (hb : ∀ c, c < n → u.2.2.2 b c = h c) (hbq : b = pq q 2 → n ≤ s0) (z : SZc h n ow kd Fv P f0 t s) (hu : F u (pq q 4) = ((s0 : Nat) : Int)) (gd : HPc (u.2.2.2 (pq q 2)) s0 owd kdd Fv P) (hN : 600 ≤ N) :
    OK (fun w r => FR [pq q 4] [] [] [pq q 2] u w ∧ F w (pq q 4) = ((s0 + s : Nat) : Int) ∧ (∀ k, k < s0 → w.2.2.2 (pq q 2) k = u.2.2.2 (pq q 2) k) ∧ ∃ ow2 kd2, HPc (w.2.2.2 (pq q 2)) (s0 + s) ow2 kd2 Fv P ∧ (∀ k, k < s0 → ow2 k = owd k ∧ kd2 k = kdd k) ∧ (∀ t, GT s0 owd kdd P t → GT (s0 + s) ow2 kd2 P t) ∧ GT (s0 + s) ow2 kd2 P r ∧ ∃ f2, SZc (w.2.2.2 (pq q 2)) (s0 + s) ow2 kd2 Fv P f2 r s) (hm_Pr_copyIn N u q b t) :=
  ok_mono (copyIn_hd g hF hn hs hb hbq z hu gd hN) (fun w r hw => by
    obtain ⟨a1, a2, a3, ow2, kd2, a4, a5, a6, a7, a8, -⟩ := hw
    exact ⟨a1, a2, a3, ow2, kd2, a4, a5, a6, a7, a8⟩)
end
