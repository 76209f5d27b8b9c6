section
set_option maxRecDepth 100000
def OUTc (j : Nat) (u : MS) : Prop := rf (u.1 1964) = some j ∧ isOu j ∧ (0 ≤ F u 865 ∧ F u 865 ≤ 100000) ∧ 0 ≤ F u 866 ∧ F u 866 ≤ 100
def WRT (j : Nat) (u w : MS) : Prop := FR [866] [] [j] [] u w ∧ OUTc j w
section
variable {h : Nat → Int64} {n N b j : Nat} {ow kd : Nat → Nat} {Fv : Int64 → Int64 → Prop} {P : Int64 → Prop} {u v w u0 : MS} {t x y : Int64}
theorem WRT.tr (a : WRT j u v) (b : WRT j v w) : WRT j u w := ⟨FR.tr a.1 b.1, b.2⟩
theorem WRT.rf (a : OUTc j u) : WRT j u u := ⟨FR.rf, a⟩
theorem bl_ou (h : isOu j) : bl j ≤ 20000 := by rcases h with rfl | rfl <;> decide
theorem writeC_ok {x : Int32} (h : OUTc j u) : OK (fun w _ => WRT j u w) (hm_Te_write N u x) := by
  have h' := h
  obtain ⟨h1, h2, ⟨h3, h4⟩, h5, h6⟩ := h
  have hb := bl_ou h2
  unfold hm_Te_write hb_Te_write_0 hb_Te_write_52
  rw [h1]
  show OK _ (br _ _ (br _ _ (ck _ _)))
  have non : OK (fun w _ => WRT j u w) (some (u, ())) := ok_some.mpr (WRT.rf h')
  rw [I_F (k := 866), I_F (k := 865), I_add, I_lit (n := 100), show Int32.ofNat (bl j) = I ((bl j : Nat) : Int) from rfl]
  refine k_le ⟨by decide, by decide⟩ (FRG1 u _) (fun _ => non) (fun a => ?_)
  have a : F u 866 < 100 := a
  refine k_le ⟨by omega, by omega⟩ ⟨by omega, by omega⟩ (fun _ => non) (fun b => ?_)
  refine e_in ⟨by omega, by omega⟩ (by omega) (ok_lt.mpr ?_)
  generalize hz : (vp_nar .byte (x.toInt8.toInt32)) = z
  rw [I_of z, wa_e, show (wa u j (I (F u 865 + F u 866)).toNatClampNeg z.toInt).1 866 = I (F u 866) from I_F, lit1q, I_add, wi_e]
  refine ok_some.mpr ⟨FR.wi (FR.wa FR.rf (by simp)) (by simp), ?_⟩
  have e1 : F (wi (wa u j (I (F u 865 + F u 866)).toNatClampNeg z.toInt) 866 (F u 866 + 1)) 866 = F u 866 + 1 := by rw [F_wi (by omega) (by omega), if_pos rfl]
  have e2 : F (wi (wa u j (I (F u 865 + F u 866)).toNatClampNeg z.toInt) 866 (F u 866 + 1)) 865 = F u 865 := by rw [F_wi (by omega) (by omega), if_neg (by decide)]; rfl
  exact ⟨h1, h2, by rw [e2]; exact ⟨h3, h4⟩, by omega, by omega⟩
theorem wn2 {x : Int64} : ∀ (M k : Nat) (u : MS), k < 11 → k + 1 < M → OUTc j u → OK (fun w _ => WRT j u w) ((hg_Te_writeNumber N M).2 u x (pw k)) := by
  intro M
  induction M with
  | zero => intro k u _ z; omega
  | succ M ih =>
    intro k u hk hm h1
    obtain ⟨-, p2, p3, p4⟩ := pw_f k hk
    show OK _ (hb_Te_writeNumber_43 N (hg_Te_writeNumber N M) u x (pw k))
    unfold hb_Te_writeNumber_43
    rw [p4, br_fq, decide_eq_true p3, ck_t, show (decide (¬ (10 : Nat) = 0)) = true from rfl, ck_t]
    refine ok_bnd.mpr (ok_mono (writeC_ok h1) (fun w _ hw => ?_))
    rw [ck_t]
    cases k with
    | zero =>
      rw [pw_0.1]
      cases M with
      | zero => omega
      | succ M =>
        show OK _ (hb_Te_writeNumber_43 N (hg_Te_writeNumber N M) w x 0)
        unfold hb_Te_writeNumber_43
        rw [pw_0.2, br_tq]
        exact ok_some.mpr hw
    | succ k =>
      rw [p2 (by omega)]
      exact ok_mono (ih k w (by omega) (by omega) hw.2) (fun w2 _ q => hw.tr q)
theorem wn1 {x : Int64} (hx : (x / 10).toInt ≤ 2147483648) : ∀ (M k : Nat) (u : MS), k < 11 → (11 - k) + 20 < M → OUTc j u → OK (fun w _ => WRT j u w) ((hg_Te_writeNumber N M).1 u x (pw k)) := by
  intro M
  induction M with
  | zero => intro k u _ z; omega
  | succ M ih =>
    intro k u hk hm h1
    obtain ⟨p1, -⟩ := pw_f k (by omega)
    show OK _ (hb_Te_writeNumber_21 N (hg_Te_writeNumber N M) u x (pw k))
    unfold hb_Te_writeNumber_21
    rw [p1, show (decide (¬ (10 : Nat) = 0)) = true from rfl, ck_t]
    refine ok_br.mpr ⟨fun _ => wn2 M k u hk (by omega) h1, fun h0 => ?_⟩
    by_cases e : k = 10
    · subst e
      exact absurd (pw_10 hx) (of_decide_eq_false h0)
    · exact ih (k + 1) u (by omega) (by omega) h1
theorem div10 {x : Int64} (h1 : -2147483648 ≤ x.toInt) (h2 : x.toInt ≤ 2147483648) : (x / 10).toInt ≤ 2147483648 := by
  rw [Int64.toInt_div_of_ne_right x 10 (by decide)]
  have : (10 : Int64).toInt = 10 := rfl
  rw [this]
  have h3 : x.toInt.tdiv 10 ≤ x.toInt.natAbs := by
    have := Int.natAbs_tdiv_le_natAbs x.toInt 10
    omega
  omega
theorem toI64 (v : Int32) : v.toInt64.toInt = v.toInt := Int32.toInt_toInt64 v
theorem neg64 {x : Int64} (h1 : -2147483648 ≤ x.toInt) (h2 : x.toInt ≤ 2147483648) : (-x).toInt = - x.toInt := by
  rw [Int64.toInt_neg]
  exact Int.bmod_eq_of_le (by omega) (by omega)
theorem writeNumber_ok {v : Int32} (h : OUTc j u) (hN : 100 ≤ N) : OK (fun w _ => WRT j u w) (hm_Te_writeNumber N u v) := by
  have hr := ti_rng v
  unfold hm_Te_writeNumber hb_Te_writeNumber_0 hb_Te_writeNumber_18
  have e := toI64 v
  refine ok_br.mpr ⟨fun _ => wn1 (div10 (by omega) (by omega)) N 0 u (by omega) (by omega) h, fun _ => ok_bnd.mpr (ok_mono (writeC_ok h) (fun w _ hw => ?_))⟩
  have e2 := neg64 (x := v.toInt64) (by omega) (by omega)
  exact ok_mono (wn1 (div10 (by omega) (by omega)) N 0 w (by omega) (by omega) hw.2) (fun w2 _ q => hw.tr q)
theorem wa_loop_c (hA : WDc u0 1) (hj : j ≠ 3) : ∀ (M : Nat) (v : Int) (k : Nat) (w : MS), RG v → (k : Int) ≤ 100000 → 100001 - k < M → FR [866] [] [j] [] u0 w → OUTc j w → OK (fun w2 _ => WRT j w w2) (hg_Te_writeAlone N M w (I v) (I k)) := by
  intro M
  induction M with
  | zero => intro v k w _ _ z; omega
  | succ M ih =>
    intro v k w hv hk hm f ho
    show OK _ (hb_Te_writeAlone_59 N (hg_Te_writeAlone N M) w (I v) (I k))
    unfold hb_Te_writeAlone_59 hb_Te_writeAlone_170
    have hA2 : WDc w 1 := WDc_fr hA f (by simp) (by simp; omega)
    refine ok_bnd.mpr (ok_mono (wlength_ok (N := N) hA2 hv) (fun w2 r hw2 => ?_))
    obtain ⟨rfl, l, rfl, l1, l2⟩ := hw2
    refine k_le ⟨by omega, by omega⟩ ⟨by omega, by omega⟩ (fun _ => ok_some.mpr (WRT.rf ho)) (fun c1 => ?_)
    refine ok_bnd.mpr (ok_mono (wsign_ok (N := N) (k := (k : Int)) hA2 hv ⟨by omega, by omega⟩) (fun w3 r hw3 => ?_))
    subst hw3
    refine ok_bnd.mpr (ok_mono (writeC_ok ho) (fun w4 _ hw4 => ?_))
    rw [lit1q, I_add, show ((k : Nat) : Int) + 1 = ((k + 1 : Nat) : Int) by omega]
    exact ok_mono (ih v (k + 1) w4 hv (by omega) (by omega) (FR.tr f hw4.1) hw4.2) (fun w5 _ q => hw4.tr q)
theorem writeAlone_ok (hA : WDc u 1) (h : OUTc j u) (hN : 200000 ≤ N) : OK (fun w _ => WRT j u w) (hm_Te_writeAlone N u t) := by
  have hj : j ≠ 3 := by rcases h.2.1 with rfl | rfl <;> decide
  unfold hm_Te_writeAlone hb_Te_writeAlone_0
  have w1 : ∀ (x : Int32), OK (fun w _ => WRT j u w) (bnd (hm_Te_write N u x) (fun u18 r18 => hb_Te_writeAlone_170 N (hg_Te_writeAlone N N) u18)) := fun x => ok_bnd.mpr (ok_mono (writeC_ok h) (fun w _ hw => ok_some.mpr hw))
  have w2 : ∀ (x y : Int32) (v : MS), WRT j u v → OK (fun w _ => WRT j u w) (bnd (hm_Te_write N v x) (fun u19 r19 => bnd (hm_Te_write N u19 y) (fun u20 r20 => hb_Te_writeAlone_170 N (hg_Te_writeAlone N N) u20))) := fun x y v hv => ok_bnd.mpr (ok_mono (writeC_ok hv.2) (fun w _ hw => ok_bnd.mpr (ok_mono (writeC_ok hw.2) (fun w2 _ hw2 => ok_some.mpr (hv.tr (hw.tr hw2))))))
  rw [e_tag, bnd_so, valI]
  refine ok_br.mpr ⟨fun _ => ok_bnd.mpr (ok_mono (writeNumber_ok h (by omega)) (fun w _ hw => ok_some.mpr hw)), fun _ => ok_br.mpr ⟨fun _ => ?_, fun _ => ok_br.mpr ⟨fun _ => ?_, fun _ => ok_br.mpr ⟨fun _ => ?_, fun _ => ok_br.mpr ⟨fun _ => ?_, fun _ => ok_br.mpr ⟨fun _ => w1 _, fun _ => ok_br.mpr ⟨fun _ => w2 _ _ u (WRT.rf h), fun _ => w1 _⟩⟩⟩⟩⟩⟩⟩
  · rw [lit0q, show (0 : Int) = ((0 : Nat) : Int) from rfl]
    exact wa_loop_c (N := N) hA hj N (va t) 0 u (va_r t) (by omega) (by omega) FR.rf h
  · exact ok_bnd.mpr (ok_mono (writeC_ok h) (fun w _ hw => ok_bnd.mpr (ok_mono (writeNumber_ok hw.2 (by omega)) (fun w2 _ hw2 => ok_some.mpr (hw.tr hw2)))))
  · exact ok_bnd.mpr (ok_mono (writeC_ok h) (fun w _ hw => w2 _ _ w hw))
  · exact ok_bnd.mpr (ok_mono (writeC_ok h) (fun w _ hw => ok_bnd.mpr (ok_mono (writeNumber_ok hw.2 (by omega)) (fun w2 _ hw2 => ok_bnd.mpr (ok_mono (writeC_ok hw2.2) (fun w3 _ hw3 => ok_some.mpr (hw.tr (hw2.tr hw3))))))))
def TWT (n : Nat) (ow kd : Nat → Nat) (P : Int64 → Prop) (t : Int64) : Prop := GT n ow kd P t ∨ so t = 10 ∨ so t = 11
def TST (n : Nat) (ow kd : Nat → Nat) (P : Int64 → Prop) (j : Nat) (u0 w : MS) (top : Nat) : Prop := FR [866] [] [j] [45] u0 w ∧ OUTc j w ∧ top ≤ 2048 ∧ ∀ i, i < top → TWT n ow kd P (w.2.2.2 45 i)
theorem TST_wrt {top : Nat} (a : TST n ow kd P j u0 u top) (b : WRT j u w) : TST n ow kd P j u0 w top := ⟨FR.tr a.1 (FR.mo b.1 (by simp) (by simp) (by simp) (by simp)), b.2, a.2.2.1, fun i hi => by rw [FRj b.1 (by simp)]; exact a.2.2.2 i hi⟩
theorem TST_less {top k : Nat} (a : TST n ow kd P j u0 u top) (h : k ≤ top) : TST n ow kd P j u0 u k := ⟨a.1, a.2.1, by have := a.2.2.1; omega, fun i hi => a.2.2.2 i (by omega)⟩
theorem push_ok {top : Nat} {t : Int64} (a : TST n ow kd P j u0 u top) (ht : TWT n ow kd P t) : OK (fun w r => ∃ k : Nat, r = I k ∧ TST n ow kd P j u0 w k) (hm_Te_push N u (I top) t) := by
  obtain ⟨a1, a2, a3, a4⟩ := a
  unfold hm_Te_push hb_Te_push_0
  rw [I_lit (n := 2048)]
  refine k_lt ⟨by omega, by omega⟩ ⟨by decide, by decide⟩ (fun c => ?_) (fun _ => ok_some.mpr ⟨top, rfl, a1, a2, a3, a4⟩)
  have c : (top : Int) < 2048 := c
  refine e_in ⟨by omega, by omega⟩ (by decide) (ok_lt.mpr ?_)
  rw [tnI (n := top) rfl (by omega), wj_e, lit1q, I_add]
  refine ok_some.mpr ⟨top + 1, rfl, FR.wj a1 (by simp), a2, by omega, fun i hi => ?_⟩
  rw [wj_row]
  by_cases e : i = top
  · rw [if_pos e]; exact ht
  · rw [if_neg e]; exact a4 i (by omega)
theorem TWT_s {s v : Int} (h : s = 10 ∨ s = 11) : TWT n ow kd P (mk s v) := by
  have : so (mk s v) = s := so_mk (by omega) (by omega)
  unfold TWT
  rw [this]
  exact Or.inr h
theorem tup_loop (hb : b ≠ 45) (hh : u0.2.2.2 b = h) (hn : n ≤ 512) (g : HPc h n ow kd Fv P) (ht : so t = 5) (gt : GT n ow kd P t) : ∀ (M k top : Nat) (w : MS), k < blk h t → k < M → TST n ow kd P j u0 w top → OK (fun w r => ∃ k : Nat, r = I k ∧ TST n ow kd P j u0 w k) (hg_Te_toWriteTuple N M w b (I (va t)) (I top) (I k)) := by
  have hH : isH t := Or.inr (Or.inl ht)
  obtain ⟨k1, k2⟩ := HP_bkc g hH gt
  have hp : prt t = 1 := by unfold prt; rw [if_neg (by omega), if_pos ht]
  have hbl := k1.2.2.2.1
  intro M
  induction M with
  | zero => intro k top w _ z; omega
  | succ M ih =>
    intro k top w hk hm a
    show OK _ (hb_Te_toWriteTuple_20 N (hg_Te_toWriteTuple N M) w b (I (va t)) (I top) (I k))
    unfold hb_Te_toWriteTuple_20 hb_Te_toWriteTuple_60
    have hw : w.2.2.2 b = h := by rw [FRj a.1 (by simpa using hb)]; exact hh
    rw [m1I, lit0q, lit1q, vn_e k1.1, I_add, show ((vn t : Nat) : Int) + ((k : Nat) : Int) = ((vn t + k : Nat) : Int) by omega]
    refine k_le ⟨by omega, by omega⟩ ⟨by decide, by decide⟩ (fun _ => ok_some.mpr ⟨top, rfl, a⟩) (fun c => ?_)
    refine e_in ⟨by omega, by omega⟩ (by decide) ?_
    rw [tnI (n := vn t + k) rfl (by omega), hw]
    refine ok_bnd.mpr (ok_mono (push_ok (N := N) a (Or.inl (k2 k (by omega) hk))) (fun w2 r hw2 => ?_))
    obtain ⟨t2, rfl, a2⟩ := hw2
    have dn : I (k : Int) + I (-1) = I ((k - 1 : Nat) : Int) := by rw [I_add]; congr 1; omega
    rw [dn, ← vn_e k1.1]
    refine k_le ⟨by omega, by omega⟩ ⟨by decide, by decide⟩ (fun _ => ih (k - 1) t2 w2 (by omega) (by omega) a2) (fun _ => ?_)
    rw [I_lit (n := 10), I_lit (n := 44), e_make, bnd_so]
    refine ok_bnd.mpr (ok_mono (push_ok (N := N) a2 (TWT_s (Or.inl rfl))) (fun w3 r hw3 => ?_))
    obtain ⟨t3, rfl, a3⟩ := hw3
    exact ih (k - 1) t3 w3 (by omega) (by omega) a3
theorem toWriteTuple_ok {top : Nat} (hb : b ≠ 45) (hh : u0.2.2.2 b = h) (hn : n ≤ 512) (g : HPc h n ow kd Fv P) (ht : so t = 5) (gt : GT n ow kd P t) (a : TST n ow kd P j u0 u top) (hN : 600 ≤ N) : OK (fun w r => ∃ k : Nat, r = I k ∧ TST n ow kd P j u0 w k) (hm_Te_toWriteTuple N u b (I (va t)) (I top)) := by
  have hH : isH t := Or.inr (Or.inl ht)
  obtain ⟨k1, k2⟩ := HP_bkc g hH gt
  have hbl := k1.2.2.2.1
  have hbk : blk h t = 1 + vn (h (vn t)) := by unfold blk; rw [if_neg (by omega), if_pos ht]
  unfold hm_Te_toWriteTuple hb_Te_toWriteTuple_0
  rw [I_lit (n := 10), I_lit (n := 125), e_make, bnd_so]
  refine ok_bnd.mpr (ok_mono (push_ok (N := N) a (TWT_s (Or.inl rfl))) (fun w2 r hw2 => ?_))
  obtain ⟨t2, rfl, a2⟩ := hw2
  have hw : w2.2.2.2 b = h := by rw [FRj a2.1 (by simpa using hb)]; exact hh
  rw [vn_e k1.1]
  refine e_in ⟨by omega, by omega⟩ (by decide) ?_
  rw [tnI (n := vn t) rfl (by omega), hw, valI, vn_e (k1.2.1 ht).1, ← vn_e k1.1]
  exact tup_loop (N := N) hb hh hn g ht gt N (vn (h (vn t))) t2 w2 (by omega) (by omega) a2
theorem toWritePair_ok {top : Nat} (hb : b ≠ 45) (hh : u0.2.2.2 b = h) (hn : n ≤ 512) (g : HPc h n ow kd Fv P) (ht : so t = 7) (gt : GT n ow kd P t) (a : TST n ow kd P j u0 u top) : OK (fun w r => ∃ k : Nat, r = I k ∧ TST n ow kd P j u0 w k) (hm_Te_toWritePair N u b (I (va t)) (I top)) := by
  have hH : isH t := Or.inr (Or.inr ht)
  obtain ⟨k1, k2⟩ := HP_bkc g hH gt
  have hbl := k1.2.2.2.1
  have hbk : blk h t = 2 := by unfold blk; rw [if_pos ht]
  have hp : prt t = 0 := by unfold prt; rw [if_pos ht]
  unfold hm_Te_toWritePair hb_Te_toWritePair_0
  have hw : u.2.2.2 b = h := by rw [FRj a.1 (by simpa using hb)]; exact hh
  rw [vn_e k1.1, lit1q, I_add, show ((vn t : Nat) : Int) + 1 = ((vn t + 1 : Nat) : Int) by omega]
  refine e_in ⟨by omega, by omega⟩ (by decide) ?_
  rw [tnI (n := vn t + 1) rfl (by omega), hw]
  refine ok_bnd.mpr (ok_mono (push_ok (N := N) a (Or.inl (k2 1 (by omega) (by omega)))) (fun w2 r hw2 => ?_))
  obtain ⟨t2, rfl, a2⟩ := hw2
  rw [I_lit (n := 11), lit0q, e_make, bnd_so]
  refine ok_bnd.mpr (ok_mono (push_ok (N := N) a2 (TWT_s (Or.inr rfl))) (fun w3 r hw3 => ?_))
  obtain ⟨t3, rfl, a3⟩ := hw3
  have hw : w3.2.2.2 b = h := by rw [FRj a3.1 (by simpa using hb)]; exact hh
  refine e_in ⟨by omega, by omega⟩ (by decide) ?_
  rw [tnI (n := vn t) rfl (by omega), hw]
  refine ok_bnd.mpr (ok_mono (push_ok (N := N) a3 (Or.inl (k2 0 (by omega) (by omega)))) (fun w4 r hw4 => ok_some.mpr hw4))
theorem nilnh : ¬ isH (mk 6 0) := nh_so (by rw [so_mk (by decide) (by decide)]; decide)
theorem toWriteRest_ok {top : Nat} {pl : Int} (hP6 : P (mk 6 0)) (hb : b ≠ 45) (hh : u0.2.2.2 b = h) (hn : n ≤ 512) (g : HPc h n ow kd Fv P) (a : TST n ow kd P j u0 u top) (hp : -2 ≤ pl ∧ pl < top) : OK (fun w r => ∃ k : Nat, r = I k ∧ TST n ow kd P j u0 w k) (hm_Te_toWriteRest N u b (I pl)) := by
  have ht := a.2.2.1
  unfold hm_Te_toWriteRest hb_Te_toWriteRest_0
  have main : ∀ (t : Int64) (y : Nat), y ≤ top → TWT n ow kd P t → ((if I pl < 0 then (0 : Int32) else I pl) = I y) → OK (fun w r => ∃ k : Nat, r = I k ∧ TST n ow kd P j u0 w k) (hb_Te_toWriteRest_19 N () u b (I pl) t) := by
    intro t y hy htw hif
    unfold hb_Te_toWriteRest_19
    refine ok_lt.mpr ?_
    have ay := TST_less a hy
    rw [hif, e_tag, bnd_so]
    have hr := so_r t
    rw [I_lit (n := 6)]
    refine k_eq hr ⟨by decide, by decide⟩ (fun _ => ok_bnd.mpr (ok_mono (writeC_ok ay.2.1) (fun w _ hw => ok_some.mpr ⟨y, rfl, TST_wrt ay hw⟩))) (fun _ => ?_)
    rw [e_tag, bnd_so, I_lit (n := 7)]
    refine k_eq hr ⟨by decide, by decide⟩ (fun e7 => ?_) (fun _ => ?_)
    · have e7 : so t = 7 := e7
      have gt : GT n ow kd P t := by
        rcases htw with z | z | z
        · exact z
        · omega
        · omega
      refine ok_bnd.mpr (ok_mono (writeC_ok ay.2.1) (fun w _ hw => ?_))
      rw [valI]
      refine ok_bnd.mpr (ok_mono (toWritePair_ok (N := N) hb hh hn g e7 gt (TST_wrt ay hw)) (fun w2 r hw2 => ok_some.mpr hw2))
    · refine ok_bnd.mpr (ok_mono (writeC_ok ay.2.1) (fun w _ hw => ?_))
      rw [I_lit (n := 10), I_lit (n := 93), e_make, bnd_so]
      refine ok_bnd.mpr (ok_mono (push_ok (N := N) (TST_wrt ay hw) (TWT_s (Or.inl rfl))) (fun w3 r hw3 => ?_))
      obtain ⟨t3, rfl, a3⟩ := hw3
      exact ok_bnd.mpr (ok_mono (push_ok (N := N) a3 htw) (fun w4 r hw4 => ok_some.mpr hw4))
  rw [lit0q]
  refine k_lt ⟨by omega, by omega⟩ ⟨by decide, by decide⟩ (fun c => ?_) (fun c => ?_)
  · rw [I_lit (n := 6), e_make, bnd_so]
    refine main _ 0 (by omega) (Or.inl (Or.inl ⟨nilnh, hP6⟩)) ?_
    rw [lit0q, if_pos]
    · rfl
    · rw [I_lt (by omega) (by omega) (by decide) (by decide)]
      exact c
  · refine e_in ⟨by omega, by omega⟩ (by decide) ?_
    obtain ⟨k, rfl⟩ : ∃ k : Nat, pl = k := ⟨pl.toNat, by omega⟩
    rw [tnI (n := k) rfl (by omega)]
    refine main _ k (by omega) (a.2.2.2 k (by omega)) ?_
    rw [lit0q, if_neg]
    rw [I_lt (by omega) (by omega) (by decide) (by decide)]
    omega
theorem text_loop (hP6 : P (mk 6 0)) (hA : WDc u0 1) (hb : b ≠ 45) (hh : u0.2.2.2 b = h) (hn : n ≤ 512) (g : HPc h n ow kd Fv P) (hN : 200000 ≤ N) : ∀ (M top cn : Nat) (w : MS), cn ≤ 1000000000 → 1000000000 - cn < M → TST n ow kd P j u0 w top → OK (fun w r => TST n ow kd P j u0 w 0 ∧ r = I (F w 866)) (hg_Te_text N M w b (I top) (I cn)) := by
  intro M
  induction M with
  | zero => intro top cn w _ z; omega
  | succ M ih =>
    intro top cn w hcn hm a
    have ht := a.2.2.1
    have hjn : j ≠ 3 := by rcases a.2.1.2.1 with rfl | rfl <;> decide
    show OK _ (hb_Te_text_30 N (hg_Te_text N M) w b (I top) (I cn))
    unfold hb_Te_text_30 hb_Te_text_174
    have fin : OK (fun w r => TST n ow kd P j u0 w 0 ∧ r = I (F w 866)) (some (w, w.1 866)) := ok_some.mpr ⟨TST_less a (Nat.zero_le _), I_F⟩
    rw [m1I, lit0q, I_lit (n := 1000000000), I_lit (n := 100), I_lit (n := 5), I_lit (n := 7), I_lit (n := 11)]
    refine k_le ⟨by decide, by decide⟩ ⟨by omega, by omega⟩ (fun _ => fin) (fun c1 => ?_)
    have c1 : (cn : Int) < 1000000000 := c1
    refine k_le ⟨by omega, by omega⟩ ⟨by decide, by decide⟩ (fun _ => fin) (fun c2 => ?_)
    refine ok_br.mpr ⟨fun _ => fin, fun _ => ?_⟩
    have e1 : I ((top : Int)) + I (-1) = I (((top - 1 : Nat) : Int)) := by rw [I_add]; congr 1; omega
    rw [e1]
    refine e_in ⟨by omega, by omega⟩ (by decide) ?_
    rw [tnI (n := top - 1) rfl (by omega), e_tag, bnd_so, valI]
    have htw := a.2.2.2 (top - 1) (by omega)
    generalize w.2.2.2 45 (top - 1) = x at *
    have hr := so_r x
    have al := TST_less a (k := top - 1) (by omega)
    have nxt : ∀ (w2 : MS) (k : Nat), TST n ow kd P j u0 w2 k → OK (fun w r => TST n ow kd P j u0 w 0 ∧ r = I (F w 866)) (hb_Te_text_168 N (hg_Te_text N M) w2 b (I k) (I cn)) := by
      intro w2 k a2
      unfold hb_Te_text_168
      rw [lit1q, I_add, show ((cn : Nat) : Int) + 1 = ((cn + 1 : Nat) : Int) by omega]
      exact ih k (cn + 1) w2 (by omega) (by omega) a2
    have gx : so x = 5 ∨ so x = 7 → GT n ow kd P x := by
      intro z
      rcases htw with y | y | y
      · exact y
      · omega
      · omega
    refine k_eq hr ⟨by decide, by decide⟩ (fun e5 => ?_) (fun n5 => k_eq hr ⟨by decide, by decide⟩ (fun e7 => ?_) (fun n7 => k_eq hr ⟨by decide, by decide⟩ (fun e11 => ?_) (fun n11 => ?_)))
    · refine ok_bnd.mpr (ok_mono (writeC_ok al.2.1) (fun w2 _ hw2 => ?_))
      refine ok_bnd.mpr (ok_mono (toWriteTuple_ok (N := N) hb hh hn g e5 (gx (Or.inl e5)) (TST_wrt al hw2) (by omega)) (fun w3 r hw3 => ?_))
      obtain ⟨k, rfl, a3⟩ := hw3
      exact nxt w3 k a3
    · refine ok_bnd.mpr (ok_mono (writeC_ok al.2.1) (fun w2 _ hw2 => ?_))
      refine ok_bnd.mpr (ok_mono (toWritePair_ok (N := N) hb hh hn g e7 (gx (Or.inr e7)) (TST_wrt al hw2)) (fun w3 r hw3 => ?_))
      obtain ⟨k, rfl, a3⟩ := hw3
      exact nxt w3 k a3
    · rw [lit1q, I_sub]
      refine ok_bnd.mpr (ok_mono (toWriteRest_ok (N := N) (top := top - 1) hP6 hb hh hn g al (by omega)) (fun w3 r hw3 => ?_))
      obtain ⟨k, rfl, a3⟩ := hw3
      exact nxt w3 k a3
    · refine ok_bnd.mpr (ok_mono (writeAlone_ok (N := N) (WDc_fr hA al.1 (by simp) (by simp; omega)) al.2.1 hN) (fun w2 _ hw2 => ?_))
      exact nxt w2 (top - 1) (TST_wrt al hw2)
theorem text_ok {fr : Int} (hP6 : P (mk 6 0)) (hA : WDc u 1) (hb : b ≠ 45) (hh : u.2.2.2 b = h) (hn : n ≤ 512) (g : HPc h n ow kd Fv P) (gt : GT n ow kd P t) (hj : isOu j) (hf : 0 ≤ fr ∧ fr ≤ 100000) (hN : 1000000010 ≤ N) : OK (fun w r => FR [1964, 865, 866] [] [j] [45] u w ∧ ∃ k : Int, r = I k ∧ 0 ≤ k ∧ k ≤ 100) (hm_Te_text N u b t j (I fr)) := by
  unfold hm_Te_text hb_Te_text_0
  have hjl : j < 100 := by rcases hj with rfl | rfl <;> decide
  refine ok_lt.mpr (ok_lt.mpr (ok_lt.mpr (e_in (x := 0) ⟨by decide, by decide⟩ (by decide) (ok_lt.mpr ?_))))
  rw [show Int32.ofNat j = I (j : Int) from rfl, wi_e, wi_e, lit0q, wi_e, show (I 0).toNatClampNeg = 0 from rfl, wj_e, lit1q, show (0 : Int) = ((0 : Nat) : Int) from rfl, show (1 : Int) = ((1 : Nat) : Int) from rfl]
  generalize hz : wj (wi (wi (wi u 1964 (j : Int)) 865 fr) 866 ((0 : Nat) : Int)) 45 0 t = z
  have fz : FR [1964, 865, 866] [] [] [45] u z := by rw [← hz]; exact FR.wj (FR.wi (FR.wi (FR.wi FR.rf (by simp)) (by simp)) (by simp)) (by simp)
  have z0 : OUTc j z := by
    refine ⟨?_, hj, ?_, ?_⟩
    · rw [← hz]
      show rf (I (j : Int)) = some j
      exact rf_ofNat (by omega)
    · have : F z 865 = fr := by
        rw [← hz, F_wj, F_wi (by decide) (by decide), if_neg (by decide), F_wi (by omega) (by omega), if_pos rfl]
      rw [this]; exact hf
    · have : F z 866 = 0 := by rw [← hz, F_wj, F_wi (by decide) (by decide), if_pos rfl]; rfl
      omega
  have a0 : TST n ow kd P j z z 1 := ⟨FR.rf, z0, by omega, fun i hi => by
    have : z.2.2.2 45 i = t := by rw [← hz, wj_row, if_pos (by omega)]
    rw [this]; exact Or.inl gt⟩
  refine ok_mono (text_loop (N := N) (Fv := Fv) hP6 (WDc_fr hA fz (by simp) (by simp)) hb (by rw [FRj fz (by simpa using hb)]; exact hh) hn g (by omega) N 1 0 z (by omega) (by omega) a0) (fun w r hw => ?_)
  refine ⟨FR.tr (FR.mo fz (by simp) (by simp) (by simp) (by simp)) (FR.mo hw.1.1 (by simp) (by simp) (by simp) (by simp)), _, hw.2, hw.1.2.1.2.2.2.1, hw.1.2.1.2.2.2.2⟩
end
end
section
set_option maxRecDepth 100000
theorem I_msb {k : Int} (h1 : 0 ≤ k) (h2 : k < 2147483648) : (I k).toBitVec.msb = false := by
  rw [BitVec.msb_eq_false_iff_two_mul_lt]
  have : (I k).toBitVec.toInt = k := I_ti (by omega) h2
  have hb : (I k).toBitVec.toNat = k.toNat := by
    rw [BitVec.toInt_eq_toNat_bmod] at this
    have hl := (I k).toBitVec.isLt
    rw [Int.bmod_def] at this
    split at this <;> omega
  rw [hb]; omega
theorem sx64 {k : Int} (h1 : 0 ≤ k) (h2 : k < 2147483648) : (I k).toInt64.toBitVec = (I k).toBitVec.setWidth 64 := by
  show (I k).toBitVec.signExtend 64 = _
  exact BitVec.signExtend_eq_setWidth_of_msb_false (I_msb h1 h2)
theorem sh32 {y : Int64} : (y <<< ((32 : Int32).toInt64 &&& 63)).toBitVec = y.toBitVec <<< 32 := by
  have e : (((32 : Int32).toInt64 &&& 63).toBitVec.smod 64) = 32#64 := by decide
  rw [Int64.toBitVec_shiftLeft, e]
  rfl
theorem so_or {y : Int64} {k : Int} (h1 : 0 ≤ k) (h2 : k < 2147483648) : so ((y <<< ((32 : Int32).toInt64 &&& 63)) ||| (I k).toInt64) = y.toInt32.toInt := by
  unfold so
  congr 1
  apply Int32.toBitVec_inj.mp
  rw [so_bv, Int64.toBitVec_or, sh32, sx64 h1 h2]
  show _ = y.toBitVec.signExtend 32
  rw [BitVec.signExtend_eq_setWidth_of_le _ (by decide)]
  ext i hi
  rw [BitVec.getElem_setWidth, BitVec.getLsbD_sshiftRight, BitVec.getElem_setWidth]
  have a1 : decide (64 ≤ i) = false := decide_eq_false (by omega)
  have a2 : 32 + i < 64 := by omega
  rw [a1, if_pos a2, BitVec.getLsbD_or, BitVec.getLsbD_shiftLeft, BitVec.getLsbD_setWidth]
  have a4 : decide (32 + i < 32) = false := decide_eq_false (by omega)
  have a5 : decide (32 + i < 64) = true := decide_eq_true a2
  have a6 : 32 + i - 32 = i := by omega
  have a7 : (I k).toBitVec.getLsbD (32 + i) = false := BitVec.getLsbD_of_ge _ _ (by omega)
  rw [a4, a5, a6, a7]
  simp
theorem va_or {y : Int64} {k : Int} (h1 : 0 ≤ k) (h2 : k < 2147483648) : va ((y <<< ((32 : Int32).toInt64 &&& 63)) ||| (I k).toInt64) = k := by
  have e : ((y <<< ((32 : Int32).toInt64 &&& 63)) ||| (I k).toInt64).toInt32 = I k := by
    apply Int32.toBitVec_inj.mp
    show ((y <<< ((32 : Int32).toInt64 &&& 63)) ||| (I k).toInt64).toBitVec.signExtend 32 = _
    rw [BitVec.signExtend_eq_setWidth_of_le _ (by decide), Int64.toBitVec_or, sh32, sx64 h1 h2]
    ext i hi
    rw [BitVec.getElem_setWidth, BitVec.getLsbD_or, BitVec.getLsbD_shiftLeft, BitVec.getLsbD_setWidth]
    have a4 : decide (i < 32) = true := decide_eq_true hi
    have a5 : decide (i < 64) = true := decide_eq_true (by omega)
    rw [a4, a5]
    simp
    exact BitVec.getLsbD_eq_getElem hi
  unfold va
  rw [e, I_ti (by omega) h2]
theorem so_up {t : Int64} {k : Int} (h1 : 0 ≤ k) (h2 : k < 2147483648) : so (((t >>> ((32 : Int32).toInt64 &&& 63)) <<< ((32 : Int32).toInt64 &&& 63)) ||| (I k).toInt64) = so t := so_or h1 h2
theorem so_tg {s k : Int} (h1 : 0 ≤ k) (h2 : k < 2147483648) (h3 : RG s) : so (((I s).toInt64 <<< ((32 : Int32).toInt64 &&& 63)) ||| (I k).toInt64) = s := by
  rw [so_or h1 h2, Int32.toInt32_toInt64, I_ti h3.1 h3.2]
theorem moved_e {k : Int} : (38654705664 : Int64) ||| (I k).toInt64 = ((I 9).toInt64 <<< ((32 : Int32).toInt64 &&& 63)) ||| (I k).toInt64 := by
  congr 1
end
section
set_option maxRecDepth 100000
def xcO (h : Nat → Int64) (src : Nat → Int64) (bs : Nat → Nat) (c : Nat) : Int64 := h (vn (src (bs c)) + (c - bs c))
def CPc (h : Nat → Int64) (n : Nat) (ow kd : Nat → Nat) (P : Int64 → Prop) (d : Nat → Int64) (s0 U i : Nat) (src : Nat → Int64) (bs : Nat → Nat) : Prop :=
  s0 ≤ U ∧ (∀ c, s0 ≤ c → c < U → s0 ≤ bs c ∧ bs c ≤ c ∧ bs (bs c) = bs c ∧ isH (src (bs c)) ∧ GT n ow kd P (src (bs c)) ∧ c < bs c + blk h (src (bs c)) ∧ bs c + blk h (src (bs c)) ≤ U ∧ ∀ j, j < blk h (src (bs c)) → bs (bs c + j) = bs c) ∧
  ∀ c, s0 ≤ c → c < U → (¬ isH (xcO h src bs c) → d c = xcO h src bs c) ∧ (isH (xcO h src bs c) → (i ≤ c → d c = xcO h src bs c) ∧ (c < i → so (d c) = so (xcO h src bs c) ∧ ∃ b, va (d c) = ((b : Nat) : Int) ∧ s0 ≤ b ∧ b < U ∧ bs b = b ∧ src b = xcO h src bs c))
section
variable {h d : Nat → Int64} {n N b s0 U i : Nat} {ow kd bs : Nat → Nat} {Fv : Int64 → Int64 → Prop} {P : Int64 → Prop} {u v w : MS} {t x y : Int64} {src : Nat → Int64}
theorem BK_agree {h2 : Nat → Int64} (e : ∀ i, i < n → h2 i = h i) (z : isH t) (k : BKc h n ow kd Fv t) : BKc h2 n ow kd Fv t ∧ blk h2 t = blk h t := by
  have hb := blk_pos (h := h) z
  obtain ⟨k1, k2, k3, k4, k5, k6⟩ := k
  have e0 : h2 (vn t) = h (vn t) := e _ (by omega)
  have e1 : so t = 3 → h2 (vn t + 1) = h (vn t + 1) := fun z3 => e _ (by
    have : blk h t = 2 + vn (h (vn t + 1)) := by unfold blk; rw [if_neg (by omega), if_neg (by omega), if_pos z3]
    omega)
  have eb : blk h2 t = blk h t := by
    unfold blk
    rw [e0]
    by_cases z3 : so t = 3
    · rw [e1 z3]
    · rw [if_neg z3, if_neg z3]
  refine ⟨⟨k1, fun y => by rw [e0]; exact k2 y, fun y => by rw [e0, e1 y]; exact k3 y, by rw [eb]; exact k4, k5, by rw [eb]; exact k6⟩, eb⟩
theorem CPc_next (c : CPc h n ow kd P d s0 U i src bs) (h1 : s0 ≤ i) (h2 : i < U) (hx : ¬ isH (d i)) : CPc h n ow kd P d s0 U (i + 1) src bs := by
  obtain ⟨c1, c2, c3⟩ := c
  refine ⟨c1, c2, fun c a1 a2 => ⟨(c3 c a1 a2).1, fun z => ⟨fun a3 => ((c3 c a1 a2).2 z).1 (by omega), fun a3 => ?_⟩⟩⟩
  by_cases e : c = i
  · subst e
    have := ((c3 c a1 a2).2 z).1 (Nat.le_refl _)
    rw [this] at hx
    exact absurd z hx
  · exact ((c3 c a1 a2).2 z).2 (by omega)
theorem CPc_at (c : CPc h n ow kd P d s0 U i src bs) (h1 : s0 ≤ i) (h2 : i < U) (hx : isH (d i)) : d i = xcO h src bs i := by
  obtain ⟨c1, c2, c3⟩ := c
  by_cases z : isH (xcO h src bs i)
  · exact ((c3 i h1 h2).2 z).1 (Nat.le_refl _)
  · exact (c3 i h1 h2).1 z
theorem xcO_gt (g : HPc h n ow kd Fv P) (hF : FVc Fv) (c : CPc h n ow kd P d s0 U i src bs) {k : Nat} (h1 : s0 ≤ k) (h2 : k < U) (z : isH (xcO h src bs k)) : GT n ow kd P (xcO h src bs k) := by
  obtain ⟨c1, c2, c3⟩ := c
  obtain ⟨a1, a2, a3, a4, a5, a6, a7, a8⟩ := c2 k h1 h2
  obtain ⟨b1, b2⟩ := HP_bkc g a4 a5
  have hp : prt (src (bs k)) ≤ k - bs k := by
    by_cases e : prt (src (bs k)) ≤ k - bs k
    · exact e
    · exact absurd z (head_nh b1 a4 hF.1 (by omega))
  exact b2 _ hp (by omega)
theorem CPc_add {d2 : Nat → Int64} (g : HPc h n ow kd Fv P) (hF : FVc Fv) (c : CPc h n ow kd P d s0 U i src bs) (h1 : s0 ≤ i) (h2 : i < U) (hx : isH (d i)) (e1 : ∀ j, j < blk h (d i) → d2 (U + j) = h (vn (d i) + j)) (e2 : so (d2 i) = so (d i) ∧ va (d2 i) = ((U : Nat) : Int)) (e3 : ∀ k, s0 ≤ k → k < U → k ≠ i → d2 k = d k) :
    CPc h n ow kd P d2 s0 (U + blk h (d i)) (i + 1) (fun k => if k = U then d i else src k) (fun k => if U ≤ k then U else bs k) := by
  have hxe := CPc_at c h1 h2 hx
  have gx : GT n ow kd P (d i) := by rw [hxe]; exact xcO_gt g hF c h1 h2 (by rw [← hxe]; exact hx)
  have hb := blk_pos (h := h) hx
  obtain ⟨c1, c2, c3⟩ := c
  have hxo : ∀ k, s0 ≤ k → k < U → xcO h (fun k => if k = U then d i else src k) (fun k => if U ≤ k then U else bs k) k = xcO h src bs k := by
    intro k k1 k2
    unfold xcO
    have := (c2 k k1 k2).2.1
    simp only [if_neg (show ¬ U ≤ k by omega), if_neg (show ¬ bs k = U by omega)]
  have hxn : ∀ k, U ≤ k → xcO h (fun k => if k = U then d i else src k) (fun k => if U ≤ k then U else bs k) k = h (vn (d i) + (k - U)) := by
    intro k k1
    unfold xcO
    simp only [if_pos k1, if_true]
  refine ⟨by omega, fun k k1 k2 => ?_, fun k k1 k2 => ?_⟩
  · by_cases e : k < U
    · obtain ⟨a1, a2, a3, a4, a5, a6, a7, a8⟩ := c2 k k1 e
      simp only [if_neg (show ¬ U ≤ k by omega), if_neg (show ¬ U ≤ bs k by omega), if_neg (show ¬ bs k = U by omega)]
      refine ⟨a1, a2, a3, a4, a5, a6, by omega, fun j hj => ?_⟩
      rw [if_neg (by omega)]; exact a8 j hj
    · simp only [if_pos (show U ≤ k by omega), if_pos (Nat.le_refl U), if_true]
      exact ⟨c1, by omega, trivial, hx, gx, by omega, Nat.le_refl _, fun j hj => if_pos (by omega)⟩
  · by_cases e : k < U
    · rw [hxo k k1 e]
      obtain ⟨q1, q2⟩ := c3 k k1 e
      by_cases ei : k = i
      · subst ei
        rw [← hxe]
        refine ⟨fun z => absurd hx z, fun _ => ⟨fun z => by omega, fun _ => ⟨e2.1, U, e2.2, c1, by omega, ?_, ?_⟩⟩⟩
        · exact if_pos (Nat.le_refl _)
        · exact if_pos rfl
      · rw [e3 k k1 e ei]
        refine ⟨q1, fun z => ⟨fun z2 => (q2 z).1 (by omega), fun z2 => ?_⟩⟩
        obtain ⟨r1, b, r2, r3, r4, r5, r6⟩ := (q2 z).2 (by omega)
        exact ⟨r1, b, r2, r3, by omega, by simp only [if_neg (show ¬ U ≤ b by omega)]; exact r5, by simp only [if_neg (show ¬ b = U by omega)]; exact r6⟩
    · rw [hxn k (by omega)]
      have := e1 (k - U) (by omega)
      rw [show U + (k - U) = k by omega] at this
      exact ⟨fun _ => this, fun _ => ⟨fun _ => this, fun z => by omega⟩⟩
theorem CPc_root (hx : isH t) (gx : GT n ow kd P t) (e1 : ∀ j, j < blk h t → d (s0 + j) = h (vn t + j)) : CPc h n ow kd P d s0 (s0 + blk h t) s0 (fun _ => t) (fun _ => s0) := by
  refine ⟨by omega, fun k k1 k2 => ⟨Nat.le_refl _, k1, rfl, hx, gx, by omega, Nat.le_refl _, fun _ _ => rfl⟩, fun k k1 k2 => ?_⟩
  have := e1 (k - s0) (by omega)
  rw [show s0 + (k - s0) = k by omega] at this
  have e : xcO h (fun _ => t) (fun _ => s0) k = h (vn t + (k - s0)) := rfl
  rw [e]
  exact ⟨fun _ => this, fun _ => ⟨fun _ => this, fun z => by omega⟩⟩
def owN (s0 : Nat) (owd bs : Nat → Nat) : Nat → Nat := fun k => if k < s0 then owd k else bs k
def kdN (s0 : Nat) (kdd : Nat → Nat) (src : Nat → Int64) : Nat → Nat := fun k => if k < s0 then kdd k else (so (src k)).toNat
theorem so_nat (z : isH t) : (((so t).toNat : Nat) : Int) = so t := by unfold isH at z; omega
theorem CPc_sz {owd kdd : Nat → Nat} (g : HPc h n ow kd Fv P) (hF : FVc Fv) (c : CPc h n ow kd P d s0 U U src bs) : ∀ (f : Nat) (k : Nat) (p : Int64) (s : Nat), s0 ≤ k → k < U → bs k = k → so p = so (src k) → va p = ((k : Nat) : Int) → SZc h n ow kd Fv P f (src k) s → BKc d U (owN s0 owd bs) (kdN s0 kdd src) Fv p ∧ blk d p = blk h (src k) ∧ SZc d U (owN s0 owd bs) (kdN s0 kdd src) Fv P f p s := by
  have bk : ∀ (k : Nat) (p : Int64), s0 ≤ k → k < U → bs k = k → so p = so (src k) → va p = ((k : Nat) : Int) → BKc d U (owN s0 owd bs) (kdN s0 kdd src) Fv p ∧ blk d p = blk h (src k) := by
    intro k p k1 k2 k3 p1 p2
    obtain ⟨c1, c2, c3⟩ := c
    obtain ⟨a1, a2, a3, a4, a5, a6, a7, a8⟩ := c2 k k1 k2
    rw [k3] at a4 a5 a6 a7 a8
    obtain ⟨⟨b1, b2, b3, b4, b5, b6⟩, b7⟩ := HP_bkc g a4 a5
    have hv : vn p = k := by unfold vn; rw [p2]; exact Int.toNat_natCast k
    have hc : ∀ j, j < prt (src k) → d (k + j) = h (vn (src k) + j) := by
      intro j hj
      have hp := prt_le (h := h) a4
      have hbs := a8 j (by omega)
      have hxe : xcO h src bs (k + j) = h (vn (src k) + j) := by unfold xcO; rw [hbs, show k + j - k = j by omega]
      have hn := head_nh ⟨b1, b2, b3, b4, b5, b6⟩ a4 hF.1 hj
      rw [← hxe] at hn ⊢
      exact (c3 (k + j) (by omega) (by omega)).1 hn
    have eb : blk d p = blk h (src k) := by
      unfold blk
      rw [p1, hv]
      rcases a4 with z | z | z
      · rw [if_neg (by omega), if_neg (by omega), if_pos z, if_neg (by omega), if_neg (by omega), if_pos z, hc 1 (by unfold prt; rw [if_neg (by omega), if_neg (by omega)]; omega)]
      · have := hc 0 (by unfold prt; rw [if_neg (by omega), if_pos z]; omega)
        rw [Nat.add_zero, Nat.add_zero] at this
        rw [if_neg (by omega), if_pos z, if_neg (by omega), if_pos z, this]
      · rw [if_pos z, if_pos z]
    refine ⟨⟨by omega, fun z => ?_, fun z => ?_, by rw [hv, eb]; exact a7, ?_, fun j hj => ?_⟩, eb⟩
    · rw [p1] at z
      have := hc 0 (by unfold prt; rw [if_neg (by omega), if_pos z]; omega)
      rw [Nat.add_zero, Nat.add_zero] at this
      rw [hv, this]; exact b2 z
    · rw [p1] at z
      have e0 := hc 0 (by unfold prt; rw [if_neg (by omega), if_neg (by omega)]; omega)
      have e1 := hc 1 (by unfold prt; rw [if_neg (by omega), if_neg (by omega)]; omega)
      rw [Nat.add_zero, Nat.add_zero] at e0
      rw [hv, e0, e1]; exact b3 z
    · rw [hv, p1]
      unfold kdN
      rw [if_neg (by omega)]
      exact so_nat a4
    · rw [hv]
      rw [eb] at hj
      unfold owN
      rw [if_neg (by omega)]
      exact a8 j hj
  intro f
  induction f with
  | zero => intro k p s _ _ _ _ _ z; exact z.elim
  | succ f ih =>
    intro k p s k1 k2 k3 p1 p2 z
    obtain ⟨B1, B2⟩ := bk k p k1 k2 k3 p1 p2
    refine ⟨B1, B2, ?_⟩
    have hs : isH (src k) := by have := (c.2.1 k k1 k2).2.2.2.1; rw [k3] at this; exact this
    have hH : isH p := by unfold isH; rw [p1]; exact hs
    rcases z with z | ⟨z1, z2, cc, z3, z4⟩
    · exact absurd hs z.1
    · have hpp : prt p = prt (src k) := by unfold prt; rw [p1]
      have hv : vn p = k := by unfold vn; rw [p2]; exact Int.toNat_natCast k
      refine Or.inr ⟨hH, B1, cc, fun j j1 j2 => ?_, by rw [B2, hpp]; exact z4⟩
      rw [hpp] at j1
      rw [B2] at j2
      have zj := z3 j j1 j2
      obtain ⟨a1, a2, a3, a4, a5, a6, a7, a8⟩ := c.2.1 k k1 k2
      rw [k3] at a4 a5 a6 a7 a8
      have hbs := a8 j j2
      have hxe : xcO h src bs (k + j) = h (vn (src k) + j) := by unfold xcO; rw [hbs, show k + j - k = j by omega]
      obtain ⟨q1, q2⟩ := c.2.2 (k + j) (by omega) (by omega)
      rw [hv]
      rw [hxe] at q1 q2
      by_cases hx : isH (h (vn (src k) + j))
      · obtain ⟨r1, b, r2, r3, r4, r5, r6⟩ := (q2 hx).2 (by omega)
        exact (ih b (d (k + j)) (cc j) r3 r4 r5 (by rw [r1, r6]) r2 (by rw [r6]; exact zj)).2.2
      · rw [q1 hx]
        cases f with
        | zero => exact zj.elim
        | succ f =>
          rcases zj with zj | zj
          · exact Or.inl zj
          · exact absurd zj.1 hx
theorem CPc_hp {d0 : Nat → Int64} {owd kdd : Nat → Nat} (g : HPc h n ow kd Fv P) (hF : FVc Fv) (c : CPc h n ow kd P d s0 U U src bs) (gd : HPc d0 s0 owd kdd Fv P) (e0 : ∀ k, k < s0 → d k = d0 k) : HPc d U (owN s0 owd bs) (kdN s0 kdd src) Fv P ∧ (∀ t, GT s0 owd kdd P t → GT U (owN s0 owd bs) (kdN s0 kdd src) P t) := by
  have hU := c.1
  have lift : ∀ f t s, SZc d0 s0 owd kdd Fv P f t s → SZc d U (owN s0 owd bs) (kdN s0 kdd src) Fv P f t s := fun f t s z => SZ_extc hU (fun i hi => e0 i hi) (fun i hi => if_pos hi) (fun i hi => if_pos hi) (fun _ _ q => q) (fun _ q => q) z
  refine ⟨fun t ht gt => ?_, fun t gt => ?_⟩
  · rcases gt with z | ⟨z1, z2, z3, z4, z5⟩
    · exact absurd ht z.1
    · by_cases e : vn t < s0
      · have z4' : owd (vn t) = vn t := by unfold owN at z4; rw [if_pos e] at z4; exact z4
        have z5' : (kdd (vn t) : Int) = so t := by unfold kdN at z5; rw [if_pos e] at z5; exact z5
        obtain ⟨f, s, y1, y2⟩ := gd t ht (Or.inr ⟨z1, z2, e, z4', z5'⟩)
        refine ⟨f, s, lift f t s y1, fun hs => ?_⟩
        obtain ⟨w1, w2, w3⟩ := y2 hs
        obtain ⟨f2, cc, B, -, -⟩ := SZ_blkc y1 ht
        obtain ⟨-, eb⟩ := BK_agree (h2 := d) (fun i hi => e0 i hi) ht B
        have hb4 := B.2.2.2.1
        exact ⟨w1, by rw [eb]; exact w2, by rw [e0 _ (by omega)]; exact w3⟩
      · have z4' : bs (vn t) = vn t := by unfold owN at z4; rw [if_neg e] at z4; exact z4
        have z5' : (((so (src (vn t))).toNat : Nat) : Int) = so t := by unfold kdN at z5; rw [if_neg e] at z5; exact z5
        obtain ⟨a1, a2, a3, a4, a5, a6, a7, a8⟩ := c.2.1 (vn t) (by omega) z3
        rw [z4'] at a4 a5 a6 a7 a8
        rw [so_nat a4] at z5'
        obtain ⟨f, s, y1, y2⟩ := g (src (vn t)) a4 a5
        obtain ⟨B1, B2, B3⟩ := CPc_sz (owd := owd) (kdd := kdd) g hF c f (vn t) t s (by omega) z3 z4' z5'.symm (vn_e z2) y1
        refine ⟨f, s, B3, fun hs => ?_⟩
        obtain ⟨w1, w2, w3⟩ := y2 hs
        refine ⟨by omega, by rw [B2]; exact w2, ?_⟩
        have hbs := a8 1 (by omega)
        have hxe : xcO h src bs (vn t + 1) = h (vn (src (vn t)) + 1) := by unfold xcO; rw [hbs, show vn t + 1 - vn t = 1 by omega]
        have := (c.2.2 (vn t + 1) (by omega) (by omega)).1
        rw [hxe] at this
        rw [this w3]; exact w3
  · rcases gt with z | ⟨z1, z2, z3, z4, z5⟩
    · exact Or.inl z
    · exact Or.inr ⟨z1, z2, by omega, by unfold owN; rw [if_pos z3]; exact z4, by unfold kdN; rw [if_pos z3]; exact z5⟩
end
end
section
set_option maxRecDepth 100000
section
variable {h d0 : Nat → Int64} {n N b s0 q s : Nat} {ow kd owd kdd : Nat → Nat} {Fv : Int64 → Int64 → Prop} {P : Int64 → Prop} {u v w u0 : MS} {t x y : Int64}
def CIS (h : Nat → Int64) (n : Nat) (ow kd : Nat → Nat) (Fv : Int64 → Int64 → Prop) (P : Int64 → Prop) (q b s0 s : Nat) (d0 : Nat → Int64) (t : Int64) (u0 w : MS) (i : Nat) (cp : Int64) : Prop :=
  ∃ (U : Nat) (src : Nat → Int64) (bs z : Nat → Nat), FR [pq q 4] [] [] [pq q 2] u0 w ∧ F w (pq q 4) = ((U : Nat) : Int) ∧ CPc h n ow kd P (w.2.2.2 (pq q 2)) s0 U i src bs ∧ (∀ c, i ≤ c → c < U → (isH (xcO h src bs c) → ∃ f, SZc h n ow kd Fv P f (xcO h src bs c) (z c)) ∧ (¬ isH (xcO h src bs c) → z c = 0)) ∧ U + smm z i (U - i) = s0 + s ∧ (∀ k, k < s0 → w.2.2.2 (pq q 2) k = d0 k) ∧ s0 < U ∧ bs s0 = s0 ∧ src s0 = t ∧ so cp = so t ∧ va cp = ((s0 : Nat) : Int) ∧ s0 ≤ i ∧ i ≤ U
theorem smm_z {z z2 : Nat → Nat} {a m : Nat} (h : ∀ j, a ≤ j → j < a + m → z j = z2 j) : smm z a m = smm z2 a m := smm_eq h
theorem src_row (hb : ∀ c, c < n → u0.2.2.2 b c = h c) (hbq : b = pq q 2 → n ≤ s0 ∧ ∀ k, k < s0 → u0.2.2.2 b k = d0 k) (f : FR [pq q 4] [] [] [pq q 2] u0 w) (e : ∀ k, k < s0 → w.2.2.2 (pq q 2) k = d0 k) : ∀ c, c < n → w.2.2.2 b c = h c := by
  intro c hc
  by_cases eb : b = pq q 2
  · have := hbq eb
    rw [eb, e c (by omega), ← this.2 c (by omega)]
    exact hb c hc
  · rw [FRj f (by simpa using eb)]; exact hb c hc
theorem wi_row {k : Nat} {x : Int} : (wi u k x).2.2.2 = u.2.2.2 := rfl
theorem upJ_row {k : Nat} {g : Nat → Int64} : (upJ u k g).2.2.2 k = g := if_pos rfl
theorem FR_upJ {is ls as js : List Nat} {k : Nat} {g : Nat → Int64} (f : FR is ls as js u w) (h : k ∈ js) : FR is ls as js u (upJ w k g) := ⟨f.1, f.2.1, f.2.2.1, fun j hj => (if_neg (fun (e : j = k) => hj (e ▸ h))).trans (f.2.2.2 j hj)⟩
theorem FR_upA {is ls as js : List Nat} {k : Nat} {g : Nat → Int32} (f : FR is ls as js u w) (h : k ∈ as) : FR is ls as js u (upA w k g) := ⟨f.1, f.2.1, fun j hj => (if_neg (fun (e : j = k) => hj (e ▸ h))).trans (f.2.2.1 j hj), f.2.2.2⟩
theorem cpOkI {a c k : Int} {x y : Nat} (h : 0 ≤ a ∧ 0 ≤ c ∧ 0 ≤ k ∧ a + k ≤ x ∧ c + k ≤ y) (hx : x ≤ 2147483647) (hy : y ≤ 2147483647) : cpOk (I a) (I c) (I k) x y = true := by
  unfold cpOk
  have z : (OfNat.ofNat 0 : Int) = 0 := rfl
  refine decide_eq_true ⟨?_, ?_, ?_, ?_, ?_⟩
  · rw [I_lit (n := 0), I_lt (by omega) (by omega) (by decide) (by decide)]; omega
  · rw [I_lit (n := 0), I_lt (by omega) (by omega) (by decide) (by decide)]; omega
  · rw [I_lit (n := 0), I_lt (by omega) (by omega) (by decide) (by decide)]; omega
  · rw [I_tn (by omega) (by omega), I_tn (by omega) (by omega)]; omega
  · rw [I_tn (by omega) (by omega), I_tn (by omega) (by omega)]; omega
theorem e_cp {α : Type} {Q : MS → α → Prop} {a c k : Int} {x y : Nat} {p : Option (MS × α)} (h : 0 ≤ a ∧ 0 ≤ c ∧ 0 ≤ k ∧ a + k ≤ x ∧ c + k ≤ y) (hx : x ≤ 2147483647) (hy : y ≤ 2147483647) (q : OK Q p) : OK Q (ck (cpOk (I a) (I c) (I k) x y) p) := ok_ck.mpr ⟨cpOkI h hx hy, q⟩
theorem cpy_in {α : Type} {f g : Nat → α} {a c k j : Nat} (h : j < k) : va_cpy f g a c k (c + j) = f (a + j) := by
  unfold va_cpy
  rw [if_pos (by omega), show c + j - c = j by omega]
theorem cpy_out {α : Type} {f g : Nat → α} {a c k i : Nat} (h : ¬ (c ≤ i ∧ i < c + k)) : va_cpy f g a c k i = g i := if_neg h
theorem copy_loop (g : HPc h n ow kd Fv P) (hF : FVc Fv) (hn : n ≤ 512) (hs : s0 + s ≤ 512) (hb : ∀ c, c < n → u0.2.2.2 b c = h c) (hbq : b = pq q 2 → n ≤ s0 ∧ ∀ k, k < s0 → u0.2.2.2 b k = d0 k) : ∀ (M i : Nat) (w : MS) (cp : Int64), 513 - i < M → CIS h n ow kd Fv P q b s0 s d0 t u0 w i cp → OK (fun w r => ∃ U, CIS h n ow kd Fv P q b s0 s d0 t u0 w U r ∧ U = s0 + s) (hg_Pr_copyIn N M w q b t cp (I s0) (I i)) := by
  intro M
  induction M with
  | zero => intro i w cp z; omega
  | succ M ih =>
    intro i w cp hm hc
    have hc' := hc
    obtain ⟨U, src, bs, z, f, hU, hC, hz, hsum, hd, h1, h2, h3, h4, h5, h6, h7⟩ := hc
    have hrow := src_row hb hbq f hd
    have hUb : U ≤ 512 := by omega
    show OK _ (hb_Pr_copyIn_15 N (hg_Pr_copyIn N M) w q b t cp (I s0) (I i))
    unfold hb_Pr_copyIn_15
    rw [I_F (k := pq q 4), hU]
    refine k_le ⟨by omega, by omega⟩ ⟨by omega, by omega⟩ (fun e => ?_) (fun e => ?_)
    · have ei : i = U := by omega
      subst ei
      rw [Nat.sub_self] at hsum
      have e0 : smm z i 0 = 0 := rfl
      exact ok_some.mpr ⟨i, hc', by omega⟩
    · have hi : i < U := by omega
      refine k_le ⟨by omega, by omega⟩ ⟨by omega, by omega⟩ (fun _ => ?_) (fun e2 => by omega)
      refine e_in ⟨by omega, by omega⟩ (by decide) ?_
      rw [tnI (n := i) rfl (by omega)]
      unfold hb_Pr_copyIn_42 hb_Pr_copyIn_140
      have nextI : I (i : Int) + 1 = I ((i + 1 : Nat) : Int) := by rw [lit1q, I_add]; congr 1
      by_cases hx : isH (w.2.2.2 (pq q 2) i)
      · have hxe := CPc_at hC h6 hi hx
        have gx : GT n ow kd P (w.2.2.2 (pq q 2) i) := by rw [hxe]; exact xcO_gt g hF hC h6 hi (by rw [← hxe]; exact hx)
        obtain ⟨bk, -⟩ := HP_bkc g hx gx
        obtain ⟨bk2, eb⟩ := BK_agree (h2 := w.2.2.2 b) hrow hx bk
        have hbp := blk_pos (h := h) hx
        have hbl := bk.2.2.2.1
        obtain ⟨fz, zz⟩ := (hz i (Nat.le_refl _) hi).1 (by rw [← hxe]; exact hx)
        rw [← hxe] at zz
        obtain ⟨f2, cc, -, zp, ze⟩ := SZ_blkc zz hx
        have hp := prt_le (h := h) hx
        have hcut := smm_cut (c := z) hi
        generalize hX : w.2.2.2 (pq q 2) i = X at *
        have hv := vn_e bk.1
        rw [cellsAt_h rfl hn hx bk2, bnd_so, eb, lit0q]
        refine k_eq ⟨by omega, by omega⟩ ⟨by decide, by decide⟩ (fun e3 => by omega) (fun _ => ?_)
        rw [I_F (k := pq q 4), hU, I_add, I_lit (n := 512)]
        refine k_le ⟨by omega, by omega⟩ ⟨by decide, by decide⟩ (fun _ => ?_) (fun e3 => absurd e3 (by show ¬ (512 : Int) < _; omega))
        refine ok_lt.mpr ?_
        rw [valI, hv]
        refine e_cp ⟨by omega, by omega, by omega, by omega, by omega⟩ (by decide) (by decide) (ok_lt.mpr ?_)
        rw [tnI (n := vn X) rfl (by omega), tnI (n := U) rfl (by omega), tnI (n := blk h X) rfl (by omega)]
        generalize hw9 : upJ w (pq q 2) (va_cpy (w.2.2.2 b) (w.2.2.2 (pq q 2)) (vn X) U (blk h X)) = w9
        have f9 : FR [pq q 4] [] [] [pq q 2] u0 w9 := by rw [← hw9]; exact FR_upJ f (by simp)
        have e9 : w9.1 (pq q 4) = I (U : Int) := by rw [← hw9]; show w.1 (pq q 4) = _; rw [I_F, hU]
        have r9 : w9.2.2.2 (pq q 2) = va_cpy (w.2.2.2 b) (w.2.2.2 (pq q 2)) (vn X) U (blk h X) := by rw [← hw9]; exact upJ_row
        refine ok_lt.mpr ?_
        rw [e9, I_add, wi_e]
        refine k_le ⟨by omega, by omega⟩ ⟨by omega, by omega⟩ (fun _ => ?_) (fun e2 => by omega)
        refine e_in ⟨by omega, by omega⟩ (by decide) (ok_lt.mpr ?_)
        rw [tnI (n := i) rfl (by omega), wj_e, nextI]
        generalize hpt : (((X >>> ((32 : Int32).toInt64 &&& 63)) <<< ((32 : Int32).toInt64 &&& 63)) ||| (I (U : Int)).toInt64) = pt
        have sp : so pt = so X := by rw [← hpt]; exact so_up (by omega) (by omega)
        have vp : va pt = ((U : Nat) : Int) := by rw [← hpt]; exact va_or (by omega) (by omega)
        have rr : ∀ k, (wj (wi w9 (pq q 4) ((U : Int) + (blk h X : Int))) (pq q 2) i pt).2.2.2 (pq q 2) k = if k = i then pt else va_cpy (w.2.2.2 b) (w.2.2.2 (pq q 2)) (vn X) U (blk h X) k := by
          intro k
          rw [wj_row]
          by_cases ek : k = i
          · rw [if_pos ek, if_pos ek]
          · rw [if_neg ek, if_neg ek]
            show w9.2.2.2 (pq q 2) k = _
            rw [r9]
        have hC2 := CPc_add (d2 := (wj (wi w9 (pq q 4) ((U : Int) + (blk h X : Int))) (pq q 2) i pt).2.2.2 (pq q 2)) g hF hC h6 hi (by rw [hX]; exact hx) (fun j hj => by
          rw [hX] at hj ⊢
          rw [rr, if_neg (by omega), cpy_in hj]
          exact hrow _ (by omega)) (by rw [hX, rr, if_pos rfl]; exact ⟨sp, vp⟩) (fun k k1 k2 k3 => by rw [rr, if_neg k3, cpy_out (by omega)])
        rw [hX] at hC2
        have hz2e : ∀ c, U ≤ c → (if U ≤ c then wgt cc (prt X) (c - U) else z c) = wgt cc (prt X) (c - U) := fun c hc => if_pos hc
        refine ih (i + 1) _ cp (by omega) ⟨U + blk h X, _, _, fun c => if U ≤ c then wgt cc (prt X) (c - U) else z c, FR.wj (FR.wi f9 (by simp)) (by simp), ?_, hC2, fun c c1 c2 => ?_, ?_, fun k hk => ?_, by omega, ?_, ?_, h4, h5, by omega, by omega⟩
        · rw [F_wj, F_wi (by omega) (by omega), if_pos rfl]; omega
        · by_cases ec : c < U
          · have hbs := (hC.2.1 c (by omega) ec).2.1
            have hxo : xcO h (fun k => if k = U then X else src k) (fun k => if U ≤ k then U else bs k) c = xcO h src bs c := by
              unfold xcO
              simp only [if_neg (show ¬ U ≤ c by omega), if_neg (show ¬ bs c = U by omega)]
            rw [hxo]
            simp only [if_neg (show ¬ U ≤ c by omega)]
            exact hz c (by omega) ec
          · have hxn : xcO h (fun k => if k = U then X else src k) (fun k => if U ≤ k then U else bs k) c = h (vn X + (c - U)) := by
              unfold xcO
              simp only [if_pos (show U ≤ c by omega), if_true]
            rw [hxn]
            simp only [if_pos (show U ≤ c by omega)]
            unfold wgt
            by_cases ep : c - U < prt X
            · rw [if_pos ep]
              exact ⟨fun y => absurd y (head_nh bk hx hF.1 ep), fun _ => rfl⟩
            · rw [if_neg ep]
              have zc := zp (c - U) (by omega) (by omega)
              exact ⟨fun _ => ⟨f2, zc⟩, fun y => SZ_nhc zc y⟩
        · have e1 := smm_add (c := fun c => if U ≤ c then wgt cc (prt X) (c - U) else z c) (a := i + 1) (x := U - (i + 1)) (y := blk h X)
          rw [show U - (i + 1) + blk h X = U + blk h X - (i + 1) by omega, show i + 1 + (U - (i + 1)) = U by omega] at e1
          have e2 : smm (fun c => if U ≤ c then wgt cc (prt X) (c - U) else z c) (i + 1) (U - (i + 1)) = smm z (i + 1) (U - (i + 1)) := smm_eq (fun j j1 j2 => if_neg (by omega))
          have e3 : smm (fun c => if U ≤ c then wgt cc (prt X) (c - U) else z c) U (blk h X) = smm (wgt cc (prt X)) 0 (blk h X) := by
            have gen : ∀ m, smm (fun c => if U ≤ c then wgt cc (prt X) (c - U) else z c) U m = smm (wgt cc (prt X)) 0 m := by
              intro m
              induction m with
              | zero => rfl
              | succ m ihm =>
                show smm _ U m + (if U ≤ U + m then wgt cc (prt X) (U + m - U) else z (U + m)) = smm _ 0 m + wgt cc (prt X) (0 + m)
                rw [ihm, if_pos (by omega), show U + m - U = 0 + m by omega]
            exact gen _
          have e4 := wgt_sum (d := cc) hp
          omega
        · rw [rr, if_neg (by omega), cpy_out (by omega)]; exact hd k hk
        · show (if U ≤ s0 then U else bs s0) = s0
          rw [if_neg (by omega)]; exact h2
        · show (if s0 = U then X else src s0) = t
          rw [if_neg (by omega)]; exact h3
      · rw [cellsAt_n hx, bnd_so]
        refine ok_br.mpr ⟨fun _ => ?_, fun y => absurd y (by decide)⟩
        rw [nextI]
        have hcut := smm_cut (c := z) hi
        have z0 : z i = 0 := by
          refine (hz i (Nat.le_refl _) hi).2 (fun y => ?_)
          have := ((hC.2.2 i h6 hi).2 y).1 (Nat.le_refl _)
          rw [this] at hx
          exact hx y
        exact ih (i + 1) w cp (by omega) ⟨U, src, bs, z, f, hU, CPc_next hC h6 hi hx, fun c c1 c2 => hz c (by omega) c2, by omega, hd, h1, h2, h3, h4, h5, by omega, by omega⟩
theorem copyIn_hd {f0 : Nat} (g : HPc h n ow kd Fv P) (hF : FVc Fv) (hn : n ≤ 512) (hs : s0 + s ≤ 512) (hb : ∀ c, c < n → u.2.2.2 b c = h c) (hbq : b = pq q 2 → n ≤ s0) (z : SZc h n ow kd Fv P f0 t s) (hu : F u (pq q 4) = ((s0 : Nat) : Int)) (gd : HPc (u.2.2.2 (pq q 2)) s0 owd kdd Fv P) (hN : 600 ≤ N) :
    OK (fun w r => FR [pq q 4] [] [] [pq q 2] u w ∧ F w (pq q 4) = ((s0 + s : Nat) : Int) ∧ (∀ k, k < s0 → w.2.2.2 (pq q 2) k = u.2.2.2 (pq q 2) k) ∧ ∃ ow2 kd2, HPc (w.2.2.2 (pq q 2)) (s0 + s) ow2 kd2 Fv P ∧ (∀ k, k < s0 → ow2 k = owd k ∧ kd2 k = kdd k) ∧ (∀ t, GT s0 owd kdd P t → GT (s0 + s) ow2 kd2 P t) ∧ GT (s0 + s) ow2 kd2 P r ∧ (∃ f2, SZc (w.2.2.2 (pq q 2)) (s0 + s) ow2 kd2 Fv P f2 r s) ∧ so r = so t ∧ (isH t → va r = ((s0 : Nat) : Int) ∧ ∀ j, j < prt t → w.2.2.2 (pq q 2) (s0 + j) = h (vn t + j))) (hm_Pr_copyIn N u q b t) := by
  unfold hm_Pr_copyIn hb_Pr_copyIn_0
  rw [I_F (k := pq q 4), hu, lit1q, I_sub]
  have gt := SZ_gtc z
  cases N with
  | zero => omega
  | succ M =>
    show OK _ (hb_Pr_copyIn_15 (M + 1) (hg_Pr_copyIn (M + 1) M) u q b t t (I s0) (I ((s0 : Int) - 1)))
    unfold hb_Pr_copyIn_15
    rw [I_F (k := pq q 4), hu]
    refine k_le ⟨by omega, by omega⟩ ⟨by omega, by omega⟩ (fun e => by omega) (fun _ => ?_)
    refine k_le ⟨by omega, by omega⟩ ⟨by omega, by omega⟩ (fun e => by omega) (fun _ => ?_)
    unfold hb_Pr_copyIn_42 hb_Pr_copyIn_140
    have nextI : I ((s0 : Int) - 1) + 1 = I (s0 : Int) := by rw [lit1q, I_add]; congr 1; omega
    by_cases hx : isH t
    · obtain ⟨f2, cc, bk, zp, ze⟩ := SZ_blkc z hx
      obtain ⟨bk2, eb⟩ := BK_agree (h2 := u.2.2.2 b) hb hx bk
      have hbp := blk_pos (h := h) hx
      have hbl := bk.2.2.2.1
      have hp := prt_le (h := h) hx
      have hv := vn_e bk.1
      rw [cellsAt_h rfl hn hx bk2, bnd_so, eb, lit0q]
      refine k_eq ⟨by omega, by omega⟩ ⟨by decide, by decide⟩ (fun e3 => by omega) (fun _ => ?_)
      rw [I_F (k := pq q 4), hu, I_add, I_lit (n := 512)]
      refine k_le ⟨by omega, by omega⟩ ⟨by decide, by decide⟩ (fun _ => ?_) (fun e3 => absurd e3 (by show ¬ (512 : Int) < _; omega))
      refine ok_lt.mpr ?_
      rw [valI, hv]
      refine e_cp ⟨by omega, by omega, by omega, by omega, by omega⟩ (by decide) (by decide) (ok_lt.mpr ?_)
      rw [tnI (n := vn t) rfl (by omega), tnI (n := s0) rfl (by omega), tnI (n := blk h t) rfl (by omega)]
      generalize hw9 : upJ u (pq q 2) (va_cpy (u.2.2.2 b) (u.2.2.2 (pq q 2)) (vn t) s0 (blk h t)) = w9
      have f9 : FR [pq q 4] [] [] [pq q 2] u w9 := by rw [← hw9]; exact FR_upJ FR.rf (by simp)
      have e9 : w9.1 (pq q 4) = I (s0 : Int) := by rw [← hw9]; show u.1 (pq q 4) = _; rw [I_F, hu]
      have r9 : w9.2.2.2 (pq q 2) = va_cpy (u.2.2.2 b) (u.2.2.2 (pq q 2)) (vn t) s0 (blk h t) := by rw [← hw9]; exact upJ_row
      refine ok_lt.mpr ?_
      rw [e9, I_add, wi_e]
      refine k_le ⟨by omega, by omega⟩ ⟨by omega, by omega⟩ (fun e => by omega) (fun _ => ?_)
      rw [nextI]
      generalize hpt : (((t >>> ((32 : Int32).toInt64 &&& 63)) <<< ((32 : Int32).toInt64 &&& 63)) ||| (I (s0 : Int)).toInt64) = pt
      have sp : so pt = so t := by rw [← hpt]; exact so_up (by omega) (by omega)
      have vp : va pt = ((s0 : Nat) : Int) := by rw [← hpt]; exact va_or (by omega) (by omega)
      have rr : (wi w9 (pq q 4) ((s0 : Int) + (blk h t : Int))).2.2.2 (pq q 2) = va_cpy (u.2.2.2 b) (u.2.2.2 (pq q 2)) (vn t) s0 (blk h t) := r9
      have hC := CPc_root (h := h) (n := n) (ow := ow) (kd := kd) (P := P) (d := (wi w9 (pq q 4) ((s0 : Int) + (blk h t : Int))).2.2.2 (pq q 2)) (s0 := s0) hx gt (fun j hj => by rw [rr, cpy_in hj]; exact hb _ (by omega))
      refine ok_mono (copy_loop (N := M + 1) (u0 := u) (d0 := u.2.2.2 (pq q 2)) g hF hn hs hb (fun e => ⟨hbq e, fun k _ => by rw [e]⟩) M s0 (wi w9 (pq q 4) ((s0 : Int) + (blk h t : Int))) pt (by omega) ⟨s0 + blk h t, _, _, fun c => wgt cc (prt t) (c - s0), FR.wi f9 (by simp), ?_, hC, fun c c1 c2 => ?_, ?_, fun k hk => ?_, by omega, rfl, rfl, sp, vp, Nat.le_refl _, by omega⟩) (fun w r hw => ?_)
      · rw [F_wi (by omega) (by omega), if_pos rfl]; omega
      · have hxn : xcO h (fun _ => t) (fun _ => s0) c = h (vn t + (c - s0)) := rfl
        rw [hxn]
        show (_ → ∃ f, SZc h n ow kd Fv P f _ (wgt cc (prt t) (c - s0))) ∧ (_ → wgt cc (prt t) (c - s0) = 0)
        unfold wgt
        by_cases ep : c - s0 < prt t
        · rw [if_pos ep]
          exact ⟨fun y => absurd y (head_nh bk hx hF.1 ep), fun _ => rfl⟩
        · rw [if_neg ep]
          have zc := zp (c - s0) (by omega) (by omega)
          exact ⟨fun _ => ⟨f2, zc⟩, fun y => SZ_nhc zc y⟩
      · have gen : ∀ m, smm (fun c => wgt cc (prt t) (c - s0)) s0 m = smm (wgt cc (prt t)) 0 m := by
          intro m
          induction m with
          | zero => rfl
          | succ m ihm =>
            show smm _ s0 m + wgt cc (prt t) (s0 + m - s0) = smm _ 0 m + wgt cc (prt t) (0 + m)
            rw [ihm, show s0 + m - s0 = 0 + m by omega]
        have e4 := wgt_sum (d := cc) hp
        rw [show s0 + blk h t - s0 = blk h t by omega, gen]
        omega
      · rw [rr, cpy_out (by omega)]
      · obtain ⟨U, ⟨U2, src, bs, z, f, hU, hC, hz, hsum, hd, h1, h2, h3, h4, h5, h6, h7⟩, hUe⟩ := hw
        have : U2 = s0 + s := by omega
        subst this
        subst hUe
        obtain ⟨a1, a2⟩ := CPc_hp (owd := owd) (kdd := kdd) g hF hC gd hd
        obtain ⟨b1, b2, b3⟩ := CPc_sz (owd := owd) (kdd := kdd) g hF hC f0 s0 r s (Nat.le_refl _) h1 h2 (by rw [h3]; exact h4) h5 (by rw [h3]; assumption)
        refine ⟨f, hU, hd, _, _, a1, fun k hk => ⟨if_pos hk, if_pos hk⟩, a2, SZ_gtc b3, ⟨f0, b3⟩, h4, fun _ => ⟨h5, fun j hj => ?_⟩⟩
        obtain ⟨c1, c2, c3⟩ := hC
        have c4 := (c2 s0 (Nat.le_refl _) h1).2.2.2.2.2.2.2 j (by rw [h2, h3]; omega)
        rw [h2] at c4
        have c5 := (c2 s0 (Nat.le_refl _) h1).2.2.2.2.2.2.1
        rw [h2, h3] at c5
        have ex : xcO h src bs (s0 + j) = h (vn t + j) := by unfold xcO; rw [c4, h3, show s0 + j - s0 = j by omega]
        have c6 := (c3 (s0 + j) (by omega) (by omega)).1 (by rw [ex]; exact head_nh bk hx hF.1 hj)
        rw [c6, ex]
    · have es := SZ_nhc z hx
      subst es
      rw [cellsAt_n hx, bnd_so]
      refine ok_br.mpr ⟨fun _ => ?_, fun y => absurd y (by decide)⟩
      rw [nextI]
      cases M with
      | zero => omega
      | succ M =>
        show OK _ (hb_Pr_copyIn_15 (M + 1 + 1) (hg_Pr_copyIn (M + 1 + 1) M) u q b t t (I s0) (I s0))
        unfold hb_Pr_copyIn_15
        rw [I_F (k := pq q 4), hu]
        refine k_le ⟨by omega, by omega⟩ ⟨by omega, by omega⟩ (fun _ => ?_) (fun e => by omega)
        refine ok_some.mpr ⟨FR.rf, hu, fun _ _ => rfl, owd, kdd, gd, fun _ _ => ⟨rfl, rfl⟩, fun t q => q, ?_, ?_, rfl, fun y => absurd y hx⟩
        · rcases gt with y | y
          · exact Or.inl y
          · exact absurd y.1 hx
        · cases f0 with
          | zero => exact z.elim
          | succ f0 =>
            rcases z with y | y
            · exact ⟨1, Or.inl y⟩
            · exact absurd y.1 hx
theorem copyIn_ok {f0 : Nat} (g : HPc h n ow kd Fv P) (hF : FVc Fv) (hn : n ≤ 512) (hs : s0 + s ≤ 512) (hb : ∀ c, c < n → u.2.2.2 b c = h c) (hbq : b = pq q 2 → n ≤ s0) (z : SZc h n ow kd Fv P f0 t s) (hu : F u (pq q 4) = ((s0 : Nat) : Int)) (gd : HPc (u.2.2.2 (pq q 2)) s0 owd kdd Fv P) (hN : 600 ≤ N) :
    OK (fun w r => FR [pq q 4] [] [] [pq q 2] u w ∧ F w (pq q 4) = ((s0 + s : Nat) : Int) ∧ (∀ k, k < s0 → w.2.2.2 (pq q 2) k = u.2.2.2 (pq q 2) k) ∧ ∃ ow2 kd2, HPc (w.2.2.2 (pq q 2)) (s0 + s) ow2 kd2 Fv P ∧ (∀ k, k < s0 → ow2 k = owd k ∧ kd2 k = kdd k) ∧ (∀ t, GT s0 owd kdd P t → GT (s0 + s) ow2 kd2 P t) ∧ GT (s0 + s) ow2 kd2 P r ∧ ∃ f2, SZc (w.2.2.2 (pq q 2)) (s0 + s) ow2 kd2 Fv P f2 r s) (hm_Pr_copyIn N u q b t) :=
  ok_mono (copyIn_hd g hF hn hs hb hbq z hu gd hN) (fun w r hw => by
    obtain ⟨a1, a2, a3, ow2, kd2, a4, a5, a6, a7, a8, -⟩ := hw
    exact ⟨a1, a2, a3, ow2, kd2, a4, a5, a6, a7, a8⟩)
end
end
section
set_option maxRecDepth 100000
theorem t_bits (t : Int64) : t.toBitVec = ((t.toBitVec.sshiftRight 32).setWidth 32 : BitVec 32) ++ (t.toBitVec.setWidth 32 : BitVec 32) := by
  ext i hi
  rw [BitVec.getElem_append]
  by_cases e : i < 32
  · rw [dif_pos e, BitVec.getElem_setWidth]
    exact (BitVec.getLsbD_eq_getElem hi).symm
  · rw [dif_neg e, BitVec.getElem_setWidth, BitVec.getLsbD_sshiftRight]
    have hi2 : i < 64 := hi
    have a1 : decide (64 ≤ i - 32) = false := decide_eq_false (by omega)
    rw [a1, if_pos (show 32 + (i - 32) < 64 by omega), show 32 + (i - 32) = i by omega]
    simp
    exact (BitVec.getLsbD_eq_getElem hi).symm
theorem t_ext {x y : Int64} (h1 : so x = so y) (h2 : va x = va y) : x = y := by
  have e1 := Int32.toInt_inj.mp h1
  have e2 := Int32.toInt_inj.mp h2
  have f1 : (x.toBitVec.sshiftRight 32).setWidth 32 = (y.toBitVec.sshiftRight 32).setWidth 32 := by rw [← so_bv, ← so_bv, e1]
  have f2 : x.toBitVec.setWidth 32 = y.toBitVec.setWidth 32 := by
    have e3 : x.toInt32.toBitVec = y.toInt32.toBitVec := by rw [e2]
    have g1 : ∀ z : Int64, z.toInt32.toBitVec = z.toBitVec.setWidth 32 := fun z => by
      show z.toBitVec.signExtend 32 = _
      rw [BitVec.signExtend_eq_setWidth_of_le _ (by decide)]
    rw [← g1, ← g1, e3]
  apply Int64.toBitVec_inj.mp
  rw [t_bits x, t_bits y, f1, f2]
section
variable {h d e : Nat → Int64} {n N b s0 U i : Nat} {ow kd bs : Nat → Nat} {Fv : Int64 → Int64 → Prop} {P : Int64 → Prop} {u v w : MS} {t x y : Int64} {src : Nat → Int64}
theorem CPc_grow {d2 : Nat → Int64} (c : CPc h n ow kd P d s0 U i src bs) (hi : i ≤ U) (hx : isH x) (gx : GT n ow kd P x) (e1 : ∀ j, j < blk h x → d2 (U + j) = h (vn x + j)) (e3 : ∀ k, s0 ≤ k → k < U → d2 k = d k) :
    CPc h n ow kd P d2 s0 (U + blk h x) i (fun k => if k = U then x else src k) (fun k => if U ≤ k then U else bs k) := by
  have hb := blk_pos (h := h) hx
  obtain ⟨c1, c2, c3⟩ := c
  have hxo : ∀ k, s0 ≤ k → k < U → xcO h (fun k => if k = U then x else src k) (fun k => if U ≤ k then U else bs k) k = xcO h src bs k := by
    intro k k1 k2
    unfold xcO
    have := (c2 k k1 k2).2.1
    simp only [if_neg (show ¬ U ≤ k by omega), if_neg (show ¬ bs k = U by omega)]
  have hxn : ∀ k, U ≤ k → xcO h (fun k => if k = U then x else src k) (fun k => if U ≤ k then U else bs k) k = h (vn x + (k - U)) := by
    intro k k1
    unfold xcO
    simp only [if_pos k1, if_true]
  refine ⟨by omega, fun k k1 k2 => ?_, fun k k1 k2 => ?_⟩
  · by_cases e : k < U
    · obtain ⟨a1, a2, a3, a4, a5, a6, a7, a8⟩ := c2 k k1 e
      simp only [if_neg (show ¬ U ≤ k by omega), if_neg (show ¬ U ≤ bs k by omega), if_neg (show ¬ bs k = U by omega)]
      refine ⟨a1, a2, a3, a4, a5, a6, by omega, fun j hj => ?_⟩
      rw [if_neg (by omega)]; exact a8 j hj
    · simp only [if_pos (show U ≤ k by omega), if_pos (Nat.le_refl U), if_true]
      exact ⟨c1, by omega, trivial, hx, gx, by omega, Nat.le_refl _, fun j hj => if_pos (by omega)⟩
  · by_cases e : k < U
    · rw [hxo k k1 e, e3 k k1 e]
      obtain ⟨q1, q2⟩ := c3 k k1 e
      refine ⟨q1, fun z => ⟨(q2 z).1, fun z2 => ?_⟩⟩
      obtain ⟨r1, b, r2, r3, r4, r5, r6⟩ := (q2 z).2 z2
      exact ⟨r1, b, r2, r3, by omega, by simp only [if_neg (show ¬ U ≤ b by omega)]; exact r5, by simp only [if_neg (show ¬ b = U by omega)]; exact r6⟩
    · rw [hxn k (by omega)]
      have := e1 (k - U) (by omega)
      rw [show U + (k - U) = k by omega] at this
      exact ⟨fun _ => this, fun _ => ⟨fun _ => this, fun z => by omega⟩⟩
theorem CPc_ptr {d2 : Nat → Int64} (c : CPc h n ow kd P d s0 U i src bs) (h1 : s0 ≤ i) (h2 : i < U) (hx : isH (d i)) {b : Nat} (hb1 : s0 ≤ b) (hb2 : b < U) (hb3 : bs b = b) (hb4 : src b = d i) (e2 : so (d2 i) = so (d i) ∧ va (d2 i) = ((b : Nat) : Int)) (e3 : ∀ k, s0 ≤ k → k < U → k ≠ i → d2 k = d k) : CPc h n ow kd P d2 s0 U (i + 1) src bs := by
  have hxe := CPc_at c h1 h2 hx
  obtain ⟨c1, c2, c3⟩ := c
  refine ⟨c1, c2, fun k k1 k2 => ?_⟩
  by_cases ei : k = i
  · subst ei
    rw [← hxe]
    exact ⟨fun z => absurd hx z, fun _ => ⟨fun z => by omega, fun _ => ⟨e2.1, b, e2.2, hb1, hb2, hb3, hb4⟩⟩⟩
  · rw [e3 k k1 k2 ei]
    exact ⟨(c3 k k1 k2).1, fun z => ⟨fun z2 => ((c3 k k1 k2).2 z).1 (by omega), fun z2 => ((c3 k k1 k2).2 z).2 (by omega)⟩⟩
def FWD (h : Nat → Int64) (n : Nat) (e : Nat → Int64) (U : Nat) (src : Nat → Int64) (bs : Nat → Nat) : Prop := (∀ b, b < U → bs b = b → so (e (vn (src b))) = 9 ∧ va (e (vn (src b))) = ((b : Nat) : Int)) ∧ ∀ c, c < n → (∀ b, b < U → bs b = b → vn (src b) ≠ c) → e c = h c
def MVD_c (U : Nat) (src : Nat → Int64) (bs : Nat → Nat) (k : Nat) : Prop := ∃ b, b < U ∧ bs b = b ∧ vn (src b) = k
def CNT (ow : Nat → Nat) (n U : Nat) (src : Nat → Int64) (bs : Nat → Nat) : Prop := ∃ S : Nat → Prop, ∃ _ : DecidablePred S, (∀ k, S k ↔ MVD_c U src bs k) ∧ U ≤ cnt S ow n
theorem no_mark (g : HPc h n ow kd Fv P) (hF : FVc Fv) (hP : ∀ t, P t → PT u t) (hx : isH x) (gx : GT n ow kd P x) : so (h (vn x)) ≠ 9 := by
  obtain ⟨b1, b2⟩ := HP_bkc g hx gx
  rcases hx with z | z | z
  · have := hF.1 _ _ (b1.2.2.1 z).2; omega
  · have := (b1.2.1 z).2; omega
  · have hb : blk h x = 2 := by unfold blk; rw [if_pos z]
    have hp : prt x = 0 := by unfold prt; rw [if_pos z]
    have := GT_so hP (b2 0 (by omega) (by omega))
    rw [Nat.add_zero] at this
    omega
theorem fwd_yes (g : HPc h n ow kd Fv P) (hF : FVc Fv) (hP : ∀ t, P t → PT u t) (f : FWD h n e U src bs) (c : CPc h n ow kd P d 0 U i src bs) (hx : isH x) (gx : GT n ow kd P x) (hm : so (e (vn x)) = 9) : ∃ b, b < U ∧ bs b = b ∧ src b = x ∧ va (e (vn x)) = ((b : Nat) : Int) := by
  have hn : vn x < n := by
    rcases gx with z | z
    · exact absurd hx z.1
    · exact z.2.2.1
  have : ¬ ∀ b, b < U → bs b = b → vn (src b) ≠ vn x := by
    intro z
    have := f.2 (vn x) hn z
    rw [this] at hm
    exact no_mark g hF hP hx gx hm
  have ⟨b, hb⟩ : ∃ b, b < U ∧ bs b = b ∧ vn (src b) = vn x := by
    by_cases e : ∃ b, b < U ∧ bs b = b ∧ vn (src b) = vn x
    · exact e
    · exact absurd (fun b b1 b2 b3 => e ⟨b, b1, b2, b3⟩) this
  obtain ⟨b1, b2, b3⟩ := hb
  refine ⟨b, b1, b2, ?_, ?_⟩
  · obtain ⟨a1, a2, a3, a4, a5, -⟩ := c.2.1 b (Nat.zero_le _) b1
    rw [b2] at a4 a5
    have kk : so (src b) = so x := by
      rcases gx with z | z
      · exact absurd hx z.1
      · rcases a5 with y | y
        · exact absurd a4 y.1
        · rw [← y.2.2.2.2, ← z.2.2.2.2, b3]
    have v1 : 0 ≤ va (src b) := by
      rcases a5 with y | y
      · exact absurd a4 y.1
      · exact y.2.1
    have v2 : 0 ≤ va x := by
      rcases gx with y | y
      · exact absurd hx y.1
      · exact y.2.1
    refine t_ext kk ?_
    rw [vn_e v1, vn_e v2, b3]
  · rw [← b3]; exact (f.1 b b1 b2).2
theorem fwd_no (g : HPc h n ow kd Fv P) (f : FWD h n e U src bs) (c : CPc h n ow kd P d 0 U i src bs) (hx : isH x) (gx : GT n ow kd P x) (hm : so (e (vn x)) ≠ 9) : (∀ j, j < blk h x → e (vn x + j) = h (vn x + j)) ∧ ¬ MVD_c U src bs (vn x) := by
  have hno : ¬ MVD_c U src bs (vn x) := by
    rintro ⟨b, b1, b2, b3⟩
    have := (f.1 b b1 b2).1
    rw [b3] at this
    exact hm this
  refine ⟨fun j hj => ?_, hno⟩
  obtain ⟨k1, -⟩ := HP_bkc g hx gx
  have hbl := k1.2.2.2.1
  refine f.2 _ (by omega) (fun b b1 b2 b3 => ?_)
  obtain ⟨a1, a2, a3, a4, a5, -⟩ := c.2.1 b (Nat.zero_le _) b1
  rw [b2] at a4 a5
  have o1 := k1.2.2.2.2.2 j hj
  have o2 : ow (vn (src b)) = vn (src b) := by
    rcases a5 with y | y
    · exact absurd a4 y.1
    · exact y.2.2.2.1
  rw [b3, o1] at o2
  exact hno ⟨b, b1, b2, by omega⟩
theorem CNT_add (g : HPc h n ow kd Fv P) (k : CNT ow n U src bs) (hx : isH x) (gx : GT n ow kd P x) (hno : ¬ MVD_c U src bs (vn x)) (hbs : ∀ b, b < U → bs b ≤ b) : CNT ow n (U + blk h x) (fun k => if k = U then x else src k) (fun k => if U ≤ k then U else bs k) ∧ U + blk h x ≤ n := by
  obtain ⟨S, dS, s1, s2⟩ := k
  obtain ⟨k1, -⟩ := HP_bkc g hx gx
  have hbl := k1.2.2.2.1
  have hb := blk_pos (h := h) hx
  have dS2 : DecidablePred (fun k => S k ∨ k = vn x) := fun k => by
    have := dS k
    exact inferInstanceAs (Decidable (S k ∨ k = vn x))
  have ca := @cnt_add S (fun k => S k ∨ k = vn x) dS dS2 ow (vn x) (blk h x) k1.2.2.2.2.2 (fun z => hno ((s1 _).mp z)) (fun i => Iff.rfl) n (by omega)
  have cl := @cnt_le (fun k => S k ∨ k = vn x) dS2 ow n
  refine ⟨⟨fun k => S k ∨ k = vn x, dS2, fun k => ⟨fun z => ?_, fun z => ?_⟩, by omega⟩, by omega⟩
  · rcases z with z | z
    · obtain ⟨b, b1, b2, b3⟩ := (s1 k).mp z
      exact ⟨b, by omega, by simp only [if_neg (show ¬ U ≤ b by omega)]; exact b2, by simp only [if_neg (show ¬ b = U by omega)]; exact b3⟩
    · exact ⟨U, by omega, by simp, by simp [z]⟩
  · obtain ⟨b, b1, b2, b3⟩ := z
    by_cases e : U ≤ b
    · simp only [if_pos e] at b2
      subst b2
      simp only [if_true] at b3
      exact Or.inr b3.symm
    · simp only [if_neg e] at b2
      simp only [if_neg (show ¬ b = U by omega)] at b3
      exact Or.inl ((s1 k).mpr ⟨b, by omega, b2, b3⟩)
theorem FWD_add {e2 : Nat → Int64} (f : FWD h n e U src bs) (hno : ¬ MVD_c U src bs (vn x)) (h1 : so (e2 (vn x)) = 9 ∧ va (e2 (vn x)) = ((U : Nat) : Int)) (h2 : ∀ k, k ≠ vn x → e2 k = e k) {m : Nat} (hm : 0 < m) (hU : ∀ b, b < U + m → (if U ≤ b then U else bs b) = b → b ≤ U) : FWD h n e2 (U + m) (fun k => if k = U then x else src k) (fun k => if U ≤ k then U else bs k) := by
  refine ⟨fun b b1 b2 => ?_, fun c c1 c2 => ?_⟩
  · by_cases e3 : U ≤ b
    · simp only [if_pos e3] at b2
      subst b2
      simp only [if_true]
      exact h1
    · simp only [if_neg e3] at b2
      simp only [if_neg (show ¬ b = U by omega)]
      rw [h2 _ (fun z => hno ⟨b, by omega, b2, z⟩)]
      exact f.1 b (by omega) b2
  · have hcx : c ≠ vn x := by
      have := c2 U (by omega) (by simp)
      simp only [if_true] at this
      exact fun z => this z.symm
    rw [h2 c hcx]
    refine f.2 c c1 (fun b b1 b2 b3 => ?_)
    have := c2 b (by omega) (by simp only [if_neg (show ¬ U ≤ b by omega)]; exact b2)
    simp only [if_neg (show ¬ b = U by omega)] at this
    exact this b3
def RTO (U : Nat) (src : Nat → Int64) (bs : Nat → Nat) (o r : Int64) : Prop := (¬ isH o ∧ r = o) ∨ (isH o ∧ so r = so o ∧ ∃ b, va r = ((b : Nat) : Int) ∧ b < U ∧ bs b = b ∧ src b = o)
theorem RTO_add {o r : Int64} {m : Nat} (hr : RTO U src bs o r) : RTO (U + m) (fun k => if k = U then x else src k) (fun k => if U ≤ k then U else bs k) o r := by
  rcases hr with z | ⟨z1, z5, b, z2, z3, z4, z6⟩
  · exact Or.inl z
  · exact Or.inr ⟨z1, z5, b, z2, by omega, by simp only [if_neg (show ¬ U ≤ b by omega)]; exact z4, by simp only [if_neg (show ¬ b = U by omega)]; exact z6⟩
theorem RTO_sz {o r : Int64} {owd kdd : Nat → Nat} (g : HPc h n ow kd Fv P) (hF : FVc Fv) (c : CPc h n ow kd P d 0 U U src bs) (hr : RTO U src bs o r) {f s : Nat} (z : SZc h n ow kd Fv P f o s) : SZc d U (owN 0 owd bs) (kdN 0 kdd src) Fv P f r s := by
  rcases hr with ⟨z1, rfl⟩ | ⟨z1, z5, b, z2, z3, z4, z6⟩
  · cases f with
    | zero => exact z.elim
    | succ f =>
      rcases z with y | y
      · exact Or.inl y
      · exact absurd y.1 z1
  · exact (CPc_sz (owd := owd) (kdd := kdd) g hF c f b r s (Nat.zero_le _) z3 z4 (by rw [z6]; exact z5) z2 (by rw [z6]; exact z)).2.2
theorem RTO_tl {o r : Int64} (c : CPc h n ow kd P d 0 U U src bs) (hr : RTO U src bs o r) : ∀ k, (∀ j, j < k → so (tlc h o j) = 7) → RTO U src bs (tlc h o k) (tlc d r k)
  | 0, _ => hr
  | k + 1, hk => by
    have e7 := hk k (by omega)
    rcases RTO_tl c hr k (fun j hj => hk j (by omega)) with ⟨z, -⟩ | ⟨z1, z5, b, z2, z3, z4, z6⟩
    · exact absurd (Or.inr (Or.inr e7)) z
    · show RTO U src bs (h (vn (tlc h o k) + 1)) (d (vn (tlc d r k) + 1))
      have hv : vn (tlc d r k) = b := by unfold vn; rw [z2]; exact Int.toNat_natCast b
      obtain ⟨c1, c2, c3⟩ := c
      obtain ⟨a1, a2, a3, a4, a5, a6, a7, a8⟩ := c2 b (by omega) z3
      rw [z4, z6] at a4 a5 a6 a7 a8
      have bk : blk h (tlc h o k) = 2 := by unfold blk; rw [if_pos e7]
      rw [bk] at a6 a7 a8
      have hbs := a8 1 (by omega)
      have hxe : xcO h src bs (b + 1) = h (vn (tlc h o k) + 1) := by unfold xcO; rw [hbs, z6, show b + 1 - b = 1 by omega]
      obtain ⟨q1, q2⟩ := c3 (b + 1) (by omega) (by omega)
      rw [hxe] at q1 q2
      rw [hv]
      by_cases hx : isH (h (vn (tlc h o k) + 1))
      · obtain ⟨r1, b2, r2, r3, r4, r5, r6⟩ := (q2 hx).2 (by omega)
        exact Or.inr ⟨hx, r1, b2, r2, r4, r5, r6⟩
      · exact Or.inl ⟨hx, q1 hx⟩
theorem RTO_so {o r : Int64} (hr : RTO U src bs o r) : so r = so o := by
  rcases hr with ⟨-, rfl⟩ | ⟨-, z, -⟩
  · rfl
  · exact z
theorem HP_0 {owd kdd : Nat → Nat} : HPc d 0 owd kdd Fv P := by
  intro t ht gt
  rcases gt with z | z
  · exact absurd ht z.1
  · have := z.2.2.1; omega
end
end
section
set_option maxRecDepth 100000
def pn (k i j c : Nat) : Nat := if k < j then 0 else if k = j then i else c
def rkc (k : Nat) : Nat := if k = 0 then 33 else if k = 1 then 35 else if k = 2 then 6 else 3
def ROWc (n : Nat) (ow kd : Nat → Nat) (P : Int64 → Prop) (U : Nat) (src : Nat → Int64) (bs : Nat → Nat) (r0 row : Nat → Int64) (c k : Nat) : Prop := ∀ j, j < c → GT n ow kd P (r0 j) ∧ (j < k → RTO U src bs (r0 j) (row j)) ∧ (k ≤ j → row j = r0 j)
def CLc (u0 : MS) (q : Nat) (h : Nat → Int64) (n : Nat) (ow kd : Nat → Nat) (P : Int64 → Prop) (B W Y : Nat) (w : MS) (k i U : Nat) : Prop :=
  ∃ (src : Nat → Int64) (bs : Nat → Nat), FR [] [] [] [pq q 2, pq q 3, pq q 33, pq q 35, pq q 6] u0 w ∧ CPc h n ow kd P (w.2.2.2 (pq q 3)) 0 U (if k = 3 then i else 0) src bs ∧ FWD h n (w.2.2.2 (pq q 2)) U src bs ∧ CNT ow n U src bs ∧ ROWc n ow kd P U src bs (u0.2.2.2 (pq q 33)) (w.2.2.2 (pq q 33)) B (pn k i 0 B) ∧ ROWc n ow kd P U src bs (u0.2.2.2 (pq q 35)) (w.2.2.2 (pq q 35)) W (pn k i 1 W) ∧ ROWc n ow kd P U src bs (u0.2.2.2 (pq q 6)) (w.2.2.2 (pq q 6)) Y (pn k i 2 Y) ∧ (k = 3 → i ≤ U)
section
variable {h : Nat → Int64} {n N q B W Y k : Nat} {ow kd : Nat → Nat} {Fv : Int64 → Int64 → Prop} {P : Int64 → Prop} {u v w u0 : MS} {t x y : Int64}
theorem ROW_add {U m c k : Nat} {src : Nat → Int64} {bs : Nat → Nat} {r0 row : Nat → Int64} (r : ROWc n ow kd P U src bs r0 row c k) : ROWc n ow kd P (U + m) (fun k => if k = U then x else src k) (fun k => if U ≤ k then U else bs k) r0 row c k := fun j hj => ⟨(r j hj).1, fun z => RTO_add ((r j hj).2.1 z), (r j hj).2.2⟩
theorem ROW_set {U c k : Nat} {src : Nat → Int64} {bs : Nat → Nat} {r0 row row2 : Nat → Int64} (r : ROWc n ow kd P U src bs r0 row c k) (h1 : ∀ j, j ≠ k → row2 j = row j) (h2 : k < c → RTO U src bs (r0 k) (row2 k)) : ROWc n ow kd P U src bs r0 row2 c (k + 1) := by
  intro j hj
  by_cases e : j = k
  · subst e; exact ⟨(r j hj).1, fun _ => h2 hj, fun z => by omega⟩
  · rw [h1 j e]; exact ⟨(r j hj).1, fun z => (r j hj).2.1 (by omega), fun z => (r j hj).2.2 (by omega)⟩
theorem CNT_le {U : Nat} {src : Nat → Int64} {bs : Nat → Nat} (c : CNT ow n U src bs) : U ≤ n := by
  obtain ⟨S, dS, -, s2⟩ := c
  have := @cnt_le S dS ow n
  omega
def CLB (u0 : MS) (q B W Y : Nat) : Prop := (∃ l, F u0 (pq q 43) = ((l : Nat) : Int) ∧ B ≤ l ∧ l ≤ 1000000) ∧ (∃ l, F u0 (pq q 45) = ((l : Nat) : Int) ∧ W ≤ l ∧ l ≤ 1000000) ∧ Y ≤ 30
def cbd (B W Y k : Nat) : Nat := if k = 0 then B else if k = 1 then W else if k = 2 then Y else 512
theorem lnQ_e {m : MS} {k l : Nat} (h : F m (pq q k) = ((l : Nat) : Int)) : lnQ m q k = l := by
  unfold lnQ
  rw [I_F, h]
  exact tnI rfl (by have := F_r m (pq q k); omega)
theorem lnX_k (hB : CLB u0 q B W Y) (f : FR [] [] [] [pq q 2, pq q 3, pq q 33, pq q 35, pq q 6] u0 w) (hk : k ≤ 3) : cbd B W Y k ≤ lnX w (pq q (rkc k)) ∧ lnX w (pq q (rkc k)) ≤ 1000000 := by
  obtain ⟨⟨l1, a1, a2, a3⟩, ⟨l2, b1, b2, b3⟩, c1⟩ := hB
  have e43 : lnQ w q 43 = l1 := lnQ_e (by rw [FR.F f (by simp)]; exact a1)
  have e45 : lnQ w q 45 = l2 := lnQ_e (by rw [FR.F f (by simp)]; exact b1)
  rcases (show k = 0 ∨ k = 1 ∨ k = 2 ∨ k = 3 by omega) with rfl | rfl | rfl | rfl
  · rw [lnX_e (by decide)]; show B ≤ lnQ w q 43 ∧ lnQ w q 43 ≤ _; omega
  · rw [lnX_e (by decide)]; show W ≤ lnQ w q 45 ∧ lnQ w q 45 ≤ _; omega
  · rw [lnX_e (by decide)]; show Y ≤ 30 ∧ 30 ≤ _; omega
  · rw [lnX_e (by decide)]; show 512 ≤ 512 ∧ 512 ≤ _; omega
theorem pq_inj {a b : Nat} (h : a ≠ b) : pq q a ≠ pq q b := by unfold pq; omega
theorem CLc_at {i U : Nat} (c : CLc u0 q h n ow kd P B W Y w k i U) (hk : k ≤ 3) (g : HPc h n ow kd Fv P) (hF : FVc Fv) (hi : i < (if k = 3 then U else cbd B W Y k)) (hx : isH (w.2.2.2 (pq q (rkc k)) i)) : GT n ow kd P (w.2.2.2 (pq q (rkc k)) i) := by
  obtain ⟨src, bs, f, c1, c2, c3, r0, r1, r2, r3⟩ := c
  rcases (show k = 0 ∨ k = 1 ∨ k = 2 ∨ k = 3 by omega) with rfl | rfl | rfl | rfl
  · show GT n ow kd P (w.2.2.2 (pq q 33) i); rw [(r0 i hi).2.2 (Nat.le_refl _)]; exact (r0 i hi).1
  · show GT n ow kd P (w.2.2.2 (pq q 35) i); rw [(r1 i hi).2.2 (Nat.le_refl _)]; exact (r1 i hi).1
  · show GT n ow kd P (w.2.2.2 (pq q 6) i); rw [(r2 i hi).2.2 (Nat.le_refl _)]; exact (r2 i hi).1
  · have hi : i < U := hi
    have hx : isH (w.2.2.2 (pq q 3) i) := hx
    rw [if_pos rfl] at c1
    show GT n ow kd P (w.2.2.2 (pq q 3) i)
    rw [CPc_at c1 (Nat.zero_le _) hi hx]
    exact xcO_gt g hF c1 (Nat.zero_le _) hi (by rw [← CPc_at c1 (Nat.zero_le _) hi hx]; exact hx)
theorem CLc_skip {i U : Nat} (c : CLc u0 q h n ow kd P B W Y w k i U) (hk : k ≤ 3) (hi : i < (if k = 3 then U else cbd B W Y k)) (hx : ¬ isH (w.2.2.2 (pq q (rkc k)) i)) : CLc u0 q h n ow kd P B W Y w k (i + 1) U := by
  obtain ⟨src, bs, f, c1, c2, c3, r0, r1, r2, r3⟩ := c
  have same : ∀ {r0 row : Nat → Int64} {c : Nat}, ¬ isH (row i) → ROWc n ow kd P U src bs r0 row c i → i < c → ROWc n ow kd P U src bs r0 row c (i + 1) := fun {r0 row c} hn r hic => ROW_set r (fun _ _ => rfl) (fun _ => by
    have e := (r i hic).2.2 (Nat.le_refl _)
    rw [e] at hn ⊢
    exact Or.inl ⟨hn, rfl⟩)
  rcases (show k = 0 ∨ k = 1 ∨ k = 2 ∨ k = 3 by omega) with rfl | rfl | rfl | rfl
  · exact ⟨src, bs, f, c1, c2, c3, same hx r0 hi, r1, r2, fun z => (by cases z)⟩
  · exact ⟨src, bs, f, c1, c2, c3, r0, same hx r1 hi, r2, fun z => (by cases z)⟩
  · exact ⟨src, bs, f, c1, c2, c3, r0, r1, same hx r2 hi, fun z => (by cases z)⟩
  · rw [if_pos rfl] at c1
    exact ⟨src, bs, f, by rw [if_pos rfl]; exact CPc_next c1 (Nat.zero_le _) hi hx, c2, c3, r0, r1, r2, fun _ => hi⟩
theorem rk_ne2 (hk : k ≤ 3) : pq q (rkc k) ≠ pq q 2 := by
  rcases (show k = 0 ∨ k = 1 ∨ k = 2 ∨ k = 3 by omega) with rfl | rfl | rfl | rfl <;> exact pq_inj (by decide)
theorem rk_in (hk : k ≤ 3) : pq q (rkc k) ∈ [pq q 2, pq q 3, pq q 33, pq q 35, pq q 6] := by
  rcases (show k = 0 ∨ k = 1 ∨ k = 2 ∨ k = 3 by omega) with rfl | rfl | rfl | rfl <;> simp [rkc]
theorem CLc_put {i U b : Nat} {src : Nat → Int64} {bs : Nat → Nat} {p : Int64} (hk : k ≤ 3) (hi : i < (if k = 3 then U else cbd B W Y k)) (hx : isH (w.2.2.2 (pq q (rkc k)) i)) (f : FR [] [] [] [pq q 2, pq q 3, pq q 33, pq q 35, pq q 6] u0 w) (c1 : CPc h n ow kd P (w.2.2.2 (pq q 3)) 0 U (if k = 3 then i else 0) src bs) (c2 : FWD h n (w.2.2.2 (pq q 2)) U src bs) (c3 : CNT ow n U src bs) (r0 : ROWc n ow kd P U src bs (u0.2.2.2 (pq q 33)) (w.2.2.2 (pq q 33)) B (pn k i 0 B)) (r1 : ROWc n ow kd P U src bs (u0.2.2.2 (pq q 35)) (w.2.2.2 (pq q 35)) W (pn k i 1 W)) (r2 : ROWc n ow kd P U src bs (u0.2.2.2 (pq q 6)) (w.2.2.2 (pq q 6)) Y (pn k i 2 Y))
    (hb2 : b < U) (hb3 : bs b = b) (hb4 : src b = w.2.2.2 (pq q (rkc k)) i) (e1 : so p = so (w.2.2.2 (pq q (rkc k)) i)) (e2 : va p = ((b : Nat) : Int)) : CLc u0 q h n ow kd P B W Y (wj w (pq q (rkc k)) i p) k (i + 1) U := by
  have hp : isH p := by unfold isH; rw [e1]; exact hx
  have hr : RTO U src bs (w.2.2.2 (pq q (rkc k)) i) p := Or.inr ⟨hx, e1, b, e2, hb2, hb3, hb4⟩
  have row : ∀ j, (wj w (pq q (rkc k)) i p).2.2.2 (pq q (rkc k)) j = if j = i then p else w.2.2.2 (pq q (rkc k)) j := fun j => wj_row
  have oth : ∀ a, a ≠ rkc k → (wj w (pq q (rkc k)) i p).2.2.2 (pq q a) = w.2.2.2 (pq q a) := fun a ha => if_neg (pq_inj ha)
  have set1 : ∀ {r0 : Nat → Int64} {c : Nat}, ROWc n ow kd P U src bs r0 (w.2.2.2 (pq q (rkc k))) c i → ROWc n ow kd P U src bs r0 ((wj w (pq q (rkc k)) i p).2.2.2 (pq q (rkc k))) c (i + 1) := fun {r0 c} r => ROW_set r (fun j hj => by rw [row, if_neg hj]) (fun hic => by
    rw [row, if_pos rfl, ← (r i hic).2.2 (Nat.le_refl _)]; exact hr)
  refine ⟨src, bs, FR.wj f (rk_in hk), ?_⟩
  rcases (show k = 0 ∨ k = 1 ∨ k = 2 ∨ k = 3 by omega) with rfl | rfl | rfl | rfl
  · refine ⟨by rw [oth 3 (by decide)]; exact c1, by rw [oth 2 (by decide)]; exact c2, c3, set1 r0, by rw [oth 35 (by decide)]; exact r1, by rw [oth 6 (by decide)]; exact r2, fun z => (by cases z)⟩
  · refine ⟨by rw [oth 3 (by decide)]; exact c1, by rw [oth 2 (by decide)]; exact c2, c3, by rw [oth 33 (by decide)]; exact r0, set1 r1, by rw [oth 6 (by decide)]; exact r2, fun z => (by cases z)⟩
  · refine ⟨by rw [oth 3 (by decide)]; exact c1, by rw [oth 2 (by decide)]; exact c2, c3, by rw [oth 33 (by decide)]; exact r0, by rw [oth 35 (by decide)]; exact r1, set1 r2, fun z => (by cases z)⟩
  · rw [if_pos rfl] at c1 hi
    refine ⟨?_, by rw [oth 2 (by decide)]; exact c2, c3, by rw [oth 33 (by decide)]; exact r0, by rw [oth 35 (by decide)]; exact r1, by rw [oth 6 (by decide)]; exact r2, fun _ => hi⟩
    rw [if_pos rfl]
    refine CPc_ptr c1 (Nat.zero_le _) hi hx (Nat.zero_le _) hb2 hb3 hb4 ?_ (fun j _ _ hj => ?_)
    · rw [show (wj w (pq q (rkc 3)) i p).2.2.2 (pq q 3) i = p from by have := row i; rw [if_pos rfl] at this; exact this]
      exact ⟨e1, e2⟩
    · have := row j; rw [if_neg hj] at this; exact this
theorem va_9 {U : Nat} (hU : U ≤ 1000) : so ((38654705664 : Int64) ||| (I (U : Int)).toInt64) = 9 ∧ va ((38654705664 : Int64) ||| (I (U : Int)).toInt64) = ((U : Nat) : Int) := by
  rw [moved_e]
  exact ⟨so_tg (by omega) (by omega) ⟨by decide, by decide⟩, va_or (by omega) (by omega)⟩
theorem BK_agree2 {h2 : Nat → Int64} (e : ∀ j, j < blk h t → h2 (vn t + j) = h (vn t + j)) (z : isH t) (k : BKc h n ow kd Fv t) : BKc h2 n ow kd Fv t ∧ blk h2 t = blk h t := by
  have hb := blk_pos (h := h) z
  obtain ⟨k1, k2, k3, k4, k5, k6⟩ := k
  have e0 : h2 (vn t) = h (vn t) := e 0 hb
  have e1 : so t = 3 → h2 (vn t + 1) = h (vn t + 1) := fun z3 => e 1 (by
    have : blk h t = 2 + vn (h (vn t + 1)) := by unfold blk; rw [if_neg (by omega), if_neg (by omega), if_pos z3]
    omega)
  have eb : blk h2 t = blk h t := by
    unfold blk
    rw [e0]
    by_cases z3 : so t = 3
    · rw [e1 z3]
    · rw [if_neg z3, if_neg z3]
  refine ⟨⟨k1, fun y => by rw [e0]; exact k2 y, fun y => by rw [e0, e1 y]; exact k3 y, by rw [eb]; exact k4, k5, by rw [eb]; exact k6⟩, eb⟩
theorem clear_160 {G : (MS → Nat → Int32 → Int32 → Option (MS × Unit)) × (MS → Nat → Int32 → Int32 → Nat → Int32 → Int32 → Option (MS × Unit))} {Q : MS → Unit → Prop} {i U : Nat} {fx : Int32} (hk : k ≤ 3) (g : HPc h n ow kd Fv P) (hn : n ≤ 500) (hF : FVc Fv) (hP : ∀ t, P t → PT u t) (hB : CLB u0 q B W Y) (hi : i < (if k = 3 then U else cbd B W Y k)) (c : CLc u0 q h n ow kd P B W Y w k i U) (hx : isH (w.2.2.2 (pq q (rkc k)) i))
    (nxt : ∀ w2 U2, CLc u0 q h n ow kd P B W Y w2 k (i + 1) U2 → OK Q (hb_Pr_clearHeap_250 N G w2 q (I (U2 : Int)) (I (k : Int)) (pq q (rkc k)) fx (I (i : Int)))) : OK Q (hb_Pr_clearHeap_160 N G w q (I (U : Int)) (I (k : Int)) (pq q (rkc k)) fx (I (i : Int)) (I (so (w.2.2.2 (pq q (rkc k)) i)))) := by
  have gx := CLc_at c hk g hF hi hx
  obtain ⟨src, bs, f, c1, c2, c3, r0, r1, r2, r3⟩ := c
  have hUn := CNT_le c3
  have hlx := lnX_k hB f hk
  have hil : i < lnX w (pq q (rkc k)) ∧ i ≤ 1000000 := by
    by_cases e : k = 3
    · subst e
      rw [if_pos rfl] at hi
      have : cbd B W Y 3 = 512 := rfl
      omega
    · rw [if_neg e] at hi
      omega
  obtain ⟨bk, bp⟩ := HP_bkc g hx gx
  have hbp := blk_pos (h := h) hx
  have hbl := bk.2.2.2.1
  have hv := vn_e bk.1
  unfold hb_Pr_clearHeap_160
  refine e_in ⟨by omega, by omega⟩ (by omega) ?_
  rw [tnI (n := i) rfl (by omega)]
  generalize hX : w.2.2.2 (pq q (rkc k)) i = X at *
  rw [valI, hv]
  refine e_in ⟨by omega, by omega⟩ (by decide) ?_
  rw [tnI (n := vn X) rfl (by omega), tagI, I_lit (n := 9)]
  have hr9 := so_r (w.2.2.2 (pq q 2) (vn X))
  have h230 : ∀ (w2 : MS) (U2 b : Nat) (src2 : Nat → Int64) (bs2 : Nat → Nat), FR [] [] [] [pq q 2, pq q 3, pq q 33, pq q 35, pq q 6] u0 w2 → CPc h n ow kd P (w2.2.2.2 (pq q 3)) 0 U2 (if k = 3 then i else 0) src2 bs2 → FWD h n (w2.2.2.2 (pq q 2)) U2 src2 bs2 → CNT ow n U2 src2 bs2 → ROWc n ow kd P U2 src2 bs2 (u0.2.2.2 (pq q 33)) (w2.2.2.2 (pq q 33)) B (pn k i 0 B) → ROWc n ow kd P U2 src2 bs2 (u0.2.2.2 (pq q 35)) (w2.2.2.2 (pq q 35)) W (pn k i 1 W) → ROWc n ow kd P U2 src2 bs2 (u0.2.2.2 (pq q 6)) (w2.2.2.2 (pq q 6)) Y (pn k i 2 Y) → w2.2.2.2 (pq q (rkc k)) i = X → i < (if k = 3 then U2 else cbd B W Y k) → b < U2 → bs2 b = b → src2 b = X → va (w2.2.2.2 (pq q 2) (vn X)) = ((b : Nat) : Int) → OK Q (hb_Pr_clearHeap_230 N G w2 q (I (U2 : Int)) (I (k : Int)) (pq q (rkc k)) fx (I (i : Int)) (I (so X)) (I (vn X : Int))) := by
    intro w2 U2 b src2 bs2 f' d1 d2 d3 q0 q1 q2 e0 hi' b1 b2 b3 b4
    unfold hb_Pr_clearHeap_230
    have hlx2 := lnX_k hB f' hk
    have hU2 := CNT_le d3
    have hil2 : i < lnX w2 (pq q (rkc k)) := by
      by_cases e : k = 3
      · subst e
        have : cbd B W Y 3 = 512 := rfl
        rw [if_pos rfl] at hi'
        omega
      · rw [if_neg e] at hi'
        omega
    refine e_in ⟨by omega, by omega⟩ (by decide) (e_in ⟨by omega, by omega⟩ (by omega) (ok_lt.mpr ?_))
    rw [tnI (n := i) rfl (by omega), tnI (n := vn X) rfl (by omega), valI, b4, wj_e]
    have hso := so_r X
    refine nxt _ U2 (CLc_put (b := b) (src := src2) (bs := bs2) hk hi' (by rw [e0]; exact hx) f' d1 d2 d3 q0 q1 q2 b1 b2 (by rw [e0]; exact b3) ?_ (va_or (by omega) (by omega)))
    rw [e0]
    exact so_tg (by omega) (by omega) hso
  refine k_eq hr9 ⟨by decide, by decide⟩ (fun y => ?_) (fun y => ?_)
  · obtain ⟨b, b1, b2, b3, b4⟩ := fwd_yes g hF hP c2 c1 hx gx y
    exact h230 w U b src bs f c1 c2 c3 r0 r1 r2 hX hi b1 b2 b3 b4
  · obtain ⟨n1, n2⟩ := fwd_no g c2 c1 hx gx y
    obtain ⟨bk2, eb⟩ := BK_agree2 (h2 := w.2.2.2 (pq q 2)) n1 hx bk
    have hbs : ∀ b, b < U → bs b ≤ b := fun b hb => (c1.2.1 b (Nat.zero_le _) hb).2.1
    obtain ⟨m1, m2⟩ := CNT_add g c3 hx gx n2 hbs
    refine e_in ⟨by omega, by omega⟩ (by omega) ?_
    rw [cellsAt_h rfl (by omega) hx bk2, bnd_so, eb]
    refine e_cp ⟨by omega, by omega, by omega, by omega, by omega⟩ (by decide) (by decide) (ok_lt.mpr ?_)
    rw [tnI (n := U) rfl (by omega), tnI (n := blk h X) rfl (by omega)]
    refine e_in ⟨by omega, by omega⟩ (by decide) (ok_lt.mpr ?_)
    rw [wj_e, I_add, show ((U : Nat) : Int) + ((blk h X : Nat) : Int) = ((U + blk h X : Nat) : Int) by omega]
    generalize hw : upJ w (pq q 3) (va_cpy (w.2.2.2 (pq q 2)) (w.2.2.2 (pq q 3)) (vn X) U (blk h X)) = w1
    have f1 : FR [] [] [] [pq q 2, pq q 3, pq q 33, pq q 35, pq q 6] u0 w1 := by rw [← hw]; exact FR_upJ f (by simp)
    have e3 : w1.2.2.2 (pq q 3) = va_cpy (w.2.2.2 (pq q 2)) (w.2.2.2 (pq q 3)) (vn X) U (blk h X) := by rw [← hw]; exact upJ_row
    have eo : ∀ a, a ≠ 3 → w1.2.2.2 (pq q a) = w.2.2.2 (pq q a) := fun a ha => by rw [← hw]; exact if_neg (pq_inj ha)
    have v9 := va_9 (U := U) (by omega)
    generalize (38654705664 : Int64) ||| (I (U : Int)).toInt64 = mv at *
    have r2e : ∀ j, (wj w1 (pq q 2) (vn X) mv).2.2.2 (pq q 2) j = if j = vn X then mv else w.2.2.2 (pq q 2) j := fun j => by rw [wj_row, eo 2 (by decide)]
    have ro : ∀ a, a ≠ 2 → (wj w1 (pq q 2) (vn X) mv).2.2.2 (pq q a) = w1.2.2.2 (pq q a) := fun a ha => if_neg (pq_inj ha)
    have hrk3 : rkc k = 3 ↔ k = 3 := by
      rcases (show k = 0 ∨ k = 1 ∨ k = 2 ∨ k = 3 by omega) with rfl | rfl | rfl | rfl <;> decide
    have hrk2 : rkc k ≠ 2 := by
      rcases (show k = 0 ∨ k = 1 ∨ k = 2 ∨ k = 3 by omega) with rfl | rfl | rfl | rfl <;> decide
    refine h230 (wj w1 (pq q 2) (vn X) mv) (U + blk h X) U (fun k => if k = U then X else src k) (fun k => if U ≤ k then U else bs k) (FR.wj f1 (by simp)) ?_ ?_ m1 ?_ ?_ ?_ ?_ ?_ (by omega) (by simp) (by simp) ?_
    · rw [ro 3 (by decide), e3]
      refine CPc_grow c1 ?_ hx gx (fun j hj => ?_) (fun j _ hj => ?_)
      · by_cases e : k = 3
        · rw [if_pos e] at hi ⊢; omega
        · rw [if_neg e]; omega
      · rw [cpy_in hj]; exact n1 j hj
      · rw [cpy_out (by omega)]
    · refine FWD_add c2 n2 (by rw [r2e, if_pos rfl]; exact v9) (fun j hj => by rw [r2e, if_neg hj]) hbp (fun b b1 b2 => ?_)
      by_cases e : U ≤ b
      · rw [if_pos e] at b2; omega
      · omega
    · rw [ro 33 (by decide), eo 33 (by decide)]; exact ROW_add r0
    · rw [ro 35 (by decide), eo 35 (by decide)]; exact ROW_add r1
    · rw [ro 6 (by decide), eo 6 (by decide)]; exact ROW_add r2
    · rw [ro _ hrk2]
      by_cases e : k = 3
      · subst e
        rw [if_pos rfl] at hi
        show w1.2.2.2 (pq q 3) i = X
        rw [e3, cpy_out (by omega)]
        exact hX
      · rw [eo _ (fun z => e (hrk3.mp z))]; exact hX
    · by_cases e : k = 3
      · rw [if_pos e] at hi ⊢; omega
      · rw [if_neg e] at hi ⊢; exact hi
    · rw [r2e, if_pos rfl]; exact v9.2
theorem clear_in {Q : MS → Unit → Prop} {L : Nat} (hk : k ≤ 3) (g : HPc h n ow kd Fv P) (hn : n ≤ 500) (hF : FVc Fv) (hP : ∀ t, P t → PT u t) (hB : CLB u0 q B W Y) {fx : Int} (hfx : k ≠ 3 → fx = ((cbd B W Y k : Nat) : Int)) (hfr : RG fx)
    (q2 : ∀ (L2 : Nat) (w : MS) (U : Nat), L ≤ L2 → CLc u0 q h n ow kd P B W Y w k (if k = 3 then U else cbd B W Y k) U → OK Q ((hg_Pr_clearHeap N L2).1 w q (I (U : Int)) (I ((k + 1 : Nat) : Int)))) : ∀ (M i : Nat) (w : MS) (U : Nat), L + (cbd B W Y k - i) + 1 ≤ M → i ≤ (if k = 3 then U else cbd B W Y k) → CLc u0 q h n ow kd P B W Y w k i U → OK Q ((hg_Pr_clearHeap N M).2 w q (I (U : Int)) (I (k : Int)) (pq q (rkc k)) (I fx) (I (i : Int))) := by
  intro M
  induction M with
  | zero => intro i w U z; omega
  | succ M ih =>
    intro i w U hM hi c
    have c' := c
    obtain ⟨src, bs, f, c1, c2, c3, r0, r1, r2, r3⟩ := c
    have hUn := CNT_le c3
    have hlx := lnX_k hB f hk
    have hcb : cbd B W Y 3 = 512 := rfl
    have hib : i ≤ cbd B W Y k := by
      by_cases e : k = 3
      · subst e; rw [if_pos rfl] at hi; omega
      · rw [if_neg e] at hi; exact hi
    show OK Q (hb_Pr_clearHeap_112 N (hg_Pr_clearHeap N M) w q (I (U : Int)) (I (k : Int)) (pq q (rkc k)) (I fx) (I (i : Int)))
    have main : ∀ t1 : Int, t1 = (if k = 3 then ((U : Nat) : Int) else ((cbd B W Y k : Nat) : Int)) → OK Q (hb_Pr_clearHeap_125 N (hg_Pr_clearHeap N M) w q (I (U : Int)) (I (k : Int)) (pq q (rkc k)) (I fx) (I (i : Int)) (I (i : Int)) (I t1)) := by
      intro t1 ht1
      have ht2 : t1 = (((if k = 3 then U else cbd B W Y k) : Nat) : Int) := by rw [ht1]; split <;> rfl
      generalize hE : (if k = 3 then U else cbd B W Y k) = E at *
      have hEb : E ≤ cbd B W Y k := by
        by_cases e : k = 3
        · subst e; rw [if_pos rfl] at hE; omega
        · rw [if_neg e] at hE; omega
      unfold hb_Pr_clearHeap_125
      rw [ht2]
      refine k_le ⟨by omega, by omega⟩ ⟨by omega, by omega⟩ (fun y => ?_) (fun y => ?_)
      · have ei : i = E := by omega
        rw [lit1q, I_add, show ((k : Nat) : Int) + 1 = ((k + 1 : Nat) : Int) by omega]
        subst ei
        refine q2 M w U (by omega) ?_
        rw [hE]
        exact c'
      · have hiE : i < E := by omega
        have hi3 : i < (if k = 3 then U else cbd B W Y k) := by rw [hE]; exact hiE
        refine e_in ⟨by omega, by omega⟩ (by omega) (ok_lt.mpr ?_)
        rw [tnI (n := i) rfl (by omega), tagI]
        have hr := so_r (w.2.2.2 (pq q (rkc k)) i)
        have nxt : ∀ w2 U2, CLc u0 q h n ow kd P B W Y w2 k (i + 1) U2 → OK Q (hb_Pr_clearHeap_250 N (hg_Pr_clearHeap N M) w2 q (I (U2 : Int)) (I (k : Int)) (pq q (rkc k)) (I fx) (I (i : Int))) := by
          intro w2 U2 c4
          unfold hb_Pr_clearHeap_250
          rw [lit1q, I_add, show ((i : Nat) : Int) + 1 = ((i + 1 : Nat) : Int) by omega]
          refine ih (i + 1) w2 U2 (by omega) ?_ c4
          by_cases e : k = 3
          · subst e
            rw [if_pos rfl]
            obtain ⟨src4, bs4, -, -, -, -, -, -, -, d9⟩ := c4
            exact d9 rfl
          · rw [if_neg e] at hi3 ⊢; omega
        have hH : isH (w.2.2.2 (pq q (rkc k)) i) → OK Q (hb_Pr_clearHeap_160 N (hg_Pr_clearHeap N M) w q (I (U : Int)) (I (k : Int)) (pq q (rkc k)) (I fx) (I (i : Int)) (I (so (w.2.2.2 (pq q (rkc k)) i)))) := fun hx => clear_160 hk g hn hF hP hB hi3 c' hx nxt
        rw [I_lit (n := 7), I_lit (n := 5), I_lit (n := 3)]
        refine k_eq hr ⟨by decide, by decide⟩ (fun y7 => hH (Or.inr (Or.inr y7))) (fun n7 => k_eq hr ⟨by decide, by decide⟩ (fun y5 => hH (Or.inr (Or.inl y5))) (fun n5 => k_eq hr ⟨by decide, by decide⟩ (fun y3 => hH (Or.inl y3)) (fun n3 => ?_)))
        refine nxt w U (CLc_skip c' hk hi3 (fun z => ?_))
        rcases z with z | z | z
        · exact n3 z
        · exact n5 z
        · exact n7 z
    unfold hb_Pr_clearHeap_112
    rw [I_lit (n := 3)]
    refine k_eq ⟨by omega, by omega⟩ ⟨by decide, by decide⟩ (fun y => ?_) (fun y => ?_)
    · have e : k = 3 := by have : ((k : Nat) : Int) = 3 := y; omega
      exact main _ (by rw [if_pos e])
    · have e : k ≠ 3 := fun z => y (by rw [z]; rfl)
      exact main _ (by rw [if_neg e]; exact hfx e)
def PTQ (m : MS) (q n : Nat) (ow kd : Nat → Nat) (Fv : Int64 → Int64 → Prop) (P : Int64 → Prop) (B W Y : Nat) : Prop :=
  (F m (pq q 4) = ((n : Nat) : Int) ∧ n ≤ 500 ∧ HPc (m.2.2.2 (pq q 2)) n ow kd Fv P) ∧ (F m (pq q 24) = ((B : Nat) : Int) ∧ ∀ i, i < B → GT n ow kd P (m.2.2.2 (pq q 33) i)) ∧ (F m (pq q 26) = ((W : Nat) : Int) ∧ ∀ i, i < W → GT n ow kd P (m.2.2.2 (pq q 35) i)) ∧ (F m (pq q 7) = ((Y : Nat) : Int) ∧ ∀ i, i < Y → GT n ow kd P (m.2.2.2 (pq q 6) i)) ∧ CLB m q B W Y
def SML (h : Nat → Int64) (n : Nat) (ow kd : Nat → Nat) (h2 : Nat → Int64) (n2 : Nat) (ow2 kd2 : Nat → Nat) (Fv : Int64 → Int64 → Prop) (P : Int64 → Prop) (o r : Int64) : Prop := so r = so o ∧ ((¬ isH o → r = o) ∧ ∀ k, (∀ j, j < k → so (tlc h o j) = 7) → so (tlc h2 r k) = so (tlc h o k)) ∧ ∀ f s, SZc h n ow kd Fv P f o s → SZc h2 n2 ow2 kd2 Fv P f r s
def CLQc (u : MS) (q : Nat) (h : Nat → Int64) (n : Nat) (ow kd : Nat → Nat) (Fv : Int64 → Int64 → Prop) (P : Int64 → Prop) (B W Y : Nat) (w : MS) : Prop := ∃ U ow2 kd2, PTQ w q U ow2 kd2 Fv P B W Y ∧ U ≤ n ∧ FR [pq q 4, pq q 5] [] [] [pq q 2, pq q 3, pq q 33, pq q 35, pq q 6] u w ∧ (∀ i, i < B → SML h n ow kd (w.2.2.2 (pq q 2)) U ow2 kd2 Fv P (u.2.2.2 (pq q 33) i) (w.2.2.2 (pq q 33) i)) ∧ (∀ i, i < W → SML h n ow kd (w.2.2.2 (pq q 2)) U ow2 kd2 Fv P (u.2.2.2 (pq q 35) i) (w.2.2.2 (pq q 35) i))
theorem clearHeap_ok (p : PTQ u q n ow kd Fv P B W Y) (hF : FVc Fv) (hP : ∀ t, P t → PT u t) (hN : 10 + B + W + Y + 600 ≤ N) : OK (fun w _ => CLQc u q (u.2.2.2 (pq q 2)) n ow kd Fv P B W Y w) (hm_Pr_clearHeap N u q) := by
  obtain ⟨⟨p1, p2, p3⟩, ⟨p4, p5⟩, ⟨p6, p7⟩, ⟨p8, p9⟩, p10⟩ := p
  unfold hm_Pr_clearHeap hb_Pr_clearHeap_0
  refine ok_lt.mpr ?_
  generalize hu0 : upI u (pq q 5) (u.1 (pq q 5) + 1) = u0
  have f0 : FR [pq q 5] [] [] [] u u0 := by rw [← hu0, I_of (u.1 (pq q 5) + 1), wi_e]; exact FR.wi FR.rf (by simp)
  have pn5 : ∀ a, a ≠ 5 → pq q a ∉ [pq q 5] := fun a ha => by simp; exact pq_inj ha
  have B0 : CLB u0 q B W Y := by
    obtain ⟨⟨l, a1, a2⟩, ⟨l2, b1, b2⟩, c⟩ := p10
    exact ⟨⟨l, by rw [FR.F f0 (pn5 43 (by decide))]; exact a1, a2⟩, ⟨l2, by rw [FR.F f0 (pn5 45 (by decide))]; exact b1, b2⟩, c⟩
  have row : ∀ a, u0.2.2.2 (pq q a) = u.2.2.2 (pq q a) := fun a => FRj f0 (by simp)
  have hBb : B ≤ 1000000 ∧ W ≤ 1000000 ∧ Y ≤ 30 := by
    obtain ⟨⟨l, a1, a2, a3⟩, ⟨l2, b1, b2, b3⟩, c⟩ := p10
    omega
  have g : HPc (u.2.2.2 (pq q 2)) n ow kd Fv P := p3
  generalize hh : u.2.2.2 (pq q 2) = h at *
  have st : CLc u0 q h n ow kd P B W Y u0 0 0 0 := by
    refine ⟨fun _ => 0, fun _ => 0, FR.rf, ?_, ?_, ?_, ?_, ?_, ?_, fun z => (by cases z)⟩
    · exact ⟨Nat.le_refl _, fun c _ z => by omega, fun c _ z => by omega⟩
    · exact ⟨fun b hb => by omega, fun c hc _ => by rw [row, hh]⟩
    · refine ⟨fun _ => False, fun _ => instDecidableFalse, fun k => ⟨fun z => z.elim, fun ⟨b, z, _⟩ => by omega⟩, Nat.zero_le _⟩
    · exact fun j hj => ⟨by rw [row]; exact p5 j hj, fun z => by unfold pn at z; simp at z, fun _ => rfl⟩
    · exact fun j hj => ⟨by rw [row]; exact p7 j hj, fun z => by unfold pn at z; simp at z, fun _ => rfl⟩
    · exact fun j hj => ⟨by rw [row]; exact p9 j hj, fun z => by unfold pn at z; simp at z, fun _ => rfl⟩
  rw [lit0q, show (0 : Int) = ((0 : Nat) : Int) from rfl]
  have fin : ∀ (L : Nat) (w : MS) (U : Nat), 1 ≤ L → CLc u0 q h n ow kd P B W Y w 3 U U → OK (fun w _ => CLQc u q h n ow kd Fv P B W Y w) ((hg_Pr_clearHeap N L).1 w q (I (U : Int)) (I ((3 + 1 : Nat) : Int))) := by
    intro L w U hL c
    cases L with
    | zero => omega
    | succ L =>
      show OK _ (hb_Pr_clearHeap_14 N (hg_Pr_clearHeap N L) w q (I (U : Int)) (I ((3 + 1 : Nat) : Int)))
      unfold hb_Pr_clearHeap_14
      rw [I_lit (n := 4)]
      refine k_le ⟨by decide, by decide⟩ ⟨by decide, by decide⟩ (fun _ => ?_) (fun y => absurd y (by decide))
      refine ok_lt.mpr (ok_lt.mpr (ok_some.mpr ?_))
      rw [wi_e]
      obtain ⟨src, bs, f, c1, c2, c3, r0, r1, r2, r3⟩ := c
      have hUn := CNT_le c3
      rw [if_pos rfl] at c1
      obtain ⟨G1, -⟩ := CPc_hp (owd := fun _ => 0) (kdd := fun _ => 0) (d0 := w.2.2.2 (pq q 3)) g hF c1 HP_0 (fun _ _ => rfl)
      have f1 : FR [pq q 4] [] [] [pq q 2, pq q 3, pq q 33, pq q 35, pq q 6] u0 (wi (swp w q) (pq q 4) (U : Int)) := FR.wi (FR_upJ (FR_upJ (FR.mo f (by simp) (by simp) (by simp) (by simp)) (by simp)) (by simp)) (by simp)
      have fu : FR [pq q 4, pq q 5] [] [] [pq q 2, pq q 3, pq q 33, pq q 35, pq q 6] u (wi (swp w q) (pq q 4) (U : Int)) := FR.tr (FR.mo f0 (by simp) (by simp) (by simp) (by simp)) (FR.mo f1 (by simp) (by simp) (by simp) (by simp))
      have e2 : (wi (swp w q) (pq q 4) (U : Int)).2.2.2 (pq q 2) = w.2.2.2 (pq q 3) := swp_2
      have eo : ∀ a, a ≠ 2 → a ≠ 3 → (wi (swp w q) (pq q 4) (U : Int)).2.2.2 (pq q a) = w.2.2.2 (pq q a) := fun a h2 h3 => swp_ne ⟨pq_inj h2, pq_inj h3⟩
      have nI : ∀ a, a ≠ 4 → a ≠ 5 → F (wi (swp w q) (pq q 4) (U : Int)) (pq q a) = F u (pq q a) := fun a h1 h2 => FR.F fu (by simp; exact ⟨pq_inj h1, pq_inj h2⟩)
      have sm : ∀ {r0 row : Nat → Int64} {c : Nat}, ROWc n ow kd P U src bs r0 row c c → ∀ i, i < c → SML h n ow kd (w.2.2.2 (pq q 3)) U (owN 0 (fun _ => 0) bs) (kdN 0 (fun _ => 0) src) Fv P (r0 i) (row i) := fun {r0 row c} r i hi => by
        have hr := (r i hi).2.1 hi
        refine ⟨?_, ⟨fun z => ?_, fun k hk => RTO_so (RTO_tl c1 hr k hk)⟩, fun f s z => RTO_sz g hF c1 hr z⟩
        · rcases hr with y | y
          · rw [y.2]
          · exact y.2.1
        · rcases hr with y | y
          · exact y.2
          · exact absurd y.1 z
      have gtr : ∀ {r0 row : Nat → Int64} {c : Nat}, ROWc n ow kd P U src bs r0 row c c → ∀ i, i < c → GT U (owN 0 (fun _ => 0) bs) (kdN 0 (fun _ => 0) src) P (row i) := fun {r0 row c} r i hi => by
        obtain ⟨f, s, z⟩ := HP_szc g (r i hi).1
        exact SZ_gtc ((sm r i hi).2.2 f s z)
      have B1 : CLB (wi (swp w q) (pq q 4) (U : Int)) q B W Y := by
        obtain ⟨⟨l, a1, a2⟩, ⟨l2, b1, b2⟩, c⟩ := p10
        exact ⟨⟨l, by rw [nI 43 (by decide) (by decide)]; exact a1, a2⟩, ⟨l2, by rw [nI 45 (by decide) (by decide)]; exact b1, b2⟩, c⟩
      refine ⟨U, _, _, ⟨⟨by rw [F_wi (by omega) (by omega), if_pos rfl], by omega, by rw [e2]; exact G1⟩, ⟨by rw [nI 24 (by decide) (by decide)]; exact p4, ?_⟩, ⟨by rw [nI 26 (by decide) (by decide)]; exact p6, ?_⟩, ⟨by rw [nI 7 (by decide) (by decide)]; exact p8, ?_⟩, B1⟩, hUn, fu, ?_, ?_⟩
      · rw [eo 33 (by decide) (by decide)]; exact gtr r0
      · rw [eo 35 (by decide) (by decide)]; exact gtr r1
      · rw [eo 6 (by decide) (by decide)]; exact gtr r2
      · intro i hi
        rw [e2, eo 33 (by decide) (by decide), ← row 33]
        exact sm r0 i hi
      · intro i hi
        rw [e2, eo 35 (by decide) (by decide), ← row 35]
        exact sm r1 i hi
  have hP0 : ∀ t, P t → PT u t := hP
  have fI : ∀ (w : MS), FR [] [] [] [pq q 2, pq q 3, pq q 33, pq q 35, pq q 6] u0 w → w.1 (pq q 24) = I (B : Int) ∧ w.1 (pq q 26) = I (W : Int) ∧ w.1 (pq q 7) = I (Y : Int) := fun w f => by
    have h5 : ∀ a, a ≠ 5 → F w (pq q a) = F u (pq q a) := fun a ha => by rw [FR.F f (by simp), FR.F f0 (pn5 a ha)]
    exact ⟨by rw [I_F, h5 24 (by decide), p4], by rw [I_F, h5 26 (by decide), p6], by rw [I_F, h5 7 (by decide), p8]⟩
  have go3 : ∀ (L : Nat) (w : MS) (U : Nat), 520 ≤ L → CLc u0 q h n ow kd P B W Y w 2 Y U → OK (fun w _ => CLQc u q h n ow kd Fv P B W Y w) ((hg_Pr_clearHeap N L).1 w q (I (U : Int)) (I ((2 + 1 : Nat) : Int))) := by
    intro L w U hL c
    cases L with
    | zero => omega
    | succ L =>
      show OK _ (hb_Pr_clearHeap_14 N (hg_Pr_clearHeap N L) w q (I (U : Int)) (I ((2 + 1 : Nat) : Int)))
      unfold hb_Pr_clearHeap_14 hb_Pr_clearHeap_64 hb_Pr_clearHeap_107
      refine ok_br.mpr ⟨fun y => absurd y (by decide), fun _ => ok_br.mpr ⟨fun y => absurd y (by decide), fun _ => ok_br.mpr ⟨fun y => absurd y (by decide), fun _ => ok_br.mpr ⟨fun y => absurd y (by decide), fun _ => ok_br.mpr ⟨fun y => absurd y (by decide), fun _ => ok_br.mpr ⟨fun y => absurd y (by decide), fun _ => ok_br.mpr ⟨fun y => absurd y (by decide), fun _ => ?_⟩⟩⟩⟩⟩⟩⟩
      rw [lit0q]
      obtain ⟨src, bs, f, c1, c2, c3, r0, r1, r2, r3⟩ := c
      exact clear_in (k := 3) (L := 1) (fx := 0) (by decide) g p2 hF hP0 B0 (fun z => absurd rfl z) ⟨by decide, by decide⟩ (fun L2 w2 U2 hL2 c4 => fin L2 w2 U2 hL2 c4) L 0 w U (by show 1 + (512 - 0) + 1 ≤ L; omega) (Nat.zero_le _) ⟨src, bs, f, c1, c2, c3, r0, r1, r2, fun _ => Nat.zero_le _⟩
  have go2 : ∀ (L : Nat) (w : MS) (U : Nat), 522 + Y ≤ L → CLc u0 q h n ow kd P B W Y w 1 W U → OK (fun w _ => CLQc u q h n ow kd Fv P B W Y w) ((hg_Pr_clearHeap N L).1 w q (I (U : Int)) (I ((1 + 1 : Nat) : Int))) := by
    intro L w U hL c
    cases L with
    | zero => omega
    | succ L =>
      show OK _ (hb_Pr_clearHeap_14 N (hg_Pr_clearHeap N L) w q (I (U : Int)) (I ((1 + 1 : Nat) : Int)))
      unfold hb_Pr_clearHeap_14 hb_Pr_clearHeap_64 hb_Pr_clearHeap_107
      refine ok_br.mpr ⟨fun y => absurd y (by decide), fun _ => ok_br.mpr ⟨fun y => absurd y (by decide), fun _ => ok_br.mpr ⟨fun y => absurd y (by decide), fun _ => ok_br.mpr ⟨fun _ => ok_br.mpr ⟨fun y => absurd y (by decide), fun _ => ok_br.mpr ⟨fun y => absurd y (by decide), fun _ => ok_br.mpr ⟨fun _ => ?_, fun y => absurd y (by decide)⟩⟩⟩, fun y => absurd y (by decide)⟩⟩⟩⟩
      obtain ⟨src, bs, f, c1, c2, c3, r0, r1, r2, r3⟩ := c
      rw [lit0q, (fI w f).2.2]
      exact clear_in (k := 2) (L := 520) (fx := (Y : Int)) (by decide) g p2 hF hP0 B0 (fun _ => rfl) ⟨by omega, by omega⟩ (fun L2 w2 U2 hL2 c4 => go3 L2 w2 U2 hL2 c4) L 0 w U (by show 520 + (Y - 0) + 1 ≤ L; omega) (Nat.zero_le _) ⟨src, bs, f, c1, c2, c3, r0, r1, r2, fun z => (by cases z)⟩
  have go1 : ∀ (L : Nat) (w : MS) (U : Nat), 524 + Y + W ≤ L → CLc u0 q h n ow kd P B W Y w 0 B U → OK (fun w _ => CLQc u q h n ow kd Fv P B W Y w) ((hg_Pr_clearHeap N L).1 w q (I (U : Int)) (I ((0 + 1 : Nat) : Int))) := by
    intro L w U hL c
    cases L with
    | zero => omega
    | succ L =>
      show OK _ (hb_Pr_clearHeap_14 N (hg_Pr_clearHeap N L) w q (I (U : Int)) (I ((0 + 1 : Nat) : Int)))
      unfold hb_Pr_clearHeap_14 hb_Pr_clearHeap_64 hb_Pr_clearHeap_107
      refine ok_br.mpr ⟨fun y => absurd y (by decide), fun _ => ok_br.mpr ⟨fun y => absurd y (by decide), fun _ => ok_br.mpr ⟨fun _ => ok_br.mpr ⟨fun y => absurd y (by decide), fun _ => ok_br.mpr ⟨fun _ => ?_, fun y => absurd y (by decide)⟩⟩, fun y => absurd y (by decide)⟩⟩⟩
      obtain ⟨src, bs, f, c1, c2, c3, r0, r1, r2, r3⟩ := c
      rw [lit0q, (fI w f).2.1]
      exact clear_in (k := 1) (L := 522 + Y) (fx := (W : Int)) (by decide) g p2 hF hP0 B0 (fun _ => rfl) ⟨by omega, by omega⟩ (fun L2 w2 U2 hL2 c4 => go2 L2 w2 U2 hL2 c4) L 0 w U (by show 522 + Y + (W - 0) + 1 ≤ L; omega) (Nat.zero_le _) ⟨src, bs, f, c1, c2, c3, r0, r1, r2, fun z => (by cases z)⟩
  cases N with
  | zero => omega
  | succ M =>
    show OK _ (hb_Pr_clearHeap_14 (M + 1) (hg_Pr_clearHeap (M + 1) M) u0 q (I ((0 : Nat) : Int)) (I ((0 : Nat) : Int)))
    unfold hb_Pr_clearHeap_14 hb_Pr_clearHeap_64 hb_Pr_clearHeap_107
    refine ok_br.mpr ⟨fun y => absurd y (by decide), fun _ => ok_br.mpr ⟨fun _ => ok_br.mpr ⟨fun _ => ?_, fun y => absurd y (by decide)⟩, fun y => absurd y (by decide)⟩⟩
    rw [lit0q, (fI u0 FR.rf).1]
    exact clear_in (k := 0) (L := 524 + Y + W) (fx := (B : Int)) (by decide) g p2 hF hP0 B0 (fun _ => rfl) ⟨by omega, by omega⟩ (fun L2 w2 U2 hL2 c4 => go1 L2 w2 U2 hL2 c4) M 0 u0 0 (by show 524 + Y + W + (B - 0) + 1 ≤ M; omega) (Nat.zero_le _) st
end
end
section
set_option maxRecDepth 100000
def cEc (m : MS) : Nat → Nat
  | 0 => 0
  | k + 1 => cEc m k + (if F m (pq k 9) = 3 then 1 else 0)
def EPQ (Fv : Int64 → Int64 → Prop) (P : Int64 → Prop) (PR : Nat) (m : MS) (r : Nat) : Prop := ∃ hq n ow kd, rf (m.1 (pq r 17)) = some hq ∧ hq < PR ∧ F m (pq hq 9) = 3 ∧ n ≤ 512 ∧ HPc (m.2.2.2 (pq hq 2)) n ow kd Fv P ∧ GT n ow kd P (m.2.1 (pq r 16))
def LVQ (Fv : Int64 → Int64 → Prop) (P : Int64 → Prop) (m : MS) (r : Nat) : Prop := ∃ n ow kd B W Y, PTQ m r n ow kd Fv P B W Y
def SMQ (m : MS) (r : Nat) : Prop := (0 ≤ F m (pq r 15) ∧ F m (pq r 15) ≤ 24) ∧ (0 ≤ F m (pq r 8) ∧ (F m (pq r 9) ≠ 3 → F m (pq r 8) ≤ F m (pq r 7)))
def GLQ (PR : Nat) (m : MS) : Prop := (F m 942 = ((PR : Nat) : Int) ∧ PR ≤ 24) ∧ (∀ r, r < PR → rf (m.2.2.1 1948 r) = some r) ∧ (0 ≤ F m 950 ∧ F m 950 ≤ 200) ∧ (F m 955 = ((cEc m PR : Nat) : Int) ∧ 0 ≤ F m 956 ∧ F m 956 ≤ F m 955) ∧ (∀ i : Nat, (i : Int) < F m 955 → ∃ r, A m 54 i = ((r : Nat) : Int) ∧ r < PR ∧ F m (pq r 9) = 3) ∧ (0 ≤ F m 953 ∧ F m 953 ≤ 200) ∧ ∀ i : Nat, (i : Int) < F m 953 → 0 ≤ A m 53 i ∧ A m 53 i ≤ 100
def DWc (Fv : Int64 → Int64 → Prop) (P : Int64 → Prop) (PR : Nat) (m : MS) : Prop := GLQ PR m ∧ ∀ r, r < PR → SMQ m r ∧ (F m (pq r 9) = 3 → EPQ Fv P PR m r) ∧ (F m (pq r 9) ≠ 3 → LVQ Fv P m r)
def DWo (Fv : Int64 → Int64 → Prop) (P : Int64 → Prop) (PR q : Nat) (m : MS) : Prop := GLQ PR m ∧ ∀ r, r < PR → SMQ m r ∧ (F m (pq r 9) = 3 → EPQ Fv P PR m r) ∧ (F m (pq r 9) ≠ 3 → r ≠ q → LVQ Fv P m r)
def WFR (u w : MS) : Prop := (∀ r k, k < 100 → k ∉ [4, 5, 7, 9, 12, 15, 17] → w.1 (pq r k) = u.1 (pq r k)) ∧ (∀ k, k < 2000 → k ∉ [950, 955, 956] → w.1 k = u.1 k) ∧ (∀ r k, k < 100 → k ∉ [14] → w.2.2.1 (pq r k) = u.2.2.1 (pq r k)) ∧ (∀ k, k < 2000 → k ∉ [49, 50, 51, 54] → w.2.2.1 k = u.2.2.1 k) ∧ (∀ k, k < 2000 → k ∉ [45, 46] → w.2.2.2 k = u.2.2.2 k) ∧ (∀ r k, k < 100 → k ∉ [16] → w.2.1 (pq r k) = u.2.1 (pq r k)) ∧ (∀ k, k < 2000 → w.2.1 k = u.2.1 k)
section
variable {Fv : Int64 → Int64 → Prop} {P : Int64 → Prop} {u v w m m2 : MS} {PR N q r n B W Y : Nat} {ow kd : Nat → Nat} {t : Int64}
theorem WFR.rf : WFR u u := ⟨fun _ _ _ _ => rfl, fun _ _ _ => rfl, fun _ _ _ _ => rfl, fun _ _ _ => rfl, fun _ _ _ => rfl, fun _ _ _ _ => rfl, fun _ _ => rfl⟩
theorem WFR.tr (a : WFR u v) (b : WFR v w) : WFR u w := ⟨fun r k x y => (b.1 r k x y).trans (a.1 r k x y), fun k x y => (b.2.1 k x y).trans (a.2.1 k x y), fun r k x y => (b.2.2.1 r k x y).trans (a.2.2.1 r k x y), fun k x y => (b.2.2.2.1 k x y).trans (a.2.2.2.1 k x y), fun k x y => (b.2.2.2.2.1 k x y).trans (a.2.2.2.2.1 k x y), fun r k x y => (b.2.2.2.2.2.1 r k x y).trans (a.2.2.2.2.2.1 r k x y), fun k x => (b.2.2.2.2.2.2 k x).trans (a.2.2.2.2.2.2 k x)⟩
theorem WFR.F (a : WFR u w) {r k : Nat} (h1 : k < 100) (h2 : k ∉ [4, 5, 7, 9, 12, 15, 17]) : F w (pq r k) = F u (pq r k) := congrArg _ (a.1 r k h1 h2)
theorem WFR.G (a : WFR u w) {k : Nat} (h1 : k < 2000) (h2 : k ∉ [950, 955, 956]) : Jvm.Pilot.@@N@@.F w k = Jvm.Pilot.@@N@@.F u k := congrArg _ (a.2.1 k h1 h2)
theorem cEc_le (m : MS) : ∀ k, cEc m k ≤ k
  | 0 => Nat.le_refl _
  | k + 1 => by
    have := cEc_le m k
    show cEc m k + _ ≤ k + 1
    split <;> omega
theorem cEc_eq : ∀ k, (∀ r, r < k → F m2 (pq r 9) = F m (pq r 9)) → cEc m2 k = cEc m k
  | 0, _ => rfl
  | k + 1, h => by
    show cEc m2 k + _ = cEc m k + _
    rw [cEc_eq k (fun r hr => h r (by omega)), h k (by omega)]
theorem cEc_up (hq : F m (pq q 9) ≠ 3) (h1 : F m2 (pq q 9) = 3) (h2 : ∀ r, r ≠ q → F m2 (pq r 9) = F m (pq r 9)) : ∀ k, q < k → cEc m2 k = cEc m k + 1
  | 0, h => by omega
  | k + 1, h => by
    show cEc m2 k + _ = cEc m k + _ + 1
    by_cases e : q = k
    · subst e
      rw [cEc_eq (m := m) q (fun r hr => h2 r (by omega)), if_pos h1, if_neg hq]
    · rw [cEc_up hq h1 h2 k (by omega), h2 k (by omega)]
      omega
theorem cEc_lt : ∀ k, q < k → F m (pq q 9) ≠ 3 → cEc m k < k
  | 0, h, _ => by omega
  | k + 1, h, hq => by
    show cEc m k + _ < k + 1
    by_cases e : q = k
    · subst e
      have := cEc_le m q
      rw [if_neg hq]; omega
    · have := cEc_lt k (by omega) hq
      split <;> omega
theorem PTQ_same (p : PTQ m q n ow kd Fv P B W Y) (hI : ∀ k, k ∈ [4, 24, 26, 7, 43, 45] → m2.1 (pq q k) = m.1 (pq q k)) (hJ : ∀ k, k ∈ [2, 33, 35, 6] → m2.2.2.2 (pq q k) = m.2.2.2 (pq q k)) : PTQ m2 q n ow kd Fv P B W Y := by
  have hF : ∀ k, k ∈ [4, 24, 26, 7, 43, 45] → F m2 (pq q k) = F m (pq q k) := fun k hk => congrArg _ (hI k hk)
  obtain ⟨⟨p1, p2, p3⟩, ⟨p4, p5⟩, ⟨p6, p7⟩, ⟨p8, p9⟩, ⟨l, a1, a2⟩, ⟨l2, b1, b2⟩, c⟩ := p
  refine ⟨⟨by rw [hF 4 (by simp)]; exact p1, p2, by rw [hJ 2 (by simp)]; exact p3⟩, ⟨by rw [hF 24 (by simp)]; exact p4, by rw [hJ 33 (by simp)]; exact p5⟩, ⟨by rw [hF 26 (by simp)]; exact p6, by rw [hJ 35 (by simp)]; exact p7⟩, ⟨by rw [hF 7 (by simp)]; exact p8, by rw [hJ 6 (by simp)]; exact p9⟩, ⟨l, by rw [hF 43 (by simp)]; exact a1, a2⟩, ⟨l2, by rw [hF 45 (by simp)]; exact b1, b2⟩, c⟩
theorem DWo_of (d : DWc Fv P PR m) : DWo Fv P PR q m := ⟨d.1, fun r hr => ⟨(d.2 r hr).1, (d.2 r hr).2.1, fun z _ => (d.2 r hr).2.2 z⟩⟩
theorem DWc_of (d : DWo Fv P PR q m) (hl : F m (pq q 9) ≠ 3 → LVQ Fv P m q) : DWc Fv P PR m := ⟨d.1, fun r hr => ⟨(d.2 r hr).1, (d.2 r hr).2.1, fun z => by
  by_cases e : r = q
  · rw [e] at z ⊢; exact hl z
  · exact (d.2 r hr).2.2 z e⟩⟩
theorem DWo_q (d : DWo Fv P PR q m) (hq : q < PR) (hal : F m (pq q 9) ≠ 3) (hal2 : F m2 (pq q 9) ≠ 3) (hs : SMQ m2 q)
    (o1 : ∀ r k, r ≠ q → k < 100 → m2.1 (pq r k) = m.1 (pq r k)) (o2 : ∀ r, r ≠ q → m2.2.1 (pq r 16) = m.2.1 (pq r 16)) (o3 : ∀ r k, r ≠ q → k < 100 → m2.2.2.2 (pq r k) = m.2.2.2 (pq r k))
    (g1 : ∀ k, k ∈ [942, 950, 953, 955, 956] → m2.1 k = m.1 k) (g2 : ∀ k, k ∈ [1948, 53, 54] → m2.2.2.1 k = m.2.2.1 k) : DWo Fv P PR q m2 := by
  obtain ⟨⟨⟨g11, g12⟩, g13, g14, ⟨g15, g16⟩, g17, g18, g19⟩, d2⟩ := d
  have st : ∀ r, r ≠ q → F m2 (pq r 9) = F m (pq r 9) := fun r hr => congrArg _ (o1 r 9 hr (by omega))
  have gF : ∀ k, k ∈ [942, 950, 953, 955, 956] → F m2 k = F m k := fun k hk => congrArg _ (g1 k hk)
  have gA : ∀ k i, k ∈ [1948, 53, 54] → A m2 k i = A m k i := fun k i hk => by show (m2.2.2.1 k i).toInt = _; rw [g2 k hk]; rfl
  have hce : cEc m2 PR = cEc m PR := by
    have gen : ∀ k, cEc m2 k = cEc m k := by
      intro k
      induction k with
      | zero => rfl
      | succ k ih =>
        show cEc m2 k + _ = cEc m k + _
        rw [ih]
        by_cases e : k = q
        · subst e; rw [if_neg hal, if_neg hal2]
        · rw [st k e]
    exact gen PR
  refine ⟨⟨⟨by rw [gF 942 (by simp)]; exact g11, g12⟩, fun r hr => by rw [g2 1948 (by simp)]; exact g13 r hr, by rw [gF 950 (by simp)]; exact g14, ⟨by rw [gF 955 (by simp), hce]; exact g15, by rw [gF 955 (by simp), gF 956 (by simp)]; exact g16⟩, fun i hi => ?_, by rw [gF 953 (by simp)]; exact g18, fun i hi => ?_⟩, fun r hr => ?_⟩
  · rw [gF 955 (by simp)] at hi
    obtain ⟨r, r1, r2, r3⟩ := g17 i hi
    refine ⟨r, by rw [gA 54 i (by simp)]; exact r1, r2, ?_⟩
    by_cases e : r = q
    · subst e; exact absurd r3 hal
    · rw [st r e]; exact r3
  · rw [gF 953 (by simp)] at hi
    rw [gA 53 i (by simp)]; exact g19 i hi
  · by_cases e : r = q
    · subst e; exact ⟨hs, fun z => absurd z hal2, fun _ z => absurd rfl z⟩
    · obtain ⟨s1, s2, s3⟩ := d2 r hr
      have hI : ∀ k, k < 100 → F m2 (pq r k) = F m (pq r k) := fun k hk => congrArg _ (o1 r k e hk)
      refine ⟨?_, fun z => ?_, fun z _ => ?_⟩
      · unfold SMQ
        rw [hI 15 (by omega), hI 8 (by omega), hI 9 (by omega), hI 7 (by omega)]; exact s1
      · rw [hI 9 (by omega)] at z
        obtain ⟨hq2, n, ow, kd, e1, e2, e3, e4, e5, e6⟩ := s2 z
        have hne : hq2 ≠ q := fun y => hal (y ▸ e3)
        exact ⟨hq2, n, ow, kd, by rw [o1 r 17 e (by omega)]; exact e1, e2, by rw [st hq2 hne]; exact e3, e4, by rw [o3 hq2 2 hne (by omega)]; exact e5, by rw [o2 r e]; exact e6⟩
      · rw [hI 9 (by omega)] at z
        obtain ⟨n, ow, kd, B, W, Y, p⟩ := s3 z e
        exact ⟨n, ow, kd, B, W, Y, PTQ_same p (fun k hk => o1 r k e (by simp at hk; omega)) (fun k hk => o3 r k e (by simp at hk; omega))⟩
theorem DWc_q (d : DWc Fv P PR m) (hq : q < PR) (hal : F m (pq q 9) ≠ 3) (hal2 : F m2 (pq q 9) ≠ 3) (hs : SMQ m2 q) (hl : LVQ Fv P m2 q)
    (o1 : ∀ r k, r ≠ q → k < 100 → m2.1 (pq r k) = m.1 (pq r k)) (o2 : ∀ r, r ≠ q → m2.2.1 (pq r 16) = m.2.1 (pq r 16)) (o3 : ∀ r k, r ≠ q → k < 100 → m2.2.2.2 (pq r k) = m.2.2.2 (pq r k))
    (g1 : ∀ k, k ∈ [942, 950, 953, 955, 956] → m2.1 k = m.1 k) (g2 : ∀ k, k ∈ [1948, 53, 54] → m2.2.2.1 k = m.2.2.1 k) : DWc Fv P PR m2 := DWc_of (DWo_q (DWo_of d) hq hal hal2 hs o1 o2 o3 g1 g2) (fun _ => hl)
end
end
section
set_option maxRecDepth 100000
def CTX (Fv : Int64 → Int64 → Prop) (P : Int64 → Prop) (m : MS) : Prop := FVc Fv ∧ (∀ t, P t → PT m t) ∧ WDc m 1 ∧ 22 ≤ F m 22 ∧ (∀ x : Int, RG x → P (mk 0 x) ∧ P (mk 2 x) ∧ P (mk 4 x)) ∧ (∀ a : Int, 0 ≤ a → a < F m 22 → P (mk 1 a)) ∧ P (mk 6 0)
section
variable {Fv : Int64 → Int64 → Prop} {P : Int64 → Prop} {u v w m m2 : MS} {PR N q r n B W Y : Nat} {ow kd : Nat → Nat} {t : Int64} {h h2 : Nat → Int64}
theorem CTX_fr (c : CTX Fv P u) (h1 : w.1 22 = u.1 22) (h2 : w.2.2.1 3 = u.2.2.1 3) : CTX Fv P w := by
  obtain ⟨c1, c2, c3, c4, c5, c6, c7⟩ := c
  have e : F w 22 = F u 22 := congrArg _ h1
  refine ⟨c1, fun t ht => ?_, ?_, by rw [e]; exact c4, c5, by rw [e]; exact c6, c7⟩
  · have := c2 t ht; unfold PT at this ⊢; rw [e]; exact this
  · unfold WDc at c3 ⊢
    have e2 : ∀ i, A w (1 + 2) i = A u (1 + 2) i := fun i => by show (w.2.2.1 3 i).toInt = _; rw [h2]; rfl
    have e3 : F w (20 * 1 + 2) = F u (20 * 1 + 2) := e
    rw [e3]; simp only [e2]; exact c3
theorem CTX_w (c : CTX Fv P u) (f : WFR u w) : CTX Fv P w := CTX_fr c (f.2.1 22 (by omega) (by simp)) (f.2.2.2.1 3 (by omega) (by simp))
theorem SZ_max (g : HPc h n ow kd Fv P) {f s : Nat} (z : SZc h n ow kd Fv P f t s) : s ≤ 500 + n := by
  by_cases e : 500 < s
  · obtain ⟨S, dS, h1, -⟩ := SZ_bigc g s f t z e
    have := @cnt_le S dS ow n
    omega
  · omega
theorem SML_rf {o : Int64} : SML h n ow kd h n ow kd Fv P o o := ⟨rfl, ⟨fun _ => rfl, fun _ _ => rfl⟩, fun _ _ z => z⟩
def WNTc (Fv : Int64 → Int64 → Prop) (P : Int64 → Prop) (u : MS) (q n : Nat) (ow kd : Nat → Nat) (B W Y : Nat) (x : Int) (w : MS) (r : Int32) : Prop := (r = 0 ∨ r = 1) ∧ ∃ U ow2 kd2, PTQ w q U ow2 kd2 Fv P B W Y ∧ (r = 1 → (U : Int) + x ≤ 500) ∧ FR [pq q 4, pq q 5] [] [] [pq q 2, pq q 3, pq q 33, pq q 35, pq q 6] u w ∧ (∀ i, i < B → SML (u.2.2.2 (pq q 2)) n ow kd (w.2.2.2 (pq q 2)) U ow2 kd2 Fv P (u.2.2.2 (pq q 33) i) (w.2.2.2 (pq q 33) i)) ∧ (∀ i, i < W → SML (u.2.2.2 (pq q 2)) n ow kd (w.2.2.2 (pq q 2)) U ow2 kd2 Fv P (u.2.2.2 (pq q 35) i) (w.2.2.2 (pq q 35) i))
theorem want_ok {x : Int} (p : PTQ u q n ow kd Fv P B W Y) (c : CTX Fv P u) (hx : 0 ≤ x ∧ x ≤ 100000) (hN : 2100000 ≤ N) : OK (fun w r => WNTc Fv P u q n ow kd B W Y x w r) (hm_Pr_want N u q (I x)) := by
  have p' := p
  obtain ⟨⟨p1, p2, p3⟩, ⟨p4, p5⟩, ⟨p6, p7⟩, ⟨p8, p9⟩, ⟨l, a1, a2, a3⟩, ⟨l2, b1, b2, b3⟩, c0⟩ := p
  unfold hm_Pr_want hb_Pr_want_0
  have fin : ∀ (w : MS) (U : Nat) (ow2 kd2 : Nat → Nat), PTQ w q U ow2 kd2 Fv P B W Y → U ≤ 500 → FR [pq q 4, pq q 5] [] [] [pq q 2, pq q 3, pq q 33, pq q 35, pq q 6] u w → (∀ i, i < B → SML (u.2.2.2 (pq q 2)) n ow kd (w.2.2.2 (pq q 2)) U ow2 kd2 Fv P (u.2.2.2 (pq q 33) i) (w.2.2.2 (pq q 33) i)) → (∀ i, i < W → SML (u.2.2.2 (pq q 2)) n ow kd (w.2.2.2 (pq q 2)) U ow2 kd2 Fv P (u.2.2.2 (pq q 35) i) (w.2.2.2 (pq q 35) i)) → OK (fun w r => WNTc Fv P u q n ow kd B W Y x w r) (hb_Pr_want_16 N () w q (I x)) := by
    intro w U ow2 kd2 pw hU f s1 s2
    unfold hb_Pr_want_16 hb_Pr_want_33
    rw [I_F (k := pq q 4), pw.1.1, I_add, I_lit (n := 500)]
    refine k_lt ⟨by decide, by decide⟩ ⟨by omega, by omega⟩ (fun _ => ok_ck.mpr ⟨by decide, ok_some.mpr ⟨Or.inl rfl, U, ow2, kd2, pw, fun z => absurd z (by decide), f, s1, s2⟩⟩) (fun y => ok_ck.mpr ⟨by decide, ok_some.mpr ⟨Or.inr rfl, U, ow2, kd2, pw, fun _ => y, f, s1, s2⟩⟩)
  rw [I_F (k := pq q 4), p1, I_add, I_lit (n := 500)]
  refine k_le ⟨by omega, by omega⟩ ⟨by decide, by decide⟩ (fun _ => fin u n ow kd p' p2 FR.rf (fun _ _ => SML_rf) (fun _ _ => SML_rf)) (fun _ => ?_)
  refine ok_bnd.mpr (ok_mono (clearHeap_ok (N := N) p' c.1 c.2.1 (by omega)) (fun w _ hw => ?_))
  obtain ⟨U, ow2, kd2, q1, q2, q3, q4, q5⟩ := hw
  exact fin w U ow2 kd2 q1 (by omega) q3 q4 q5
theorem rf_some {x : Nat} (h : x < 24) : rf (fr (some x)) = some x := rf_fr (fun r e => by cases e; exact h)
theorem endsWith_ok {hq n2 : Nat} {ow2 kd2 : Nat → Nat} (d : DWo Fv P PR q u) (hqq : q < PR) (hal : F u (pq q 9) ≠ 3) (hh : hq < PR) (hh2 : hq = q ∨ F u (pq hq 9) = 3) (hn : n2 ≤ 512) (g : HPc (u.2.2.2 (pq hq 2)) n2 ow2 kd2 Fv P) (gt : GT n2 ow2 kd2 P t) :
    OK (fun w _ => DWc Fv P PR w ∧ WFR u w ∧ F w (pq q 9) = 3 ∧ (∀ r, r ≠ q → F w (pq r 9) = F u (pq r 9)) ∧ F w 956 = F u 956 ∧ ((∀ r k, r ≠ q → k < 100 → w.1 (pq r k) = u.1 (pq r k)) ∧ w.2.2.2 = u.2.2.2 ∧ ∀ k, k ≠ 54 → w.2.2.1 k = u.2.2.1 k) ∧ ∀ r, w.1 (pq r 7) = u.1 (pq r 7)) (hm_Wl_endsWith N u q t hq) := by
  obtain ⟨⟨⟨g11, g12⟩, g13, g14, ⟨g15, g16, g16b⟩, g17, g18, g19⟩, d2⟩ := d
  have hlt := cEc_lt (m := u) PR hqq hal
  unfold hm_Wl_endsWith hb_Wl_endsWith_0 hb_Wl_endsWith_17
  refine k_F (y := 3) rfl ⟨by decide, by decide⟩ (fun z => absurd z hal) (fun _ => ?_)
  rw [I_F (k := 955), g15, I_lit (n := 24)]
  refine k_lt ⟨by omega, by omega⟩ ⟨by decide, by decide⟩ (fun _ => ?_) (fun z => absurd z (by show ¬ (24 : Int) ≤ _; omega))
  refine ok_lt.mpr (ok_lt.mpr (ok_lt.mpr ?_))
  rw [I_lit (n := 3), wi_e, wl_e, I_of (fr (some hq)), wi_e]
  generalize hw : wi (wl (wi u (pq q 9) (OfNat.ofNat 3)) (pq q 16) t) (pq q 17) (fr (some hq)).toInt = w
  have e955 : w.1 955 = I ((cEc u PR : Nat) : Int) := by
    rw [← hw]
    show (if 955 = pq q 17 then _ else if 955 = pq q 9 then _ else u.1 955) = _
    rw [if_neg (by unfold pq; omega), if_neg (by unfold pq; omega), I_F, g15]
  rw [e955]
  refine e_in ⟨by omega, by omega⟩ (by decide) (ok_lt.mpr (ok_lt.mpr (ok_some.mpr ?_)))
  rw [tnI (n := cEc u PR) rfl (by omega), show Int32.ofNat q = I ((q : Nat) : Int) from rfl, wa_e]
  rw [show (wa w 54 (cEc u PR) (q : Int)).1 955 = I ((cEc u PR : Nat) : Int) from e955, lit1q, I_add, wi_e]
  generalize hz : wi (wa w 54 (cEc u PR) (q : Int)) 955 ((cEc u PR : Nat) + 1) = z
  have z1 : ∀ k, z.1 k = if k = 955 then I ((cEc u PR : Nat) + 1) else if k = pq q 17 then fr (some hq) else if k = pq q 9 then 3 else u.1 k := by
    intro k
    rw [← hz, ← hw]
    show (if k = 955 then _ else if k = pq q 17 then I _ else if k = pq q 9 then _ else u.1 k) = _
    rw [← I_of (fr (some hq))]
    rfl
  have z2 : ∀ k, z.2.1 k = if k = pq q 16 then t else u.2.1 k := by
    intro k
    rw [← hz, ← hw]
    rfl
  have z3 : ∀ k, z.2.2.1 k = if k = 54 then upd (u.2.2.1 54) (cEc u PR) (I (q : Int)) else u.2.2.1 k := by
    intro k
    rw [← hz, ← hw]
    rfl
  have z4 : z.2.2.2 = u.2.2.2 := by rw [← hz, ← hw]; rfl
  have st : F z (pq q 9) = 3 := by
    show (z.1 (pq q 9)).toInt = 3
    rw [z1, if_neg (by unfold pq; omega), if_neg (by unfold pq; omega), if_pos rfl]; rfl
  have so9 : ∀ r, r ≠ q → F z (pq r 9) = F u (pq r 9) := fun r hr => by
    show (z.1 (pq r 9)).toInt = _
    rw [z1, if_neg (by unfold pq; omega), if_neg (by unfold pq; omega), if_neg (by unfold pq; omega)]; rfl
  have oI : ∀ r k, (r ≠ q ∨ (k ≠ 9 ∧ k ≠ 17)) → k < 100 → z.1 (pq r k) = u.1 (pq r k) := fun r k h hk => by
    rw [z1, if_neg (by unfold pq; omega), if_neg (by unfold pq; omega), if_neg (by unfold pq; omega)]
  have gI : ∀ k, k < 2000 → k ≠ 955 → z.1 k = u.1 k := fun k h1 h2 => by rw [z1, if_neg h2, if_neg (by unfold pq; omega), if_neg (by unfold pq; omega)]
  have e9 : F z 955 = (cEc u PR : Nat) + 1 := by
    show (z.1 955).toInt = _
    rw [z1, if_pos rfl, I_ti (by omega) (by omega)]
  have hce := cEc_up (m2 := z) hal st so9 PR hqq
  have st3 : ∀ r, F u (pq r 9) = 3 → F z (pq r 9) = 3 := fun r hr => by
    by_cases e : r = q
    · rw [e]; exact st
    · rw [so9 r e]; exact hr
  refine ⟨⟨⟨⟨by rw [show F z 942 = F u 942 from congrArg _ (gI 942 (by omega) (by omega))]; exact g11, g12⟩, fun r hr => by rw [z3, if_neg (by omega)]; exact g13 r hr, by rw [show F z 950 = F u 950 from congrArg _ (gI 950 (by omega) (by omega))]; exact g14, ⟨by rw [e9, hce]; omega, by rw [show F z 956 = F u 956 from congrArg _ (gI 956 (by omega) (by omega))]; exact g16, by rw [show F z 956 = F u 956 from congrArg _ (gI 956 (by omega) (by omega)), e9]; omega⟩, fun i hi => ?_, by rw [show F z 953 = F u 953 from congrArg _ (gI 953 (by omega) (by omega))]; exact g18, fun i hi => ?_⟩, fun r hr => ?_⟩, ⟨fun r k hk hk2 => ?_, fun k hk hk2 => ?_, fun r k hk _ => ?_, fun k hk hk2 => ?_, fun k _ _ => ?_, fun r k hk hk2 => ?_, fun k hk => ?_⟩, st, so9, congrArg _ (gI 956 (by omega) (by omega)), ⟨fun r k hr hk => oI r k (Or.inl hr) hk, z4, fun k hk => by rw [z3, if_neg hk]⟩, fun r => oI r 7 (Or.inr (by omega)) (by omega)⟩
  · rw [e9] at hi
    by_cases e : i = cEc u PR
    · refine ⟨q, ?_, hqq, st⟩
      show (z.2.2.1 54 i).toInt = _
      rw [z3, if_pos rfl]
      unfold upd
      rw [if_pos e, I_ti (by omega) (by omega)]
    · obtain ⟨r, r1, r2, r3⟩ := g17 i (by omega)
      refine ⟨r, ?_, r2, st3 r r3⟩
      show (z.2.2.1 54 i).toInt = _
      rw [z3, if_pos rfl]
      unfold upd
      rw [if_neg e]; exact r1
  · rw [show F z 953 = F u 953 from congrArg _ (gI 953 (by omega) (by omega))] at hi
    have : A z 53 i = A u 53 i := by show (z.2.2.1 53 i).toInt = _; rw [z3, if_neg (by omega)]; rfl
    rw [this]; exact g19 i hi
  · obtain ⟨s1, s2, s3⟩ := d2 r hr
    have fI : ∀ k, (r ≠ q ∨ (k ≠ 9 ∧ k ≠ 17)) → k < 100 → F z (pq r k) = F u (pq r k) := fun k h hk => congrArg _ (oI r k h hk)
    refine ⟨?_, fun _ => ?_, fun y => ?_⟩
    · obtain ⟨t1, t2, t3⟩ := s1
      refine ⟨by rw [fI 15 (by omega) (by omega)]; exact t1, by rw [fI 8 (by omega) (by omega)]; exact t2, fun y => ?_⟩
      rw [fI 8 (by omega) (by omega), fI 7 (by omega) (by omega)]
      exact t3 (fun y2 => y (st3 r y2))
    · by_cases e : r = q
      · subst e
        refine ⟨hq, n2, ow2, kd2, ?_, hh, ?_, hn, by rw [z4]; exact g, ?_⟩
        · rw [z1, if_neg (by unfold pq; omega), if_pos rfl]; exact rf_some (by omega)
        · rcases hh2 with y | y
          · rw [y]; exact st
          · exact st3 hq y
        · rw [z2, if_pos rfl]; exact gt
      · rename_i y
        rw [so9 r e] at y
        obtain ⟨hq2, n3, ow3, kd3, e1, e2, e3, e4, e5, e6⟩ := s2 y
        exact ⟨hq2, n3, ow3, kd3, by rw [oI r 17 (Or.inl e) (by omega)]; exact e1, e2, st3 hq2 e3, e4, by rw [z4]; exact e5, by rw [z2, if_neg (by unfold pq; omega)]; exact e6⟩
    · have e : r ≠ q := fun y2 => y (by rw [y2]; exact st)
      rw [so9 r e] at y
      obtain ⟨n3, ow3, kd3, B3, W3, Y3, p⟩ := s3 y e
      exact ⟨n3, ow3, kd3, B3, W3, Y3, PTQ_same p (fun k hk => oI r k (Or.inl e) (by simp at hk; omega)) (fun k hk => by rw [z4])⟩
  · refine oI r k (Or.inr ?_) hk
    simp at hk2; omega
  · exact gI k hk (by simp at hk2; omega)
  · rw [z3, if_neg (by unfold pq; omega)]
  · rw [z3, if_neg (by simp at hk2; omega)]
  · rw [z4]
  · rw [z2, if_neg (by simp at hk2; unfold pq; omega)]
  · rw [z2, if_neg (by unfold pq; omega)]
theorem endsBy_ok {a : Nat} (d : DWc Fv P PR u) (c : CTX Fv P u) (hqq : q < PR) (hal : F u (pq q 9) ≠ 3) (ha : a < 22) :
    OK (fun w _ => DWc Fv P PR w ∧ WFR u w ∧ F w (pq q 9) = 3 ∧ (∀ r, r ≠ q → F w (pq r 9) = F u (pq r 9)) ∧ F w 956 = F u 956 ∧ ((∀ r k, r ≠ q → k < 100 → w.1 (pq r k) = u.1 (pq r k)) ∧ w.2.2.2 = u.2.2.2 ∧ ∀ k, k ≠ 54 → w.2.2.1 k = u.2.2.1 k) ∧ ∀ r, w.1 (pq r 7) = u.1 (pq r 7)) (hm_Wl_endsBy N u q (I ((a : Nat) : Int))) := by
  obtain ⟨n, ow, kd, B, W, Y, p⟩ := (d.2 q hqq).2.2 hal
  unfold hm_Wl_endsBy hb_Wl_endsBy_0
  rw [lit1q, e_make, bnd_so]
  refine ok_bnd.mpr (ok_mono (endsWith_ok (N := N) (DWo_of d) hqq hal hqq (Or.inl rfl) (by have := p.1.2.1; omega) p.1.2.2 (Or.inl ⟨nh_so ?_, c.2.2.2.2.2.1 _ (by omega) (by have := c.2.2.2.1; omega)⟩)) (fun w _ hw => ok_some.mpr hw))
  rw [so_mk (by decide) (by decide)]; decide
end
end
section
set_option maxRecDepth 100000
def FC (q : Nat) (gi gl ga ki kl ka kj : List Nat) (u w : MS) : Prop :=
  (∀ k, k < 2000 → k ∉ gi → w.1 k = u.1 k) ∧ (∀ k, k < 2000 → k ∉ gl → w.2.1 k = u.2.1 k) ∧ (∀ k, k < 2000 → k ∉ ga → w.2.2.1 k = u.2.2.1 k) ∧ (∀ k, k < 2000 → k ∉ [44, 45, 46] → w.2.2.2 k = u.2.2.2 k) ∧
  (∀ r k, k < 100 → (r = q → k ∉ ki) → w.1 (pq r k) = u.1 (pq r k)) ∧ (∀ r k, k < 100 → (r = q → k ∉ kl) → w.2.1 (pq r k) = u.2.1 (pq r k)) ∧ (∀ r k, k < 100 → (r = q → k ∉ ka) → w.2.2.1 (pq r k) = u.2.2.1 (pq r k)) ∧ (∀ r k, k < 100 → (r = q → k ∉ kj) → w.2.2.2 (pq r k) = u.2.2.2 (pq r k))
theorem pq_e {q k r l : Nat} (hk : k < 100) (hl : l < 100) (h : pq q k = pq r l) : q = r ∧ k = l := by unfold pq at h; omega
section
variable {q : Nat} {gi gl ga ki kl ka kj gi2 gl2 ga2 ki2 kl2 ka2 kj2 : List Nat} {u v w : MS} {k : Nat}
theorem FC.rf : FC q gi gl ga ki kl ka kj u u := ⟨fun _ _ _ => rfl, fun _ _ _ => rfl, fun _ _ _ => rfl, fun _ _ _ => rfl, fun _ _ _ _ => rfl, fun _ _ _ _ => rfl, fun _ _ _ _ => rfl, fun _ _ _ _ => rfl⟩
theorem FC.tr (a : FC q gi gl ga ki kl ka kj u v) (b : FC q gi gl ga ki kl ka kj v w) : FC q gi gl ga ki kl ka kj u w := by
  obtain ⟨a1, a2, a3, a4, a5, a6, a7, a8⟩ := a
  obtain ⟨b1, b2, b3, b4, b5, b6, b7, b8⟩ := b
  exact ⟨fun k x y => (b1 k x y).trans (a1 k x y), fun k x y => (b2 k x y).trans (a2 k x y), fun k x y => (b3 k x y).trans (a3 k x y), fun k x y => (b4 k x y).trans (a4 k x y), fun r k x y => (b5 r k x y).trans (a5 r k x y), fun r k x y => (b6 r k x y).trans (a6 r k x y), fun r k x y => (b7 r k x y).trans (a7 r k x y), fun r k x y => (b8 r k x y).trans (a8 r k x y)⟩
theorem FC.mo (a : FC q gi gl ga ki kl ka kj u w) (h1 : ∀ k, k ∈ gi → k ∈ gi2) (h2 : ∀ k, k ∈ gl → k ∈ gl2) (h3 : ∀ k, k ∈ ga → k ∈ ga2) (h4 : ∀ k, k ∈ ki → k ∈ ki2) (h5 : ∀ k, k ∈ kl → k ∈ kl2) (h6 : ∀ k, k ∈ ka → k ∈ ka2) (h7 : ∀ k, k ∈ kj → k ∈ kj2) : FC q gi2 gl2 ga2 ki2 kl2 ka2 kj2 u w := by
  obtain ⟨a1, a2, a3, a4, a5, a6, a7, a8⟩ := a
  exact ⟨fun k x y => a1 k x (fun z => y (h1 k z)), fun k x y => a2 k x (fun z => y (h2 k z)), fun k x y => a3 k x (fun z => y (h3 k z)), a4, fun r k x y => a5 r k x (fun e z => y e (h4 k z)), fun r k x y => a6 r k x (fun e z => y e (h5 k z)), fun r k x y => a7 r k x (fun e z => y e (h6 k z)), fun r k x y => a8 r k x (fun e z => y e (h7 k z))⟩
theorem FC.Fq (a : FC q gi gl ga ki kl ka kj u w) (h1 : k < 100) (h2 : k ∉ ki) : F w (pq q k) = F u (pq q k) := congrArg _ (a.2.2.2.2.1 q k h1 (fun _ => h2))
theorem FC.Fo (a : FC q gi gl ga ki kl ka kj u w) {r : Nat} (hr : r ≠ q) (h1 : k < 100) : F w (pq r k) = F u (pq r k) := congrArg _ (a.2.2.2.2.1 r k h1 (fun e => absurd e hr))
theorem FC.Fg (a : FC q gi gl ga ki kl ka kj u w) (h1 : k < 2000) (h2 : k ∉ gi) : F w k = F u k := congrArg _ (a.1 k h1 h2)
theorem FC.aq (a : FC q gi gl ga ki kl ka kj u w) {i : Nat} (h1 : k < 100) (h2 : k ∉ ka) : A w (pq q k) i = A u (pq q k) i := by show (w.2.2.1 (pq q k) i).toInt = _; rw [a.2.2.2.2.2.2.1 q k h1 (fun _ => h2)]; rfl
theorem FC.ag (a : FC q gi gl ga ki kl ka kj u w) {i : Nat} (h1 : k < 2000) (h2 : k ∉ ga) : A w k i = A u k i := by show (w.2.2.1 k i).toInt = _; rw [a.2.2.1 k h1 h2]; rfl
theorem FC.jq (a : FC q gi gl ga ki kl ka kj u w) (h1 : k < 100) (h2 : k ∉ kj) : w.2.2.2 (pq q k) = u.2.2.2 (pq q k) := a.2.2.2.2.2.2.2 q k h1 (fun _ => h2)
theorem FC.jo (a : FC q gi gl ga ki kl ka kj u w) {r : Nat} (hr : r ≠ q) (h1 : k < 100) : w.2.2.2 (pq r k) = u.2.2.2 (pq r k) := a.2.2.2.2.2.2.2 r k h1 (fun e => absurd e hr)
theorem FC.wi_q (a : FC q gi gl ga ki kl ka kj u w) {x : Int} (h1 : k < 100) (h2 : k ∈ ki) : FC q gi gl ga ki kl ka kj u (wi w (pq q k) x) := by
  obtain ⟨a1, a2, a3, a4, a5, a6, a7, a8⟩ := a
  refine ⟨fun j x y => (if_neg (by unfold pq; omega)).trans (a1 j x y), a2, a3, a4, fun r j x y => (if_neg (fun z => ?_)).trans (a5 r j x y), a6, a7, a8⟩
  obtain ⟨e1, e2⟩ := pq_e x h1 z
  exact y e1 (e2 ▸ h2)
theorem FC.wi_g (a : FC q gi gl ga ki kl ka kj u w) {x : Int} (h1 : k < 2000) (h2 : k ∈ gi) : FC q gi gl ga ki kl ka kj u (wi w k x) := by
  obtain ⟨a1, a2, a3, a4, a5, a6, a7, a8⟩ := a
  exact ⟨fun j x y => (if_neg (fun (z : j = k) => y (z ▸ h2))).trans (a1 j x y), a2, a3, a4, fun r j x y => (if_neg (by unfold pq; omega)).trans (a5 r j x y), a6, a7, a8⟩
theorem FC.wl_q (a : FC q gi gl ga ki kl ka kj u w) {x : Int64} (h1 : k < 100) (h2 : k ∈ kl) : FC q gi gl ga ki kl ka kj u (wl w (pq q k) x) := by
  obtain ⟨a1, a2, a3, a4, a5, a6, a7, a8⟩ := a
  refine ⟨a1, fun j x y => (if_neg (by unfold pq; omega)).trans (a2 j x y), a3, a4, a5, fun r j x y => (if_neg (fun z => ?_)).trans (a6 r j x y), a7, a8⟩
  obtain ⟨e1, e2⟩ := pq_e x h1 z
  exact y e1 (e2 ▸ h2)
theorem FC.wl_g (a : FC q gi gl ga ki kl ka kj u w) {x : Int64} (h1 : k < 2000) (h2 : k ∈ gl) : FC q gi gl ga ki kl ka kj u (wl w k x) := by
  obtain ⟨a1, a2, a3, a4, a5, a6, a7, a8⟩ := a
  exact ⟨a1, fun j x y => (if_neg (fun (z : j = k) => y (z ▸ h2))).trans (a2 j x y), a3, a4, a5, fun r j x y => (if_neg (by unfold pq; omega)).trans (a6 r j x y), a7, a8⟩
theorem FC.A_q (a : FC q gi gl ga ki kl ka kj u w) {g : Nat → Int32} (h1 : k < 100) (h2 : k ∈ ka) : FC q gi gl ga ki kl ka kj u (upA w (pq q k) g) := by
  obtain ⟨a1, a2, a3, a4, a5, a6, a7, a8⟩ := a
  refine ⟨a1, a2, fun j x y => (if_neg (by unfold pq; omega)).trans (a3 j x y), a4, a5, a6, fun r j x y => (if_neg (fun z => ?_)).trans (a7 r j x y), a8⟩
  obtain ⟨e1, e2⟩ := pq_e x h1 z
  exact y e1 (e2 ▸ h2)
theorem FC.A_g (a : FC q gi gl ga ki kl ka kj u w) {g : Nat → Int32} (h1 : k < 2000) (h2 : k ∈ ga) : FC q gi gl ga ki kl ka kj u (upA w k g) := by
  obtain ⟨a1, a2, a3, a4, a5, a6, a7, a8⟩ := a
  exact ⟨a1, a2, fun j x y => (if_neg (fun (z : j = k) => y (z ▸ h2))).trans (a3 j x y), a4, a5, a6, fun r j x y => (if_neg (by unfold pq; omega)).trans (a7 r j x y), a8⟩
theorem FC.J_q (a : FC q gi gl ga ki kl ka kj u w) {g : Nat → Int64} (h1 : k < 100) (h2 : k ∈ kj) : FC q gi gl ga ki kl ka kj u (upJ w (pq q k) g) := by
  obtain ⟨a1, a2, a3, a4, a5, a6, a7, a8⟩ := a
  refine ⟨a1, a2, a3, fun j x y => (if_neg (by unfold pq; omega)).trans (a4 j x y), a5, a6, a7, fun r j x y => (if_neg (fun z => ?_)).trans (a8 r j x y)⟩
  obtain ⟨e1, e2⟩ := pq_e x h1 z
  exact y e1 (e2 ▸ h2)
theorem FC.J_g (a : FC q gi gl ga ki kl ka kj u w) {g : Nat → Int64} (h2 : k ∈ [44, 45, 46]) : FC q gi gl ga ki kl ka kj u (upJ w k g) := by
  obtain ⟨a1, a2, a3, a4, a5, a6, a7, a8⟩ := a
  have hk : k < 2000 := by simp at h2; omega
  exact ⟨a1, a2, a3, fun j x y => (if_neg (fun (z : j = k) => y (z ▸ h2))).trans (a4 j x y), a5, a6, a7, fun r j x y => (if_neg (by unfold pq; omega)).trans (a8 r j x y)⟩
theorem FC.wa_q (a : FC q gi gl ga ki kl ka kj u w) {i : Nat} {x : Int} (h1 : k < 100) (h2 : k ∈ ka) : FC q gi gl ga ki kl ka kj u (wa w (pq q k) i x) := FC.A_q a h1 h2
theorem FC.wa_g (a : FC q gi gl ga ki kl ka kj u w) {i : Nat} {x : Int} (h1 : k < 2000) (h2 : k ∈ ga) : FC q gi gl ga ki kl ka kj u (wa w k i x) := FC.A_g a h1 h2
theorem FC.wj_q (a : FC q gi gl ga ki kl ka kj u w) {i : Nat} {x : Int64} (h1 : k < 100) (h2 : k ∈ kj) : FC q gi gl ga ki kl ka kj u (wj w (pq q k) i x) := FC.J_q a h1 h2
theorem FC.wj_g (a : FC q gi gl ga ki kl ka kj u w) {i : Nat} {x : Int64} (h2 : k ∈ [44, 45, 46]) : FC q gi gl ga ki kl ka kj u (wj w k i x) := FC.J_g a h2
theorem FC.of (f : FR gi gl ga kj u w) (h : ∀ k, k ∈ kj → k ∈ [44, 45, 46]) (h1 : ∀ k, k ∈ gi → k < 2000) (h2 : ∀ k, k ∈ gl → k < 2000) (h3 : ∀ k, k ∈ ga → k < 2000) : FC q gi gl ga [] [] [] [] u w := by
  refine ⟨fun k _ y => f.1 k y, fun k _ y => f.2.1 k y, fun k _ y => f.2.2.1 k y, fun k _ y => f.2.2.2 k (fun z => y (h k z)), fun r k _ _ => f.1 _ (fun z => ?_), fun r k _ _ => f.2.1 _ (fun z => ?_), fun r k _ _ => f.2.2.1 _ (fun z => ?_), fun r k _ _ => f.2.2.2 _ (fun z => ?_)⟩
  · have := h1 _ z; unfold pq at this; omega
  · have := h2 _ z; unfold pq at this; omega
  · have := h3 _ z; unfold pq at this; omega
  · have := h _ z; simp at this; unfold pq at this; omega
theorem FC.ofq (f : FR (ki.map (pq q)) [] [] (kj.map (pq q)) u w) (h1 : ∀ k, k ∈ ki → k < 100) (h2 : ∀ k, k ∈ kj → k < 100) : FC q [] [] [] ki [] [] kj u w := by
  have m : ∀ {l : List Nat} {x : Nat}, x ∈ l.map (pq q) → ∃ k, k ∈ l ∧ pq q k = x := fun h => List.mem_map.mp h
  refine ⟨fun k hk _ => f.1 k (fun z => ?_), fun k _ _ => f.2.1 k (by simp), fun k _ _ => f.2.2.1 k (by simp), fun k hk _ => f.2.2.2 k (fun z => ?_), fun r k hk y => f.1 _ (fun z => ?_), fun r k _ _ => f.2.1 _ (by simp), fun r k _ _ => f.2.2.1 _ (by simp), fun r k hk y => f.2.2.2 _ (fun z => ?_)⟩
  · obtain ⟨j, -, e⟩ := m z; unfold pq at e; omega
  · obtain ⟨j, -, e⟩ := m z; unfold pq at e; omega
  · obtain ⟨j, j1, e⟩ := m z
    obtain ⟨e1, e2⟩ := pq_e (h1 j j1) hk e
    exact y e1.symm (e2 ▸ j1)
  · obtain ⟨j, j1, e⟩ := m z
    obtain ⟨e1, e2⟩ := pq_e (h2 j j1) hk e
    exact y e1.symm (e2 ▸ j1)
theorem FC.W (a : FC q gi gl ga ki kl ka kj u w) (h1 : ∀ k, k ∈ gi → k ∈ [950, 955, 956]) (h2 : ∀ k, k ∈ gl → False) (h3 : ∀ k, k ∈ ga → k ∈ [49, 50, 51, 54]) (h4 : ∀ k, k ∈ ki → k ∈ [4, 5, 7, 9, 12, 15, 17]) (h5 : ∀ k, k ∈ kl → k ∈ [16]) (h6 : ∀ k, k ∈ ka → k ∈ [14]) (h7 : w.2.2.2 44 = u.2.2.2 44) : WFR u w := by
  obtain ⟨a1, a2, a3, a4, a5, a6, a7, a8⟩ := a
  refine ⟨fun r k x y => a5 r k x (fun _ z => y (h4 k z)), fun k x y => a1 k x (fun z => y (h1 k z)), fun r k x y => a7 r k x (fun _ z => y (h6 k z)), fun k x y => a3 k x (fun z => y (h3 k z)), fun k x y => ?_, fun r k x y => a6 r k x (fun _ z => y (h5 k z)), fun k x => a2 k x (fun z => h2 k z)⟩
  by_cases e : k = 44
  · rw [e]; exact h7
  · exact a4 k x (by simp at y ⊢; omega)
variable {Fv : Int64 → Int64 → Prop} {P : Int64 → Prop} {PR : Nat}
theorem DWc_fc (d : DWc Fv P PR u) (f : FC q gi gl ga ki kl ka kj u w) (hq : q < PR) (hal : F u (pq q 9) ≠ 3) (hal2 : F w (pq q 9) ≠ 3) (hs : SMQ w q) (hl : LVQ Fv P w q) (h1 : ∀ k, k ∈ [942, 950, 953, 955, 956] → k ∉ gi) (h2 : ∀ k, k ∈ [1948, 53, 54] → k ∉ ga) : DWc Fv P PR w := by
  obtain ⟨a1, a2, a3, a4, a5, a6, a7, a8⟩ := f
  exact DWc_q d hq hal hal2 hs hl (fun r k hr hk => a5 r k hk (fun e => absurd e hr)) (fun r hr => a6 r 16 (by omega) (fun e => absurd e hr)) (fun r k hr hk => a8 r k hk (fun e => absurd e hr)) (fun k hk => a1 k (by simp at hk; omega) (h1 k hk)) (fun k hk => a3 k (by simp at hk; omega) (h2 k hk))
theorem DWo_fc (d : DWo Fv P PR q u) (f : FC q gi gl ga ki kl ka kj u w) (hq : q < PR) (hal : F u (pq q 9) ≠ 3) (hal2 : F w (pq q 9) ≠ 3) (hs : SMQ w q) (h1 : ∀ k, k ∈ [942, 950, 953, 955, 956] → k ∉ gi) (h2 : ∀ k, k ∈ [1948, 53, 54] → k ∉ ga) : DWo Fv P PR q w := by
  obtain ⟨a1, a2, a3, a4, a5, a6, a7, a8⟩ := f
  exact DWo_q d hq hal hal2 hs (fun r k hr hk => a5 r k hk (fun e => absurd e hr)) (fun r hr => a6 r 16 (by omega) (fun e => absurd e hr)) (fun r k hr hk => a8 r k hk (fun e => absurd e hr)) (fun k hk => a1 k (by simp at hk; omega) (h1 k hk)) (fun k hk => a3 k (by simp at hk; omega) (h2 k hk))
end
end
section
set_option maxRecDepth 100000
section
variable {Fv : Int64 → Int64 → Prop} {P : Int64 → Prop} {u v w m m2 : MS} {PR N q r n B W Y : Nat} {ow kd : Nat → Nat} {t : Int64} {h h2 : Nat → Int64}
theorem PTQ_b (p : PTQ u q n ow kd Fv P B W Y) : n ≤ 500 ∧ B ≤ 1000000 ∧ W ≤ 1000000 ∧ Y ≤ 30 := by
  obtain ⟨⟨p1, p2, p3⟩, ⟨p4, p5⟩, ⟨p6, p7⟩, ⟨p8, p9⟩, ⟨l, a1, a2, a3⟩, ⟨l2, b1, b2, b3⟩, c⟩ := p
  omega
theorem comes_ok (p : PTQ u q n ow kd Fv P B W Y) (hY : Y < 30) (g : GT n ow kd P t) : OK (fun w _ => FC q [] [] [] [7] [] [] [6] u w ∧ PTQ w q n ow kd Fv P B W (Y + 1) ∧ w.2.2.2 44 = u.2.2.2 44) (hm_Pr_comes N u q t) := by
  obtain ⟨⟨p1, p2, p3⟩, ⟨p4, p5⟩, ⟨p6, p7⟩, ⟨p8, p9⟩, ⟨l, a1, a2⟩, ⟨l2, b1, b2⟩, c⟩ := p
  unfold hm_Pr_comes hb_Pr_comes_0 hb_Pr_comes_29
  rw [I_F (k := pq q 7), p8, I_lit (n := 30)]
  refine k_le ⟨by decide, by decide⟩ ⟨by omega, by omega⟩ (fun y => absurd y (by show ¬ (30 : Int) ≤ _; omega)) (fun _ => ?_)
  refine e_in ⟨by omega, by omega⟩ (by decide) (ok_lt.mpr ?_)
  rw [tnI (n := Y) rfl (by omega), wj_e, show (wj u (pq q 6) Y t).1 (pq q 7) = I ((Y : Nat) : Int) by show u.1 (pq q 7) = _; rw [I_F, p8], lit1q, I_add]
  refine ok_lt.mpr (ok_some.mpr ?_)
  rw [wi_e]
  generalize hz : wi (wj u (pq q 6) Y t) (pq q 7) ((Y : Int) + 1) = z
  have f : FC q [] [] [] [7] [] [] [6] u z := by rw [← hz]; exact FC.wi_q (FC.wj_q FC.rf (by omega) (by simp)) (by omega) (by simp)
  have e7 : F z (pq q 7) = ((Y + 1 : Nat) : Int) := by rw [← hz, F_wi (by omega) (by omega), if_pos rfl]; omega
  have e6 : ∀ i, z.2.2.2 (pq q 6) i = if i = Y then t else u.2.2.2 (pq q 6) i := fun i => by rw [← hz]; exact wj_row
  refine ⟨f, ⟨⟨by rw [f.Fq (by omega) (by simp)]; exact p1, p2, by rw [f.jq (by omega) (by simp)]; exact p3⟩, ⟨by rw [f.Fq (by omega) (by simp)]; exact p4, by rw [f.jq (by omega) (by simp)]; exact p5⟩, ⟨by rw [f.Fq (by omega) (by simp)]; exact p6, by rw [f.jq (by omega) (by simp)]; exact p7⟩, ⟨e7, fun i hi => ?_⟩, ⟨l, by rw [f.Fq (by omega) (by simp)]; exact a1, a2⟩, ⟨l2, by rw [f.Fq (by omega) (by simp)]; exact b1, b2⟩, by omega⟩, ?_⟩
  · rw [e6]
    by_cases e : i = Y
    · rw [if_pos e]; exact g
    · rw [if_neg e]; exact p9 i (by omega)
  · rw [← hz]
    show (wj u (pq q 6) Y t).2.2.2 44 = _
    exact if_neg (by unfold pq; omega)
theorem PTQ_cells (p : PTQ u q n ow kd Fv P B W Y) {n2 : Nat} {ow2 kd2 : Nat → Nat} (f : FC q [] [] [] [4] [] [] [2] u w) (e4 : F w (pq q 4) = ((n2 : Nat) : Int)) (hn : n2 ≤ 500) (g : HPc (w.2.2.2 (pq q 2)) n2 ow2 kd2 Fv P) (gt : ∀ t, GT n ow kd P t → GT n2 ow2 kd2 P t) : PTQ w q n2 ow2 kd2 Fv P B W Y := by
  obtain ⟨⟨p1, p2, p3⟩, ⟨p4, p5⟩, ⟨p6, p7⟩, ⟨p8, p9⟩, ⟨l, a1, a2⟩, ⟨l2, b1, b2⟩, c⟩ := p
  exact ⟨⟨e4, hn, g⟩, ⟨by rw [f.Fq (by omega) (by simp)]; exact p4, fun i hi => by rw [f.jq (by omega) (by simp)]; exact gt _ (p5 i hi)⟩, ⟨by rw [f.Fq (by omega) (by simp)]; exact p6, fun i hi => by rw [f.jq (by omega) (by simp)]; exact gt _ (p7 i hi)⟩, ⟨by rw [f.Fq (by omega) (by simp)]; exact p8, fun i hi => by rw [f.jq (by omega) (by simp)]; exact gt _ (p9 i hi)⟩, ⟨l, by rw [f.Fq (by omega) (by simp)]; exact a1, a2⟩, ⟨l2, by rw [f.Fq (by omega) (by simp)]; exact b1, b2⟩, c⟩
theorem GT_at {a : Nat} (c : CTX Fv P u) (ha : a < 22) : GT n ow kd P (mk 1 ((a : Nat) : Int)) := Or.inl ⟨nh_so (by rw [so_mk (by decide) (by decide)]; decide), c.2.2.2.2.2.1 _ (by omega) (by have := c.2.2.2.1; omega)⟩
theorem GT_nu {s x : Int} (c : CTX Fv P u) (hs : s = 0 ∨ s = 2 ∨ s = 4) (hx : RG x) : GT n ow kd P (mk s x) := by
  obtain ⟨x1, x2, x3⟩ := c.2.2.2.2.1 x hx
  refine Or.inl ⟨nh_so (by rw [so_mk (by omega) (by omega)]; omega), ?_⟩
  rcases hs with rfl | rfl | rfl
  · exact x1
  · exact x2
  · exact x3
theorem nh_mk2 {s x : Int} (hs : s = 0 ∨ s = 1 ∨ s = 2 ∨ s = 4 ∨ s = 6) : ¬ isH (mk s x) := nh_so (by rw [so_mk (by omega) (by omega)]; omega)
theorem around_hp {U a s f0 : Nat} {c : Int64} (g : HPc h n ow kd Fv P) (hU : U + a ≤ n) (ha : a = 4 ∨ a = 5) (hno : ∀ j, j < a → U + j < ow (U + j)) (gc : GT n ow kd P c) (zc : SZc h n ow kd Fv P f0 c s) (hs : a + s ≤ 500) (hh : ∀ i, ¬ (U ≤ i ∧ i < U + a) → h2 i = h i) (hx1 : h2 U = mk 8 ((a : Int) - 1)) (hx2 : ∀ j, 1 ≤ j → j < a - 1 → ¬ isH (h2 (U + j)) ∧ P (h2 (U + j))) (hx3 : h2 (U + (a - 1)) = c) (hb : n ≤ 500) :
    ∃ ow2 kd2, HPc h2 n ow2 kd2 Fv P ∧ GT n ow2 kd2 P (mk 5 ((U : Nat) : Int)) ∧ ∀ t, GT n ow kd P t → GT n ow2 kd2 P t := by
  have s5 : so (mk 5 ((U : Nat) : Int)) = 5 := so_mk (by decide) (by decide)
  have v5 : va (mk 5 ((U : Nat) : Int)) = ((U : Nat) : Int) := va_mk (by omega) (by omega)
  have hv : vn (mk 5 ((U : Nat) : Int)) = U := by unfold vn; rw [v5]; exact Int.toNat_natCast U
  have hp : prt (mk 5 ((U : Nat) : Int)) = 1 := by unfold prt; rw [if_neg (by omega), if_pos s5]
  have s8 : so (mk 8 ((a : Int) - 1)) = 8 := so_mk (by decide) (by decide)
  have v8 : va (mk 8 ((a : Int) - 1)) = (a : Int) - 1 := va_mk (by omega) (by omega)
  have hbl : blk h2 (mk 5 ((U : Nat) : Int)) = a := by
    unfold blk
    rw [if_neg (by omega), if_pos s5, hv, hx1]
    unfold vn
    rw [v8]; omega
  have part : ∀ j, 1 ≤ j → j < a → GT n ow kd P (h2 (U + j)) := by
    intro j j1 j2
    by_cases e : j = a - 1
    · rw [e, hx3]; exact gc
    · exact Or.inl (hx2 j j1 (by omega))
  obtain ⟨ow2, kd2, o1, o2, o3, o4, o5, o6, o7⟩ := HP_putc g (h2 := h2) (m := a) (k := U) (x := mk 5 ((U : Nat) : Int)) hh hU hno (Or.inr (Or.inl s5)) (by omega) hv hbl (fun _ => by rw [hx1]; exact ⟨by omega, s8⟩) (fun z => by omega) (fun j j1 j2 => part j (by omega) j2) (Or.inr (fun f c2 hc => by
    rw [hp] at hc ⊢
    have z0 : ∀ j, 1 ≤ j → j < a - 1 → c2 j = 0 := fun j j1 j2 => SZ_nhc (hc j j1 (by omega)) (hx2 j j1 j2).1
    have z1 : c2 (a - 1) = s := by
      have := hc (a - 1) (by omega) (by omega)
      rw [hx3] at this
      exact SZ_func this zc
    rcases ha with rfl | rfl
    · have e : smm c2 1 (4 - 1) = c2 1 + c2 2 + c2 3 := by show 0 + c2 (1 + 0) + c2 (1 + 1) + c2 (1 + 2) = _; simp
      rw [e, z0 1 (by omega) (by omega), z0 2 (by omega) (by omega)]
      have : c2 3 = s := z1
      omega
    · have e : smm c2 1 (5 - 1) = c2 1 + c2 2 + c2 3 + c2 4 := by show 0 + c2 (1 + 0) + c2 (1 + 1) + c2 (1 + 2) + c2 (1 + 3) = _; simp
      rw [e, z0 1 (by omega) (by omega), z0 2 (by omega) (by omega), z0 3 (by omega) (by omega)]
      have : c2 4 = s := z1
      omega))
  exact ⟨ow2, kd2, o4, o5, fun t gt => GT_own gt (Nat.le_refl _) o1 o2⟩
theorem post_120 {U a s f0 : Nat} {v3 v4 : Int} {c : Int64} (cx : CTX Fv P u) (p : PTQ u q n ow kd Fv P B W Y) (hY : Y < 30) (hU : n = U + a + s) (ha : a = 0 ∨ a = 4 ∨ a = 5) (hno : ∀ j, j < a → U + j < ow (U + j)) (gc : GT n ow kd P c) (zc : SZc (u.2.2.2 (pq q 2)) n ow kd Fv P f0 c s) (h3 : RG v3) (h4 : RG v4) :
    OK (fun w _ => FC q [] [] [] [4, 7] [] [] [2, 6] u w ∧ (∃ ow2 kd2, PTQ w q n ow2 kd2 Fv P B W (Y + 1)) ∧ w.2.2.2 44 = u.2.2.2 44) (hb_Wl_post_120 N () u q (I ((a : Nat) : Int)) (I v3) (I v4) (I ((U : Nat) : Int)) c) := by
  have hn := p.1.2.1
  unfold hb_Wl_post_120
  rw [lit0q]
  refine k_eq ⟨by omega, by omega⟩ ⟨by decide, by decide⟩ (fun y => ?_) (fun y => ?_)
  · refine ok_bnd.mpr (ok_mono (comes_ok (N := N) p hY gc) (fun w _ hw => ok_some.mpr ⟨FC.mo hw.1 (by simp) (by simp) (by simp) (by simp) (by simp) (by simp) (by simp), ⟨ow, kd, hw.2.1⟩, hw.2.2⟩))
  have ha2 : a = 4 ∨ a = 5 := by omega
  rw [I_lit (n := 8), lit1q, I_sub, e_make, bnd_so]
  refine e_in ⟨by omega, by omega⟩ (by decide) (ok_lt.mpr ?_)
  rw [tnI (n := U) rfl (by omega), wj_e]
  generalize hw1 : wj u (pq q 2) U (mk (OfNat.ofNat 8) ((a : Int) - 1)) = w1
  have f1 : FC q [] [] [] [4, 7] [] [] [2, 6] u w1 := by rw [← hw1]; exact FC.wj_q FC.rf (by omega) (by simp)
  have r1 : ∀ i, w1.2.2.2 (pq q 2) i = if i = U then mk 8 ((a : Int) - 1) else u.2.2.2 (pq q 2) i := fun i => by rw [← hw1]; exact wj_row
  have s44 : ∀ (x : MS) (i : Nat) (y : Int64), (wj x (pq q 2) i y).2.2.2 44 = x.2.2.2 44 := fun x i y => if_neg (by unfold pq; omega)
  have q1 : w1.2.2.2 44 = u.2.2.2 44 := by rw [← hw1]; exact s44 _ _ _
  have main : ∀ x : Nat, x < 22 → OK (fun w _ => FC q [] [] [] [4, 7] [] [] [2, 6] u w ∧ (∃ ow2 kd2, PTQ w q n ow2 kd2 Fv P B W (Y + 1)) ∧ w.2.2.2 44 = u.2.2.2 44) (hb_Wl_post_169 N () w1 q (I ((a : Nat) : Int)) (I v3) (I v4) (I ((U : Nat) : Int)) c (pq q 2) (I ((U : Nat) : Int) + I 1) (I 1) (I ((x : Nat) : Int))) := by
    intro x hx
    unfold hb_Wl_post_169
    rw [e_make, bnd_so, I_add, show ((U : Nat) : Int) + 1 = ((U + 1 : Nat) : Int) by omega]
    refine e_in ⟨by omega, by omega⟩ (by decide) (ok_lt.mpr ?_)
    rw [tnI (n := U + 1) rfl (by omega), wj_e]
    generalize hw2 : wj w1 (pq q 2) (U + 1) (mk 1 ((x : Nat) : Int)) = w2
    have f2 : FC q [] [] [] [4, 7] [] [] [2, 6] u w2 := by rw [← hw2]; exact FC.wj_q f1 (by omega) (by simp)
    have r2 : ∀ i, w2.2.2.2 (pq q 2) i = if i = U + 1 then mk 1 ((x : Nat) : Int) else w1.2.2.2 (pq q 2) i := fun i => by rw [← hw2]; exact wj_row
    have q2 : w2.2.2.2 44 = u.2.2.2 44 := by rw [← hw2, s44]; exact q1
    have fin : ∀ (w3 : MS), FC q [] [] [] [4, 7] [] [] [2, 6] u w3 → w3.2.2.2 44 = u.2.2.2 44 → F w3 (pq q 4) = F u (pq q 4) → F w3 (pq q 7) = F u (pq q 7) → w3.2.2.2 (pq q 6) = u.2.2.2 (pq q 6) → (∀ i, ¬ (U ≤ i ∧ i < U + a) → w3.2.2.2 (pq q 2) i = u.2.2.2 (pq q 2) i) → w3.2.2.2 (pq q 2) U = mk 8 ((a : Int) - 1) → (∀ j, 1 ≤ j → j < a - 2 → ¬ isH (w3.2.2.2 (pq q 2) (U + j)) ∧ P (w3.2.2.2 (pq q 2) (U + j))) → OK (fun w _ => FC q [] [] [] [4, 7] [] [] [2, 6] u w ∧ (∃ ow2 kd2, PTQ w q n ow2 kd2 Fv P B W (Y + 1)) ∧ w.2.2.2 44 = u.2.2.2 44) (hb_Wl_post_193 N () w3 q (I ((a : Nat) : Int)) (I v3) (I ((U : Nat) : Int)) c) := by
      intro w3 f3 e44 e4 e7 e6 ho hU0 hmid
      unfold hb_Wl_post_193
      have ea : I ((U : Nat) : Int) + I ((a : Nat) : Int) - 2 = I ((U + (a - 2) : Nat) : Int) := by rw [I_lit (n := 2), I_add, I_sub]; congr 1; show _ - (2 : Int) = _; omega
      have eb : I ((U : Nat) : Int) + I ((a : Nat) : Int) - 1 = I ((U + (a - 1) : Nat) : Int) := by rw [lit1q, I_add, I_sub]; congr 1; omega
      rw [ea, eb, I_lit (n := 4), e_make, bnd_so]
      refine e_in ⟨by omega, by omega⟩ (by decide) (ok_lt.mpr ?_)
      rw [tnI (n := U + (a - 2)) rfl (by omega), wj_e]
      refine e_in ⟨by omega, by omega⟩ (by decide) (ok_lt.mpr ?_)
      rw [tnI (n := U + (a - 1)) rfl (by omega), wj_e]
      generalize hw5 : wj (wj w3 (pq q 2) (U + (a - 2)) (mk (OfNat.ofNat 4) v3)) (pq q 2) (U + (a - 1)) c = w5
      have f5 : FC q [] [] [] [4, 7] [] [] [2, 6] u w5 := by rw [← hw5]; exact FC.wj_q (FC.wj_q f3 (by omega) (by simp)) (by omega) (by simp)
      have r5 : ∀ i, w5.2.2.2 (pq q 2) i = if i = U + (a - 1) then c else if i = U + (a - 2) then mk 4 v3 else w3.2.2.2 (pq q 2) i := fun i => by rw [← hw5, wj_row, wj_row]
      have q5 : w5.2.2.2 44 = u.2.2.2 44 := by rw [← hw5, s44, s44]; exact e44
      have i5 : ∀ k, w5.1 k = w3.1 k := fun k => by rw [← hw5]; rfl
      have j5 : w5.2.2.2 (pq q 6) = u.2.2.2 (pq q 6) := by
        rw [← hw5, ← e6]
        show (if pq q 6 = pq q 2 then _ else if pq q 6 = pq q 2 then _ else w3.2.2.2 (pq q 6)) = _
        rw [if_neg (pq_inj (by decide)), if_neg (pq_inj (by decide))]
      rw [I_lit (n := 5), e_make, bnd_so]
      obtain ⟨ow2, kd2, G1, G2, G3⟩ := around_hp (h2 := w5.2.2.2 (pq q 2)) (U := U) (a := a) (s := s) p.1.2.2 (by omega) ha2 hno gc zc (by omega) (fun i hi => by rw [r5, if_neg (by omega), if_neg (by omega)]; exact ho i hi) (by rw [r5, if_neg (by omega), if_neg (by omega)]; exact hU0) (fun j j1 j2 => by
        rw [r5, if_neg (by omega)]
        by_cases e : U + j = U + (a - 2)
        · rw [if_pos e]
          have := GT_nu (n := n) (ow := ow) (kd := kd) (s := 4) cx (Or.inr (Or.inr rfl)) h3
          rcases this with z | z
          · exact z
          · exact absurd z.1 (nh_mk2 (by omega))
        · rw [if_neg e]; exact hmid j j1 (by omega)) (by rw [r5, if_pos rfl]) hn
      have p5 : PTQ w5 q n ow2 kd2 Fv P B W Y := by
        refine PTQ_cells p ?_ ?_ hn G1 G3
        · refine ⟨f5.1, f5.2.1, f5.2.2.1, f5.2.2.2.1, fun r k hk y => ?_, f5.2.2.2.2.2.1, f5.2.2.2.2.2.2.1, fun r k hk y => ?_⟩
          · by_cases e : r = q
            · subst e
              by_cases e2 : k = 7
              · subst e2
                rw [i5]
                exact Int32.toInt_inj.mp e7
              · exact f5.2.2.2.2.1 r k hk (fun _ => by have := y rfl; simp at this ⊢; omega)
            · exact f5.2.2.2.2.1 r k hk (fun z => absurd z e)
          · by_cases e : r = q
            · subst e
              by_cases e2 : k = 6
              · subst e2; exact j5
              · exact f5.2.2.2.2.2.2.2 r k hk (fun _ => by have := y rfl; simp at this ⊢; omega)
            · exact f5.2.2.2.2.2.2.2 r k hk (fun z => absurd z e)
        · show (w5.1 (pq q 4)).toInt = _
          rw [i5]
          show F w3 (pq q 4) = _
          rw [e4]; exact p.1.1
      refine ok_bnd.mpr (ok_mono (comes_ok (N := N) p5 hY G2) (fun w6 _ hw6 => ok_some.mpr ⟨FC.tr f5 (FC.mo hw6.1 (by simp) (by simp) (by simp) (by simp) (by simp) (by simp) (by simp)), ⟨ow2, kd2, hw6.2.1⟩, by rw [hw6.2.2]; exact q5⟩))
    have at1 : ¬ isH (mk 1 ((x : Nat) : Int)) ∧ P (mk 1 ((x : Nat) : Int)) := ⟨nh_mk2 (by omega), cx.2.2.2.2.2.1 _ (by omega) (by have := cx.2.2.2.1; omega)⟩
    have w2I : ∀ k, w2.1 k = u.1 k := fun k => by rw [← hw2, ← hw1]; rfl
    have w26 : w2.2.2.2 (pq q 6) = u.2.2.2 (pq q 6) := by
      rw [← hw2, ← hw1]
      show (if pq q 6 = pq q 2 then _ else if pq q 6 = pq q 2 then _ else u.2.2.2 (pq q 6)) = _
      rw [if_neg (pq_inj (by decide)), if_neg (pq_inj (by decide))]
    rw [I_lit (n := 5)]
    refine k_eq ⟨by omega, by omega⟩ ⟨by decide, by decide⟩ (fun y5 => ?_) (fun n5 => ?_)
    · have e5 : a = 5 := by have : ((a : Nat) : Int) = 5 := y5; omega
      rw [I_lit (n := 2), e_make, bnd_so, I_add]
      refine e_in ⟨by show 0 ≤ _ + (2 : Int); omega, by show _ + (2 : Int) < _; omega⟩ (by decide) (ok_lt.mpr ?_)
      rw [tnI (n := U + 2) (by show _ + (2 : Int) = _; omega) (by omega), wj_e]
      have r3 : ∀ i, (wj w2 (pq q 2) (U + 2) (mk (OfNat.ofNat 2) v4)).2.2.2 (pq q 2) i = if i = U + 2 then mk 2 v4 else w2.2.2.2 (pq q 2) i := fun i => wj_row
      refine fin _ (FC.wj_q f2 (by omega) (by simp)) (by rw [s44]; exact q2) (by show (w2.1 (pq q 4)).toInt = _; rw [w2I]; rfl) (by show (w2.1 (pq q 7)).toInt = _; rw [w2I]; rfl) ?_ (fun i hi => ?_) ?_ (fun j j1 j2 => ?_)
      · show (if pq q 6 = pq q 2 then _ else w2.2.2.2 (pq q 6)) = _
        rw [if_neg (pq_inj (by decide))]; exact w26
      · rw [r3, if_neg (by omega), r2, if_neg (by omega), r1, if_neg (by omega)]
      · rw [r3, if_neg (by omega), r2, if_neg (by omega), r1, if_pos rfl]
      · rcases (show j = 1 ∨ j = 2 by omega) with rfl | rfl
        · rw [r3, if_neg (by omega), r2, if_pos rfl]; exact at1
        · rw [r3, if_pos rfl]
          have := GT_nu (n := n) (ow := ow) (kd := kd) (s := 2) cx (Or.inr (Or.inl rfl)) h4
          rcases this with z | z
          · exact z
          · exact absurd z.1 (nh_mk2 (by omega))
    · have e4 : a = 4 := by
        rcases ha2 with e | e
        · exact e
        · exact absurd (show ((a : Nat) : Int) = 5 by omega) n5
      refine fin w2 f2 q2 (by show (w2.1 (pq q 4)).toInt = _; rw [w2I]; rfl) (by show (w2.1 (pq q 7)).toInt = _; rw [w2I]; rfl) w26 (fun i hi => ?_) ?_ (fun j j1 j2 => ?_)
      · rw [r2, if_neg (by omega), r1, if_neg (by omega)]
      · rw [r2, if_neg (by omega), r1, if_pos rfl]
      · have : j = 1 := by omega
        subst this
        rw [r2, if_pos rfl]; exact at1
  refine ok_br.mpr ⟨fun _ => main 8 (by omega), fun _ => main 9 (by omega)⟩
end
end
section
set_option maxRecDepth 100000
def SRCc (Fv : Int64 → Int64 → Prop) (P : Int64 → Prop) (PR : Nat) (u : MS) (q : Nat) (t : Int64) (s : Option Nat) : Prop := (s = none ∧ ¬ isH t ∧ P t) ∨ ∃ j n ow kd, s = some j ∧ j < PR ∧ n ≤ 512 ∧ HPc (u.2.2.2 (pq j 2)) n ow kd Fv P ∧ GT n ow kd P t ∧ (j = q → ∃ B W Y, PTQ u q n ow kd Fv P B (W + 1) Y ∧ t = u.2.2.2 (pq q 35) W)
section
variable {Fv : Int64 → Int64 → Prop} {P : Int64 → Prop} {u v w m m2 : MS} {PR N q r n B W Y : Nat} {ow kd : Nat → Nat} {t : Int64} {h h2 : Nat → Int64} {src : Option Nat}
def ST3 (u w : MS) : Prop := ∀ r, (F w (pq r 9) = F u (pq r 9) ∨ F w (pq r 9) = 3) ∧ F u (pq r 7) ≤ F w (pq r 7)
theorem ST3.rf : ST3 u u := fun _ => ⟨Or.inl rfl, Int.le_refl _⟩
theorem ST3.tr (a : ST3 u v) (b : ST3 v w) : ST3 u w := fun r => ⟨by
  rcases (b r).1 with e | e
  · rcases (a r).1 with e2 | e2
    · exact Or.inl (e.trans e2)
    · exact Or.inr (e.trans e2)
  · exact Or.inr e, Int.le_trans (a r).2 (b r).2⟩
theorem ST3.en (a : ST3 u w) (h : F u (pq r 9) = 3) : F w (pq r 9) = 3 := by
  rcases (a r).1 with e | e
  · rw [e]; exact h
  · exact e
theorem ST3.of {gi gl ga ki kl ka kj : List Nat} (f : FC q gi gl ga ki kl ka kj u w) (h9 : 9 ∉ ki) (h7 : 7 ∈ ki → F u (pq q 7) ≤ F w (pq q 7)) : ST3 u w := by
  intro r
  by_cases e : r = q
  · subst e
    refine ⟨Or.inl (f.Fq (by omega) h9), ?_⟩
    by_cases e7 : 7 ∈ ki
    · exact h7 e7
    · rw [f.Fq (by omega) e7]; exact Int.le_refl _
  · exact ⟨Or.inl (f.Fo e (by omega)), by rw [f.Fo e (by omega)]; exact Int.le_refl _⟩
theorem ST3.ends (h3 : F w (pq q 9) = 3) (ho : ∀ r, r ≠ q → F w (pq r 9) = F u (pq r 9)) (f : ∀ r, w.1 (pq r 7) = u.1 (pq r 7)) : ST3 u w := fun r => ⟨by
  by_cases e : r = q
  · exact Or.inr (by rw [e]; exact h3)
  · exact Or.inl (ho r e), by rw [show F w (pq r 7) = F u (pq r 7) from congrArg _ (f r)]; exact Int.le_refl _⟩
theorem bo_s {α β : Type} {j : α} {f : α → Option β} : bo (some j) f = f j := rfl
theorem FC_want (f : FR [pq q 4, pq q 5] [] [] [pq q 2, pq q 3, pq q 33, pq q 35, pq q 6] u w) : FC q [] [] [] [4, 5] [] [] [2, 3, 33, 35, 6] u w := FC.ofq (ki := [4, 5]) (kj := [2, 3, 33, 35, 6]) f (by simp) (by simp)
theorem SMQ_up (s : SMQ u q) (h1 : F w (pq q 15) = F u (pq q 15)) (h2 : F w (pq q 8) = F u (pq q 8)) (h3 : F u (pq q 7) ≤ F w (pq q 7)) (h4 : F u (pq q 9) ≠ 3) : SMQ w q := by
  obtain ⟨s1, s2, s3⟩ := s
  refine ⟨by rw [h1]; exact s1, by rw [h2]; exact s2, fun _ => ?_⟩
  rw [h2]
  have := s3 h4
  omega
theorem post_81 {U a s f0 : Nat} {v3 v4 : Int} {c : Int64} {hs : Nat → Int64} {ns : Nat} {os ks : Nat → Nat} (cx : CTX Fv P u) (p : PTQ u q U ow kd Fv P B W Y) (hY : Y < 30) (hU : U + a + s ≤ 500) (ha : a = 0 ∨ a = 4 ∨ a = 5) (h3 : RG v3) (h4 : RG v4)
    (hsrc : (src = none ∧ ¬ isH c ∧ P c ∧ s = 0) ∨ ∃ j, src = some j ∧ HPc hs ns os ks Fv P ∧ ns ≤ 512 ∧ (∀ i, i < ns → u.2.2.2 (pq j 2) i = hs i) ∧ (j = q → ns ≤ U) ∧ SZc hs ns os ks Fv P f0 c s) (hN : 600 ≤ N) :
    OK (fun w _ => FC q [] [] [] [4, 7] [] [] [2, 6] u w ∧ (∃ n2 ow2 kd2, PTQ w q n2 ow2 kd2 Fv P B W (Y + 1)) ∧ w.2.2.2 44 = u.2.2.2 44) (hb_Wl_post_81 N () u q (I ((a : Nat) : Int)) (I v3) (I v4) src c) := by
  unfold hb_Wl_post_81
  refine ok_lt.mpr ?_
  rw [I_F (k := pq q 4), p.1.1, I_add, wi_e]
  generalize hw1 : wi u (pq q 4) ((U : Int) + (a : Int)) = w1
  have f1 : FC q [] [] [] [4] [] [] [2] u w1 := by rw [← hw1]; exact FC.wi_q FC.rf (by omega) (by simp)
  have e1 : F w1 (pq q 4) = ((U + a : Nat) : Int) := by rw [← hw1, F_wi (by omega) (by omega), if_pos rfl]; omega
  have j1 : w1.2.2.2 = u.2.2.2 := by rw [← hw1]; rfl
  have hole : HPc (w1.2.2.2 (pq q 2)) (U + a) (owH U ow) kd Fv P := by rw [j1]; exact HP_holec a p.1.2.2 (fun _ _ => rfl)
  have p1 : PTQ w1 q (U + a) (owH U ow) kd Fv P B W Y := PTQ_cells p f1 e1 (by omega) hole (fun t gt => GT_hole a gt)
  have hno : ∀ j, j < a → U + j < owH U ow (U + j) := fun j hj => by unfold owH; rw [if_pos (by omega)]; omega
  have cx1 : CTX Fv P w1 := by rw [← hw1]; exact CTX_fr cx (if_neg (by unfold pq; omega)) rfl
  rcases hsrc with ⟨rfl, c1, c2, rfl⟩ | ⟨j, rfl, g, hn, hr, hq, z⟩
  · refine ok_br.mpr ⟨fun _ => ?_, fun y => absurd y (by decide)⟩
    have zc : SZc (w1.2.2.2 (pq q 2)) (U + a) (owH U ow) kd Fv P 1 c 0 := Or.inl ⟨c1, c2, rfl⟩
    refine ok_mono (post_120 (N := N) cx1 p1 hY (by omega) ha hno (Or.inl ⟨c1, c2⟩) zc h3 h4) (fun w _ hw => ?_)
    obtain ⟨f2, ⟨ow2, kd2, p2⟩, q2⟩ := hw
    exact ⟨FC.tr (FC.mo f1 (by simp) (by simp) (by simp) (by simp) (by simp) (by simp) (by simp)) f2, ⟨_, ow2, kd2, p2⟩, by rw [q2, j1]⟩
  · refine ok_br.mpr ⟨fun y => absurd y (by simp), fun _ => ?_⟩
    rw [bo_s]
    refine ok_bnd.mpr (ok_mono (copyIn_ok (N := N) (s0 := U + a) (owd := owH U ow) (kdd := kd) g cx.1 hn (by omega) (fun i hi => by rw [j1]; exact hr i hi) (fun e => by have := (pq_e (by omega) (by omega) e).1; have := hq this; omega) z e1 hole hN) (fun w2 r hw2 => ?_))
    obtain ⟨f2, e2, k2, ow2, kd2, g2, o2, t2, r2, f3, z2⟩ := hw2
    have fc2 : FC q [] [] [] [4] [] [] [2] w1 w2 := FC.ofq (ki := [4]) (kj := [2]) f2 (by simp) (by simp)
    have p2 : PTQ w2 q (U + a + s) ow2 kd2 Fv P B W Y := PTQ_cells p1 fc2 e2 (by omega) g2 t2
    have cx2 : CTX Fv P w2 := CTX_fr cx1 (fc2.1 22 (by omega) (by simp)) (fc2.2.2.1 3 (by omega) (by simp))
    refine ok_mono (post_120 (N := N) cx2 p2 hY rfl ha (fun j hj => by rw [(o2 (U + j) (by omega)).1]; exact hno j hj) r2 z2 h3 h4) (fun w _ hw => ?_)
    obtain ⟨f4, ⟨ow4, kd4, p4⟩, q4⟩ := hw
    have q5 : w2.2.2.2 44 = w1.2.2.2 44 := f2.2.2.2 44 (by simp; unfold pq; omega)
    exact ⟨FC.tr (FC.mo (FC.tr f1 fc2) (by simp) (by simp) (by simp) (by simp) (by simp) (by simp) (by simp)) f4, ⟨_, ow4, kd4, p4⟩, by rw [q4, q5, j1]⟩
theorem post_ok {a : Nat} {v3 v4 : Int} (d : DWc Fv P PR u) (cx : CTX Fv P u) (hq : q < PR) (ha : a = 0 ∨ a = 4 ∨ a = 5) (h3 : RG v3) (h4 : RG v4) (hs : SRCc Fv P PR u q t src) (hN : 3000000 ≤ N) : OK (fun w _ => DWc Fv P PR w ∧ WFR u w ∧ F w 956 = F u 956 ∧ ST3 u w) (hm_Wl_post N u q (I ((a : Nat) : Int)) (I v3) (I v4) t src) := by
  unfold hm_Wl_post hb_Wl_post_0 hb_Wl_post_17
  refine k_F (y := 3) rfl ⟨by decide, by decide⟩ (fun _ => ok_some.mpr ⟨d, WFR.rf, rfl, ST3.rf⟩) (fun hal => ?_)
  obtain ⟨n0, ow0, kd0, B0, W0, Y0, p0⟩ := (d.2 q hq).2.2 hal
  have sm := (d.2 q hq).1
  rw [I_F (k := pq q 7), p0.2.2.2.1.1, I_lit (n := 30)]
  have pb := PTQ_b p0
  refine k_lt ⟨by omega, by omega⟩ ⟨by decide, by decide⟩ (fun hY => ?_) (fun _ => ok_some.mpr ⟨d, WFR.rf, rfl, ST3.rf⟩)
  have hY : ((Y0 : Nat) : Int) < 30 := hY
  have main : ∀ (u1 : MS) (n1 : Nat) (ow1 kd1 : Nat → Nat) (B1 W1 Y1 s f0 : Nat), DWc Fv P PR u1 → CTX Fv P u1 → WFR u u1 → F u1 956 = F u 956 → ST3 u u1 → F u1 (pq q 9) ≠ 3 → SMQ u1 q → PTQ u1 q n1 ow1 kd1 Fv P B1 W1 Y1 → Y1 < 30 → s ≤ 1100 → ((src = none ∧ ¬ isH t ∧ P t ∧ s = 0) ∨ ∃ j ns os ks, src = some j ∧ j < PR ∧ HPc (u1.2.2.2 (pq j 2)) ns os ks Fv P ∧ ns ≤ 512 ∧ SZc (u1.2.2.2 (pq j 2)) ns os ks Fv P f0 t s ∧ (j = q → ns = n1 ∧ os = ow1 ∧ ks = kd1 ∧ 1 ≤ W1 ∧ t = u1.2.2.2 (pq q 35) (W1 - 1))) → OK (fun w _ => DWc Fv P PR w ∧ WFR u w ∧ F w 956 = F u 956 ∧ ST3 u w) (hb_Wl_post_41 N () u1 q (I ((a : Nat) : Int)) (I v3) (I v4) t src (I ((s : Nat) : Int))) := by
    intro u1 n1 ow1 kd1 B1 W1 Y1 s f0 d1 cx1 wf e956 st3 hal1 sm1 p1 hY1 hs1 hsrc
    have pb1 := PTQ_b p1
    unfold hb_Wl_post_41
    rw [I_add]
    refine ok_bnd.mpr (ok_mono (want_ok (N := N) p1 cx1 (by omega) (by omega)) (fun w r hw => ?_))
    obtain ⟨hr, U, ow2, kd2, p2, hU, f2, sB, sW⟩ := hw
    have fc := FC_want f2
    have i2 : ∀ k, k < 100 → k ∉ [4, 5] → F w (pq q k) = F u1 (pq q k) := fun k h1 h2 => fc.Fq h1 h2
    have hal2 : F w (pq q 9) ≠ 3 := by rw [i2 9 (by omega) (by simp)]; exact hal1
    have sm2 : SMQ w q := SMQ_up sm1 (i2 15 (by omega) (by simp)) (i2 8 (by omega) (by simp)) (by rw [i2 7 (by omega) (by simp)]; exact Int.le_refl _) hal1
    have d2 : DWc Fv P PR w := DWc_fc d1 fc hq hal1 hal2 sm2 ⟨U, ow2, kd2, B1, W1, Y1, p2⟩ (by simp) (by simp)
    have w44 : w.2.2.2 44 = u1.2.2.2 44 := f2.2.2.2 44 (by simp; unfold pq; omega)
    have wf2 : WFR u w := WFR.tr wf (fc.W (by simp) (by simp) (by simp) (by simp) (by simp) (by simp) w44)
    have e9562 : F w 956 = F u 956 := by rw [fc.Fg (by omega) (by simp)]; exact e956
    have st2 : ST3 u w := ST3.tr st3 (ST3.of fc (by simp) (by simp))
    have cx2 : CTX Fv P w := CTX_fr cx1 (fc.1 22 (by omega) (by simp)) (fc.2.2.1 3 (by omega) (by simp))
    rcases hr with rfl | rfl
    · refine ok_br.mpr ⟨fun _ => ?_, fun y => absurd y (by decide)⟩
      refine ok_bnd.mpr (ok_mono (endsBy_ok (N := N) (a := 20) d2 cx2 hq hal2 (by omega)) (fun w3 _ hw3 => ok_some.mpr ?_))
      obtain ⟨k1, k2, k3, k4, k5, k6, k7⟩ := hw3
      exact ⟨k1, WFR.tr wf2 k2, by rw [k5]; exact e9562, ST3.tr st2 (ST3.ends k3 k4 k7)⟩
    · refine ok_br.mpr ⟨fun y => absurd y (by decide), fun _ => ?_⟩
      have hU := hU rfl
      have hUn := p2.1.2.1
      have fin : ∀ (c : Int64) (hs2 : Nat → Int64) (ns : Nat) (os ks : Nat → Nat), ((src = none ∧ ¬ isH c ∧ P c ∧ s = 0) ∨ ∃ j, src = some j ∧ HPc hs2 ns os ks Fv P ∧ ns ≤ 512 ∧ (∀ i, i < ns → w.2.2.2 (pq j 2) i = hs2 i) ∧ (j = q → ns ≤ U) ∧ SZc hs2 ns os ks Fv P f0 c s) → OK (fun w _ => DWc Fv P PR w ∧ WFR u w ∧ F w 956 = F u 956 ∧ ST3 u w) (hb_Wl_post_81 N () w q (I ((a : Nat) : Int)) (I v3) (I v4) src c) := by
        intro c hs2 ns os ks hc
        refine ok_mono (post_81 (N := N) (f0 := f0) (hs := hs2) (ns := ns) (os := os) (ks := ks) (s := s) cx2 p2 hY1 (by omega) ha h3 h4 hc (by omega)) (fun w3 _ hw3 => ?_)
        obtain ⟨f3, ⟨n3, ow3, kd3, p3⟩, q3⟩ := hw3
        have hal3 : F w3 (pq q 9) ≠ 3 := by rw [f3.Fq (by omega) (by simp)]; exact hal2
        have sm3 : SMQ w3 q := SMQ_up sm2 (f3.Fq (by omega) (by simp)) (f3.Fq (by omega) (by simp)) (by rw [p3.2.2.2.1.1, p2.2.2.2.1.1]; omega) hal2
        refine ⟨DWc_fc d2 f3 hq hal2 hal3 sm3 ⟨n3, ow3, kd3, B1, W1, Y1 + 1, p3⟩ (by simp) (by simp), WFR.tr wf2 (f3.W (by simp) (by simp) (by simp) (by simp) (by simp) (by simp) q3), by rw [f3.Fg (by omega) (by simp)]; exact e9562, ST3.tr st2 (ST3.of f3 (by simp) (fun _ => by rw [p3.2.2.2.1.1, p2.2.2.2.1.1]; omega))⟩
      rcases hsrc with ⟨rfl, c1, c2, c3⟩ | ⟨j, ns, os, ks, rfl, hj, g, hns, z, hjq⟩
      · refine ok_br.mpr ⟨fun y => absurd y (by simp), fun _ => ?_⟩
        exact fin t (fun _ => 0) 0 (fun _ => 0) (fun _ => 0) (Or.inl ⟨rfl, c1, c2, c3⟩)
      · refine ok_br.mpr ⟨fun y => ?_, fun y => ?_⟩
        · have ejq : j = q := by have := of_decide_eq_true y; injection this
          obtain ⟨rfl, rfl, rfl, hW, rfl⟩ := hjq ejq
          subst ejq
          have eW : F w (pq j 26) = ((W1 : Nat) : Int) := p2.2.2.1.1
          have hb : hm_Fr_below N w j 0 = some (w, w.2.2.2 (pq j 35) (W1 - 1)) := by
            unfold hm_Fr_below hb_Fr_below_0 hb_Fr_below_23
            obtain ⟨l2, b1, b2, b3⟩ := p2.2.2.2.2.2.1
            rw [I_F (k := pq j 26), eW, lit0q, lit1q, I_sub, I_sub, decI (by decide) (by decide) (by omega) (by omega), decide_eq_true (by omega), br_tq, lnQ_e b1, (I_inb (by omega) (by omega)).mpr ⟨by omega, by omega⟩, ck_t, tnI (n := W1 - 1) (by omega) (by omega)]
          rw [hb, bnd_so]
          have sl := sW (W1 - 1) (by omega)
          exact fin _ (w.2.2.2 (pq j 2)) U ow2 kd2 (Or.inr ⟨j, rfl, p2.1.2.2, by omega, fun _ _ => rfl, fun _ => Nat.le_refl _, sl.2.2 f0 s z⟩)
        · have ejq : j ≠ q := fun e => of_decide_eq_false y (by rw [e])
          refine fin t (u1.2.2.2 (pq j 2)) ns os ks (Or.inr ⟨j, rfl, g, hns, fun i _ => by rw [fc.jo ejq (by omega)], fun e => absurd e ejq, z⟩)
  rcases hs with ⟨rfl, c1, c2⟩ | ⟨j, ns, os, ks, rfl, hj, hns, g, gt, hjq⟩
  · refine ok_br.mpr ⟨fun _ => ?_, fun y => absurd y (by decide)⟩
    rw [lit0q, show (0 : Int) = ((0 : Nat) : Int) from rfl]
    exact main u n0 ow0 kd0 B0 W0 Y0 0 0 d cx WFR.rf rfl ST3.rf hal sm p0 (by omega) (by omega) (Or.inl ⟨rfl, c1, c2, rfl⟩)
  · refine ok_br.mpr ⟨fun y => absurd y (by simp), fun _ => ?_⟩
    obtain ⟨f0, s, z⟩ := HP_szc g gt
    have hsm := SZ_max g z
    rw [bo_s]
    refine ok_bnd.mpr (ok_mono (size_ok (N := N) (b := pq j 2) (by unfold pq; omega) rfl hns cx.1.1 (by omega) z (by omega)) (fun w r hw => ?_))
    obtain ⟨f1, rfl⟩ := hw
    have fc : FC q [] [] [] [] [] [] [] u w := FC.of f1 (by simp) (by simp) (by simp) (by simp)
    have row : ∀ r k, k < 100 → w.2.2.2 (pq r k) = u.2.2.2 (pq r k) := fun r k hk => fc.2.2.2.2.2.2.2 r k hk (by simp)
    have int : ∀ r k, k < 100 → w.1 (pq r k) = u.1 (pq r k) := fun r k hk => fc.2.2.2.2.1 r k hk (by simp)
    have hal1 : F w (pq q 9) ≠ 3 := by rw [fc.Fq (by omega) (by simp)]; exact hal
    have sm1 : SMQ w q := SMQ_up sm (fc.Fq (by omega) (by simp)) (fc.Fq (by omega) (by simp)) (by rw [fc.Fq (by omega) (by simp)]; exact Int.le_refl _) hal
    have pw : ∀ {n1 ow1 kd1 B1 W1 Y1}, PTQ u q n1 ow1 kd1 Fv P B1 W1 Y1 → PTQ w q n1 ow1 kd1 Fv P B1 W1 Y1 := fun p => PTQ_same p (fun k hk => int q k (by simp at hk; omega)) (fun k hk => row q k (by simp at hk; omega))
    have d1 : DWc Fv P PR w := DWc_fc d fc hq hal hal1 sm1 ⟨n0, ow0, kd0, B0, W0, Y0, pw p0⟩ (by simp) (by simp)
    have cx1 : CTX Fv P w := CTX_fr cx (fc.1 22 (by omega) (by simp)) (fc.2.2.1 3 (by omega) (by simp))
    have wf : WFR u w := fc.W (by simp) (by simp) (by simp) (by simp) (by simp) (by simp) (FRj f1 (by simp))
    have st : ST3 u w := ST3.of fc (by simp) (by simp)
    by_cases ejq : j = q
    · obtain ⟨B2, W2, Y2, p2, et⟩ := hjq ejq
      subst ejq
      have eY : Y2 = Y0 := by have a := p2.2.2.2.1.1; have b := p0.2.2.2.1.1; omega
      exact main w ns os ks B2 (W2 + 1) Y2 s f0 d1 cx1 wf (fc.Fg (by omega) (by simp)) st hal1 sm1 (pw p2) (by omega) (by omega) (Or.inr ⟨j, ns, os, ks, rfl, hj, by rw [row j 2 (by omega)]; exact g, hns, by rw [row j 2 (by omega)]; exact z, fun _ => ⟨rfl, rfl, rfl, by omega, by rw [row j 35 (by omega)]; exact et⟩⟩)
    · exact main w n0 ow0 kd0 B0 W0 Y0 s f0 d1 cx1 wf (fc.Fg (by omega) (by simp)) st hal1 sm1 (pw p0) (by omega) (by omega) (Or.inr ⟨j, ns, os, ks, rfl, hj, by rw [row j 2 (by omega)]; exact g, hns, by rw [row j 2 (by omega)]; exact z, fun e => absurd e ejq⟩)
end
end
section
set_option maxRecDepth 100000
section
variable {Fv : Int64 → Int64 → Prop} {P : Int64 → Prop} {u v w m m2 : MS} {PR N q r n B W Y : Nat} {ow kd : Nat → Nat} {t : Int64} {h h2 : Nat → Int64} {src : Option Nat} {gi gl ga ki kl ka kj : List Nat}
theorem DWc_gl2 (d : DWc Fv P PR u) (f : FC q gi gl ga ki kl ka [] u w) (hki : ∀ k, k ∈ [4, 7, 9, 17, 24, 26, 43, 45] → k ∉ ki) (hkl : 16 ∉ kl) (hs : q < PR → SMQ w q) (hg : ∀ k, k ∈ [942, 955] → k ∉ gi) (h950 : 0 ≤ F w 950 ∧ F w 950 ≤ 200) (h956 : 0 ≤ F w 956 ∧ F w 956 ≤ F u 955) (hga : ∀ k, k ∈ [1948, 54] → k ∉ ga) (h53 : (0 ≤ F w 953 ∧ F w 953 ≤ 200) ∧ ∀ i : Nat, (i : Int) < F w 953 → 0 ≤ A w 53 i ∧ A w 53 i ≤ 100) : DWc Fv P PR w := by
  obtain ⟨⟨⟨g11, g12⟩, g13, g14, ⟨g15, g16⟩, g17, g18, g19⟩, d2⟩ := d
  have i9 : ∀ r k, k ∈ [4, 7, 9, 17, 24, 26, 43, 45] → w.1 (pq r k) = u.1 (pq r k) := fun r k hk => f.2.2.2.2.1 r k (by simp at hk; omega) (fun _ => hki k hk)
  have f9 : ∀ r k, k ∈ [4, 7, 9, 17, 24, 26, 43, 45] → F w (pq r k) = F u (pq r k) := fun r k hk => congrArg _ (i9 r k hk)
  have st : ∀ r, F w (pq r 9) = F u (pq r 9) := fun r => f9 r 9 (by simp)
  have gF : ∀ k, k ∈ [942, 955] → F w k = F u k := fun k hk => f.Fg (by simp at hk; omega) (hg k hk)
  have gA : ∀ k i, k ∈ [1948, 54] → A w k i = A u k i := fun k i hk => f.ag (by simp at hk; omega) (hga k hk)
  have hce : cEc w PR = cEc u PR := cEc_eq PR (fun r _ => st r)
  have rj : ∀ r k, k < 100 → w.2.2.2 (pq r k) = u.2.2.2 (pq r k) := fun r k hk => f.2.2.2.2.2.2.2 r k hk (by simp)
  have rl : ∀ r, w.2.1 (pq r 16) = u.2.1 (pq r 16) := fun r => f.2.2.2.2.2.1 r 16 (by omega) (fun _ => hkl)
  refine ⟨⟨⟨by rw [gF 942 (by simp)]; exact g11, g12⟩, fun r hr => by rw [f.2.2.1 1948 (by omega) (hga 1948 (by simp))]; exact g13 r hr, h950, ⟨by rw [gF 955 (by simp), hce]; exact g15, by rw [gF 955 (by simp)]; exact h956⟩, fun i hi => ?_, h53⟩, fun r hr => ?_⟩
  · rw [gF 955 (by simp)] at hi
    obtain ⟨r, r1, r2, r3⟩ := g17 i hi
    exact ⟨r, by rw [gA 54 i (by simp)]; exact r1, r2, by rw [st]; exact r3⟩
  · obtain ⟨s1, s2, s3⟩ := d2 r hr
    refine ⟨?_, fun z => ?_, fun z => ?_⟩
    · by_cases e : r = q
      · rw [e]; exact hs (e ▸ hr)
      · unfold SMQ
        rw [f.Fo e (by omega), f.Fo e (by omega), f.Fo e (by omega), f.Fo e (by omega)]; exact s1
    · rw [st] at z
      obtain ⟨hq2, n, ow, kd, e1, e2, e3, e4, e5, e6⟩ := s2 z
      exact ⟨hq2, n, ow, kd, by rw [i9 r 17 (by simp)]; exact e1, e2, by rw [st]; exact e3, e4, by rw [rj hq2 2 (by omega)]; exact e5, by rw [rl]; exact e6⟩
    · rw [st] at z
      obtain ⟨n, ow, kd, B, W, Y, p⟩ := s3 z
      exact ⟨n, ow, kd, B, W, Y, PTQ_same p (fun k hk => i9 r k (by simp at hk ⊢; omega)) (fun k hk => rj r k (by simp at hk; omega))⟩
theorem DWc_gl (d : DWc Fv P PR u) (f : FC q gi gl ga ki kl ka [] u w) (hki : ∀ k, k ∈ [4, 7, 9, 17, 24, 26, 43, 45] → k ∉ ki) (hkl : 16 ∉ kl) (hs : q < PR → SMQ w q) (hg : ∀ k, k ∈ [942, 953, 955] → k ∉ gi) (h950 : 0 ≤ F w 950 ∧ F w 950 ≤ 200) (h956 : 0 ≤ F w 956 ∧ F w 956 ≤ F u 955) (hga : ∀ k, k ∈ [1948, 53, 54] → k ∉ ga) : DWc Fv P PR w := by
  have g18 := d.1.2.2.2.2.2
  have e1 : F w 953 = F u 953 := f.Fg (by omega) (hg 953 (by simp))
  have e2 : ∀ i, A w 53 i = A u 53 i := fun i => f.ag (by omega) (hga 53 (by simp))
  refine DWc_gl2 d f hki hkl hs (fun k hk => hg k (by simp at hk ⊢; omega)) h950 h956 (fun k hk => hga k (by simp at hk ⊢; omega)) ?_
  rw [e1]; simp only [e2]; exact g18
def WQ (Fv : Int64 → Int64 → Prop) (P : Int64 → Prop) (PR : Nat) (u w : MS) : Prop := DWc Fv P PR w ∧ WFR u w ∧ ST3 u w
theorem WQ.tr (a : WQ Fv P PR u v) (b : WQ Fv P PR v w) : WQ Fv P PR u w := ⟨b.1, WFR.tr a.2.1 b.2.1, ST3.tr a.2.2 b.2.2⟩
theorem WQ.rf (d : DWc Fv P PR u) : WQ Fv P PR u u := ⟨d, WFR.rf, ST3.rf⟩
theorem findc_ok {x : Int} (g : GLQ PR u) (hx : RG x) : OK (fun w r => w = u ∧ ∀ j, r = some j → j < PR) (hm_Wl_find N u (I x)) := by
  obtain ⟨⟨g1, g1b⟩, g2, -⟩ := g
  unfold hm_Wl_find hb_Wl_find_0 hb_Wl_find_12 hb_Wl_find_22
  rw [lit0q, I_F (k := 942), g1]
  refine k_lt hx ⟨by decide, by decide⟩ (fun _ => ok_some.mpr ⟨rfl, fun _ z => by cases z⟩) (fun h0 => ?_)
  refine k_lt hx ⟨by omega, by omega⟩ (fun h1 => ?_) (fun _ => ok_some.mpr ⟨rfl, fun _ z => by cases z⟩)
  refine e_in ⟨h0, by omega⟩ (by decide) (ok_some.mpr ⟨rfl, fun j hj => ?_⟩)
  rw [tnI (n := x.toNat) (by omega) (by omega), g2 x.toNat (by omega)] at hj
  injection hj with hj
  omega
theorem findc_at {j : Nat} (g : GLQ PR u) (hj : j < PR) : hm_Wl_find N u (I ((j : Nat) : Int)) = some (u, some j) := by
  obtain ⟨⟨g1, g1b⟩, g2, -⟩ := g
  unfold hm_Wl_find hb_Wl_find_0 hb_Wl_find_12 hb_Wl_find_22
  rw [lit0q, I_F (k := 942), g1, decL (by omega) (by omega) (by decide) (by decide), decide_eq_false (by omega), br_fq, decL (by omega) (by omega) (by omega) (by omega), decide_eq_true (by omega), br_tq, (I_inb (by omega) (by omega)).mpr ⟨by omega, by omega⟩, ck_t, tnI (n := j) rfl (by omega), g2 j hj]
theorem namedc_ok {x : Int} (g : GLQ PR u) (hx : RG x) (hN : 100 ≤ N) : OK (fun w r => w = u ∧ ∀ j, r = some j → j < PR ∧ F u (pq j 9) ≠ 3) (hm_Wl_named N u (I x)) := by
  obtain ⟨⟨g1, g1b⟩, g2, -⟩ := g
  unfold hm_Wl_named hb_Wl_named_0
  have gen : ∀ (M i : Nat), i ≤ PR → PR - i < M → OK (fun w r => w = u ∧ ∀ j, r = some j → j < PR ∧ F u (pq j 9) ≠ 3) (hg_Wl_named N M u (I x) (I ((i : Nat) : Int))) := by
    intro M
    induction M with
    | zero => intro i _ h; omega
    | succ M ih =>
      intro i hi hM
      show OK _ (hb_Wl_named_2 N (hg_Wl_named N M) u (I x) (I ((i : Nat) : Int)))
      unfold hb_Wl_named_2 hb_Wl_named_39
      rw [I_F (k := 942), g1]
      refine k_le ⟨by omega, by omega⟩ ⟨by omega, by omega⟩ (fun _ => ok_some.mpr ⟨rfl, fun _ z => by cases z⟩) (fun h1 => ?_)
      refine e_in ⟨by omega, by omega⟩ (by decide) ?_
      have nx : OK (fun w r => w = u ∧ ∀ j, r = some j → j < PR ∧ F u (pq j 9) ≠ 3) (hg_Wl_named N M u (I x) (I ((i : Nat) : Int) + 1)) := by
        rw [lit1q, I_add, show ((i : Nat) : Int) + 1 = ((i + 1 : Nat) : Int) by omega]
        exact ih (i + 1) (by omega) (by omega)
      rw [tnI (n := i) rfl (by omega), g2 i (by omega)]
      refine ok_br.mpr ⟨fun z => absurd z (by simp), fun _ => ?_⟩
      rw [bo_s, I_F (k := pq i 12)]
      refine k_eq (FRG1 u _) hx (fun _ => ?_) (fun _ => nx)
      exact k_F (y := 3) rfl ⟨by decide, by decide⟩ (fun _ => nx) (fun z => ok_some.mpr ⟨rfl, fun j hj => by injection hj with hj; subst hj; exact ⟨by omega, z⟩⟩)
  rw [lit0q, show (0 : Int) = ((0 : Nat) : Int) from rfl]
  exact gen N 0 (by omega) (by omega)
theorem seekLink_ok {x : Int} (hl : 0 ≤ F u (pq q 15) ∧ F u (pq q 15) ≤ 24) (hx : RG x) (hN : 100 ≤ N) : OK (fun w r => w = u ∧ (r = I (-1) ∨ ∃ i : Nat, r = I ((i : Nat) : Int) ∧ (i : Int) < F u (pq q 15))) (hm_Pr_seekLink N u q (I x)) := by
  unfold hm_Pr_seekLink hb_Pr_seekLink_0
  have gen : ∀ (M i : Nat), i ≤ 24 → 24 - i < M → OK (fun w r => w = u ∧ (r = I (-1) ∨ ∃ i : Nat, r = I ((i : Nat) : Int) ∧ (i : Int) < F u (pq q 15))) (hg_Pr_seekLink N M u q (I x) (I ((i : Nat) : Int))) := by
    intro M
    induction M with
    | zero => intro i _ h; omega
    | succ M ih =>
      intro i hi hM
      show OK _ (hb_Pr_seekLink_2 N (hg_Pr_seekLink N M) u q (I x) (I ((i : Nat) : Int)))
      unfold hb_Pr_seekLink_2
      rw [I_F (k := pq q 15)]
      refine k_le (FRG1 u _) ⟨by omega, by omega⟩ (fun _ => ok_some.mpr ⟨rfl, Or.inl rfl⟩) (fun h1 => ?_)
      refine e_in ⟨by omega, by omega⟩ (by decide) ?_
      rw [I_A (k := pq q 14)]
      refine k_eq (ARG1 u _ _) hx (fun _ => ok_some.mpr ⟨rfl, Or.inr ⟨i, rfl, h1⟩⟩) (fun _ => ?_)
      rw [lit1q, I_add, show ((i : Nat) : Int) + 1 = ((i + 1 : Nat) : Int) by omega]
      exact ih (i + 1) (by omega) (by omega)
  rw [lit0q, show (0 : Int) = ((0 : Nat) : Int) from rfl]
  exact gen N 0 (by omega) (by omega)
theorem WQ_lk (d : DWc Fv P PR u) (hq : q < PR) (f : FC q [] [] [] [15] [] [14] [] u w) (hl : 0 ≤ F w (pq q 15) ∧ F w (pq q 15) ≤ 24) (h44 : w.2.2.2 = u.2.2.2) : WQ Fv P PR u w := by
  have s := (d.2 q hq).1
  have g14 := d.1.2.2.1
  have g16 := d.1.2.2.2.1.2
  refine ⟨DWc_gl d f (by simp) (by simp) (fun _ => ⟨hl, ?_⟩) (by simp) ?_ ?_ (by simp), f.W (by simp) (by simp) (by simp) (by simp) (by simp) (by simp) (by rw [h44]), ST3.of f (by simp) (by simp)⟩
  · rw [f.Fq (by omega) (by simp), f.Fq (by omega) (by simp), f.Fq (by omega) (by simp)]; exact s.2
  · rw [f.Fg (by omega) (by simp)]; exact g14
  · rw [f.Fg (by omega) (by simp)]; exact g16
theorem addLinkc_ok {x : Int} (d : DWc Fv P PR u) (hq : q < PR) : OK (fun w _ => WQ Fv P PR u w ∧ F w 956 = F u 956 ∧ FC q [] [] [] [15] [] [14] [] u w) (hm_Pr_addLink N u q (I x)) := by
  have s := (d.2 q hq).1.1
  unfold hm_Pr_addLink hb_Pr_addLink_0 hb_Pr_addLink_29
  rw [I_F (k := pq q 15), I_lit (n := 24)]
  refine k_le ⟨by decide, by decide⟩ (FRG1 u _) (fun _ => ok_some.mpr ⟨WQ.rf d, rfl, FC.rf⟩) (fun h1 => ?_)
  have h1 : F u (pq q 15) < 24 := h1
  refine e_in ⟨s.1, by omega⟩ (by decide) (ok_lt.mpr (ok_lt.mpr (ok_some.mpr ?_)))
  rw [tnI (n := (F u (pq q 15)).toNat) (by omega) (by omega), wa_e]
  rw [show (wa u (pq q 14) (F u (pq q 15)).toNat x).1 (pq q 15) = I (F u (pq q 15)) from I_F, lit1q, I_add, wi_e]
  generalize hz : wi (wa u (pq q 14) (F u (pq q 15)).toNat x) (pq q 15) (F u (pq q 15) + 1) = z
  have f : FC q [] [] [] [15] [] [14] [] u z := by rw [← hz]; exact FC.wi_q (FC.wa_q FC.rf (by omega) (by simp)) (by omega) (by simp)
  have e : F z (pq q 15) = F u (pq q 15) + 1 := by rw [← hz, F_wi (by omega) (by omega), if_pos rfl]
  exact ⟨WQ_lk d hq f (by omega) (by rw [← hz]; rfl), f.Fg (by omega) (by simp), f⟩
theorem removeLinkc_ok {x : Int} (d : DWc Fv P PR u) (hq : q < PR) (hx : RG x) (hN : 100 ≤ N) : OK (fun w _ => WQ Fv P PR u w ∧ F w 956 = F u 956 ∧ FC q [] [] [] [15] [] [14] [] u w) (hm_Pr_removeLink N u q (I x)) := by
  have s := (d.2 q hq).1.1
  unfold hm_Pr_removeLink hb_Pr_removeLink_0 hb_Pr_removeLink_44
  refine ok_bnd.mpr (ok_mono (seekLink_ok (N := N) s hx hN) (fun w r hw => ?_))
  obtain ⟨rfl, rfl | ⟨i, rfl, hi⟩⟩ := hw
  · exact ok_br.mpr ⟨fun _ => ok_some.mpr ⟨WQ.rf d, rfl, FC.rf⟩, fun z => absurd z (by decide)⟩
  · rw [m1I]
    refine k_eq ⟨by omega, by omega⟩ ⟨by decide, by decide⟩ (fun z => absurd z (by omega)) (fun _ => ?_)
    rw [I_F (k := pq q 15), lit1q, I_add, I_sub, I_sub]
    refine e_cp ⟨by omega, by omega, by omega, by omega, by omega⟩ (by decide) (by decide) (ok_lt.mpr (ok_lt.mpr (ok_some.mpr ?_)))
    generalize va_cpy _ _ _ _ _ = g
    rw [show (upA w (pq q 14) g).1 (pq q 15) = I (F w (pq q 15)) from I_F, I_sub, wi_e]
    generalize hz : wi (upA w (pq q 14) g) (pq q 15) (F w (pq q 15) - 1) = z
    have f : FC q [] [] [] [15] [] [14] [] w z := by rw [← hz]; exact FC.wi_q (FC.A_q FC.rf (by omega) (by simp)) (by omega) (by simp)
    have e : F z (pq q 15) = F w (pq q 15) - 1 := by rw [← hz, F_wi (by omega) (by omega), if_pos rfl]
    exact ⟨WQ_lk d hq f (by omega) (by rw [← hz]; rfl), f.Fg (by omega) (by simp), f⟩
theorem WQ_wt (d : DWc Fv P PR u) (f : FC 0 [950] [] [49, 50, 51] [] [] [] [] u w) (hl : 0 ≤ F w 950 ∧ F w 950 ≤ 200) (h44 : w.2.2.2 = u.2.2.2) : WQ Fv P PR u w := by
  have g16 := d.1.2.2.2.1.2
  refine ⟨DWc_gl d f (by simp) (by simp) (fun h0 => ?_) (by simp) hl ?_ (by simp), f.W (by simp) (by simp) (by simp) (by simp) (by simp) (by simp) (by rw [h44]), ST3.of f (by simp) (by simp)⟩
  · unfold SMQ
    rw [f.Fq (by omega) (by simp), f.Fq (by omega) (by simp), f.Fq (by omega) (by simp), f.Fq (by omega) (by simp)]; exact (d.2 0 h0).1
  · rw [f.Fg (by omega) (by simp)]; exact g16
theorem keepWatch_ok {a b : Int} (ha : 0 ≤ a ∧ a < 200) (hb : 0 ≤ b ∧ b < 200) : OK (fun w _ => FC 0 [] [] [49, 50, 51] [] [] [] [] u w ∧ w.2.2.2 = u.2.2.2 ∧ ∀ i : Nat, b < (i : Int) → A w 49 i = A u 49 i ∧ A w 50 i = A u 50 i) (hm_Wl_keepWatch N u (I a) (I b)) := by
  unfold hm_Wl_keepWatch hb_Wl_keepWatch_0
  refine e_in ⟨ha.1, by omega⟩ (by decide) (e_in ⟨hb.1, by omega⟩ (by decide) (ok_lt.mpr (e_in ⟨ha.1, by omega⟩ (by decide) (e_in ⟨hb.1, by omega⟩ (by decide) (ok_lt.mpr (e_in ⟨ha.1, by omega⟩ (by decide) (e_in ⟨hb.1, by omega⟩ (by decide) (ok_lt.mpr (ok_some.mpr ⟨FC.A_g (FC.A_g (FC.A_g FC.rf (by omega) (by simp)) (by omega) (by simp)) (by omega) (by simp), rfl, fun i hi => ⟨?_, ?_⟩⟩)))))))))
  · have : i ≠ (I b).toNatClampNeg := by rw [tnI (n := b.toNat) (by omega) (by omega)]; omega
    show (upd (u.2.2.1 49) _ _ i).toInt = _
    unfold upd
    rw [if_neg this]; rfl
  · have : i ≠ (I b).toNatClampNeg := by rw [tnI (n := b.toNat) (by omega) (by omega)]; omega
    show (upd (u.2.2.1 50) _ _ i).toInt = _
    unfold upd
    rw [if_neg this]; rfl
theorem removeWatchc_ok {x y : Int} (d : DWc Fv P PR u) (hx : RG x) (hy : RG y) (hN : 300 ≤ N) : OK (fun w _ => WQ Fv P PR u w ∧ F w 956 = F u 956) (hm_Wl_removeWatch N u (I x) (I y)) := by
  have s := d.1.2.2.1
  unfold hm_Wl_removeWatch hb_Wl_removeWatch_0
  have gen : ∀ (M i k : Nat) (w : MS), i ≤ 200 → 200 - i < M → k ≤ i → FC 0 [] [] [49, 50, 51] [] [] [] [] u w → w.2.2.2 = u.2.2.2 → OK (fun w _ => WQ Fv P PR u w ∧ F w 956 = F u 956) (hg_Wl_removeWatch N M w (I x) (I y) (I ((k : Nat) : Int)) (I ((i : Nat) : Int))) := by
    intro M
    induction M with
    | zero => intro i _ _ _ h; omega
    | succ M ih =>
      intro i k w hi hM hk f hj
      show OK _ (hb_Wl_removeWatch_5 N (hg_Wl_removeWatch N M) w (I x) (I y) (I ((k : Nat) : Int)) (I ((i : Nat) : Int)))
      unfold hb_Wl_removeWatch_5 hb_Wl_removeWatch_36 hb_Wl_removeWatch_46
      have e : F w 950 = F u 950 := f.Fg (by omega) (by simp)
      rw [I_F (k := 950), e]
      refine k_le (FRG1 u _) ⟨by omega, by omega⟩ (fun hh => ok_lt.mpr (ok_some.mpr ?_)) (fun h1 => ?_)
      · rw [wi_e]
        have f2 : FC 0 [950] [] [49, 50, 51] [] [] [] [] u (wi w 950 ((k : Nat) : Int)) := FC.wi_g (FC.mo f (by simp) (by simp) (by simp) (by simp) (by simp) (by simp) (by simp)) (by omega) (by simp)
        refine ⟨WQ_wt d f2 ?_ hj, f2.Fg (by omega) (by simp)⟩
        rw [F_wi (by omega) (by omega), if_pos rfl]; omega
      · refine e_in ⟨by omega, by omega⟩ (by decide) ?_
        rw [tnI (n := i) rfl (by omega)]
        have nx : ∀ (w2 : MS) (k2 : Nat), k2 ≤ i + 1 → FC 0 [] [] [49, 50, 51] [] [] [] [] u w2 → w2.2.2.2 = u.2.2.2 → OK (fun w _ => WQ Fv P PR u w ∧ F w 956 = F u 956) (hg_Wl_removeWatch N M w2 (I x) (I y) (I ((k2 : Nat) : Int)) (I ((i : Nat) : Int) + 1)) := by
          intro w2 k2 hk2 f2 hj2
          rw [lit1q, I_add, show ((i : Nat) : Int) + 1 = ((i + 1 : Nat) : Int) by omega]
          exact ih (i + 1) k2 w2 (by omega) (by omega) (by omega) f2 hj2
        have kp : OK (fun w _ => WQ Fv P PR u w ∧ F w 956 = F u 956) (bnd (hm_Wl_keepWatch N w (I ((i : Nat) : Int)) (I ((k : Nat) : Int))) (fun u1 _ => hg_Wl_removeWatch N M u1 (I x) (I y) (I ((k : Nat) : Int) + 1) (I ((i : Nat) : Int) + 1))) := by
          refine ok_bnd.mpr (ok_mono (keepWatch_ok (N := N) ⟨by omega, by omega⟩ ⟨by omega, by omega⟩) (fun w2 _ hw => ?_))
          rw [lit1q, I_add (x := ((k : Nat) : Int)), show ((k : Nat) : Int) + 1 = ((k + 1 : Nat) : Int) by omega, ← lit1q]
          exact nx w2 (k + 1) (by omega) (FC.tr f hw.1) (hw.2.1.trans hj)
        rw [I_A (k := 49)]
        refine k_eq (ARG1 w _ _) hx (fun _ => ?_) (fun _ => kp)
        refine e_in ⟨by omega, by omega⟩ (by decide) ?_
        rw [I_A (k := 51)]
        exact k_eq (ARG1 w _ _) hy (fun _ => nx w k (by omega) f hj) (fun _ => kp)
  rw [lit0q, show (0 : Int) = ((0 : Nat) : Int) from rfl]
  exact gen N 0 0 u (by omega) (by omega) (by omega) FC.rf rfl
theorem addWatchc_ok {x y z : Int} (d : DWc Fv P PR u) : OK (fun w _ => WQ Fv P PR u w ∧ F w 956 = F u 956) (hm_Wl_addWatch N u (I x) (I y) (I z)) := by
  have s := d.1.2.2.1
  unfold hm_Wl_addWatch hb_Wl_addWatch_0 hb_Wl_addWatch_50
  have e : u.1 950 = I (F u 950) := I_F
  rw [e, I_lit (n := 200)]
  refine k_le ⟨by decide, by decide⟩ (FRG1 u _) (fun _ => ok_some.mpr ⟨WQ.rf d, rfl⟩) (fun h1 => ?_)
  have h1 : F u 950 < 200 := h1
  refine e_in ⟨s.1, by omega⟩ (by decide) (ok_lt.mpr ?_)
  generalize hw1 : upA u 49 _ = w1
  have f1 : FC 0 [950] [] [49, 50, 51] [] [] [] [] u w1 := by rw [← hw1]; exact FC.A_g FC.rf (by omega) (by simp)
  have i1 : w1.1 = u.1 := by rw [← hw1]; rfl
  have j1 : w1.2.2.2 = u.2.2.2 := by rw [← hw1]; rfl
  rw [i1, e]
  refine e_in ⟨s.1, by omega⟩ (by decide) (ok_lt.mpr ?_)
  generalize hw2 : upA w1 50 _ = w2
  have f2 : FC 0 [950] [] [49, 50, 51] [] [] [] [] u w2 := by rw [← hw2]; exact FC.A_g f1 (by omega) (by simp)
  have i2 : w2.1 = u.1 := by rw [← hw2]; exact i1
  have j2 : w2.2.2.2 = u.2.2.2 := by rw [← hw2]; exact j1
  rw [i2, e]
  refine e_in ⟨s.1, by omega⟩ (by decide) (ok_lt.mpr (ok_lt.mpr (ok_some.mpr ?_)))
  generalize hw3 : upA w2 51 _ = w3
  have f3 : FC 0 [950] [] [49, 50, 51] [] [] [] [] u w3 := by rw [← hw3]; exact FC.A_g f2 (by omega) (by simp)
  have i3 : w3.1 = u.1 := by rw [← hw3]; exact i2
  have j3 : w3.2.2.2 = u.2.2.2 := by rw [← hw3]; exact j2
  rw [i3, e, lit1q, I_add, wi_e]
  have f4 := FC.wi_g (x := F u 950 + 1) f3 (k := 950) (by omega) (by simp)
  refine ⟨WQ_wt d f4 ?_ j3, f4.Fg (by omega) (by simp)⟩
  rw [F_wi (by omega) (by omega), if_pos rfl]; omega
theorem watchesOf_ok {x : Int} (d : DWc Fv P PR u) (hx : RG x) (hN : 300 ≤ N) : OK (fun w _ => w = u) (hm_Wl_watchesOf N u (I x)) := by
  have s := d.1.2.2.1
  unfold hm_Wl_watchesOf hb_Wl_watchesOf_0
  have gen : ∀ (M i : Nat) (y : Int32), i ≤ 200 → 200 - i < M → OK (fun w _ => w = u) (hg_Wl_watchesOf N M u (I x) y (I ((i : Nat) : Int))) := by
    intro M
    induction M with
    | zero => intro i _ _ h; omega
    | succ M ih =>
      intro i y hi hM
      show OK _ (hb_Wl_watchesOf_4 N (hg_Wl_watchesOf N M) u (I x) y (I ((i : Nat) : Int)))
      unfold hb_Wl_watchesOf_4 hb_Wl_watchesOf_28
      rw [I_F (k := 950)]
      refine k_le (FRG1 u _) ⟨by omega, by omega⟩ (fun _ => ok_some.mpr rfl) (fun h1 => ?_)
      refine e_in ⟨by omega, by omega⟩ (by decide) ?_
      rw [I_A (k := 49)]
      have nx : ∀ y, OK (fun w (_ : Int32) => w = u) (hg_Wl_watchesOf N M u (I x) y (I ((i : Nat) : Int) + 1)) := fun y => by
        rw [lit1q, I_add, show ((i : Nat) : Int) + 1 = ((i + 1 : Nat) : Int) by omega]
        exact ih (i + 1) y (by omega) (by omega)
      exact k_eq (ARG1 u _ _) hx (fun _ => nx _) (fun _ => nx _)
  rw [lit0q, show (0 : Int) = ((0 : Nat) : Int) from rfl]
  exact gen N 0 _ (by omega) (by omega)
end
end
section
set_option maxRecDepth 100000
section
variable {Fv : Int64 → Int64 → Prop} {P : Int64 → Prop} {u v w m m2 : MS} {PR N q r n B W Y : Nat} {ow kd : Nat → Nat} {t : Int64} {h h2 : Nat → Int64} {src : Option Nat} {gi gl ga ki kl ka kj : List Nat}
theorem postc_ok {a : Nat} {v3 v4 : Int} (d : DWc Fv P PR u) (cx : CTX Fv P u) (hq : q < PR) (ha : a = 0 ∨ a = 4 ∨ a = 5) (h3 : RG v3) (h4 : RG v4) (hs : F u (pq q 9) ≠ 3 → SRCc Fv P PR u q t src) (hN : 3000000 ≤ N) : OK (fun w _ => WQ Fv P PR u w ∧ F w 956 = F u 956) (hm_Wl_post N u q (I ((a : Nat) : Int)) (I v3) (I v4) t src) := by
  by_cases e : F u (pq q 9) = 3
  · unfold hm_Wl_post hb_Wl_post_0 hb_Wl_post_17
    exact k_F (y := 3) rfl ⟨by decide, by decide⟩ (fun _ => ok_some.mpr ⟨WQ.rf d, rfl⟩) (fun z => absurd e z)
  · exact ok_mono (post_ok d cx hq ha h3 h4 (hs e) hN) (fun w _ hw => ⟨⟨hw.1, hw.2.1, hw.2.2.2⟩, hw.2.2.1⟩)
def SMLc (Fv : Int64 → Int64 → Prop) (P : Int64 → Prop) (u : MS) (q : Nat) (t : Int64) (src : Option Nat) : Prop := ∀ j, src = some j → F u (pq j 9) ≠ 3 → j ≠ q → ∃ n ow kd f0 s, n ≤ 512 ∧ HPc (u.2.2.2 (pq j 2)) n ow kd Fv P ∧ SZc (u.2.2.2 (pq j 2)) n ow kd Fv P f0 t s ∧ s ≤ 500
theorem signalc_ok {x : Int} (d : DWc Fv P PR u) (cx : CTX Fv P u) (hq : q < PR) (hx : RG x) (hs : F u (pq q 9) ≠ 3 → SRCc Fv P PR u q t src) (hz : F u (pq q 9) ≠ 3 → SMLc Fv P u q t src) (hN : 3000000 ≤ N) : OK (fun w _ => WQ Fv P PR u w ∧ F w 956 = F u 956) (hm_Wl_signal N u (I x) q t src) := by
  unfold hm_Wl_signal hb_Wl_signal_0
  refine k_F (y := 3) rfl ⟨by decide, by decide⟩ (fun _ => ok_some.mpr ⟨WQ.rf d, rfl⟩) (fun hal => ?_)
  have hs0 := hs hal
  have hz0 := hz hal
  refine k_F (y := 0) rfl ⟨by decide, by decide⟩ (fun _ => ?_) (fun _ => ?_)
  · rw [lit1q, I_lit (n := 4), e_make, bnd_so]
    have main : OK (fun w _ => WQ Fv P PR u w ∧ F w 956 = F u 956) (hb_Wl_signal_59 N () u q t src) := by
      unfold hb_Wl_signal_59 hb_Wl_signal_70 hb_Wl_signal_121
      have en : ∀ {u1 : MS} {hq1 n2 : Nat} {ow2 kd2 : Nat → Nat} {t1 : Int64}, DWo Fv P PR q u1 → WFR u u1 → F u1 956 = F u 956 → ST3 u u1 → F u1 (pq q 9) ≠ 3 → hq1 < PR → (hq1 = q ∨ F u1 (pq hq1 9) = 3) → n2 ≤ 512 → HPc (u1.2.2.2 (pq hq1 2)) n2 ow2 kd2 Fv P → GT n2 ow2 kd2 P t1 → OK (fun w _ => WQ Fv P PR u w ∧ F w 956 = F u 956) (bnd (hm_Wl_endsWith N u1 q t1 hq1) (fun u10 _ => some (u10, ()))) := by
        intro u1 hq1 n2 ow2 kd2 t1 d1 wf e9 st hal1 hh hh2 hn g gt
        refine ok_bnd.mpr (ok_mono (endsWith_ok (N := N) d1 hq hal1 hh hh2 hn g gt) (fun w3 _ hw3 => ok_some.mpr ?_))
        obtain ⟨k1, k2, k3, k4, k5, k6, k7⟩ := hw3
        exact ⟨⟨k1, WFR.tr wf k2, ST3.tr st (ST3.ends k3 k4 k7)⟩, by rw [k5]; exact e9⟩
      rcases hs0 with ⟨rfl, c1, c2⟩ | ⟨j, ns, os, ks, rfl, hj, hns, g, gt, hjq⟩
      · obtain ⟨n0, ow0, kd0, B0, W0, Y0, p0⟩ := (d.2 q hq).2.2 hal
        exact ok_br.mpr ⟨fun _ => en (DWo_of d) WFR.rf rfl ST3.rf hal hq (Or.inl rfl) (by have := p0.1.2.1; omega) p0.1.2.2 (Or.inl ⟨c1, c2⟩), fun y => absurd y (by decide)⟩
      · refine ok_br.mpr ⟨fun y => absurd y (by simp), fun _ => ok_br.mpr ⟨fun y => ?_, fun y => ?_⟩⟩
        · have ejq : j = q := by have := of_decide_eq_true y; injection this
          subst ejq
          exact en (DWo_of d) WFR.rf rfl ST3.rf hal hq (Or.inl rfl) hns g gt
        · have ejq : j ≠ q := fun e => of_decide_eq_false y (by rw [e])
          rw [bo_s]
          refine k_F (y := 3) rfl ⟨by decide, by decide⟩ (fun e3 => ?_) (fun e3 => ?_)
          · exact en (DWo_of d) WFR.rf rfl ST3.rf hal hj (Or.inr e3) hns g gt
          · obtain ⟨n1, ow1, kd1, f0, s, hn1, g1, z1, hs1⟩ := hz0 j rfl e3 ejq
            refine ok_lt.mpr ?_
            rw [lit0q, wi_e]
            generalize hw1 : wi u (pq q 4) 0 = w1
            have f1 : FC q [] [] [] [4] [] [] [2] u w1 := by rw [← hw1]; exact FC.wi_q FC.rf (by omega) (by simp)
            have e1 : F w1 (pq q 4) = ((0 : Nat) : Int) := by rw [← hw1, F_wi (by omega) (by omega), if_pos rfl]; rfl
            have j1 : w1.2.2.2 = u.2.2.2 := by rw [← hw1]; rfl
            refine ok_bnd.mpr (ok_mono (copyIn_ok (N := N) (s0 := 0) (owd := fun _ => 0) (kdd := fun _ => 0) g1 cx.1 hn1 (by omega) (fun i hi => by rw [j1]) (fun e => absurd (pq_e (by omega) (by omega) e).1 ejq) z1 e1 HP_0 (by omega)) (fun w2 r hw2 => ?_))
            obtain ⟨f2, e2, k2, ow2, kd2, g2, o2, t2, r2, f3, z2⟩ := hw2
            have fc2 : FC q [] [] [] [4] [] [] [2] w1 w2 := FC.ofq (ki := [4]) (kj := [2]) f2 (by simp) (by simp)
            have fc := FC.tr f1 fc2
            have hal1 : F w2 (pq q 9) ≠ 3 := by rw [fc.Fq (by omega) (by simp)]; exact hal
            have sm2 : SMQ w2 q := SMQ_up (d.2 q hq).1 (fc.Fq (by omega) (by simp)) (fc.Fq (by omega) (by simp)) (by rw [fc.Fq (by omega) (by simp)]; exact Int.le_refl _) hal
            have q5 : w2.2.2.2 44 = u.2.2.2 44 := by rw [f2.2.2.2 44 (by simp; unfold pq; omega), j1]
            exact en (DWo_fc (DWo_of d) fc hq hal hal1 sm2 (by simp) (by simp)) (fc.W (by simp) (by simp) (by simp) (by simp) (by simp) (by simp) q5) (fc.Fg (by omega) (by simp)) (ST3.of fc (by simp) (by simp)) hal1 hq (Or.inl rfl) (by omega) g2 r2
    have mid : ∀ t0 : Int32, OK (fun w _ => WQ Fv P PR u w ∧ F w 956 = F u 956) (hb_Wl_signal_43 N () u (I x) q t src t0) := by
      intro t0
      unfold hb_Wl_signal_43
      exact ok_br.mpr ⟨fun _ => main, fun _ => ok_br.mpr ⟨fun _ => main, fun _ => ok_some.mpr ⟨WQ.rf d, rfl⟩⟩⟩
    exact ok_br.mpr ⟨fun _ => mid _, fun _ => mid _⟩
  · rw [lit0q, I_lit (n := 4)]
    exact ok_bnd.mpr (ok_mono (postc_ok (N := N) (a := 4) (v4 := 0) d cx hq (Or.inr (Or.inl rfl)) hx ⟨by decide, by decide⟩ hs hN) (fun w _ hw => ok_some.mpr hw))
theorem SRC_end (e : EPQ Fv P PR u r) (hal : F u (pq q 9) ≠ 3) : SRCc Fv P PR u q (u.2.1 (pq r 16)) (rf (u.1 (pq r 17))) ∧ SMLc Fv P u q (u.2.1 (pq r 16)) (rf (u.1 (pq r 17))) := by
  obtain ⟨hq, n, ow, kd, e1, e2, e3, e4, e5, e6⟩ := e
  refine ⟨Or.inr ⟨hq, n, ow, kd, e1, e2, e4, e5, e6, fun z => absurd (z ▸ e3) hal⟩, fun j hj h3 => ?_⟩
  rw [e1] at hj
  injection hj with hj
  exact absurd (hj ▸ e3) h3
theorem cEc_mono : ∀ k, (∀ r, F m (pq r 9) = 3 → F m2 (pq r 9) = 3) → cEc m k ≤ cEc m2 k
  | 0, _ => Nat.le_refl _
  | k + 1, h => by
    have := cEc_mono k h
    show cEc m k + _ ≤ cEc m2 k + _
    by_cases e : F m (pq k 9) = 3
    · rw [if_pos e, if_pos (h k e)]; omega
    · rw [if_neg e]; omega
theorem tellWatchers_ok (d : DWc Fv P PR u) (cx : CTX Fv P u) (hq : q < PR) (he : F u (pq q 9) = 3) (hN : 3000000 ≤ N) : OK (fun w _ => WQ Fv P PR u w ∧ F w 956 = F u 956) (hm_Wl_tellWatchers N u q) := by
  unfold hm_Wl_tellWatchers hb_Wl_tellWatchers_0
  have hPR := d.1.1.2
  have gen : ∀ (M i k : Nat) (w : MS), i ≤ 200 → 200 - i < M → k ≤ i → WQ Fv P PR u w → F w 956 = F u 956 → OK (fun w _ => WQ Fv P PR u w ∧ F w 956 = F u 956) (hg_Wl_tellWatchers N M w q (I ((k : Nat) : Int)) (I ((i : Nat) : Int))) := by
    intro M
    induction M with
    | zero => intro i _ _ _ h; omega
    | succ M ih =>
      intro i k w hi hM hk wq e956
      show OK _ (hb_Wl_tellWatchers_4 N (hg_Wl_tellWatchers N M) w q (I ((k : Nat) : Int)) (I ((i : Nat) : Int)))
      unfold hb_Wl_tellWatchers_4
      have s := wq.1.1.2.2.1
      rw [I_F (k := 950)]
      refine k_le (FRG1 w _) ⟨by omega, by omega⟩ (fun hh => ok_lt.mpr (ok_some.mpr ?_)) (fun h1 => ?_)
      · rw [wi_e]
        have f2 : FC 0 [950] [] [49, 50, 51] [] [] [] [] w (wi w 950 ((k : Nat) : Int)) := FC.wi_g FC.rf (by omega) (by simp)
        refine ⟨WQ.tr wq (WQ_wt wq.1 f2 ?_ rfl), by rw [f2.Fg (by omega) (by simp)]; exact e956⟩
        rw [F_wi (by omega) (by omega), if_pos rfl]; omega
      · have nx : ∀ (w2 : MS) (k2 : Nat), k2 ≤ i + 1 → WQ Fv P PR u w2 → F w2 956 = F u 956 → OK (fun w _ => WQ Fv P PR u w ∧ F w 956 = F u 956) (hb_Wl_tellWatchers_92 N (hg_Wl_tellWatchers N M) w2 q (I ((k2 : Nat) : Int)) (I ((i : Nat) : Int))) := by
          intro w2 k2 hk2 f2 hj2
          unfold hb_Wl_tellWatchers_92
          rw [lit1q, I_add, show ((i : Nat) : Int) + 1 = ((i + 1 : Nat) : Int) by omega]
          exact ih (i + 1) k2 w2 (by omega) (by omega) (by omega) f2 hj2
        have kp : OK (fun w _ => WQ Fv P PR u w ∧ F w 956 = F u 956) (hb_Wl_tellWatchers_70 N (hg_Wl_tellWatchers N M) w q (I ((k : Nat) : Int)) (I ((i : Nat) : Int))) := by
          unfold hb_Wl_tellWatchers_70
          refine e_in ⟨by omega, by omega⟩ (by decide) ?_
          refine ok_br.mpr ⟨fun _ => nx w k (by omega) wq e956, fun _ => ?_⟩
          refine ok_bnd.mpr (ok_mono (keepWatch_ok (N := N) ⟨by omega, by omega⟩ ⟨by omega, by omega⟩) (fun w2 _ hw => ?_))
          rw [lit1q, I_add (x := ((k : Nat) : Int)), show ((k : Nat) : Int) + 1 = ((k + 1 : Nat) : Int) by omega]
          have f2 : FC 0 [950] [] [49, 50, 51] [] [] [] [] w w2 := FC.mo hw.1 (by simp) (by simp) (by simp) (by simp) (by simp) (by simp) (by simp)
          exact nx w2 (k + 1) (by omega) (WQ.tr wq (WQ_wt wq.1 f2 (by rw [hw.1.Fg (by omega) (by simp)]; exact s) hw.2.1)) (by rw [hw.1.Fg (by omega) (by simp)]; exact e956)
        refine e_in ⟨by omega, by omega⟩ (by decide) ?_
        rw [I_A (k := 49)]
        refine ok_bnd.mpr (ok_mono (findc_ok (N := N) wq.1.1 (ARG1 w _ _)) (fun w2 r hw => ?_))
        obtain ⟨rfl, hr⟩ := hw
        refine e_in ⟨by omega, by omega⟩ (by decide) ?_
        refine ok_br.mpr ⟨fun _ => ?_, fun _ => kp⟩
        rcases r with _ | j
        · exact ok_br.mpr ⟨fun _ => kp, fun z => absurd z (by decide)⟩
        · refine ok_br.mpr ⟨fun z => absurd z (by simp), fun _ => e_in ⟨by omega, by omega⟩ (by decide) ?_⟩
          rw [bo_s, I_A (k := 51), I_lit (n := 5), show Int32.ofNat q = I ((q : Nat) : Int) from rfl]
          have eq := (wq.1.2 q hq).2.1 (wq.2.2.en he)
          refine ok_bnd.mpr (ok_mono (postc_ok (N := N) (a := 5) wq.1 (CTX_w cx wq.2.1) (hr j rfl) (Or.inr (Or.inr rfl)) ⟨by omega, by omega⟩ (ARG1 w2 _ _) (fun hal => (SRC_end eq hal).1) hN) (fun w3 _ hw3 => ?_))
          exact nx w3 k (by omega) (WQ.tr wq hw3.1) (by rw [hw3.2]; exact e956)
  rw [lit0q, show (0 : Int) = ((0 : Nat) : Int) from rfl]
  exact gen N 0 0 u (by omega) (by omega) (by omega) (WQ.rf d) rfl
theorem settle_ok (d : DWc Fv P PR u) (cx : CTX Fv P u) (hN : 3000000 ≤ N) : OK (fun w _ => WQ Fv P PR u w) (hm_Wl_settle N u) := by
  have hPR := d.1.1.2
  unfold hm_Wl_settle
  have inn : ∀ (G : (MS → Option (MS × Unit)) × (MS → Nat → Int32 → Option (MS × Unit))) (k : Nat), (∀ w, WQ Fv P PR u w → F w 956 = ((k + 1 : Nat) : Int) → OK (fun w _ => WQ Fv P PR u w) (G.1 w)) → ∀ (w : MS) (q i : Nat), WQ Fv P PR u w → F w 956 = ((k : Nat) : Int) → F w 956 < F w 955 → q < PR → F w (pq q 9) = 3 → i ≤ 24 → (∀ w2, WQ Fv P PR u w2 → F w2 956 = ((k : Nat) : Int) → F w2 956 < F w2 955 → F w2 (pq q 9) = 3 → i < 24 → OK (fun w _ => WQ Fv P PR u w) (G.2 w2 q (I ((i + 1 : Nat) : Int)))) → OK (fun w _ => WQ Fv P PR u w) (hb_Wl_settle_40 N G w q (I ((i : Nat) : Int))) := by
    intro G k hG1 w q i wq ek el hq he hi hG2
    unfold hb_Wl_settle_40
    have sm := (wq.1.2 q hq).1
    have s := sm.1
    have g14 := wq.1.1.2.2.1
    have g16 := wq.1.1.2.2.2.1
    have hce := cEc_le w PR
    rw [I_F (k := pq q 15)]
    refine k_le (FRG1 w _) ⟨by omega, by omega⟩ (fun _ => ok_lt.mpr ?_) (fun h1 => ?_)
    · rw [lit0q, wi_e]
      generalize hw1 : wi w (pq q 15) 0 = w1
      have f1 : FC q [] [] [] [15] [] [14] [] w w1 := by rw [← hw1]; exact FC.wi_q FC.rf (by omega) (by simp)
      have e15 : F w1 (pq q 15) = 0 := by rw [← hw1, F_wi (by omega) (by omega), if_pos rfl]
      have wq1 := WQ_lk wq.1 hq f1 (by omega) (by rw [← hw1]; rfl)
      have wq2 := WQ.tr wq wq1
      have e9 : F w1 956 = F w 956 := f1.Fg (by omega) (by simp)
      refine ok_bnd.mpr (ok_mono (tellWatchers_ok (N := N) wq1.1 (CTX_w cx wq2.2.1) hq (wq1.2.2.en he) hN) (fun w2 _ hw2 => ?_))
      unfold hb_Wl_settle_104
      refine ok_lt.mpr ?_
      have wq3 := WQ.tr wq2 hw2.1
      have e92 : F w2 956 = ((k : Nat) : Int) := by rw [hw2.2, e9]; exact ek
      have hm := cEc_mono (m := w) (m2 := w2) PR (fun r hr => hw2.1.2.2.en (wq1.2.2.en hr))
      have a1 := hw2.1.1.1.2.2.2.1.1
      rw [I_F (k := 956), e92, lit1q, I_add, wi_e]
      have e93 : F (wi w2 956 ((k : Nat) + 1)) 956 = ((k + 1 : Nat) : Int) := by rw [F_wi (by omega) (by omega), if_pos rfl]; rfl
      have f2 : FC 0 [956] [] [] [] [] [] [] w2 (wi w2 956 ((k : Nat) + 1)) := FC.wi_g FC.rf (by omega) (by simp)
      refine hG1 _ (WQ.tr wq3 ⟨DWc_gl hw2.1.1 f2 (by simp) (by simp) (fun h0 => ?_) (by simp) ?_ ?_ (by simp), f2.W (by simp) (by simp) (by simp) (by simp) (by simp) (by simp) rfl, ST3.of f2 (by simp) (by simp)⟩) e93
      · unfold SMQ
        rw [f2.Fq (by omega) (by simp), f2.Fq (by omega) (by simp), f2.Fq (by omega) (by simp), f2.Fq (by omega) (by simp)]; exact (hw2.1.1.2 0 h0).1
      · rw [f2.Fg (by omega) (by simp)]; exact hw2.1.1.1.2.2.1
      · rw [e93, a1]; omega
    · refine e_in ⟨by omega, by omega⟩ (by decide) ?_
      rw [I_A (k := pq q 14)]
      refine ok_bnd.mpr (ok_mono (findc_ok (N := N) wq.1.1 (ARG1 w _ _)) (fun w2 r hw => ?_))
      obtain ⟨rfl, hr⟩ := hw
      have nx : ∀ w2, WQ Fv P PR u w2 → F w2 956 = ((k : Nat) : Int) → F w2 956 < F w2 955 → F w2 (pq q 9) = 3 → OK (fun w _ => WQ Fv P PR u w) (hb_Wl_settle_88 N G w2 q (I ((i : Nat) : Int))) := by
        intro w2 a b c d
        unfold hb_Wl_settle_88
        rw [lit1q, I_add, show ((i : Nat) : Int) + 1 = ((i + 1 : Nat) : Int) by omega]
        exact hG2 w2 a b c d (by omega)
      rcases r with _ | j
      · exact ok_br.mpr ⟨fun _ => nx w2 wq ek el he, fun z => absurd z (by decide)⟩
      · refine ok_br.mpr ⟨fun z => absurd z (by simp), fun _ => ?_⟩
        rw [bo_s, show Int32.ofNat q = I ((q : Nat) : Int) from rfl]
        refine ok_bnd.mpr (ok_mono (removeLinkc_ok (N := N) wq.1 (hr j rfl) ⟨by omega, by omega⟩ (by omega)) (fun w3 _ hw3 => ?_))
        obtain ⟨wq3, e3, f3⟩ := hw3
        have he3 := wq3.2.2.en he
        have eq := (wq3.1.2 q hq).2.1 he3
        have wq4 := WQ.tr wq wq3
        refine ok_bnd.mpr (ok_mono (signalc_ok (N := N) wq3.1 (CTX_w cx wq4.2.1) (hr j rfl) ⟨by omega, by omega⟩ (fun hal => (SRC_end eq hal).1) (fun hal => (SRC_end eq hal).2) hN) (fun w5 _ hw5 => ?_))
        have hm := cEc_mono (m := w2) (m2 := w5) PR (fun r hr => hw5.1.2.2.en (wq3.2.2.en hr))
        have a1 := hw5.1.1.1.2.2.2.1.1
        exact nx w5 (WQ.tr wq4 hw5.1) (by rw [hw5.2, e3]; exact ek) (by rw [hw5.2, e3, a1]; omega) (hw5.1.2.2.en he3)
  have out : ∀ (G : (MS → Option (MS × Unit)) × (MS → Nat → Int32 → Option (MS × Unit))) (k : Nat), k ≤ 24 → (∀ w q, WQ Fv P PR u w → F w 956 = ((k : Nat) : Int) → F w 956 < F w 955 → q < PR → F w (pq q 9) = 3 → k < 24 → OK (fun w _ => WQ Fv P PR u w) (G.2 w q (I ((0 : Nat) : Int)))) → ∀ w, WQ Fv P PR u w → F w 956 = ((k : Nat) : Int) → OK (fun w _ => WQ Fv P PR u w) (hb_Wl_settle_0 N G w) := by
    intro G k hk hG w wq ek
    unfold hb_Wl_settle_0
    have g16 := wq.1.1.2.2.2.1
    have hce := cEc_le w PR
    rw [I_F (k := 955), I_F (k := 956), ek]
    refine k_le (FRG1 w _) ⟨by omega, by omega⟩ (fun _ => ok_some.mpr wq) (fun h1 => ?_)
    refine e_in ⟨by omega, by omega⟩ (by decide) ?_
    obtain ⟨r, r1, r2, r3⟩ := wq.1.1.2.2.2.2.1 k h1
    rw [tnI (n := k) rfl (by omega), I_A (k := 54), r1]
    refine e_in ⟨by omega, by omega⟩ (by decide) ?_
    rw [tnI (n := r) rfl (by omega), wq.1.1.2.1 r r2]
    refine ok_br.mpr ⟨fun z => absurd z (by simp), fun _ => ?_⟩
    rw [bo_s]
    refine ok_lt.mpr ?_
    rw [m1I, wi_e]
    generalize hw1 : wi w (pq r 12) (-1) = w1
    have f1 : FC r [] [] [] [12] [] [] [] w w1 := by rw [← hw1]; exact FC.wi_q FC.rf (by omega) (by simp)
    have e9 : F w1 956 = F w 956 := f1.Fg (by omega) (by simp)
    have e5 : F w1 955 = F w 955 := f1.Fg (by omega) (by simp)
    have st : ST3 w w1 := ST3.of f1 (by simp) (by simp)
    refine hG w1 r (WQ.tr wq ⟨DWc_gl wq.1 f1 (by simp) (by simp) (fun h0 => ?_) (by simp) ?_ ?_ (by simp), f1.W (by simp) (by simp) (by simp) (by simp) (by simp) (by simp) (by rw [← hw1]; rfl), st⟩) (by rw [e9]; exact ek) (by rw [e9, e5, ek]; exact h1) r2 (st.en r3) (by omega)
    · unfold SMQ
      rw [f1.Fq (by omega) (by simp), f1.Fq (by omega) (by simp), f1.Fq (by omega) (by simp), f1.Fq (by omega) (by simp)]; exact (wq.1.2 r h0).1
    · rw [f1.Fg (by omega) (by simp)]; exact wq.1.1.2.2.1
    · rw [e9]; exact g16.2
  have gen : ∀ (M : Nat), (∀ (k : Nat), k ≤ 24 → (24 - k) * 30 < M → ∀ w, WQ Fv P PR u w → F w 956 = ((k : Nat) : Int) → OK (fun w _ => WQ Fv P PR u w) ((hg_Wl_settle N M).1 w)) ∧ (∀ (k i : Nat), k < 24 → i ≤ 24 → (23 - k) * 30 + (26 - i) < M → ∀ w q, WQ Fv P PR u w → F w 956 = ((k : Nat) : Int) → F w 956 < F w 955 → q < PR → F w (pq q 9) = 3 → OK (fun w _ => WQ Fv P PR u w) ((hg_Wl_settle N M).2 w q (I ((i : Nat) : Int)))) := by
    intro M
    induction M with
    | zero => exact ⟨fun _ _ h => by omega, fun _ _ _ _ h => by omega⟩
    | succ M ih =>
      refine ⟨fun k hk hM w wq ek => ?_, fun k i hk hi hM w q wq ek el hq he => ?_⟩
      · show OK _ (hb_Wl_settle_0 N (hg_Wl_settle N M) w)
        exact out _ k hk (fun w2 q wq2 ek2 el2 hq2 he2 hk2 => ih.2 k 0 hk2 (by omega) (by omega) w2 q wq2 ek2 el2 hq2 he2) w wq ek
      · show OK _ (hb_Wl_settle_40 N (hg_Wl_settle N M) w q (I ((i : Nat) : Int)))
        exact inn _ k (fun w2 wq2 ek2 => ih.1 (k + 1) (by omega) (by omega) w2 wq2 ek2) w q i wq ek el hq he hi (fun w2 a b c e hi2 => ih.2 k (i + 1) hk (by omega) (by omega) w2 q a b c hq e)
  have g16 := d.1.2.2.2.1
  have hce := cEc_le u PR
  exact out (hg_Wl_settle N N) (F u 956).toNat (by omega) (fun w q wq ek el hq he hk => (gen N).2 _ 0 hk (by omega) (by omega) w q wq ek el hq he) u (WQ.rf d) (by omega)
end
end
section
set_option maxRecDepth 100000
def LNB (u : MS) (q : Nat) : Prop := (∃ a, a ≤ 10 ∧ F u (pq q 45) = ((64 * 2 ^ a : Nat) : Int)) ∧ (∃ b, b ≤ 6 ∧ F u (pq q 43) = ((64 * 2 ^ b : Nat) : Int) ∧ F u (pq q 42) = ((64 * 2 ^ b : Nat) : Int)) ∧ ∃ c, c ≤ 8 ∧ F u (pq q 47) = ((32 * 2 ^ c : Nat) : Int) ∧ 4 * F u (pq q 28) ≤ F u (pq q 47)
section
variable {Fv : Int64 → Int64 → Prop} {P : Int64 → Prop} {u v w m m2 : MS} {PR N q r n B W Y k l : Nat} {ow kd : Nat → Nat} {t : Int64} {gi gl ga ki kl ka kj : List Nat}
theorem p2_le {a b : Nat} (h : a ≤ b) : 2 ^ a ≤ 2 ^ b := Nat.pow_le_pow_right (by decide) h
theorem LNB_45 (h : LNB u q) : ∃ l, F u (pq q 45) = ((l : Nat) : Int) ∧ 64 ≤ l ∧ l ≤ 65536 := by
  obtain ⟨⟨a, a1, a2⟩, -⟩ := h
  have := p2_le a1
  have h1 : 1 ≤ 2 ^ a := Nat.one_le_two_pow
  refine ⟨_, a2, by omega, ?_⟩
  have e : 2 ^ 10 = 1024 := rfl
  omega
theorem LNB_43 (h : LNB u q) : ∃ l, F u (pq q 43) = ((l : Nat) : Int) ∧ F u (pq q 42) = ((l : Nat) : Int) ∧ 64 ≤ l ∧ l ≤ 4096 := by
  obtain ⟨-, ⟨a, a1, a2, a3⟩, -⟩ := h
  have := p2_le a1
  have h1 : 1 ≤ 2 ^ a := Nat.one_le_two_pow
  refine ⟨_, a2, a3, by omega, ?_⟩
  have e : 2 ^ 6 = 64 := rfl
  omega
theorem LNB_47 (h : LNB u q) : ∃ l, F u (pq q 47) = ((l : Nat) : Int) ∧ 32 ≤ l ∧ l ≤ 8192 ∧ l % 4 = 0 := by
  obtain ⟨-, -, ⟨a, a1, a2, -⟩⟩ := h
  have := p2_le a1
  have h1 : 1 ≤ 2 ^ a := Nat.one_le_two_pow
  refine ⟨_, a2, by omega, ?_, by omega⟩
  have e : 2 ^ 8 = 256 := rfl
  omega
theorem LNB_fc (h : LNB u q) (h1 : ∀ k, k ∈ [42, 43, 45, 47, 28] → w.1 (pq q k) = u.1 (pq q k)) : LNB w q := by
  have e : ∀ k, k ∈ [42, 43, 45, 47, 28] → F w (pq q k) = F u (pq q k) := fun k hk => congrArg _ (h1 k hk)
  unfold LNB
  rw [e 42 (by simp), e 43 (by simp), e 45 (by simp), e 47 (by simp), e 28 (by simp)]; exact h
theorem LNB_k (h : LNB u q) (f : FC q gi gl ga ki kl ka kj u w) (hk : ∀ k, k ∈ [42, 43, 45, 47, 28] → k ∉ ki) : LNB w q := LNB_fc h (fun k z => f.2.2.2.2.1 q k (by simp at z; omega) (fun _ => hk k z))
theorem LNB_o (h : LNB u r) (f : FC q gi gl ga ki kl ka kj u w) (hr : r ≠ q) : LNB w r := LNB_fc h (fun k z => f.2.2.2.2.1 r k (by simp at z; omega) (fun e => absurd e hr))
theorem LNB_w (h : LNB u q) (f : WFR u w) : LNB w q := LNB_fc h (fun k z => f.1 q k (by simp at z; omega) (by simp at z ⊢; omega))
theorem LNB_28 (h : LNB u q) (h1 : ∀ k, k ∈ [42, 43, 45, 47] → w.1 (pq q k) = u.1 (pq q k)) (h2 : 4 * F w (pq q 28) ≤ F u (pq q 47)) : LNB w q := by
  have e : ∀ k, k ∈ [42, 43, 45, 47] → F w (pq q k) = F u (pq q k) := fun k hk => congrArg _ (h1 k hk)
  obtain ⟨a, b, c, c1, c2, c3⟩ := h
  refine ⟨by rw [e 45 (by simp)]; exact a, by rw [e 42 (by simp), e 43 (by simp)]; exact b, c, c1, by rw [e 47 (by simp)]; exact c2, by rw [e 47 (by simp)]; exact h2⟩
theorem LNB_c (h : LNB u q) : 4 * F u (pq q 28) ≤ F u (pq q 47) := by
  obtain ⟨-, -, c, -, -, c3⟩ := h
  exact c3
theorem below_e {x : Int} (hW : F u (pq q 26) = ((W : Nat) : Int)) (hl : F u (pq q 45) = ((l : Nat) : Int)) (h1 : W ≤ l) (h2 : l ≤ 1000000) (hx : x = ((k : Nat) : Int)) (hk : k < W) : hm_Fr_below N u q (I x) = some (u, u.2.2.2 (pq q 35) (W - 1 - k)) := by
  unfold hm_Fr_below hb_Fr_below_0 hb_Fr_below_23
  rw [hx, I_F (k := pq q 26), hW, lit0q, lit1q, I_sub, I_sub, decI (by decide) (by decide) (by omega) (by omega), decide_eq_true (by omega), br_tq, lnQ_e hl, (I_inb (by omega) (by omega)).mpr ⟨by omega, by omega⟩, ck_t, tnI (n := W - 1 - k) (by omega) (by omega)]
theorem drop_e {x : Int} (hW : F u (pq q 26) = ((W : Nat) : Int)) (hx : x = ((k : Nat) : Int)) (hk : k ≤ W) : hm_Fr_drop N u q (I x) = some (wi u (pq q 26) ((W - k : Nat) : Int), ()) := by
  have r := F_r u (pq q 26)
  unfold hm_Fr_drop hb_Fr_drop_0
  rw [hx, I_F (k := pq q 26), hW, I_sub, lit0q, show ((W : Nat) : Int) - ((k : Nat) : Int) = ((W - k : Nat) : Int) by omega]
  by_cases e : 0 < W - k
  · rw [if_pos (I_lt (by decide) (by decide) (by omega) (by omega) |>.mpr (by omega))]; rfl
  · rw [if_neg (fun z => e (by have := (I_lt (by decide) (by decide) (by omega) (by omega)).mp z; omega)), show W - k = 0 by omega]; rfl
theorem forgetc_e {x : Int} (hW : F u (pq q 24) = ((B : Nat) : Int)) (hx : x = ((k : Nat) : Int)) (hk : k ≤ B) : hm_Fr_forget N u q (I x) = some (wi u (pq q 24) ((B - k : Nat) : Int), ()) := by
  have r := F_r u (pq q 24)
  unfold hm_Fr_forget hb_Fr_forget_0
  rw [hx, I_F (k := pq q 24), hW, I_sub, lit0q, show ((B : Nat) : Int) - ((k : Nat) : Int) = ((B - k : Nat) : Int) by omega]
  by_cases e : 0 < B - k
  · rw [if_pos (I_lt (by decide) (by decide) (by omega) (by omega) |>.mpr (by omega))]; rfl
  · rw [if_neg (fun z => e (by have := (I_lt (by decide) (by decide) (by omega) (by omega)).mp z; omega)), show B - k = 0 by omega]; rfl
theorem grw_I {x : Int} (h : 32 ≤ x ∧ x ≤ 33554432) : grw (I x) = true := by
  unfold grw
  refine decide_eq_true ⟨?_, ?_⟩
  · exact (I_le (by decide) (by decide) (by omega) (by omega)).mpr h.1
  · exact (I_le (by omega) (by omega) (by decide) (by decide)).mpr h.2
theorem gJ_e (hl : F u (pq q l) = ((k : Nat) : Int)) (hk : k < 1000000000) {j : Nat} : ∃ g, gJm u q j l = wi (upJ u (pq q j) g) (pq q l) ((2 * k : Nat) : Int) ∧ ∀ i, i < k → g i = u.2.2.2 (pq q j) i := by
  refine ⟨va_cpy (u.2.2.2 (pq q j)) (fun _ => 0) 0 0 (lnQ u q l), ?_, fun i hi => ?_⟩
  · unfold gJm
    rw [I_F (k := pq q l), hl, I_lit (n := 2), I_mul, show ((k : Nat) : Int) * (OfNat.ofNat 2 : Int) = ((2 * k : Nat) : Int) by show ((k : Nat) : Int) * 2 = _; omega]; rfl
  · rw [lnQ_e hl]
    have := cpy_in (f := u.2.2.2 (pq q j)) (g := fun _ => 0) (a := 0) (c := 0) (k := k) (j := i) hi
    rw [Nat.zero_add] at this; exact this
theorem gI_e (hl : F u (pq q l) = ((k : Nat) : Int)) (hk : k < 1000000000) {j : Nat} : ∃ g, gIm u q j l = wi (upA u (pq q j) g) (pq q l) ((2 * k : Nat) : Int) ∧ ∀ i, i < k → g i = u.2.2.1 (pq q j) i := by
  refine ⟨va_cpy (u.2.2.1 (pq q j)) (fun _ => 0) 0 0 (lnQ u q l), ?_, fun i hi => ?_⟩
  · unfold gIm
    rw [I_F (k := pq q l), hl, I_lit (n := 2), I_mul, show ((k : Nat) : Int) * (OfNat.ofNat 2 : Int) = ((2 * k : Nat) : Int) by show ((k : Nat) : Int) * 2 = _; omega]; rfl
  · rw [lnQ_e hl]
    have := cpy_in (f := u.2.2.1 (pq q j)) (g := fun _ => 0) (a := 0) (c := 0) (k := k) (j := i) hi
    rw [Nat.zero_add] at this; exact this
theorem pow2_s {a l : Nat} (h : l = 64 * 2 ^ a) : 2 * l = 64 * 2 ^ (a + 1) := by rw [Nat.pow_succ]; omega
theorem push_n (hW : F u (pq q 26) = ((W : Nat) : Int)) (ln : LNB u q) (hl : ((W : Nat) : Int) ≤ F u (pq q 45)) (hb : W < 65536) : OK (fun w _ => FC q [] [] [] [26, 45] [] [] [35] u w ∧ F w (pq q 26) = ((W + 1 : Nat) : Int) ∧ LNB w q ∧ ((W + 1 : Nat) : Int) ≤ F w (pq q 45) ∧ (∀ i, i ≤ W → w.2.2.2 (pq q 35) i = if i = W then t else u.2.2.2 (pq q 35) i) ∧ (∀ k, k ≠ pq q 35 → w.2.2.2 k = u.2.2.2 k)) (hm_Fr_push N u q t) := by
  unfold hm_Fr_push hb_Fr_push_0
  have main : ∀ u1, FC q [] [] [] [26, 45] [] [] [35] u u1 → F u1 (pq q 26) = ((W : Nat) : Int) → LNB u1 q → ((W : Nat) : Int) < F u1 (pq q 45) → (∀ i, i < W → u1.2.2.2 (pq q 35) i = u.2.2.2 (pq q 35) i) → (∀ k, k ≠ pq q 35 → u1.2.2.2 k = u.2.2.2 k) → OK (fun w _ => FC q [] [] [] [26, 45] [] [] [35] u w ∧ F w (pq q 26) = ((W + 1 : Nat) : Int) ∧ LNB w q ∧ ((W + 1 : Nat) : Int) ≤ F w (pq q 45) ∧ (∀ i, i ≤ W → w.2.2.2 (pq q 35) i = if i = W then t else u.2.2.2 (pq q 35) i) ∧ (∀ k, k ≠ pq q 35 → w.2.2.2 k = u.2.2.2 k)) (hb_Fr_push_30 N () u1 q t) := by
    intro u1 f h1 h2 h3 h4 h5
    obtain ⟨l, l1, l2, l3⟩ := LNB_45 h2
    unfold hb_Fr_push_30
    rw [I_F (k := pq q 26), h1, lnQ_e l1]
    refine e_in ⟨by omega, by omega⟩ (by omega) (ok_lt.mpr (ok_lt.mpr (ok_some.mpr ?_)))
    rw [tnI (n := W) rfl (by omega), wj_e, show (wj u1 (pq q 35) W t).1 (pq q 26) = I ((W : Nat) : Int) by show u1.1 (pq q 26) = _; rw [I_F, h1], lit1q, I_add, wi_e]
    generalize hz : wi (wj u1 (pq q 35) W t) (pq q 26) ((W : Int) + 1) = z
    have f2 : FC q [] [] [] [26, 45] [] [] [35] u z := by rw [← hz]; exact FC.wi_q (FC.wj_q f (by omega) (by simp)) (by omega) (by simp)
    have fz : ∀ k, k < 100 → k ≠ 26 → z.1 (pq q k) = u1.1 (pq q k) := fun k hk hk2 => by
      rw [← hz]
      show (if pq q k = pq q 26 then _ else u1.1 (pq q k)) = _
      rw [if_neg (fun e => hk2 (pq_e hk (by omega) e).2)]
    refine ⟨f2, ?_, LNB_fc h2 (fun k hk => fz k (by simp at hk; omega) (by simp at hk; omega)), ?_, fun i hi => ?_, fun k hk => ?_⟩
    · rw [← hz, F_wi (by omega) (by omega), if_pos rfl]; omega
    · rw [show F z (pq q 45) = F u1 (pq q 45) from congrArg _ (fz 45 (by omega) (by omega))]; omega
    · rw [show z.2.2.2 = (wj u1 (pq q 35) W t).2.2.2 by rw [← hz]; rfl, wj_row]
      by_cases e : i = W
      · rw [if_pos e, if_pos e]
      · rw [if_neg e, if_neg e]; exact h4 i (by omega)
    · rw [show z.2.2.2 = (wj u1 (pq q 35) W t).2.2.2 by rw [← hz]; rfl]
      show (if k = pq q 35 then _ else u1.2.2.2 k) = _
      rw [if_neg hk]; exact h5 k hk
  obtain ⟨l, l1, l2, l3⟩ := LNB_45 ln
  rw [I_F (k := pq q 26), hW, I_F (k := pq q 45)]
  refine k_lt ⟨by omega, by omega⟩ (FRG1 u _) (fun h => main u FC.rf hW ln h (fun _ _ => rfl) (fun _ _ => rfl)) (fun h => ?_)
  rw [l1]
  refine ok_ck.mpr ⟨grw_I ⟨by omega, by omega⟩, ok_lt.mpr ?_⟩
  obtain ⟨g, g1, g2⟩ := gJ_e (j := 35) l1 (by omega)
  rw [g1]
  generalize hz : wi (upJ u (pq q 35) g) (pq q 45) ((2 * l : Nat) : Int) = z
  have f2 : FC q [] [] [] [26, 45] [] [] [35] u z := by rw [← hz]; exact FC.wi_q (FC.J_q FC.rf (by omega) (by simp)) (by omega) (by simp)
  have fz : ∀ k, k < 100 → k ≠ 45 → z.1 (pq q k) = u.1 (pq q k) := fun k hk hk2 => by
    rw [← hz]
    show (if pq q k = pq q 45 then _ else u.1 (pq q k)) = _
    rw [if_neg (fun e => hk2 (pq_e hk (by omega) e).2)]
  have e45 : F z (pq q 45) = ((2 * l : Nat) : Int) := by rw [← hz, F_wi (by omega) (by omega), if_pos rfl]
  refine main z f2 ?_ ?_ ?_ (fun i hi => ?_) (fun k hk => ?_)
  · rw [show F z (pq q 26) = F u (pq q 26) from congrArg _ (fz 26 (by omega) (by omega))]; exact hW
  · obtain ⟨⟨a, a1, a2⟩, n2, n3⟩ := ln
    have ea : l = 64 * 2 ^ a := by omega
    refine ⟨⟨a + 1, ?_, by rw [e45, pow2_s ea]⟩, ?_, ?_⟩
    · rcases Nat.lt_or_ge a 10 with h9 | h9
      · omega
      · have : a = 10 := by omega
        subst this
        have e : 2 ^ 10 = 1024 := rfl
        omega
    · rw [show F z (pq q 43) = F u (pq q 43) from congrArg _ (fz 43 (by omega) (by omega)), show F z (pq q 42) = F u (pq q 42) from congrArg _ (fz 42 (by omega) (by omega))]; exact n2
    · rw [show F z (pq q 47) = F u (pq q 47) from congrArg _ (fz 47 (by omega) (by omega)), show F z (pq q 28) = F u (pq q 28) from congrArg _ (fz 28 (by omega) (by omega))]; exact n3
  · rw [e45]; omega
  · rw [← hz]
    show (upJ u (pq q 35) g).2.2.2 (pq q 35) i = _
    rw [upJ_row]; exact g2 i (by omega)
  · rw [← hz]
    exact if_neg hk
theorem bind_n {x : Int} (hW : F u (pq q 24) = ((B : Nat) : Int)) (ln : LNB u q) (hl : ((B : Nat) : Int) ≤ F u (pq q 43)) (hb : B < 4096) : OK (fun w _ => FC q [] [] [] [24, 42, 43] [] [32] [33] u w ∧ F w (pq q 24) = ((B + 1 : Nat) : Int) ∧ LNB w q ∧ ((B + 1 : Nat) : Int) ≤ F w (pq q 43) ∧ (∀ i, i ≤ B → w.2.2.2 (pq q 33) i = if i = B then t else u.2.2.2 (pq q 33) i) ∧ (∀ k, k ≠ pq q 33 → w.2.2.2 k = u.2.2.2 k)) (hm_Fr_bind N u q (I x) t) := by
  unfold hm_Fr_bind hb_Fr_bind_0
  have main : ∀ u1, FC q [] [] [] [24, 42, 43] [] [32] [33] u u1 → F u1 (pq q 24) = ((B : Nat) : Int) → LNB u1 q → ((B : Nat) : Int) < F u1 (pq q 43) → (∀ i, i < B → u1.2.2.2 (pq q 33) i = u.2.2.2 (pq q 33) i) → (∀ k, k ≠ pq q 33 → u1.2.2.2 k = u.2.2.2 k) → OK (fun w _ => FC q [] [] [] [24, 42, 43] [] [32] [33] u w ∧ F w (pq q 24) = ((B + 1 : Nat) : Int) ∧ LNB w q ∧ ((B + 1 : Nat) : Int) ≤ F w (pq q 43) ∧ (∀ i, i ≤ B → w.2.2.2 (pq q 33) i = if i = B then t else u.2.2.2 (pq q 33) i) ∧ (∀ k, k ≠ pq q 33 → w.2.2.2 k = u.2.2.2 k)) (hb_Fr_bind_48 N () u1 q (I x) t) := by
    intro u1 f h1 h2 h3 h4 h5
    obtain ⟨l, l1, l1b, l2, l3⟩ := LNB_43 h2
    unfold hb_Fr_bind_48
    have e24 : u1.1 (pq q 24) = I ((B : Nat) : Int) := by rw [I_F, h1]
    rw [e24, lnQ_e l1b]
    refine e_in ⟨by omega, by omega⟩ (by omega) (ok_lt.mpr ?_)
    rw [tnI (n := B) rfl (by omega), wa_e]
    rw [show (wa u1 (pq q 32) B x).1 (pq q 24) = I ((B : Nat) : Int) from e24, show lnQ (wa u1 (pq q 32) B x) q 43 = l from lnQ_e l1]
    refine e_in ⟨by omega, by omega⟩ (by omega) (ok_lt.mpr (ok_lt.mpr (ok_some.mpr ?_)))
    rw [tnI (n := B) rfl (by omega), wj_e, show (wj (wa u1 (pq q 32) B x) (pq q 33) B t).1 (pq q 24) = I ((B : Nat) : Int) from e24, lit1q, I_add, wi_e]
    generalize hz : wi (wj (wa u1 (pq q 32) B x) (pq q 33) B t) (pq q 24) ((B : Int) + 1) = z
    have f2 : FC q [] [] [] [24, 42, 43] [] [32] [33] u z := by rw [← hz]; exact FC.wi_q (FC.wj_q (FC.wa_q f (by omega) (by simp)) (by omega) (by simp)) (by omega) (by simp)
    have fz : ∀ k, k < 100 → k ≠ 24 → z.1 (pq q k) = u1.1 (pq q k) := fun k hk hk2 => by
      rw [← hz]
      show (if pq q k = pq q 24 then _ else u1.1 (pq q k)) = _
      rw [if_neg (fun e => hk2 (pq_e hk (by omega) e).2)]
    refine ⟨f2, ?_, LNB_fc h2 (fun k hk => fz k (by simp at hk; omega) (by simp at hk; omega)), ?_, fun i hi => ?_, fun k hk => ?_⟩
    · rw [← hz, F_wi (by omega) (by omega), if_pos rfl]; omega
    · rw [show F z (pq q 43) = F u1 (pq q 43) from congrArg _ (fz 43 (by omega) (by omega))]; omega
    · rw [show z.2.2.2 = (wj (wa u1 (pq q 32) B x) (pq q 33) B t).2.2.2 by rw [← hz]; rfl, wj_row]
      by_cases e : i = B
      · rw [if_pos e, if_pos e]
      · rw [if_neg e, if_neg e]; exact h4 i (by omega)
    · rw [show z.2.2.2 = (wj (wa u1 (pq q 32) B x) (pq q 33) B t).2.2.2 by rw [← hz]; rfl]
      show (if k = pq q 33 then _ else u1.2.2.2 k) = _
      rw [if_neg hk]; exact h5 k hk
  obtain ⟨l, l1, l1b, l2, l3⟩ := LNB_43 ln
  rw [I_F (k := pq q 24), hW, I_F (k := pq q 43)]
  refine k_lt ⟨by omega, by omega⟩ (FRG1 u _) (fun h => main u FC.rf hW ln h (fun _ _ => rfl) (fun _ _ => rfl)) (fun h => ?_)
  rw [l1]
  refine ok_ck.mpr ⟨grw_I ⟨by omega, by omega⟩, ok_lt.mpr ?_⟩
  obtain ⟨g, g1, g2⟩ := gJ_e (j := 33) l1 (by omega)
  rw [g1]
  generalize hz : wi (upJ u (pq q 33) g) (pq q 43) ((2 * l : Nat) : Int) = z
  have f2 : FC q [] [] [] [24, 42, 43] [] [32] [33] u z := by rw [← hz]; exact FC.wi_q (FC.J_q FC.rf (by omega) (by simp)) (by omega) (by simp)
  have fz : ∀ k, k < 100 → k ≠ 43 → z.1 (pq q k) = u.1 (pq q k) := fun k hk hk2 => by
    rw [← hz]
    show (if pq q k = pq q 43 then _ else u.1 (pq q k)) = _
    rw [if_neg (fun e => hk2 (pq_e hk (by omega) e).2)]
  have e43 : F z (pq q 43) = ((2 * l : Nat) : Int) := by rw [← hz, F_wi (by omega) (by omega), if_pos rfl]
  have e42 : F z (pq q 42) = ((l : Nat) : Int) := by rw [show F z (pq q 42) = F u (pq q 42) from congrArg _ (fz 42 (by omega) (by omega))]; exact l1b
  rw [I_F (k := pq q 42), e42]
  refine ok_ck.mpr ⟨grw_I ⟨by omega, by omega⟩, ok_lt.mpr ?_⟩
  obtain ⟨g3, g4, g5⟩ := gI_e (j := 32) e42 (by omega)
  rw [g4]
  generalize hy : wi (upA z (pq q 32) g3) (pq q 42) ((2 * l : Nat) : Int) = y
  have f3 : FC q [] [] [] [24, 42, 43] [] [32] [33] u y := by rw [← hy]; exact FC.wi_q (FC.A_q f2 (by omega) (by simp)) (by omega) (by simp)
  have fy : ∀ k, k < 100 → k ≠ 42 → y.1 (pq q k) = z.1 (pq q k) := fun k hk hk2 => by
    rw [← hy]
    show (if pq q k = pq q 42 then _ else z.1 (pq q k)) = _
    rw [if_neg (fun e => hk2 (pq_e hk (by omega) e).2)]
  have y42 : F y (pq q 42) = ((2 * l : Nat) : Int) := by rw [← hy, F_wi (by omega) (by omega), if_pos rfl]
  have y43 : F y (pq q 43) = ((2 * l : Nat) : Int) := by rw [show F y (pq q 43) = F z (pq q 43) from congrArg _ (fy 43 (by omega) (by omega))]; exact e43
  have yo : ∀ k, k < 100 → k ≠ 42 → k ≠ 43 → F y (pq q k) = F u (pq q k) := fun k h1 h2 h3 => congrArg _ ((fy k h1 h2).trans (fz k h1 h3))
  have yj : y.2.2.2 = z.2.2.2 := by rw [← hy]; rfl
  refine main y f3 ?_ ?_ ?_ (fun i hi => ?_) (fun k hk => ?_)
  · rw [yo 24 (by omega) (by omega) (by omega)]; exact hW
  · obtain ⟨n1, ⟨a, a1, a2, a3⟩, n3⟩ := ln
    have ea : l = 64 * 2 ^ a := by omega
    refine ⟨?_, ⟨a + 1, ?_, by rw [y43, pow2_s ea], by rw [y42, pow2_s ea]⟩, ?_⟩
    · rw [yo 45 (by omega) (by omega) (by omega)]; exact n1
    · rcases Nat.lt_or_ge a 6 with h9 | h9
      · omega
      · have : a = 6 := by omega
        subst this
        have e : 2 ^ 6 = 64 := rfl
        omega
    · rw [yo 47 (by omega) (by omega) (by omega), yo 28 (by omega) (by omega) (by omega)]; exact n3
  · rw [y43]; omega
  · rw [yj, ← hz]
    show (upJ u (pq q 33) g).2.2.2 (pq q 33) i = _
    rw [upJ_row]; exact g2 i (by omega)
  · rw [yj, ← hz]
    exact if_neg hk
theorem termOf_ok {x : Int} (hB : F u (pq q 24) = ((B : Nat) : Int)) (ln : LNB u q) (hl : ((B : Nat) : Int) ≤ F u (pq q 43)) (hx : RG x) (hN : 5000 ≤ N) : OK (fun w r => w = u ∧ (r = 0 ∨ ∃ i, i < B ∧ r = u.2.2.2 (pq q 33) i)) (hm_Fr_termOf N u q (I x)) := by
  obtain ⟨l, l1, l1b, l2, l3⟩ := LNB_43 ln
  unfold hm_Fr_termOf hb_Fr_termOf_0
  have gen : ∀ (M i : Nat), i ≤ B → i < M → OK (fun w r => w = u ∧ (r = 0 ∨ ∃ i, i < B ∧ r = u.2.2.2 (pq q 33) i)) (hg_Fr_termOf N M u q (I x) (I ((i : Nat) - 1))) := by
    intro M
    induction M with
    | zero => intro i _ h; omega
    | succ M ih =>
      intro i hi hM
      show OK _ (hb_Fr_termOf_7 N (hg_Fr_termOf N M) u q (I x) (I ((i : Nat) - 1)))
      unfold hb_Fr_termOf_7
      rw [lit0q]
      refine k_lt ⟨by omega, by omega⟩ ⟨by decide, by decide⟩ (fun _ => ok_some.mpr ⟨rfl, Or.inl rfl⟩) (fun h1 => ?_)
      rw [lnQ_e l1, lnQ_e l1b]
      refine e_in ⟨by omega, by omega⟩ (by omega) ?_
      rw [I_A (k := pq q 32)]
      refine k_eq (ARG1 u _ _) hx (fun _ => ?_) (fun _ => ?_)
      · refine e_in ⟨by omega, by omega⟩ (by omega) (ok_some.mpr ⟨rfl, Or.inr ⟨i - 1, by omega, ?_⟩⟩)
        rw [tnI (n := i - 1) (by omega) (by omega)]
      · rw [m1I, I_add, show ((i : Nat) : Int) - 1 + -1 = ((i - 1 : Nat) : Int) - 1 by omega]
        exact ih (i - 1) (by omega) (by omega)
  rw [I_F (k := pq q 24), hB, lit1q, I_sub]
  exact gen N B (by omega) (by omega)
end
end
