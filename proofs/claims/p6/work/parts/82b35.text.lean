set_option maxRecDepth 100000
def OUTc (j : Nat) (u : MS) : Prop := rf (u.1 1964) = some j ∧ isOu j ∧ (0 ≤ F u 865 ∧ F u 865 ≤ 100000) ∧ 0 ≤ F u 866 ∧ F u 866 ≤ 100
def WRT (j : Nat) (u w : MS) : Prop := FR [866] [] [j] [] u w ∧ OUTc j w
section
variable {h : Nat → Int64} {n N b j : Nat} {ow kd : Nat → Nat} {Fv : Int64 → Int64 → Prop} {P : Int64 → Prop} {u v w u0 : MS} {t x y : Int64}
theorem WRT.tr (a : WRT j u v) (b : WRT j v w) : WRT j u w := ⟨FR.tr a.1 b.1, b.2⟩
theorem WRT.rf (a : OUTc j u) : WRT j u u := ⟨FR.rf, a⟩
theorem bl_ou (h : isOu j) : bl j ≤ 20000 := by rcases h with rfl | rfl <;> decide
theorem writeC_ok {x : Int32} (h : OUTc j u) : OK (fun w _ => WRT j u w) (hm_Te_write N u x) := by
  have h' := h
  obtain ⟨h1, h2, ⟨h3, h4⟩, h5, h6⟩ := h
  have hb := bl_ou h2
  unfold hm_Te_write hb_Te_write_0 hb_Te_write_52
  rw [h1]
  show OK _ (br _ _ (br _ _ (ck _ _)))
  have non : OK (fun w _ => WRT j u w) (some (u, ())) := ok_some.mpr (WRT.rf h')
  rw [I_F (k := 866), I_F (k := 865), I_add, I_lit (n := 100), show Int32.ofNat (bl j) = I ((bl j : Nat) : Int) from rfl]
  refine k_le ⟨by decide, by decide⟩ (FRG1 u _) (fun _ => non) (fun a => ?_)
  have a : F u 866 < 100 := a
  refine k_le ⟨by omega, by omega⟩ ⟨by omega, by omega⟩ (fun _ => non) (fun b => ?_)
  refine e_in ⟨by omega, by omega⟩ (by omega) (ok_lt.mpr ?_)
  generalize hz : (vp_nar .byte (x.toInt8.toInt32)) = z
  rw [I_of z, wa_e, show (wa u j (I (F u 865 + F u 866)).toNatClampNeg z.toInt).1 866 = I (F u 866) from I_F, lit1q, I_add, wi_e]
  refine ok_some.mpr ⟨FR.wi (FR.wa FR.rf (by simp)) (by simp), ?_⟩
  have e1 : F (wi (wa u j (I (F u 865 + F u 866)).toNatClampNeg z.toInt) 866 (F u 866 + 1)) 866 = F u 866 + 1 := by rw [F_wi (by omega) (by omega), if_pos rfl]
  have e2 : F (wi (wa u j (I (F u 865 + F u 866)).toNatClampNeg z.toInt) 866 (F u 866 + 1)) 865 = F u 865 := by rw [F_wi (by omega) (by omega), if_neg (by decide)]; rfl
  exact ⟨h1, h2, by rw [e2]; exact ⟨h3, h4⟩, by omega, by omega⟩
theorem wn2 {x : Int64} : ∀ (M k : Nat) (u : MS), k < 11 → k + 1 < M → OUTc j u → OK (fun w _ => WRT j u w) ((hg_Te_writeNumber N M).2 u x (pw k)) := by
  intro M
  induction M with
  | zero => intro k u _ z; omega
  | succ M ih =>
    intro k u hk hm h1
    obtain ⟨-, p2, p3, p4⟩ := pw_f k hk
    show OK _ (hb_Te_writeNumber_43 N (hg_Te_writeNumber N M) u x (pw k))
    unfold hb_Te_writeNumber_43
    rw [p4, br_fq, decide_eq_true p3, ck_t, show (decide (¬ (10 : Nat) = 0)) = true from rfl, ck_t]
    refine ok_bnd.mpr (ok_mono (writeC_ok h1) (fun w _ hw => ?_))
    rw [ck_t]
    cases k with
    | zero =>
      rw [pw_0.1]
      cases M with
      | zero => omega
      | succ M =>
        show OK _ (hb_Te_writeNumber_43 N (hg_Te_writeNumber N M) w x 0)
        unfold hb_Te_writeNumber_43
        rw [pw_0.2, br_tq]
        exact ok_some.mpr hw
    | succ k =>
      rw [p2 (by omega)]
      exact ok_mono (ih k w (by omega) (by omega) hw.2) (fun w2 _ q => hw.tr q)
theorem wn1 {x : Int64} (hx : (x / 10).toInt ≤ 2147483648) : ∀ (M k : Nat) (u : MS), k < 11 → (11 - k) + 20 < M → OUTc j u → OK (fun w _ => WRT j u w) ((hg_Te_writeNumber N M).1 u x (pw k)) := by
  intro M
  induction M with
  | zero => intro k u _ z; omega
  | succ M ih =>
    intro k u hk hm h1
    obtain ⟨p1, -⟩ := pw_f k (by omega)
    show OK _ (hb_Te_writeNumber_21 N (hg_Te_writeNumber N M) u x (pw k))
    unfold hb_Te_writeNumber_21
    rw [p1, show (decide (¬ (10 : Nat) = 0)) = true from rfl, ck_t]
    refine ok_br.mpr ⟨fun _ => wn2 M k u hk (by omega) h1, fun h0 => ?_⟩
    by_cases e : k = 10
    · subst e
      exact absurd (pw_10 hx) (of_decide_eq_false h0)
    · exact ih (k + 1) u (by omega) (by omega) h1
theorem div10 {x : Int64} (h1 : -2147483648 ≤ x.toInt) (h2 : x.toInt ≤ 2147483648) : (x / 10).toInt ≤ 2147483648 := by
  rw [Int64.toInt_div_of_ne_right x 10 (by decide)]
  have : (10 : Int64).toInt = 10 := rfl
  rw [this]
  have h3 : x.toInt.tdiv 10 ≤ x.toInt.natAbs := by
    have := Int.natAbs_tdiv_le_natAbs x.toInt 10
    omega
  omega
theorem toI64 (v : Int32) : v.toInt64.toInt = v.toInt := Int32.toInt_toInt64 v
theorem neg64 {x : Int64} (h1 : -2147483648 ≤ x.toInt) (h2 : x.toInt ≤ 2147483648) : (-x).toInt = - x.toInt := by
  rw [Int64.toInt_neg]
  exact Int.bmod_eq_of_le (by omega) (by omega)
theorem writeNumber_ok {v : Int32} (h : OUTc j u) (hN : 100 ≤ N) : OK (fun w _ => WRT j u w) (hm_Te_writeNumber N u v) := by
  have hr := ti_rng v
  unfold hm_Te_writeNumber hb_Te_writeNumber_0 hb_Te_writeNumber_18
  have e := toI64 v
  refine ok_br.mpr ⟨fun _ => wn1 (div10 (by omega) (by omega)) N 0 u (by omega) (by omega) h, fun _ => ok_bnd.mpr (ok_mono (writeC_ok h) (fun w _ hw => ?_))⟩
  have e2 := neg64 (x := v.toInt64) (by omega) (by omega)
  exact ok_mono (wn1 (div10 (by omega) (by omega)) N 0 w (by omega) (by omega) hw.2) (fun w2 _ q => hw.tr q)
theorem wa_loop_c (hA : WDc u0 1) (hj : j ≠ 3) : ∀ (M : Nat) (v : Int) (k : Nat) (w : MS), RG v → (k : Int) ≤ 100000 → 100001 - k < M → FR [866] [] [j] [] u0 w → OUTc j w → OK (fun w2 _ => WRT j w w2) (hg_Te_writeAlone N M w (I v) (I k)) := by
  intro M
  induction M with
  | zero => intro v k w _ _ z; omega
  | succ M ih =>
    intro v k w hv hk hm f ho
    show OK _ (hb_Te_writeAlone_59 N (hg_Te_writeAlone N M) w (I v) (I k))
    unfold hb_Te_writeAlone_59 hb_Te_writeAlone_170
    have hA2 : WDc w 1 := WDc_fr hA f (by simp) (by simp; omega)
    refine ok_bnd.mpr (ok_mono (wlength_ok (N := N) hA2 hv) (fun w2 r hw2 => ?_))
    obtain ⟨rfl, l, rfl, l1, l2⟩ := hw2
    refine k_le ⟨by omega, by omega⟩ ⟨by omega, by omega⟩ (fun _ => ok_some.mpr (WRT.rf ho)) (fun c1 => ?_)
    refine ok_bnd.mpr (ok_mono (wsign_ok (N := N) (k := (k : Int)) hA2 hv ⟨by omega, by omega⟩) (fun w3 r hw3 => ?_))
    subst hw3
    refine ok_bnd.mpr (ok_mono (writeC_ok ho) (fun w4 _ hw4 => ?_))
    rw [lit1q, I_add, show ((k : Nat) : Int) + 1 = ((k + 1 : Nat) : Int) by omega]
    exact ok_mono (ih v (k + 1) w4 hv (by omega) (by omega) (FR.tr f hw4.1) hw4.2) (fun w5 _ q => hw4.tr q)
theorem writeAlone_ok (hA : WDc u 1) (h : OUTc j u) (hN : 200000 ≤ N) : OK (fun w _ => WRT j u w) (hm_Te_writeAlone N u t) := by
  have hj : j ≠ 3 := by rcases h.2.1 with rfl | rfl <;> decide
  unfold hm_Te_writeAlone hb_Te_writeAlone_0
  have w1 : ∀ (x : Int32), OK (fun w _ => WRT j u w) (bnd (hm_Te_write N u x) (fun u18 r18 => hb_Te_writeAlone_170 N (hg_Te_writeAlone N N) u18)) := fun x => ok_bnd.mpr (ok_mono (writeC_ok h) (fun w _ hw => ok_some.mpr hw))
  have w2 : ∀ (x y : Int32) (v : MS), WRT j u v → OK (fun w _ => WRT j u w) (bnd (hm_Te_write N v x) (fun u19 r19 => bnd (hm_Te_write N u19 y) (fun u20 r20 => hb_Te_writeAlone_170 N (hg_Te_writeAlone N N) u20))) := fun x y v hv => ok_bnd.mpr (ok_mono (writeC_ok hv.2) (fun w _ hw => ok_bnd.mpr (ok_mono (writeC_ok hw.2) (fun w2 _ hw2 => ok_some.mpr (hv.tr (hw.tr hw2))))))
  rw [e_tag, bnd_so, valI]
  refine ok_br.mpr ⟨fun _ => ok_bnd.mpr (ok_mono (writeNumber_ok h (by omega)) (fun w _ hw => ok_some.mpr hw)), fun _ => ok_br.mpr ⟨fun _ => ?_, fun _ => ok_br.mpr ⟨fun _ => ?_, fun _ => ok_br.mpr ⟨fun _ => ?_, fun _ => ok_br.mpr ⟨fun _ => ?_, fun _ => ok_br.mpr ⟨fun _ => w1 _, fun _ => ok_br.mpr ⟨fun _ => w2 _ _ u (WRT.rf h), fun _ => w1 _⟩⟩⟩⟩⟩⟩⟩
  · rw [lit0q, show (0 : Int) = ((0 : Nat) : Int) from rfl]
    exact wa_loop_c (N := N) hA hj N (va t) 0 u (va_r t) (by omega) (by omega) FR.rf h
  · exact ok_bnd.mpr (ok_mono (writeC_ok h) (fun w _ hw => ok_bnd.mpr (ok_mono (writeNumber_ok hw.2 (by omega)) (fun w2 _ hw2 => ok_some.mpr (hw.tr hw2)))))
  · exact ok_bnd.mpr (ok_mono (writeC_ok h) (fun w _ hw => w2 _ _ w hw))
  · exact ok_bnd.mpr (ok_mono (writeC_ok h) (fun w _ hw => ok_bnd.mpr (ok_mono (writeNumber_ok hw.2 (by omega)) (fun w2 _ hw2 => ok_bnd.mpr (ok_mono (writeC_ok hw2.2) (fun w3 _ hw3 => ok_some.mpr (hw.tr (hw2.tr hw3))))))))
def TWT (n : Nat) (ow kd : Nat → Nat) (P : Int64 → Prop) (t : Int64) : Prop := GT n ow kd P t ∨ so t = 10 ∨ so t = 11
def TST (n : Nat) (ow kd : Nat → Nat) (P : Int64 → Prop) (j : Nat) (u0 w : MS) (top : Nat) : Prop := FR [866] [] [j] [45] u0 w ∧ OUTc j w ∧ top ≤ 2048 ∧ ∀ i, i < top → TWT n ow kd P (w.2.2.2 45 i)
theorem TST_wrt {top : Nat} (a : TST n ow kd P j u0 u top) (b : WRT j u w) : TST n ow kd P j u0 w top := ⟨FR.tr a.1 (FR.mo b.1 (by simp) (by simp) (by simp) (by simp)), b.2, a.2.2.1, fun i hi => by rw [FRj b.1 (by simp)]; exact a.2.2.2 i hi⟩
theorem TST_less {top k : Nat} (a : TST n ow kd P j u0 u top) (h : k ≤ top) : TST n ow kd P j u0 u k := ⟨a.1, a.2.1, by have := a.2.2.1; omega, fun i hi => a.2.2.2 i (by omega)⟩
theorem push_ok {top : Nat} {t : Int64} (a : TST n ow kd P j u0 u top) (ht : TWT n ow kd P t) : OK (fun w r => ∃ k : Nat, r = I k ∧ TST n ow kd P j u0 w k) (hm_Te_push N u (I top) t) := by
  obtain ⟨a1, a2, a3, a4⟩ := a
  unfold hm_Te_push hb_Te_push_0
  rw [I_lit (n := 2048)]
  refine k_lt ⟨by omega, by omega⟩ ⟨by decide, by decide⟩ (fun c => ?_) (fun _ => ok_some.mpr ⟨top, rfl, a1, a2, a3, a4⟩)
  have c : (top : Int) < 2048 := c
  refine e_in ⟨by omega, by omega⟩ (by decide) (ok_lt.mpr ?_)
  rw [tnI (n := top) rfl (by omega), wj_e, lit1q, I_add]
  refine ok_some.mpr ⟨top + 1, rfl, FR.wj a1 (by simp), a2, by omega, fun i hi => ?_⟩
  rw [wj_row]
  by_cases e : i = top
  · rw [if_pos e]; exact ht
  · rw [if_neg e]; exact a4 i (by omega)
theorem TWT_s {s v : Int} (h : s = 10 ∨ s = 11) : TWT n ow kd P (mk s v) := by
  have : so (mk s v) = s := so_mk (by omega) (by omega)
  unfold TWT
  rw [this]
  exact Or.inr h
theorem tup_loop (hb : b ≠ 45) (hh : u0.2.2.2 b = h) (hn : n ≤ 512) (g : HPc h n ow kd Fv P) (ht : so t = 5) (gt : GT n ow kd P t) : ∀ (M k top : Nat) (w : MS), k < blk h t → k < M → TST n ow kd P j u0 w top → OK (fun w r => ∃ k : Nat, r = I k ∧ TST n ow kd P j u0 w k) (hg_Te_toWriteTuple N M w b (I (va t)) (I top) (I k)) := by
  have hH : isH t := Or.inr (Or.inl ht)
  obtain ⟨k1, k2⟩ := HP_bkc g hH gt
  have hp : prt t = 1 := by unfold prt; rw [if_neg (by omega), if_pos ht]
  have hbl := k1.2.2.2.1
  intro M
  induction M with
  | zero => intro k top w _ z; omega
  | succ M ih =>
    intro k top w hk hm a
    show OK _ (hb_Te_toWriteTuple_20 N (hg_Te_toWriteTuple N M) w b (I (va t)) (I top) (I k))
    unfold hb_Te_toWriteTuple_20 hb_Te_toWriteTuple_60
    have hw : w.2.2.2 b = h := by rw [FRj a.1 (by simpa using hb)]; exact hh
    rw [m1I, lit0q, lit1q, vn_e k1.1, I_add, show ((vn t : Nat) : Int) + ((k : Nat) : Int) = ((vn t + k : Nat) : Int) by omega]
    refine k_le ⟨by omega, by omega⟩ ⟨by decide, by decide⟩ (fun _ => ok_some.mpr ⟨top, rfl, a⟩) (fun c => ?_)
    refine e_in ⟨by omega, by omega⟩ (by decide) ?_
    rw [tnI (n := vn t + k) rfl (by omega), hw]
    refine ok_bnd.mpr (ok_mono (push_ok (N := N) a (Or.inl (k2 k (by omega) hk))) (fun w2 r hw2 => ?_))
    obtain ⟨t2, rfl, a2⟩ := hw2
    have dn : I (k : Int) + I (-1) = I ((k - 1 : Nat) : Int) := by rw [I_add]; congr 1; omega
    rw [dn, ← vn_e k1.1]
    refine k_le ⟨by omega, by omega⟩ ⟨by decide, by decide⟩ (fun _ => ih (k - 1) t2 w2 (by omega) (by omega) a2) (fun _ => ?_)
    rw [I_lit (n := 10), I_lit (n := 44), e_make, bnd_so]
    refine ok_bnd.mpr (ok_mono (push_ok (N := N) a2 (TWT_s (Or.inl rfl))) (fun w3 r hw3 => ?_))
    obtain ⟨t3, rfl, a3⟩ := hw3
    exact ih (k - 1) t3 w3 (by omega) (by omega) a3
theorem toWriteTuple_ok {top : Nat} (hb : b ≠ 45) (hh : u0.2.2.2 b = h) (hn : n ≤ 512) (g : HPc h n ow kd Fv P) (ht : so t = 5) (gt : GT n ow kd P t) (a : TST n ow kd P j u0 u top) (hN : 600 ≤ N) : OK (fun w r => ∃ k : Nat, r = I k ∧ TST n ow kd P j u0 w k) (hm_Te_toWriteTuple N u b (I (va t)) (I top)) := by
  have hH : isH t := Or.inr (Or.inl ht)
  obtain ⟨k1, k2⟩ := HP_bkc g hH gt
  have hbl := k1.2.2.2.1
  have hbk : blk h t = 1 + vn (h (vn t)) := by unfold blk; rw [if_neg (by omega), if_pos ht]
  unfold hm_Te_toWriteTuple hb_Te_toWriteTuple_0
  rw [I_lit (n := 10), I_lit (n := 125), e_make, bnd_so]
  refine ok_bnd.mpr (ok_mono (push_ok (N := N) a (TWT_s (Or.inl rfl))) (fun w2 r hw2 => ?_))
  obtain ⟨t2, rfl, a2⟩ := hw2
  have hw : w2.2.2.2 b = h := by rw [FRj a2.1 (by simpa using hb)]; exact hh
  rw [vn_e k1.1]
  refine e_in ⟨by omega, by omega⟩ (by decide) ?_
  rw [tnI (n := vn t) rfl (by omega), hw, valI, vn_e (k1.2.1 ht).1, ← vn_e k1.1]
  exact tup_loop (N := N) hb hh hn g ht gt N (vn (h (vn t))) t2 w2 (by omega) (by omega) a2
theorem toWritePair_ok {top : Nat} (hb : b ≠ 45) (hh : u0.2.2.2 b = h) (hn : n ≤ 512) (g : HPc h n ow kd Fv P) (ht : so t = 7) (gt : GT n ow kd P t) (a : TST n ow kd P j u0 u top) : OK (fun w r => ∃ k : Nat, r = I k ∧ TST n ow kd P j u0 w k) (hm_Te_toWritePair N u b (I (va t)) (I top)) := by
  have hH : isH t := Or.inr (Or.inr ht)
  obtain ⟨k1, k2⟩ := HP_bkc g hH gt
  have hbl := k1.2.2.2.1
  have hbk : blk h t = 2 := by unfold blk; rw [if_pos ht]
  have hp : prt t = 0 := by unfold prt; rw [if_pos ht]
  unfold hm_Te_toWritePair hb_Te_toWritePair_0
  have hw : u.2.2.2 b = h := by rw [FRj a.1 (by simpa using hb)]; exact hh
  rw [vn_e k1.1, lit1q, I_add, show ((vn t : Nat) : Int) + 1 = ((vn t + 1 : Nat) : Int) by omega]
  refine e_in ⟨by omega, by omega⟩ (by decide) ?_
  rw [tnI (n := vn t + 1) rfl (by omega), hw]
  refine ok_bnd.mpr (ok_mono (push_ok (N := N) a (Or.inl (k2 1 (by omega) (by omega)))) (fun w2 r hw2 => ?_))
  obtain ⟨t2, rfl, a2⟩ := hw2
  rw [I_lit (n := 11), lit0q, e_make, bnd_so]
  refine ok_bnd.mpr (ok_mono (push_ok (N := N) a2 (TWT_s (Or.inr rfl))) (fun w3 r hw3 => ?_))
  obtain ⟨t3, rfl, a3⟩ := hw3
  have hw : w3.2.2.2 b = h := by rw [FRj a3.1 (by simpa using hb)]; exact hh
  refine e_in ⟨by omega, by omega⟩ (by decide) ?_
  rw [tnI (n := vn t) rfl (by omega), hw]
  refine ok_bnd.mpr (ok_mono (push_ok (N := N) a3 (Or.inl (k2 0 (by omega) (by omega)))) (fun w4 r hw4 => ok_some.mpr hw4))
theorem nilnh : ¬ isH (mk 6 0) := nh_so (by rw [so_mk (by decide) (by decide)]; decide)
theorem toWriteRest_ok {top : Nat} {pl : Int} (hP6 : P (mk 6 0)) (hb : b ≠ 45) (hh : u0.2.2.2 b = h) (hn : n ≤ 512) (g : HPc h n ow kd Fv P) (a : TST n ow kd P j u0 u top) (hp : -2 ≤ pl ∧ pl < top) : OK (fun w r => ∃ k : Nat, r = I k ∧ TST n ow kd P j u0 w k) (hm_Te_toWriteRest N u b (I pl)) := by
  have ht := a.2.2.1
  unfold hm_Te_toWriteRest hb_Te_toWriteRest_0
  have main : ∀ (t : Int64) (y : Nat), y ≤ top → TWT n ow kd P t → ((if I pl < 0 then (0 : Int32) else I pl) = I y) → OK (fun w r => ∃ k : Nat, r = I k ∧ TST n ow kd P j u0 w k) (hb_Te_toWriteRest_19 N () u b (I pl) t) := by
    intro t y hy htw hif
    unfold hb_Te_toWriteRest_19
    refine ok_lt.mpr ?_
    have ay := TST_less a hy
    rw [hif, e_tag, bnd_so]
    have hr := so_r t
    rw [I_lit (n := 6)]
    refine k_eq hr ⟨by decide, by decide⟩ (fun _ => ok_bnd.mpr (ok_mono (writeC_ok ay.2.1) (fun w _ hw => ok_some.mpr ⟨y, rfl, TST_wrt ay hw⟩))) (fun _ => ?_)
    rw [e_tag, bnd_so, I_lit (n := 7)]
    refine k_eq hr ⟨by decide, by decide⟩ (fun e7 => ?_) (fun _ => ?_)
    · have e7 : so t = 7 := e7
      have gt : GT n ow kd P t := by
        rcases htw with z | z | z
        · exact z
        · omega
        · omega
      refine ok_bnd.mpr (ok_mono (writeC_ok ay.2.1) (fun w _ hw => ?_))
      rw [valI]
      refine ok_bnd.mpr (ok_mono (toWritePair_ok (N := N) hb hh hn g e7 gt (TST_wrt ay hw)) (fun w2 r hw2 => ok_some.mpr hw2))
    · refine ok_bnd.mpr (ok_mono (writeC_ok ay.2.1) (fun w _ hw => ?_))
      rw [I_lit (n := 10), I_lit (n := 93), e_make, bnd_so]
      refine ok_bnd.mpr (ok_mono (push_ok (N := N) (TST_wrt ay hw) (TWT_s (Or.inl rfl))) (fun w3 r hw3 => ?_))
      obtain ⟨t3, rfl, a3⟩ := hw3
      exact ok_bnd.mpr (ok_mono (push_ok (N := N) a3 htw) (fun w4 r hw4 => ok_some.mpr hw4))
  rw [lit0q]
  refine k_lt ⟨by omega, by omega⟩ ⟨by decide, by decide⟩ (fun c => ?_) (fun c => ?_)
  · rw [I_lit (n := 6), e_make, bnd_so]
    refine main _ 0 (by omega) (Or.inl (Or.inl ⟨nilnh, hP6⟩)) ?_
    rw [lit0q, if_pos]
    · rfl
    · rw [I_lt (by omega) (by omega) (by decide) (by decide)]
      exact c
  · refine e_in ⟨by omega, by omega⟩ (by decide) ?_
    obtain ⟨k, rfl⟩ : ∃ k : Nat, pl = k := ⟨pl.toNat, by omega⟩
    rw [tnI (n := k) rfl (by omega)]
    refine main _ k (by omega) (a.2.2.2 k (by omega)) ?_
    rw [lit0q, if_neg]
    rw [I_lt (by omega) (by omega) (by decide) (by decide)]
    omega
theorem text_loop (hP6 : P (mk 6 0)) (hA : WDc u0 1) (hb : b ≠ 45) (hh : u0.2.2.2 b = h) (hn : n ≤ 512) (g : HPc h n ow kd Fv P) (hN : 200000 ≤ N) : ∀ (M top cn : Nat) (w : MS), cn ≤ 1000000000 → 1000000000 - cn < M → TST n ow kd P j u0 w top → OK (fun w r => TST n ow kd P j u0 w 0 ∧ r = I (F w 866)) (hg_Te_text N M w b (I top) (I cn)) := by
  intro M
  induction M with
  | zero => intro top cn w _ z; omega
  | succ M ih =>
    intro top cn w hcn hm a
    have ht := a.2.2.1
    have hjn : j ≠ 3 := by rcases a.2.1.2.1 with rfl | rfl <;> decide
    show OK _ (hb_Te_text_30 N (hg_Te_text N M) w b (I top) (I cn))
    unfold hb_Te_text_30 hb_Te_text_174
    have fin : OK (fun w r => TST n ow kd P j u0 w 0 ∧ r = I (F w 866)) (some (w, w.1 866)) := ok_some.mpr ⟨TST_less a (Nat.zero_le _), I_F⟩
    rw [m1I, lit0q, I_lit (n := 1000000000), I_lit (n := 100), I_lit (n := 5), I_lit (n := 7), I_lit (n := 11)]
    refine k_le ⟨by decide, by decide⟩ ⟨by omega, by omega⟩ (fun _ => fin) (fun c1 => ?_)
    have c1 : (cn : Int) < 1000000000 := c1
    refine k_le ⟨by omega, by omega⟩ ⟨by decide, by decide⟩ (fun _ => fin) (fun c2 => ?_)
    refine ok_br.mpr ⟨fun _ => fin, fun _ => ?_⟩
    have e1 : I ((top : Int)) + I (-1) = I (((top - 1 : Nat) : Int)) := by rw [I_add]; congr 1; omega
    rw [e1]
    refine e_in ⟨by omega, by omega⟩ (by decide) ?_
    rw [tnI (n := top - 1) rfl (by omega), e_tag, bnd_so, valI]
    have htw := a.2.2.2 (top - 1) (by omega)
    generalize w.2.2.2 45 (top - 1) = x at *
    have hr := so_r x
    have al := TST_less a (k := top - 1) (by omega)
    have nxt : ∀ (w2 : MS) (k : Nat), TST n ow kd P j u0 w2 k → OK (fun w r => TST n ow kd P j u0 w 0 ∧ r = I (F w 866)) (hb_Te_text_168 N (hg_Te_text N M) w2 b (I k) (I cn)) := by
      intro w2 k a2
      unfold hb_Te_text_168
      rw [lit1q, I_add, show ((cn : Nat) : Int) + 1 = ((cn + 1 : Nat) : Int) by omega]
      exact ih k (cn + 1) w2 (by omega) (by omega) a2
    have gx : so x = 5 ∨ so x = 7 → GT n ow kd P x := by
      intro z
      rcases htw with y | y | y
      · exact y
      · omega
      · omega
    refine k_eq hr ⟨by decide, by decide⟩ (fun e5 => ?_) (fun n5 => k_eq hr ⟨by decide, by decide⟩ (fun e7 => ?_) (fun n7 => k_eq hr ⟨by decide, by decide⟩ (fun e11 => ?_) (fun n11 => ?_)))
    · refine ok_bnd.mpr (ok_mono (writeC_ok al.2.1) (fun w2 _ hw2 => ?_))
      refine ok_bnd.mpr (ok_mono (toWriteTuple_ok (N := N) hb hh hn g e5 (gx (Or.inl e5)) (TST_wrt al hw2) (by omega)) (fun w3 r hw3 => ?_))
      obtain ⟨k, rfl, a3⟩ := hw3
      exact nxt w3 k a3
    · refine ok_bnd.mpr (ok_mono (writeC_ok al.2.1) (fun w2 _ hw2 => ?_))
      refine ok_bnd.mpr (ok_mono (toWritePair_ok (N := N) hb hh hn g e7 (gx (Or.inr e7)) (TST_wrt al hw2)) (fun w3 r hw3 => ?_))
      obtain ⟨k, rfl, a3⟩ := hw3
      exact nxt w3 k a3
    · rw [lit1q, I_sub]
      refine ok_bnd.mpr (ok_mono (toWriteRest_ok (N := N) (top := top - 1) hP6 hb hh hn g al (by omega)) (fun w3 r hw3 => ?_))
      obtain ⟨k, rfl, a3⟩ := hw3
      exact nxt w3 k a3
    · refine ok_bnd.mpr (ok_mono (writeAlone_ok (N := N) (WDc_fr hA al.1 (by simp) (by simp; omega)) al.2.1 hN) (fun w2 _ hw2 => ?_))
      exact nxt w2 (top - 1) (TST_wrt al hw2)
theorem text_ok {fr : Int} (hP6 : P (mk 6 0)) (hA : WDc u 1) (hb : b ≠ 45) (hh : u.2.2.2 b = h) (hn : n ≤ 512) (g : HPc h n ow kd Fv P) (gt : GT n ow kd P t) (hj : isOu j) (hf : 0 ≤ fr ∧ fr ≤ 100000) (hN : 1000000010 ≤ N) : OK (fun w r => FR [1964, 865, 866] [] [j] [45] u w ∧ ∃ k : Int, r = I k ∧ 0 ≤ k ∧ k ≤ 100) (hm_Te_text N u b t j (I fr)) := by
  unfold hm_Te_text hb_Te_text_0
  have hjl : j < 100 := by rcases hj with rfl | rfl <;> decide
  refine ok_lt.mpr (ok_lt.mpr (ok_lt.mpr (e_in (x := 0) ⟨by decide, by decide⟩ (by decide) (ok_lt.mpr ?_))))
  rw [show Int32.ofNat j = I (j : Int) from rfl, wi_e, wi_e, lit0q, wi_e, show (I 0).toNatClampNeg = 0 from rfl, wj_e, lit1q, show (0 : Int) = ((0 : Nat) : Int) from rfl, show (1 : Int) = ((1 : Nat) : Int) from rfl]
  generalize hz : wj (wi (wi (wi u 1964 (j : Int)) 865 fr) 866 ((0 : Nat) : Int)) 45 0 t = z
  have fz : FR [1964, 865, 866] [] [] [45] u z := by rw [← hz]; exact FR.wj (FR.wi (FR.wi (FR.wi FR.rf (by simp)) (by simp)) (by simp)) (by simp)
  have z0 : OUTc j z := by
    refine ⟨?_, hj, ?_, ?_⟩
    · rw [← hz]
      show rf (I (j : Int)) = some j
      exact rf_ofNat (by omega)
    · have : F z 865 = fr := by
        rw [← hz, F_wj, F_wi (by decide) (by decide), if_neg (by decide), F_wi (by omega) (by omega), if_pos rfl]
      rw [this]; exact hf
    · have : F z 866 = 0 := by rw [← hz, F_wj, F_wi (by decide) (by decide), if_pos rfl]; rfl
      omega
  have a0 : TST n ow kd P j z z 1 := ⟨FR.rf, z0, by omega, fun i hi => by
    have : z.2.2.2 45 i = t := by rw [← hz, wj_row, if_pos (by omega)]
    rw [this]; exact Or.inl gt⟩
  refine ok_mono (text_loop (N := N) (Fv := Fv) hP6 (WDc_fr hA fz (by simp) (by simp)) hb (by rw [FRj fz (by simpa using hb)]; exact hh) hn g (by omega) N 1 0 z (by omega) (by omega) a0) (fun w r hw => ?_)
  refine ⟨FR.tr (FR.mo fz (by simp) (by simp) (by simp) (by simp)) (FR.mo hw.1.1 (by simp) (by simp) (by simp) (by simp)), _, hw.2, hw.1.2.1.2.2.2.1, hw.1.2.1.2.2.2.2⟩
end
