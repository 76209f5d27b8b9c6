set_option maxRecDepth 100000
section
variable {T : Nat → Option (Nat × Nat × List Nat × Nat × Nat)} {Fv : Int64 → Int64 → Prop} {P : Int64 → Prop} {u v w w1 : MS} {PR N q r n B W Y i h m g x j wb nb cb rk c f i2 h2 m2 k a U d : Nat} {L : List Nat} {ow kd : Nat → Nat} {t rest : Int64} {gi gl ga ki kl ka kj : List Nat}
theorem wakes_any : ∃ r, hm_Pr_wakes N u q = some (u, r) := by
  unfold hm_Pr_wakes hb_Pr_wakes_0 hb_Pr_wakes_26
  exact br_any ⟨_, rfl⟩ ⟨_, rfl⟩
theorem br_u {α : Type} {b : Bool} {p q : Option (MS × α)} (h1 : OK (fun w _ => w = u) p) (h2 : OK (fun w _ => w = u) q) : OK (fun w _ => w = u) (br b p q) := ok_br.mpr ⟨fun _ => h1, fun _ => h2⟩
theorem so_u {α : Type} {r : α} : OK (fun w _ => w = u) (some (u, r)) := ok_some.mpr rfl
theorem process_okc {x : Int} {y : Int32} (W : WRD T Fv P PR u) (hx : RG x) (hN : 3000000 ≤ N) : OK (fun w _ => w = u) (hm_H_process N u (I x) y) := by
  unfold hm_H_process hb_H_process_0
  refine ok_bnd.mpr (ok_mono (findc_ok (N := N) W.1.1 hx) (fun w r hw => ?_))
  obtain ⟨rfl, hr⟩ := hw
  rcases r with _ | jj
  · exact ok_br.mpr ⟨fun _ => so_u, fun z => absurd z (by decide)⟩
  · refine ok_br.mpr ⟨fun z => absurd z (by simp), fun _ => ?_⟩
    rw [bo_s]
    have main : ∀ t0, OK (fun v _ => v = w) (hb_H_process_28 N () w (I x) y jj t0) := fun t0 => by
      unfold hb_H_process_28 hb_H_process_115 hb_H_process_119 hb_H_process_136 hb_H_process_150 hb_H_process_169 hb_H_process_183 hb_H_process_201 hb_H_process_218 hb_H_process_219 hb_H_process_233 hb_H_process_252 hb_H_process_269
      obtain ⟨r1, e1⟩ := isReady_any (N := N) (u := w) (q := jj)
      obtain ⟨r2, e2⟩ := wakes_any (N := N) (u := w) (q := jj)
      rw [e1, e2, bnd_so, bnd_so]
      have e3 : OK (fun v _ => v = w) (bnd (hm_Wl_watchesOf N w (I x)) (fun u21 r21 => some (u21, r21))) := ok_bnd.mpr (ok_mono (watchesOf_ok (N := N) W.1 hx (by omega)) (fun v _ hv => ok_some.mpr hv))
      repeat' (first | exact so_u | exact e3 | apply br_u)
    exact br_u (main _) (main _)
theorem link_okc {x : Int} {y : Int32} (W : WRD T Fv P PR u) (hx : RG x) : OK (fun w _ => w = u) (hm_H_link N u (I x) y) := by
  unfold hm_H_link hb_H_link_0 hb_H_link_33
  refine ok_bnd.mpr (ok_mono (findc_ok (N := N) W.1.1 hx) (fun w r hw => ?_))
  obtain ⟨rfl, hr⟩ := hw
  rcases r with _ | jj
  · exact ok_br.mpr ⟨fun _ => so_u, fun z => absurd z (by decide)⟩
  · refine ok_br.mpr ⟨fun z => absurd z (by simp), fun _ => ?_⟩
    rw [bo_s]
    have s := (W.1.2 jj (hr jj rfl)).1.1
    rw [I_of y, lit0q, I_F (k := pq jj 15)]
    refine br_u so_u (k_lt (ti_rng _) ⟨by decide, by decide⟩ (fun _ => so_u) (fun h0 => k_lt (ti_rng _) (FRG1 w _) (fun h1 => e_in ⟨by omega, by omega⟩ (by decide) so_u) (fun _ => so_u)))
theorem shown_okc {y : Int32} (h9 : 0 ≤ F u 9 ∧ F u 9 ≤ 100) : OK (fun w _ => w = u) (hm_H_shown N u y) := by
  unfold hm_H_shown hb_H_shown_0 hb_H_shown_12
  rw [I_of y, lit0q, I_F (k := 9)]
  exact k_lt (ti_rng _) ⟨by decide, by decide⟩ (fun _ => so_u) (fun h0 => k_lt (ti_rng _) (FRG1 u _) (fun h1 => e_in ⟨by omega, by omega⟩ (by decide) so_u) (fun _ => so_u))
theorem printed_okc {y z : Int32} (W : WRD T Fv P PR u) : OK (fun w _ => w = u) (hm_H_printed N u y z) := by
  have g := W.1.1.2.2.2.2.2
  unfold hm_H_printed hb_H_printed_0 hb_H_printed_32
  rw [I_of y, I_of z, lit0q, I_F (k := 953)]
  have ry := ti_rng y
  have rz := ti_rng z
  refine k_lt ry ⟨by decide, by decide⟩ (fun _ => so_u) (fun h0 => k_le (FRG1 u _) ry (fun _ => so_u) (fun h1 => k_lt rz ⟨by decide, by decide⟩ (fun _ => so_u) (fun h2 => ?_)))
  have g2 := g.2 y.toInt.toNat (by omega)
  refine e_in ⟨by omega, by omega⟩ (by decide) ?_
  rw [tnI (n := y.toInt.toNat) (by omega) (by omega), I_A (k := 53)]
  refine k_lt rz (A_r u 53 _) (fun h3 => ?_) (fun _ => so_u)
  rw [I_lit (n := 100), I_mul, I_add]
  exact e_in ⟨by show 0 ≤ _ * (100 : Int) + _; omega, by show _ * (100 : Int) + _ < _; omega⟩ (by decide) so_u
theorem count_okc {y : Int32} : OK (fun w _ => w = u) (hm_H_count N u y) := by
  unfold hm_H_count hb_H_count_0 hb_H_count_70 hb_H_count_89 hb_H_count_108
  repeat' (first | exact so_u | apply br_u)
theorem isFun_e {y : Int32} : ∃ r, hm_H_isFunction N u y = some (u, r) ∧ (r ≠ 0 → F u 10 ≠ 0 ∧ 0 ≤ y.toInt ∧ y.toInt < F u 442) := by
  unfold hm_H_isFunction hb_H_isFunction_0 hb_H_isFunction_26 hb_H_isFunction_27
  by_cases e0 : u.1 10 = 0
  · rw [decide_eq_true e0, br_tq, show isb (0 : Int32) = true from by decide, ck_t]; exact ⟨0, rfl, fun z => absurd rfl z⟩
  · rw [decide_eq_false e0, br_fq]
    have r := ti_rng y
    have e1 : F u 10 ≠ 0 := fun z => e0 (by rw [I_F (k := 10), z]; rfl)
    rw [I_of y, lit0q, I_F (k := 442), decL r.1 r.2 (by decide) (by decide), decI (FRG1 u _).1 (FRG1 u _).2 r.1 r.2]
    by_cases h0 : y.toInt < 0
    · rw [decide_eq_true h0, br_tq, show isb (I 0) = true from by decide, ck_t]; exact ⟨I 0, rfl, fun z => absurd rfl z⟩
    · rw [decide_eq_false h0, br_fq]
      by_cases h1 : F u 442 ≤ y.toInt
      · rw [decide_eq_true h1, br_tq, show isb (I 0) = true from by decide, ck_t]; exact ⟨I 0, rfl, fun z => absurd rfl z⟩
      · rw [decide_eq_false h1, br_fq, show isb (1 : Int32) = true from by decide, ck_t]
        exact ⟨1, rfl, fun _ => ⟨e1, by rw [I_ti r.1 r.2]; omega, by rw [I_ti r.1 r.2]; omega⟩⟩
theorem function_okc {y z : Int32} (W : WRD T Fv P PR u) : OK (fun w _ => w = u) (hm_H_function N u y z) := by
  have c := W.2.2.2.1.1
  unfold hm_H_function hb_H_function_0
  obtain ⟨r, e, hr⟩ := isFun_e (N := N) (u := u) (y := y)
  rw [e, bnd_so]
  refine ok_br.mpr ⟨fun _ => so_u, fun h0 => ?_⟩
  obtain ⟨-, h1, h2⟩ := hr (of_decide_eq_false h0)
  have i6 : ∀ {v : Int32}, OK (fun w _ => w = u) (ck (inb y 666) (some (u, v))) := fun {v} => by
    rw [I_of y]; exact e_in ⟨by omega, by omega⟩ (by decide) so_u
  exact br_u i6 (br_u i6 (br_u i6 (br_u i6 so_u)))
theorem signW_ok {b : Nat} {y z : Int32} (hw : WDc u b) (hb : b < 1000) : OK (fun w _ => w = u) (hm_Wo_sign N u b y z) := by
  obtain ⟨w1, w2, w3, w4, w5⟩ := hw
  unfold hm_Wo_sign hb_Wo_sign_0 hb_Wo_sign_35
  have ry := ti_rng y
  have rz := ti_rng z
  rw [I_of y, I_of z, lit0q, I_F (k := 20 * b + 2)]
  refine k_lt ry ⟨by decide, by decide⟩ (fun _ => so_u) (fun h0 => k_le (FRG1 u _) ry (fun _ => so_u) (fun h1 => k_lt rz ⟨by decide, by decide⟩ (fun _ => so_u) (fun h2 => ?_)))
  have g2 := w5 y.toInt.toNat (by omega)
  rw [lit1q, I_add]
  refine e_in ⟨by omega, by omega⟩ (by omega) (e_in ⟨by omega, by omega⟩ (by omega) ?_)
  rw [tnI (n := y.toInt.toNat + 1) (by omega) (by omega), tnI (n := y.toInt.toNat) (by omega) (by omega), I_A (k := b + 2), I_A (k := b + 2), I_sub]
  refine k_lt rz ⟨by omega, by omega⟩ (fun h3 => e_in ⟨by omega, by omega⟩ (by omega) ?_) (fun _ => so_u)
  rw [I_add]
  exact e_in ⟨by omega, by omega⟩ (by omega) so_u
theorem letter_okc {y z : Int32} (W : WRD T Fv P PR u) : OK (fun w _ => w = u) (hm_H_letter N u y z) := by
  unfold hm_H_letter hb_H_letter_0
  exact br_u so_u (ok_bnd.mpr (ok_mono (signW_ok (N := N) W.2.1.2.2.1 (by omega)) (fun w _ hw => ok_some.mpr hw)))
theorem show209 {hq : Nat} (W : WRD T Fv P PR u) (hn : n ≤ 512) (g : HPc (u.2.2.2 (pq hq 2)) n ow kd Fv P) (gt : GT n ow kd P t) (hN : 1000000010 ≤ N) : OK (fun w _ => WRD T Fv P PR w ∧ (0 ≤ F w 9 ∧ F w 9 ≤ 100) ∧ FC 0 [1964, 865, 866, 9] [] [56] [] [] [] [] u w) (bnd (hm_Te_text N u (pq hq 2) t 56 0) (fun u5 r5 => lt (upI u5 9 r5) (fun w7 => some (w7, (w7.1 9))))) := by
  have cx := W.2.1
  rw [lit0q]
  refine ok_bnd.mpr (ok_mono (text_ok (N := N) (j := 56) (fr := 0) cx.2.2.2.2.2.2 cx.2.2.1 (by unfold pq; omega) rfl hn g gt (Or.inr rfl) ⟨by decide, by decide⟩ hN) (fun w1 r hw1 => ok_lt.mpr (ok_some.mpr ?_)))
  obtain ⟨f1, k, rfl, k0, k1⟩ := hw1
  rw [wi_e]
  have f2 : FC 0 [1964, 865, 866, 9] [] [56] [] [] [] [] u (wi w1 9 k) := FC.wi_g (FC.mo (FC.of f1 (by simp) (by simp) (by simp) (by simp)) (by simp) (by simp) (by simp) (by simp) (by simp) (by simp) (by simp)) (by omega) (by simp)
  exact ⟨WRD_g W f2 (DWc_g0 W.1 f2 (by simp) (by simp)) (by simp) (by simp), by rw [F_wi (by omega) (by omega), if_pos rfl]; exact ⟨k0, k1⟩, f2⟩
def SHQ (T : Nat → Option (Nat × Nat × List Nat × Nat × Nat)) (Fv : Int64 → Int64 → Prop) (P : Int64 → Prop) (PR : Nat) (u w : MS) : Prop := w = u ∨ (WRD T Fv P PR w ∧ (0 ≤ F w 9 ∧ F w 9 ≤ 100) ∧ FC 0 [1964, 865, 866, 9] [] [56] [] [] [] [] u w)
theorem show145 {y z : Int32} {b : Nat} (W : WRD T Fv P PR u) (hq : q < PR) (hal : F u (pq q 9) ≠ 3) (hz : 0 ≤ z.toInt) (st : STc T u q j wb nb cb rk L) (h26 : F u (pq q 26) = ((wb + h : Nat) : Int)) (h24 : F u (pq q 24) = ((nb + m : Nat) : Int)) (hb : (y = 0 → ((b : Nat) : Int) = F u (pq q 7)) ∧ (y ≠ 0 → y = 1 → b = m) ∧ (y ≠ 0 → y ≠ 1 → b = h)) (hN : 1000000010 ≤ N) : OK (fun w _ => SHQ T Fv P PR u w) (hb_H_show_145 N () u y z q q (I ((j : Nat) : Int)) (I ((b : Nat) : Int))) := by
  obtain ⟨n, ow, kd, B, W2, Y, p⟩ := (W.1.2 q hq).2.2 hal
  have eB : B = nb + m := by have := p.2.1.1; omega
  have eW : W2 = wb + h := by have := p.2.2.1.1; omega
  subst eB; subst eW
  have pb := PTQ_b p
  have pn := p.1.2.1
  have rz := ti_rng z
  have sh : ∀ {t : Int64}, GT n ow kd P t → OK (fun w _ => SHQ T Fv P PR u w) (hb_H_show_209 N () u q t) := fun gt => ok_mono (show209 (N := N) W (by omega) p.1.2.2 gt hN) (fun w _ hw => Or.inr hw)
  obtain ⟨hc, hj⟩ := st.2.1
  obtain ⟨s4, s5⟩ := st.2.2.1
  have bb : b ≤ 1000000 := by
    by_cases e0 : y = 0
    · have := hb.1 e0; have := p.2.2.2.1.1; omega
    · by_cases e1 : y = 1
      · have := hb.2.1 e0 e1; omega
      · have := hb.2.2 e0 e1; omega
  unfold hb_H_show_145
  rw [I_of z]
  refine k_lt rz ⟨by omega, by omega⟩ (fun h1 => ok_br.mpr ⟨fun c0 => ?_, fun c0 => ok_br.mpr ⟨fun c1 => ?_, fun c1 => ?_⟩⟩) (fun _ => ok_some.mpr (Or.inl rfl))
  · have e := hb.1 (of_decide_eq_true c0)
    have e7 := p.2.2.2.1.1
    refine e_in ⟨hz, by omega⟩ (by decide) ?_
    rw [tnI (n := z.toInt.toNat) (by omega) (by omega)]
    exact sh (p.2.2.2.1.2 _ (by omega))
  · have e := hb.2.1 (of_decide_eq_false c0) (of_decide_eq_true c1)
    obtain ⟨l, l1, l2, l3⟩ := p.2.2.2.2.1
    rw [I_lit (n := 2), of_e (y := ((j : Nat) : Int)) (z := 2) (a := j) (k := 2) hc hj rfl (Nat.le_refl _) rfl (by omega), bnd_so, s4, I_add, lnQ_e l1]
    refine e_in ⟨by omega, by omega⟩ (by omega) ?_
    rw [tnI (n := nb + z.toInt.toNat) (by omega) (by omega)]
    exact sh (p.2.1.2 _ (by omega))
  · have e := hb.2.2 (of_decide_eq_false c0) (of_decide_eq_false c1)
    obtain ⟨l, l1, l2, l3⟩ := p.2.2.2.2.2.1
    rw [I_lit (n := 3), of_e (y := ((j : Nat) : Int)) (z := 3) (a := j) (k := 3) hc hj rfl (Nat.le_refl _) rfl (by omega), bnd_so, s5, I_add, lnQ_e l1]
    refine e_in ⟨by omega, by omega⟩ (by omega) ?_
    rw [tnI (n := wb + z.toInt.toNat) (by omega) (by omega)]
    exact sh (p.2.2.1.2 _ (by omega))
theorem show_okc {x : Int} {y z : Int32} (W : WRD T Fv P PR u) (hx : RG x) (hN : 1000000010 ≤ N) : OK (fun w _ => SHQ T Fv P PR u w) (hm_H_show N u (I x) y z) := by
  have me : ∀ {r : Int32}, OK (fun w _ => SHQ T Fv P PR u w) (some (u, r)) := fun {r} => ok_some.mpr (Or.inl rfl)
  unfold hm_H_show hb_H_show_0 hb_H_show_19 hb_H_show_39 hb_H_show_93
  refine ok_bnd.mpr (ok_mono (findc_ok (N := N) W.1.1 hx) (fun w r hw => ?_))
  obtain ⟨rfl, hr⟩ := hw
  rcases r with _ | jj
  · exact ok_br.mpr ⟨fun _ => me, fun z => absurd z (by decide)⟩
  · have hj := hr jj rfl
    refine ok_br.mpr ⟨fun z => absurd z (by simp), fun _ => ?_⟩
    rw [bo_s, bo_s, show decide (0 ≤ z) = decide (I 0 ≤ I z.toInt) from by rw [← I_of z]; rfl]
    refine k_le ⟨by decide, by decide⟩ (ti_rng _) (fun h0 => ok_br.mpr ⟨fun _ => ?_, fun _ => ok_br.mpr ⟨fun _ => me, fun _ => ok_br.mpr ⟨fun _ => me, fun _ => ?_⟩⟩⟩) (fun _ => me)
    · refine k_F (y := 3) rfl ⟨by decide, by decide⟩ (fun he => ok_br.mpr ⟨fun _ => ?_, fun _ => me⟩) (fun _ => me)
      obtain ⟨hq2, n, ow, kd, e1, e2, e3, e4, e5, e6⟩ := (W.1.2 jj hj).2.1 he
      rw [e1, bo_s]
      exact ok_mono (show209 (N := N) W e4 e5 e6 hN) (fun w _ hw => Or.inr hw)
    · refine k_F (y := 3) rfl ⟨by decide, by decide⟩ (fun _ => me) (fun hal => ?_)
      obtain ⟨j, wb, nb, cb, rk, i, h, m, L, xx, st, e4, tt, hxx, b1, b2, -⟩ := W.2.2.2.2.1 jj hj hal
      obtain ⟨hc, hj60⟩ := st.2.1
      obtain ⟨s4, s5⟩ := st.2.2.1
      obtain ⟨n, ow, kd, B, W2, Y, p⟩ := (W.1.2 jj hj).2.2 hal
      have pb := PTQ_b p
      have e24 : B = nb + m := by have := p.2.1.1; omega
      have e26 : W2 = wb + h := by have := p.2.2.1.1; omega
      have ec : w.1 (pq jj 21) - 1 = I ((j : Nat) : Int) := by rw [I_F (k := pq jj 21), hc, lit1q, I_sub, show ((j + 1 : Nat) : Int) - 1 = ((j : Nat) : Int) by omega]
      have nI : hm_Fr_namesIn N w jj (I ((j : Nat) : Int)) = some (w, I ((m : Nat) : Int)) := by
        unfold hm_Fr_namesIn hb_Fr_namesIn_0 hb_Fr_namesIn_25
        rw [I_F (k := pq jj 21), hc, lit1q, I_add, decI (by omega) (by omega) (by omega) (by omega), decide_eq_true (by omega), br_tq, I_lit (n := 2), of_e (y := ((j : Nat) : Int)) (z := 2) (a := j) (k := 2) hc hj60 rfl (Nat.le_refl _) rfl (by omega), bnd_so, s4, I_F (k := pq jj 24), b2, I_sub, show ((nb + m : Nat) : Int) - ((nb : Nat) : Int) = ((m : Nat) : Int) by omega]
      have wI : hm_Fr_waitsIn N w jj (I ((j : Nat) : Int)) = some (w, I ((h : Nat) : Int)) := by
        unfold hm_Fr_waitsIn hb_Fr_waitsIn_0 hb_Fr_waitsIn_25
        rw [I_F (k := pq jj 21), hc, lit1q, I_add, decI (by omega) (by omega) (by omega) (by omega), decide_eq_true (by omega), br_tq, I_lit (n := 3), of_e (y := ((j : Nat) : Int)) (z := 3) (a := j) (k := 3) hc hj60 rfl (Nat.le_refl _) rfl (by omega), bnd_so, s5, I_F (k := pq jj 26), b1, I_sub, show ((wb + h : Nat) : Int) - ((wb : Nat) : Int) = ((h : Nat) : Int) by omega]
      rw [ec, nI, wI, bnd_so, bnd_so]
      refine ok_br.mpr ⟨fun c0 => ?_, fun c0 => ok_br.mpr ⟨fun c1 => ?_, fun c1 => ?_⟩⟩
      · rw [I_F (k := pq jj 7), p.2.2.2.1.1]
        exact show145 W hj hal h0 st b1 b2 ⟨fun _ => p.2.2.2.1.1.symm, fun z => absurd (of_decide_eq_true c0) z, fun z => absurd (of_decide_eq_true c0) z⟩ hN
      · exact show145 W hj hal h0 st b1 b2 ⟨fun z => absurd z (of_decide_eq_false c0), fun _ _ => rfl, fun _ z => absurd (of_decide_eq_true c1) z⟩ hN
      · exact show145 W hj hal h0 st b1 b2 ⟨fun z => absurd z (of_decide_eq_false c0), fun _ z => absurd z (of_decide_eq_false c1), fun _ _ => rfl⟩ hN
theorem clearAll_ok (W : WRD T Fv P PR u) : OK (fun w _ => WRD T Fv P 0 w ∧ FC 0 [942, 943, 944, 945, 946, 950, 953, 955, 956] [] [] [] [] [] [] u w) (hm_Wl_clearAll N u) := by
  unfold hm_Wl_clearAll hb_Wl_clearAll_0
  simp only [lt_e]
  rw [lit0q]
  simp only [wi_e]
  generalize hw : wi (wi (wi (wi (wi (wi (wi (wi (wi u 942 0) 943 0) 944 0) 945 0) 946 0) 950 0) 953 0) 955 0) 956 0 = w
  have f : FC 0 [942, 943, 944, 945, 946, 950, 953, 955, 956] [] [] [] [] [] [] u w := by
    rw [← hw]
    exact FC.wi_g (FC.wi_g (FC.wi_g (FC.wi_g (FC.wi_g (FC.wi_g (FC.wi_g (FC.wi_g (FC.wi_g FC.rf (by omega) (by simp)) (by omega) (by simp)) (by omega) (by simp)) (by omega) (by simp)) (by omega) (by simp)) (by omega) (by simp)) (by omega) (by simp)) (by omega) (by simp)) (by omega) (by simp)
  have v : F w 942 = 0 ∧ F w 950 = 0 ∧ F w 953 = 0 ∧ F w 955 = 0 ∧ F w 956 = 0 := by
    rw [← hw]
    simp [F_wi (show -2147483648 ≤ (0 : Int) by decide) (show (0 : Int) < 2147483648 by decide)]
  obtain ⟨v1, v2, v3, v4, v5⟩ := v
  obtain ⟨g1, g2, g3, g4, g5, g6⟩ := W
  have s : SCQ u w := SCQ_f f (by simp) (by simp)
  refine ok_some.mpr ⟨⟨⟨⟨⟨v1, by omega⟩, fun r hr => absurd hr (by omega), by omega, ⟨by rw [v4]; rfl, by omega⟩, fun i hi => absurd hi (by omega), by omega, fun i hi => absurd hi (by omega)⟩, fun r hr => absurd hr (by omega)⟩, CTX_s s g2, WFT_s s g3, CDT_s s g4, fun r hr => absurd hr (by omega), ALN_k g6 (f.2.2.1 1948 (by omega) (by simp)) (fun r hr h1 => LNB_fc h1 (fun k hk => f.2.2.2.2.1 r k (by simp at hk; omega) (by simp)))⟩, f⟩
theorem begin_okc {x : Int} (W : WRD T Fv P PR u) (hx : RG x) : OK (fun w _ => ∃ PR2, WRD T Fv P PR2 w) (hm_H_begin N u (I x)) := by
  have me : ∀ {z : Nat}, OK (fun w _ => ∃ PR2, WRD T Fv P PR2 w) (some (u, (.inr z : Unit ⊕ Nat))) := fun {z} => ok_some.mpr ⟨PR, W⟩
  unfold hm_H_begin hb_H_begin_0 hb_H_begin_102
  refine ok_br.mpr ⟨fun _ => me, fun _ => ?_⟩
  obtain ⟨r, e, hr⟩ := isFun_e (N := N) (u := u) (y := I x)
  rw [I_ti hx.1 hx.2] at hr
  rw [e, bnd_so]
  refine ok_br.mpr ⟨fun _ => me, fun h0 => ?_⟩
  obtain ⟨-, h1, h2⟩ := hr (of_decide_eq_false h0)
  have c := W.2.2.2.1
  have c1 := c.1
  obtain ⟨a, en, ea, ee, et⟩ := c.2.1 x.toNat (by omega)
  refine e_in ⟨h1, by have := c.1; omega⟩ (by decide) ?_
  rw [tnI (n := x.toNat) (by omega) (by omega), I_A (k := 25), ea, lit0q]
  refine k_eq ⟨by have := (W.2.2.1 _ _ _ _ _ _ et).2.1; omega, by have := (W.2.2.1 _ _ _ _ _ _ et).2.1; omega⟩ ⟨by decide, by decide⟩ (fun e0 => ?_) (fun _ => me)
  have e0 : a = 0 := by omega
  subst e0
  refine ok_bnd.mpr (ok_mono (clearAll_ok (N := N) W) (fun w1 _ hw1 => ok_lt.mpr ?_))
  obtain ⟨W1, f1⟩ := hw1
  rw [lit1q, wi_e]
  have f2 : FC 0 [943] [] [] [] [] [] [] w1 (wi w1 943 1) := FC.wi_g FC.rf (by omega) (by simp)
  have W2 : WRD T Fv P 0 (wi w1 943 1) := WRD_g W1 f2 (DWc_g0 W1.1 f2 (by simp) (by simp)) (by simp) (by simp)
  have s2 : SCQ u (wi w1 943 1) := by
    have a := SCQ_f f1 (by simp) (by simp)
    have b := SCQ_f f2 (by simp) (by simp)
    exact ⟨fun k hk => (b.1 k hk).trans (a.1 k hk), fun k hk => (b.2 k hk).trans (a.2 k hk)⟩
  refine ok_bnd.mpr (ok_mono (bornc_ok (N := N) W2.1 W2.2.2.2.2.2) (fun w3 r3 hw3 => ?_))
  rcases hw3 with ⟨rfl, rfl⟩ | ⟨rfl, hP, d0, f0, al0, z0, p0⟩
  · exact ok_br.mpr ⟨fun _ => ok_some.mpr ⟨0, W2⟩, fun z => absurd z (by decide)⟩
  · refine ok_br.mpr ⟨fun z => absurd z (by simp), fun _ => ?_⟩
    rw [bo_s]
    refine e_in ⟨h1, by have := c.1; omega⟩ (by decide) ?_
    have s3 : SCQ (wi w1 943 1) w3 := SCQ_f f0 (by simp) (by simp)
    have s03 : SCQ u w3 := ⟨fun k hk => (s3.1 k hk).trans (s2.1 k hk), fun k hk => (s3.2 k hk).trans (s2.2 k hk)⟩
    rw [I_A (k := 29), s03.A (k := 29) (by simp), ee]
    have te := (W.2.2.1 _ _ _ _ _ _ et).1
    refine ok_bnd.mpr (ok_mono (open_ok (N := N) (q := 0) (j := 0) (B := 0) (W := 0) (s := 0) (z0 21 (by simp)) (by omega) (z0 24 (by simp)) (z0 26 (by simp)) (by omega)) (fun w4 _ hw4 => ok_some.mpr ⟨0 + 1, ?_⟩))
    obtain ⟨f4, o1, -, o3, o4, o5, o6, o7⟩ := hw4
    have p4 : PTQ w4 0 0 (fun _ => 0) (fun _ => 0) Fv P 0 0 0 := PTQ_same p0 (fun k hk => f4.2.2.2.2.1 0 k (by simp at hk; omega) (fun _ => by simp at hk ⊢; omega)) (fun k hk => f4.jq (by simp at hk; omega) (by simp))
    have h90 : F w3 (pq 0 9) = 0 := z0 9 (by simp)
    have h94 : F w4 (pq 0 9) = 0 := by rw [f4.Fq (by omega) (by simp)]; exact h90
    have d4 : DWc Fv P (0 + 1) w4 := DWc_fc d0 f4 (by omega) (by rw [h90]; decide) (by rw [h94]; decide) (SMQ_up (d0.2 0 (by omega)).1 (f4.Fq (by omega) (by simp)) (f4.Fq (by omega) (by simp)) (by rw [f4.Fq (by omega) (by simp)]; exact Int.le_refl _) (by rw [h90]; decide)) ⟨_, _, _, _, _, _, p4⟩ (by simp) (by simp)
    have s4 : SCQ u w4 := by
      have b := SCQ_f f4 (by simp) (by simp)
      exact ⟨fun k hk => (b.1 k hk).trans (s03.1 k hk), fun k hk => (b.2 k hk).trans (s03.2 k hk)⟩
    refine ⟨d4, CTX_s s4 W.2.1, WFT_s s4 W.2.2.1, CDT_s s4 W.2.2.2.1, fun r hr hal => ?_, ALN_k al0 (f4.2.2.1 1948 (by omega) (by simp)) (fun r hr h1 => LNB_fc h1 (fun k hk => f4.2.2.2.2.1 r k (by simp at hk; omega) (fun _ => by simp at hk ⊢; omega)))⟩
    have e0 : r = 0 := by omega
    subst e0
    refine ⟨0, 0, 0, 0, 0, en, 0, 0, [], 0, ⟨⟨rfl, rfl, rfl, rfl⟩, ⟨o1, by omega⟩, ⟨o3, o4⟩, ?_, trivial⟩, ?_, et, Or.inl rfl, p4.2.2.1.1, p4.2.1.1, fun z => absurd rfl z⟩
    · rw [f4.Fq (by omega) (by simp)]; exact z0 28 (by simp)
    · rw [o5, I_ti (by omega) (by omega)]
end
