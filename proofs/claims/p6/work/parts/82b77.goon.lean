set_option maxRecDepth 100000
def WRD (T : Nat → Option (Nat × Nat × List Nat × Nat × Nat)) (Fv : Int64 → Int64 → Prop) (P : Int64 → Prop) (PR : Nat) (u : MS) : Prop := DWc Fv P PR u ∧ CTX Fv P u ∧ WFT T u ∧ CDT T u Fv ∧ (∀ r, r < PR → F u (pq r 9) ≠ 3 → PSQ T u r) ∧ ALN u
section
variable {T : Nat → Option (Nat × Nat × List Nat × Nat × Nat)} {Fv : Int64 → Int64 → Prop} {P : Int64 → Prop} {u v w w1 : MS} {PR N q r n B W Y i h m g x j wb nb cb rk c f i2 h2 m2 k a U d : Nat} {L : List Nat} {ow kd : Nat → Nat} {t rest : Int64} {gi gl ga ki kl ka kj : List Nat}
theorem op_ok (M : MIc T Fv P PR q u i h m L g x j wb nb cb rk) (t9 : F u 1109 = 0) (t8 : F u 1108 = 0) (hf : PHc T u q i x rk ≤ c) (hN : 600000000010 ≤ N) {K : MS → Option (MS × Int32)} {Q : MS → Int32 → Prop} (hK : ∀ w PR2, OPQ T Fv P PR2 q c w → OK Q (K w)) :
    OK Q (bnd (hm_Co_at N u (u.1 1105)) (fun u17 r17 => br (decide (r17 = 39)) (bnd (hm_Co_at N u17 ((u17.1 1105) + 1)) (fun u29 r29 => bnd (hm_Ma_predefined N u29 q r29) (fun u31 _ => K u31))) (br (decide (r17 = 40)) (bnd (hm_Co_at N u17 ((u17.1 1105) + 1)) (fun u24 r24 => bnd (hm_Ma_toward N u24 q r24) (fun u26 _ => K u26))) (br (decide (8 ≤ r17)) (br (decide (18 ≤ r17)) (bnd (hm_Ma_flow N u17 q r17) (fun u19 _ => K u19)) (bnd (hm_Ma_value N u17 q r17) (fun u20 _ => K u20))) (bnd (hm_Ma_making N u17 q r17) (fun u21 _ => K u21)))))) := by
  have mb := MI_b M
  obtain ⟨b1, b2, -, -, ⟨b5, b6⟩, ins⟩ := M.1.2.2.1 _ _ _ _ _ _ M.2.2.2.1.1
  have e5 := M.2.2.2.1.2
  have rA := A_r u 23 i
  rw [I_F (k := 1105), e5, Co_e (k := i) rfl mb.1.2, bnd_so]
  have hop : i + 1 < 24000 → hm_Co_at N u ((u.1 1105) + 1) = some (u, I (A u 23 (i + 1))) := fun z => by
    rw [I_F (k := 1105), e5, lit1q, I_add, Co_e (k := i + 1) (by omega) z]
  have hi1 : ∀ y, T (i + 2) = some y → i + 1 < 24000 := fun y e => by
    obtain ⟨a, b, c, d, e2⟩ := y
    have := (M.1.2.2.1 _ _ _ _ _ _ e).1.2
    omega
  rw [show (39 : Int32) = I 39 from rfl, show (40 : Int32) = I 40 from rfl, show (8 : Int32) = I 8 from rfl, show (18 : Int32) = I 18 from rfl]
  refine k_eq rA ⟨by decide, by decide⟩ (fun z => ?_) (fun z39 => k_eq rA ⟨by decide, by decide⟩ (fun z => ?_) (fun z40 => ?_))
  · have hh : tkc (A u 23 (i + 1)) ≤ h ∧ T (i + 2) = some (h - tkc (A u 23 (i + 1)) + 1, m, L, g, x) := by
      rcases ins with ins | ins | ins
      · exfalso
        rcases ins with ⟨o, -⟩ | ⟨o, -⟩ | ⟨o, -⟩ | ⟨o, -⟩ | ⟨o, -⟩ | ⟨o, -⟩ | ⟨o, -⟩ | ⟨o, -⟩ | ⟨o, -⟩ | ⟨o, -⟩ | ⟨o, -⟩ | ⟨o, -⟩ | ⟨o, -⟩ <;> omega
      · exfalso
        rcases ins with ⟨o, -⟩ | ⟨o, -⟩ | ⟨o, -⟩ | ⟨o, -⟩ | ⟨o, -⟩ | ⟨o, -⟩ | ⟨o, -⟩ | ⟨o, -⟩ | ⟨o, -⟩ | ⟨o, -⟩ | ⟨o, -⟩ <;> omega
      · rcases ins with ⟨o, -⟩ | ⟨o, -⟩ | ⟨o, -⟩ | ⟨o, -⟩ | ⟨o, -⟩ | o | ⟨o, -⟩ | ⟨-, o1, o2⟩ | ⟨o, -⟩
        · omega
        · omega
        · omega
        · omega
        · omega
        · omega
        · omega
        · exact ⟨o1, o2⟩
        · omega
    rw [hop (hi1 _ hh.2), bnd_so]
    refine ok_bnd.mpr (ok_mono (predefined_ok (N := N) M (b6 (by omega)) t9 t8 hf (A_r u 23 (i + 1)) hh.1 hh.2 (by omega)) (fun w _ hw => ?_))
    obtain ⟨PR2, hw⟩ := hw
    exact hK w PR2 hw
  · have hh : (if A u 23 (i + 1) = 29 then 2 else 1) ≤ h ∧ T (i + 2) = some (h - (if A u 23 (i + 1) = 29 then 2 else 1) + 1, m, L, g, x) := by
      rcases ins with ins | ins | ins
      · exfalso
        rcases ins with ⟨o, -⟩ | ⟨o, -⟩ | ⟨o, -⟩ | ⟨o, -⟩ | ⟨o, -⟩ | ⟨o, -⟩ | ⟨o, -⟩ | ⟨o, -⟩ | ⟨o, -⟩ | ⟨o, -⟩ | ⟨o, -⟩ | ⟨o, -⟩ | ⟨o, -⟩ <;> omega
      · exfalso
        rcases ins with ⟨o, -⟩ | ⟨o, -⟩ | ⟨o, -⟩ | ⟨o, -⟩ | ⟨o, -⟩ | ⟨o, -⟩ | ⟨o, -⟩ | ⟨o, -⟩ | ⟨o, -⟩ | ⟨o, -⟩ | ⟨o, -⟩ <;> omega
      · rcases ins with ⟨o, -⟩ | ⟨o, -⟩ | ⟨o, -⟩ | ⟨o, -⟩ | ⟨o, -⟩ | o | ⟨o, -⟩ | ⟨o, -⟩ | ⟨-, o1, o2⟩
        · omega
        · omega
        · omega
        · omega
        · omega
        · omega
        · omega
        · omega
        · exact ⟨o1, o2⟩
    rw [hop (hi1 _ hh.2), bnd_so]
    exact ok_bnd.mpr (ok_mono (toward_ok (N := N) M (b6 (by omega)) t9 t8 hf (A_r u 23 (i + 1)) hh.1 hh.2 (by omega)) (fun w _ hw => hK w PR hw))
  · refine k_le ⟨by decide, by decide⟩ rA (fun c8 => k_le ⟨by decide, by decide⟩ rA (fun c18 => ?_) (fun c18 => ?_)) (fun c8 => ?_)
    · exact ok_bnd.mpr (ok_mono (flow_ok (N := N) M t9 t8 hf c18 ⟨z39, z40⟩ hN) (fun w _ hw => hK w PR hw))
    · exact ok_bnd.mpr (ok_mono (value_ok (N := N) M t9 t8 hf c8 c18 hN) (fun w _ hw => hK w PR hw))
    · exact ok_bnd.mpr (ok_mono (making_ok (N := N) M t9 t8 hf c8 (by omega)) (fun w _ hw => hK w PR hw))
def LPQ (T : Nat → Option (Nat × Nat × List Nat × Nat × Nat)) (Fv : Int64 → Int64 → Prop) (P : Int64 → Prop) (PR q f : Nat) (w : MS) : Prop := NRM T Fv P PR q f w ∨ ENDc T Fv P PR q w ∨ SVc T Fv P PR q w
theorem LPQ_w (l : LPQ T Fv P PR q f u) (k : WQ Fv P PR u w) : LPQ T Fv P PR q f w := by
  rcases l with ⟨⟨i, h, m, L, g, x, j, wb, nb, cb, rk, M, hf⟩, t9, t8⟩ | ⟨G, e3, t9, h21⟩ | ⟨G, ⟨s1, s2⟩, t9, i, h, m, L, x, j, wb, nb, cb, rk, st, ⟨t1, t2⟩, hx, ⟨b1, b2⟩, un⟩
  · by_cases hal : F w (pq q 9) = 3
    · exact Or.inr (Or.inl (END_w M.1 k hal t9 (M21 M)))
    · obtain ⟨M2, ph⟩ := MI_w M k hal
      exact Or.inl ⟨⟨i, h, m, L, g, x, j, wb, nb, cb, rk, M2, by rw [ph]; exact hf⟩, by rw [k.2.1.G (by omega) (by simp)]; exact t9, by rw [k.2.1.G (by omega) (by simp)]; exact t8⟩
  · exact Or.inr (Or.inl (END_w G k (k.2.2.en e3) t9 h21))
  · by_cases hal : F w (pq q 9) = 3
    · exact Or.inr (Or.inl (END_w G k hal t9 (by have := st.2.1; omega)))
    · have f := k.2.1
      refine Or.inr (Or.inr ⟨GEN_w G k, ⟨hal, fun z => ?_⟩, by rw [f.G (by omega) (by simp)]; exact t9, i, h, m, L, x, j, wb, nb, cb, rk, STc_s st (f.2.2.1 q 30 (by omega) (by simp)) (f.2.2.1 q 37 (by omega) (by simp)) (f.1 q 21 (by omega) (by simp)) (f.1 q 28 (by omega) (by simp)), ⟨t1, by rw [f.G (by omega) (by simp)]; exact t2⟩, hx, ⟨by rw [f.F (by omega) (by simp)]; exact b1, by rw [f.F (by omega) (by simp)]; exact b2⟩, UN_k un (f.2.2.2.2.2.1 q 10 (by omega) (by simp)) (f.2.2.2.1 23 (by omega) (by simp))⟩)
      rw [f.G (by omega) (by simp)]
      refine s2 ?_
      rcases (k.2.2 q).1 with e | e
      · rw [← e]; exact z
      · exact absurd e hal
theorem step_w (o : OPQ T Fv P PR q c u) {G : MS → Nat → Int32 → Option (MS × Int32)} {v3 : Int32} {Q : MS → Int32 → Prop} (hG : ∀ w, LPQ T Fv P PR q c w → OK Q (G w q (v3 + 1))) (hN : 3000000 ≤ N) : OK Q (hb_Ma_goOn_195 N G u q v3) := by
  have fin : ∀ w, LPQ T Fv P PR q c w → OK Q (hb_Ma_goOn_206 N G w q v3) := fun w l => by
    have d : DWc Fv P PR w ∧ CTX Fv P w := by
      rcases l with ⟨⟨i, h, m, L, g, x, j, wb, nb, cb, rk, M, hf⟩, -⟩ | ⟨G, -⟩ | ⟨G, -⟩
      · exact ⟨M.1.1, M.1.2.1⟩
      · exact ⟨G.1, G.2.1⟩
      · exact ⟨G.1, G.2.1⟩
    unfold hb_Ma_goOn_206
    exact ok_bnd.mpr (ok_mono (settle_ok (N := N) d.1 d.2 hN) (fun w2 _ hw2 => hG w2 (LPQ_w l hw2)))
  unfold hb_Ma_goOn_195
  have ok0 : LPQ T Fv P PR q c u → F u 1109 = 0 → OK Q (br (decide ((u.1 1109) = 0)) (hb_Ma_goOn_206 N G u q v3) (bnd (hm_Ma_raise N u q) (fun u10 _ => hb_Ma_goOn_206 N G u10 q v3))) := fun l z => k_F (y := 0) rfl ⟨by decide, by decide⟩ (fun _ => fin u l) (fun y => absurd z y)
  rcases o with o | o | o | o
  · exact ok0 (Or.inl o) o.2.1
  · refine k_F (y := 0) rfl ⟨by decide, by decide⟩ (fun z => ?_) (fun _ => ?_)
    · exfalso
      obtain ⟨v, how, ar, t, -, -, -, -, hh, ha, rfl⟩ := o
      have e : F (wi (wi v 1109 how) 1111 ar) 1109 = 0 := z
      rw [F_wi (by omega) (by omega), if_neg (by decide), F_wi (by omega) (by omega), if_pos rfl] at e
      omega
    · refine ok_bnd.mpr (ok_mono (raise_ok (N := N) o hN) (fun w _ hw => ?_))
      rcases hw with hw | hw
      · exact fin w (Or.inl hw)
      · exact fin w (Or.inr (Or.inl hw))
  · exact ok0 (Or.inr (Or.inl o)) o.2.2.1
  · exact ok0 (Or.inr (Or.inr o)) o.2.2.1
theorem exit_okc {G : MS → Nat → Int32 → Option (MS × Int32)} (l : ENDc T Fv P PR q u ∨ SVc T Fv P PR q u) : OK (fun w _ => WRD T Fv P PR w) (hb_Ma_goOn_219 N G u q) := by
  unfold hb_Ma_goOn_219
  rcases l with ⟨⟨g1, g2, g3, g4, g5, g6, g7, g8⟩, e3, t9, h21⟩ | ⟨⟨g1, g2, g3, g4, g5, g6, g7, g8⟩, ⟨s1, s2⟩, t9, i, h, m, L, x, j, wb, nb, cb, rk, st, ⟨t1, t2⟩, hx, ⟨b1, b2⟩, un⟩
  · by_cases z : F u (pq q 21) ≤ 0
    · have e : hm_Fr_setPlace N u q (u.1 1105) = some (u, ()) := by
        unfold hm_Fr_setPlace hb_Fr_setPlace_0 hm_Fr_set hb_Fr_set_0 hb_Fr_set_23
        rw [I_F (k := pq q 21), lit0q, decI (FRG1 u _).1 (FRG1 u _).2 (by decide) (by decide), decide_eq_true z, br_tq, bnd_so]
      rw [e, bnd_so]
      refine ok_some.mpr ⟨g1, g2, g3, g4, fun r hr hal => g5 r hr (fun y => hal (y ▸ e3)) hal, g6⟩
    · obtain ⟨jj, hj⟩ : ∃ jj : Nat, F u (pq q 21) = ((jj + 1 : Nat) : Int) := ⟨(F u (pq q 21)).toNat - 1, by omega⟩
      rw [setPlace_e hj (by omega), bnd_so]
      have f : FC q [] [] [] [] [] [30] [] u (s30 u q (5 * jj + 4) (u.1 1105)) := FC.s30 FC.rf (by simp)
      have s : SCQ u (s30 u q (5 * jj + 4) (u.1 1105)) := SCQ_f f (by simp) (by simp)
      refine ok_some.mpr ⟨DWc_dead g1 f e3 (by simp) (by simp) (by simp) (by simp) (by simp), CTX_s s g2, WFT_s s g3, CDT_s s g4, fun r hr hal => ?_, ALN_k g6 (f.2.2.1 1948 (by omega) (by simp)) (fun r _ h1 => LNB_fc h1 (fun _ _ => rfl))⟩
      have e : r ≠ q := fun y => hal (y ▸ e3)
      exact PSQ_o (g5 r hr e hal) f e (by simp)
  · obtain ⟨hc, hj⟩ := st.2.1
    rw [setPlace_e hc hj, bnd_so]
    have f : FC q [] [] [] [] [] [30] [] u (s30 u q (5 * j + 4) (u.1 1105)) := FC.s30 FC.rf (by simp)
    have s : SCQ u (s30 u q (5 * j + 4) (u.1 1105)) := SCQ_f f (by simp) (by simp)
    have d : DWc Fv P PR (s30 u q (5 * j + 4) (u.1 1105)) := by
      obtain ⟨n, ow, kd, B, W, Y, p⟩ := (g1.2 q g7).2.2 s1
      exact DWc_fc g1 f g7 s1 s1 (g1.2 q g7).1 ⟨n, ow, kd, B, W, Y, PTQ_same p (fun _ _ => rfl) (fun _ _ => rfl)⟩ (by simp) (by simp)
    refine ok_some.mpr ⟨d, CTX_s s g2, WFT_s s g3, CDT_s s g4, fun r hr hal => ?_, ALN_k g6 (f.2.2.1 1948 (by omega) (by simp)) (fun r _ h1 => LNB_fc h1 (fun _ _ => rfl))⟩
    by_cases e : r = q
    · subst e
      refine ⟨j, wb, nb, cb, rk, i, h, m, L, x, STc_r st (fun a ha _ _ => ?_) s30_37 rfl rfl, ?_, t1, hx, b1, b2, un⟩
      · rw [s30_a, if_neg (by omega)]
      · rw [s30_a, if_pos rfl]; exact t2
    · exact PSQ_o (g5 r hr e hal) f e (by simp)
theorem goOn_loop (hN : 600000000010 ≤ N) : ∀ (K f v3 : Nat) (PR : Nat) (u : MS), f + 2 ≤ K → f + v3 ≤ 900000000 → LPQ T Fv P PR q f u → OK (fun w _ => ∃ PR2, WRD T Fv P PR2 w) (hg_Ma_goOn N K u q (I ((v3 : Nat) : Int))) := by
  intro K
  induction K with
  | zero => intro f v3 PR u h; omega
  | succ K ih =>
    intro f v3 PR u hK hv l
    show OK _ (hb_Ma_goOn_67 N (hg_Ma_goOn N K) u q (I ((v3 : Nat) : Int)))
    unfold hb_Ma_goOn_67
    rw [show (1000000000 : Int32) = I 1000000000 from rfl]
    refine k_le ⟨by decide, by decide⟩ ⟨by omega, by omega⟩ (fun z => absurd z (by omega)) (fun _ => ?_)
    have ex : ENDc T Fv P PR q u ∨ SVc T Fv P PR q u → OK (fun w _ => ∃ PR2, WRD T Fv P PR2 w) (hb_Ma_goOn_219 N (hg_Ma_goOn N K) u q) := fun l => ok_mono (exit_okc l) (fun w _ hw => ⟨PR, hw⟩)
    rcases l with ⟨⟨i, h, m, L, g, x, j, wb, nb, cb, rk, M, hf⟩, t9, t8⟩ | l | l
    · refine k_F (y := 0) rfl ⟨by decide, by decide⟩ (fun _ => k_F (y := 0) rfl ⟨by decide, by decide⟩ (fun _ => ?_) (fun z => absurd t8 z)) (fun z => absurd M.2.1 z)
      refine op_ok (K := fun w => hb_Ma_goOn_195 N (hg_Ma_goOn N K) w q (I ((v3 : Nat) : Int))) (c := f - 1) M t9 t8 (by omega) hN (fun w PR2 o => ?_)
      refine step_w o (fun w2 l2 => ?_) (by omega)
      rw [lit1q, I_add, show ((v3 : Nat) : Int) + 1 = ((v3 + 1 : Nat) : Int) by omega]
      exact ih (f - 1) (v3 + 1) PR2 w2 (by omega) (by omega) l2
    · refine k_F (y := 0) rfl ⟨by decide, by decide⟩ (fun z => ?_) (fun _ => ex (Or.inl l))
      have := l.2.1
      omega
    · refine k_F (y := 0) rfl ⟨by decide, by decide⟩ (fun z => k_F (y := 0) rfl ⟨by decide, by decide⟩ (fun y => absurd y (l.2.1.2 z)) (fun _ => ex (Or.inr l))) (fun _ => ex (Or.inr l))
theorem goOn_ok {y : Int} (W : WRD T Fv P PR u) (hq : q < PR) (hal : F u (pq q 9) ≠ 3) (hy : 0 ≤ y ∧ y ≤ 500) (hN : 600000000010 ≤ N) : OK (fun w _ => ∃ PR2, WRD T Fv P PR2 w) (hm_Ma_goOn N u q (I y)) := by
  obtain ⟨g1, g2, g3, g4, g5, g6⟩ := W
  obtain ⟨j, wb, nb, cb, rk, i, h, m, L, x, st, e4, tt, hx, b1, b2, un⟩ := g5 q hq hal
  obtain ⟨hc, hj⟩ := st.2.1
  have tb := g3 _ _ _ _ _ _ tt
  unfold hm_Ma_goOn hb_Ma_goOn_0 hm_Fr_place hb_Fr_place_0
  rw [I_F (k := pq q 21), hc, lit1q, I_sub, show ((j + 1 : Nat) : Int) - 1 = ((j : Nat) : Int) by omega, I_lit (n := 4), of_e (y := ((j : Nat) : Int)) (z := 4) (a := j) (k := 4) hc hj rfl (Nat.le_refl _) rfl (by omega), bnd_so, e4, bnd_so, lit0q]
  refine ok_lt.mpr (ok_lt.mpr (ok_lt.mpr (ok_lt.mpr (ok_lt.mpr (ok_lt.mpr (ok_lt.mpr (ok_lt.mpr ?_)))))))
  simp only [wi_e]
  generalize hw : wi (wi (wi (wi (wi (wi (wi (wi u 1105 ((i : Nat) : Int)) 1106 0) 1107 y) 1108 0) 1109 0) 1112 0) (pq q 9) 0) (pq q 29) 0 = w
  have f : FC q [1105, 1106, 1107, 1108, 1109, 1112] [] [] [9, 29] [] [] [] u w := by
    rw [← hw]
    exact FC.wi_q (FC.wi_q (FC.wi_g (FC.wi_g (FC.wi_g (FC.wi_g (FC.wi_g (FC.wi_g FC.rf (by omega) (by simp)) (by omega) (by simp)) (by omega) (by simp)) (by omega) (by simp)) (by omega) (by simp)) (by omega) (by simp)) (by omega) (by simp)) (by omega) (by simp)
  have v : F w 1105 = ((i : Nat) : Int) ∧ F w 1106 = 0 ∧ F w 1107 = y ∧ F w 1108 = 0 ∧ F w 1109 = 0 ∧ F w 1112 = 0 ∧ F w (pq q 9) = 0 := by
    rw [← hw]
    have e1 : pq q 29 ≠ pq q 9 := pq_inj (by decide)
    refine ⟨?_, ?_, ?_, ?_, ?_, ?_, ?_⟩
    · rw [F_wi (by decide) (by decide), if_neg (by unfold pq; omega), F_wi (by decide) (by decide), if_neg (by unfold pq; omega), F_wi (by decide) (by decide), if_neg (by decide), F_wi (by decide) (by decide), if_neg (by decide), F_wi (by decide) (by decide), if_neg (by decide), F_wi (by omega) (by omega), if_neg (by decide), F_wi (by decide) (by decide), if_neg (by decide), F_wi (by omega) (by omega), if_pos rfl]
    · rw [F_wi (by decide) (by decide), if_neg (by unfold pq; omega), F_wi (by decide) (by decide), if_neg (by unfold pq; omega), F_wi (by decide) (by decide), if_neg (by decide), F_wi (by decide) (by decide), if_neg (by decide), F_wi (by decide) (by decide), if_neg (by decide), F_wi (by omega) (by omega), if_neg (by decide), F_wi (by decide) (by decide), if_pos rfl]
    · rw [F_wi (by decide) (by decide), if_neg (by unfold pq; omega), F_wi (by decide) (by decide), if_neg (by unfold pq; omega), F_wi (by decide) (by decide), if_neg (by decide), F_wi (by decide) (by decide), if_neg (by decide), F_wi (by decide) (by decide), if_neg (by decide), F_wi (by omega) (by omega), if_pos rfl]
    · rw [F_wi (by decide) (by decide), if_neg (by unfold pq; omega), F_wi (by decide) (by decide), if_neg (by unfold pq; omega), F_wi (by decide) (by decide), if_neg (by decide), F_wi (by decide) (by decide), if_neg (by decide), F_wi (by decide) (by decide), if_pos rfl]
    · rw [F_wi (by decide) (by decide), if_neg (by unfold pq; omega), F_wi (by decide) (by decide), if_neg (by unfold pq; omega), F_wi (by decide) (by decide), if_neg (by decide), F_wi (by decide) (by decide), if_pos rfl]
    · rw [F_wi (by decide) (by decide), if_neg (by unfold pq; omega), F_wi (by decide) (by decide), if_neg (by unfold pq; omega), F_wi (by decide) (by decide), if_pos rfl]
    · rw [F_wi (by decide) (by decide), if_neg e1.symm, F_wi (by decide) (by decide), if_pos rfl]
  obtain ⟨v5, v6, v7, v8, v9, v12, vs⟩ := v
  obtain ⟨n, ow, kd, B, W, Y, p⟩ := (g1.2 q hq).2.2 hal
  have eB : B = nb + m := by have := p.2.1.1; omega
  have eW : W = wb + h := by have := p.2.2.1.1; omega
  subst eB; subst eW
  have p2 : PTQ w q n ow kd Fv P (nb + m) (wb + h) Y := PTQ_same p (fun k hk => f.2.2.2.2.1 q k (by simp at hk; omega) (fun _ => by simp at hk ⊢; omega)) (fun k hk => f.jq (by simp at hk; omega) (by simp))
  have sm : SMQ w q := SMQ_up (g1.2 q hq).1 (f.Fq (by omega) (by simp)) (f.Fq (by omega) (by simp)) (by rw [f.Fq (by omega) (by simp)]; exact Int.le_refl _) hal
  have d : DWc Fv P PR w := DWc_fc g1 f hq hal (by rw [vs]; decide) sm ⟨n, ow, kd, _, _, Y, p2⟩ (by simp) (by simp)
  have s : SCQ u w := SCQ_f f (by simp) (by simp)
  have al : ALN w := ALN_k g6 (f.2.2.1 1948 (by omega) (by simp)) (fun r _ h1 => LNB_fc h1 (fun k hk => f.2.2.2.2.1 r k (by simp at hk; omega) (fun _ => by simp at hk ⊢; omega)))
  have oth : OTH T PR q w := fun r hr hrq hal => PSQ_o (g5 r hr (by rw [← f.Fo hrq (by omega)]; exact hal)) f hrq (by simp)
  have M : MIc T Fv P PR q w i h m L 0 x j wb nb cb rk := ⟨⟨d, CTX_s s g2, WFT_s s g3, CDT_s s g4, oth, al, hq, by rw [v6, v7]; omega⟩, vs, STc_s st (f.2.2.2.2.2.2.1 q 30 (by omega) (by simp)) (f.2.2.2.2.2.2.1 q 37 (by omega) (by simp)) (f.2.2.2.2.1 q 21 (by omega) (by simp)) (f.2.2.2.2.1 q 28 (by omega) (by simp)), ⟨tt, v5⟩, ⟨by rw [f.Fq (by omega) (by simp)]; exact b1, by rw [f.Fq (by omega) (by simp)]; exact b2⟩, ⟨fun _ => v12, fun z => absurd rfl z⟩, fun z1 z2 => by omega, UN_k un (f.2.2.2.2.2.1 q 10 (by omega) (by simp)) (f.2.2.1 23 (by omega) (by simp))⟩
  have mb := MI_b M
  have hph : PHc T w q i x rk < 600000000 := by
    unfold PHc
    rw [v6, v7]
    have := pot_le (T := T) (i := i) (x := x) (t := (F w (pq q 8)).toNat) (by omega)
    have := mb.2.2.2.2
    omega
  exact goOn_loop (q := q) hN N 600000000 0 PR w (by omega) (by omega) (Or.inl ⟨⟨_, _, _, _, _, _, _, _, _, _, _, M, hph⟩, v9, v8⟩)
end
