set_option maxRecDepth 100000
section
variable {T : Nat → Option (Nat × Nat × List Nat × Nat × Nat)} {Fv : Int64 → Int64 → Prop} {P : Int64 → Prop} {u v w w1 : MS} {PR N q r n B W Y i h m g x j wb nb cb rk c f i2 h2 m2 g2 x2 j2 wb2 nb2 cb2 rk2 k a U d b e s : Nat} {L L2 : List Nat} {ow kd : Nat → Nat} {t rest : Int64} {gi gl ga ki kl ka kj : List Nat}
def s30 (u : MS) (q k : Nat) (z : Int32) : MS := upA u (pq q 30) (upd (u.2.2.1 (pq q 30)) k z)
theorem s30_a {z : Int32} : A (s30 u q k z) (pq q 30) a = if a = k then z.toInt else A u (pq q 30) a := by
  show ((if pq q 30 = pq q 30 then upd (u.2.2.1 (pq q 30)) k z else u.2.2.1 (pq q 30)) a).toInt = _
  rw [if_pos rfl]
  unfold upd
  by_cases e : a = k
  · rw [if_pos e, if_pos e]
  · rw [if_neg e, if_neg e]; rfl
theorem s30_1 {z : Int32} : (s30 u q k z).1 = u.1 := rfl
theorem s30_4 {z : Int32} : (s30 u q k z).2.2.2 = u.2.2.2 := rfl
theorem s30_37 {z : Int32} : (s30 u q k z).2.2.1 (pq q 37) = u.2.2.1 (pq q 37) := if_neg (pq_inj (by decide))
theorem FC.s30 {z : Int32} (f : FC q gi gl ga ki kl ka kj u w) (h : 30 ∈ ka) : FC q gi gl ga ki kl ka kj u (s30 w q k z) := FC.A_q f (by omega) h
theorem set_s {y : Int} {z : Int32} (h21 : F u (pq q 21) = ((j + 1 : Nat) : Int)) (hj : j < 60) (hy : y = ((k : Nat) : Int)) (hk : k ≤ 4) : hm_Fr_set N u q (I y) z = some (s30 u q (5 * j + k) z, ()) := set_e h21 hj hy hk
theorem setPlace_e {z : Int32} (h21 : F u (pq q 21) = ((j + 1 : Nat) : Int)) (hj : j < 60) : hm_Fr_setPlace N u q z = some (s30 u q (5 * j + 4) z, ()) := by
  unfold hm_Fr_setPlace hb_Fr_setPlace_0
  rw [I_lit (n := 4), set_s (y := 4) (k := 4) h21 hj rfl (by omega), bnd_so]
theorem F_s30 {z : Int32} {l : Nat} : F (s30 u q k z) l = F u l := rfl
theorem open_ok {fn en : Int32} (h21 : F u (pq q 21) = ((j : Nat) : Int)) (hj : j < 60) (hB : F u (pq q 24) = ((B : Nat) : Int)) (hW : F u (pq q 26) = ((W : Nat) : Int)) (hs : s ≤ W) : OK (fun w _ => FC q [] [] [] [21] [] [30] [] u w ∧ F w (pq q 21) = ((j + 1 : Nat) : Int) ∧ (∀ a, a < 5 * j → A w (pq q 30) a = A u (pq q 30) a) ∧ A w (pq q 30) (5 * j + 2) = ((B : Nat) : Int) ∧ A w (pq q 30) (5 * j + 3) = ((W - s : Nat) : Int) ∧ A w (pq q 30) (5 * j + 4) = en.toInt ∧ w.2.2.1 (pq q 37) = u.2.2.1 (pq q 37) ∧ w.2.2.2 = u.2.2.2) (hm_Fr_open N u q fn en (I ((s : Nat) : Int))) := by
  have rW := F_r u (pq q 26)
  have rB := F_r u (pq q 24)
  unfold hm_Fr_open hb_Fr_open_0
  rw [I_F (k := pq q 21), h21, I_lit (n := 60)]
  refine k_lt ⟨by omega, by omega⟩ ⟨by decide, by decide⟩ (fun _ => ok_lt.mpr ?_) (fun z => absurd (show (60 : Int) ≤ _ from z) (by omega))
  rw [lit1q, I_add, wi_e, show ((j : Nat) : Int) + 1 = ((j + 1 : Nat) : Int) by omega]
  have f1 : FC q [] [] [] [21] [] [30] [] u (wi u (pq q 21) ((j + 1 : Nat) : Int)) := FC.wi_q FC.rf (by omega) (by simp)
  have e21 : F (wi u (pq q 21) ((j + 1 : Nat) : Int)) (pq q 21) = ((j + 1 : Nat) : Int) := by rw [F_wi (by omega) (by omega), if_pos rfl]
  have e24 : F (wi u (pq q 21) ((j + 1 : Nat) : Int)) (pq q 24) = ((B : Nat) : Int) := by rw [F_wi (by omega) (by omega), if_neg (pq_inj (by decide))]; exact hB
  have e26 : F (wi u (pq q 21) ((j + 1 : Nat) : Int)) (pq q 26) = ((W : Nat) : Int) := by rw [F_wi (by omega) (by omega), if_neg (pq_inj (by decide))]; exact hW
  have eA : ∀ a, A (wi u (pq q 21) ((j + 1 : Nat) : Int)) (pq q 30) a = A u (pq q 30) a := fun _ => rfl
  have e37 : (wi u (pq q 21) ((j + 1 : Nat) : Int)).2.2.1 (pq q 37) = u.2.2.1 (pq q 37) := rfl
  have e4 : (wi u (pq q 21) ((j + 1 : Nat) : Int)).2.2.2 = u.2.2.2 := rfl
  generalize wi u (pq q 21) ((j + 1 : Nat) : Int) = w1 at f1 e21 e24 e26 eA e37 e4 ⊢
  rw [I_lit (n := 2), set_s (y := 2) (k := 2) e21 hj rfl (by omega), bnd_so, I_F (k := pq q 24), e24]
  rw [I_F (k := pq q 26), F_s30, e26, I_sub, show ((W : Nat) : Int) - ((s : Nat) : Int) = ((W - s : Nat) : Int) by omega]
  rw [I_lit (n := 3), set_s (y := 3) (k := 3) (by exact e21) hj rfl (by omega), bnd_so, lit0q, set_s (y := 0) (k := 0) (by exact e21) hj rfl (by omega), bnd_so, set_s (y := 1) (k := 1) (by exact e21) hj rfl (by omega), bnd_so, I_lit (n := 4), set_s (y := 4) (k := 4) (by exact e21) hj rfl (by omega), bnd_so]
  refine ok_some.mpr ⟨FC.s30 (FC.s30 (FC.s30 (FC.s30 (FC.s30 f1 (by simp)) (by simp)) (by simp)) (by simp)) (by simp), e21, fun a ha => ?_, ?_, ?_, ?_, ?_, ?_⟩
  · rw [s30_a, if_neg (by omega), s30_a, if_neg (by omega), s30_a, if_neg (by omega), s30_a, if_neg (by omega), s30_a, if_neg (by omega)]; exact eA a
  · rw [s30_a, if_neg (by omega), s30_a, if_neg (by omega), s30_a, if_neg (by omega), s30_a, if_neg (by omega), s30_a, if_pos rfl, I_ti (by omega) (by omega)]
  · rw [s30_a, if_neg (by omega), s30_a, if_neg (by omega), s30_a, if_neg (by omega), s30_a, if_pos rfl, I_ti (by omega) (by omega)]
  · rw [s30_a, if_pos rfl]
  · rw [s30_37, s30_37, s30_37, s30_37, s30_37]; exact e37
  · exact e4
def ENQ (T : Nat → Option (Nat × Nat × List Nat × Nat × Nat)) (Fv : Int64 → Int64 → Prop) (P : Int64 → Prop) (q n : Nat) (ow kd : Nat → Nat) (Y s e rk0 : Nat) (u w : MS) : Prop := FC q [1105] [] [] [21, 24, 26] [] [30] [35] u w ∧ F w 1105 = ((e : Nat) : Int) ∧ ∃ j wb nb cb rk, STc T w q j wb nb cb rk [] ∧ PTQ w q n ow kd Fv P nb (wb + s) Y ∧ rk ≤ rk0 ∧ nb + 40 ≤ 2400
theorem enter0_ok {fn : Int32} (wt : WFT T u) (st : STc T u q j wb nb cb rk L) (hj : j + 1 < 60) (p : PTQ u q n ow kd Fv P (nb + m) (wb + h) Y) (hs : s ≤ h) (fl : FLc T L (h - s)) (ti : T i2 = some (h - s + 1, m, L, 0, 0)) (he : e < 24000) (hrk : rk + 32 * cKc T i2 24000 ≤ rk2) : OK (fun w _ => ENQ T Fv P q n ow kd Y s e rk2 u w) (hm_Ma_enter N u q fn (I ((e : Nat) : Int)) (I ((s : Nat) : Int)) 0 (I ((i2 : Nat) : Int))) := by
  unfold hm_Ma_enter hb_Ma_enter_0 hb_Ma_enter_37
  have i2b := (wt _ _ _ _ _ _ ti).1.2
  have mb := (wt _ _ _ _ _ _ ti).2.1
  have fb := FBc_b wt st.1
  refine ok_br.mpr ⟨fun _ => ?_, fun z => absurd z (by decide)⟩
  rw [setPlace_e st.2.1.1 st.2.1.2, bnd_so]
  have f1 : FC q [1105] [] [] [21, 24, 26] [] [30] [35] u (s30 u q (5 * j + 4) (I ((i2 : Nat) : Int))) := FC.s30 FC.rf (by simp)
  refine ok_bnd.mpr (ok_mono (open_ok (N := N) (j := j + 1) (B := nb + m) (W := wb + h) (s := s) st.2.1.1 hj p.2.1.1 p.2.2.1.1 (by omega)) (fun w2 _ hw2 => ok_lt.mpr (ok_some.mpr ?_)))
  obtain ⟨f2, e21, eA, a2, a3, a4, e37, e4⟩ := hw2
  rw [wi_e]
  have f3 : FC q [1105] [] [] [21, 24, 26] [] [30] [35] u (wi w2 1105 ((e : Nat) : Int)) := FC.wi_g (FC.tr f1 (FC.mo f2 (by simp) (by simp) (by simp) (by simp) (by simp) (by simp) (by simp))) (by omega) (by simp)
  have r37 : w2.2.2.1 (pq q 37) = u.2.2.1 (pq q 37) := by rw [e37, s30_37]
  have rA : ∀ a, a < 5 * (j + 1) → A w2 (pq q 30) a = if a = 5 * j + 4 then ((i2 : Nat) : Int) else A u (pq q 30) a := fun a ha => by
    rw [eA a ha, s30_a]
    by_cases z : a = 5 * j + 4
    · rw [if_pos z, if_pos z, I_ti (by omega) (by omega)]
    · rw [if_neg z, if_neg z]
  have eqA : ∀ a, A (wi w2 1105 ((e : Nat) : Int)) (pq q 30) a = A w2 (pq q 30) a := fun _ => rfl
  refine ⟨f3, by rw [F_wi (by omega) (by omega), if_pos rfl], j + 1, wb + (h - s), nb + m, cb + L.length, rk + 32 * cKc T i2 24000, ⟨⟨wb, nb, cb, rk, h - s, m, L, i2, FBc_r (w := wi w2 1105 ((e : Nat) : Int)) r37 (fun a ha => ?_) st.1, ?_, ?_, ?_, ti, rfl, rfl, rfl, rfl, fl, ENT_s (w := wi w2 1105 ((e : Nat) : Int)) r37 st.2.2.2.2⟩, ⟨?_, hj⟩, ⟨?_, ?_⟩, ?_, trivial⟩, ?_, hrk, by omega⟩
  · rw [eqA, eqA, eqA, rA _ (by omega), if_neg (by omega), rA _ (by omega), if_neg (by omega), rA _ (by omega), if_neg (by omega)]
    exact ⟨rfl, rfl, rfl⟩
  · rw [eqA, rA _ (by omega), if_neg (by omega)]; exact st.2.2.1.1
  · rw [eqA, rA _ (by omega), if_neg (by omega)]; exact st.2.2.1.2
  · rw [eqA, rA _ (by omega), if_pos rfl]
  · rw [F_wi (by omega) (by omega), if_neg (by unfold pq; omega)]; exact e21
  · rw [eqA]; exact a2
  · rw [eqA, a3]; omega
  · rw [f3.Fq (by omega) (by simp), st.2.2.2.1]; simp
  · have p2 : PTQ (wi w2 1105 ((e : Nat) : Int)) q n ow kd Fv P (nb + m) (wb + h) Y := PT_g (by omega) (PTQ_same p (fun k hk => (f2.2.2.2.2.1 q k (by simp at hk; omega) (fun _ => by simp at hk ⊢; omega)).trans (by rw [s30_1])) (fun k hk => by rw [e4, s30_4]))
    rw [show wb + (h - s) + s = wb + h by omega]; exact p2
theorem enter1_ok {fn i3 : Int32} (wt : WFT T u) (st : STc T u q j wb nb cb rk []) (p : PTQ u q n ow kd Fv P (nb + m) (wb + h) Y) (hs : s ≤ h) (he : e < 24000) (hrk : rk ≤ rk2) : OK (fun w _ => ENQ T Fv P q n ow kd Y s e rk2 u w) (hm_Ma_enter N u q fn (I ((e : Nat) : Int)) (I ((s : Nat) : Int)) 1 i3) := by
  unfold hm_Ma_enter hb_Ma_enter_0 hb_Ma_enter_37
  have fb := FBc_b wt st.1
  have hj := st.2.1.2
  obtain ⟨⟨p1, p2, p3⟩, ⟨p4, p5⟩, ⟨p6, p7⟩, ⟨p8, p9⟩, ⟨l, a1, a2⟩, ⟨l2, b1, b2⟩, cc⟩ := p
  refine ok_br.mpr ⟨fun z => absurd z (by decide), fun _ => ?_⟩
  refine ok_bnd.mpr ?_
  unfold hm_Fr_replace hb_Fr_replace_0
  have e21 := st.2.1.1
  rw [I_F (k := pq q 21), e21, lit1q, I_sub, I_lit (n := 3), of_e (z := 3) (a := j) (k := 3) e21 hj (by omega) (Nat.le_refl _) rfl (by omega), bnd_so, st.2.2.1.2]
  rw [I_F (k := pq q 26), p6, I_sub, lnQ_e b1]
  refine e_cp ⟨by omega, by omega, by omega, by omega, by omega⟩ (by omega) (by omega) (ok_lt.mpr (ok_lt.mpr ?_))
  rw [tnI (n := wb) rfl (by omega), tnI (n := s) rfl (by omega), tnI (n := wb + h - s) (by omega) (by omega), I_add, show ((wb : Nat) : Int) + ((s : Nat) : Int) = ((wb + s : Nat) : Int) by omega, wi_e]
  generalize hg : va_cpy (u.2.2.2 (pq q 35)) (u.2.2.2 (pq q 35)) (wb + h - s) wb s = gg
  have gg1 : ∀ k, k < wb + s → GT n ow kd P (gg k) := fun k hk => by
    rw [← hg]
    by_cases z : wb ≤ k
    · have := cpy_in (f := u.2.2.2 (pq q 35)) (g := u.2.2.2 (pq q 35)) (a := wb + h - s) (c := wb) (k := s) (j := k - wb) (by omega)
      rw [show wb + (k - wb) = k by omega] at this
      rw [this]; exact p7 _ (by omega)
    · rw [cpy_out (by omega)]; exact p7 k (by omega)
  have f1 : FC q [1105] [] [] [21, 24, 26] [] [30] [35] u (wi (upJ u (pq q 35) gg) (pq q 26) ((wb + s : Nat) : Int)) := FC.wi_q (FC.J_q FC.rf (by omega) (by simp)) (by omega) (by simp)
  have z21 : F (wi (upJ u (pq q 35) gg) (pq q 26) ((wb + s : Nat) : Int)) (pq q 21) = ((j + 1 : Nat) : Int) := by rw [F_wi (by omega) (by omega), if_neg (pq_inj (by decide))]; exact e21
  have z26 : F (wi (upJ u (pq q 35) gg) (pq q 26) ((wb + s : Nat) : Int)) (pq q 26) = ((wb + s : Nat) : Int) := by rw [F_wi (by omega) (by omega), if_pos rfl]
  have zj : ∀ k, (wi (upJ u (pq q 35) gg) (pq q 26) ((wb + s : Nat) : Int)).2.2.2 k = if k = pq q 35 then gg else u.2.2.2 k := fun _ => rfl
  have zA : (wi (upJ u (pq q 35) gg) (pq q 26) ((wb + s : Nat) : Int)).2.2.1 = u.2.2.1 := rfl
  generalize wi (upJ u (pq q 35) gg) (pq q 26) ((wb + s : Nat) : Int) = w1 at f1 z21 z26 zj zA ⊢
  rw [I_F (k := pq q 21), z21, I_sub, I_lit (n := 2), of_e (z := 2) (a := j) (k := 2) z21 hj (by omega) (Nat.le_refl _) rfl (by omega), bnd_so, show A w1 (pq q 30) (5 * j + 2) = ((nb : Nat) : Int) by show (w1.2.2.1 (pq q 30) _).toInt = _; rw [zA]; exact st.2.2.1.1, wi_e]
  refine ok_lt.mpr ?_
  have f2 : FC q [1105] [] [] [21, 24, 26] [] [30] [35] u (wi w1 (pq q 24) ((nb : Nat) : Int)) := FC.wi_q f1 (by omega) (by simp)
  have y21 : F (wi w1 (pq q 24) ((nb : Nat) : Int)) (pq q 21) = ((j + 1 : Nat) : Int) := by rw [F_wi (by omega) (by omega), if_neg (pq_inj (by decide))]; exact z21
  have y26 : F (wi w1 (pq q 24) ((nb : Nat) : Int)) (pq q 26) = ((wb + s : Nat) : Int) := by rw [F_wi (by omega) (by omega), if_neg (pq_inj (by decide))]; exact z26
  have y24 : F (wi w1 (pq q 24) ((nb : Nat) : Int)) (pq q 24) = ((nb : Nat) : Int) := by rw [F_wi (by omega) (by omega), if_pos rfl]
  have yj : ∀ k, (wi w1 (pq q 24) ((nb : Nat) : Int)).2.2.2 k = if k = pq q 35 then gg else u.2.2.2 k := zj
  have yA : (wi w1 (pq q 24) ((nb : Nat) : Int)).2.2.1 = u.2.2.1 := zA
  generalize wi w1 (pq q 24) ((nb : Nat) : Int) = w2 at f2 y21 y26 y24 yj yA ⊢
  rw [lit0q, set_s (y := 0) (k := 0) y21 hj rfl (by omega), bnd_so, set_s (y := 1) (k := 1) (by exact y21) hj rfl (by omega), bnd_so, I_lit (n := 4), set_s (y := 4) (k := 4) (by exact y21) hj rfl (by omega), bnd_so]
  refine ok_some.mpr (ok_lt.mpr (ok_some.mpr ?_))
  rw [wi_e]
  have f3 := FC.wi_g (x := ((e : Nat) : Int)) (FC.s30 (k := 5 * j + 4) (z := I ((e : Nat) : Int)) (FC.s30 (k := 5 * j + 1) (z := I 0) (FC.s30 (k := 5 * j + 0) (z := fn) f2 (by simp)) (by simp)) (by simp)) (k := 1105) (by omega) (by simp)
  generalize hw3 : wi (s30 (s30 (s30 w2 q (5 * j + 0) fn) q (5 * j + 1) (I 0)) q (5 * j + 4) (I ((e : Nat) : Int))) 1105 ((e : Nat) : Int) = w3 at f3 ⊢
  have x1 : ∀ k, k ≠ 1105 → F w3 k = F w2 k := fun k hk => by rw [← hw3, F_wi (by omega) (by omega), if_neg hk]; rfl
  have xj : w3.2.2.2 = w2.2.2.2 := by rw [← hw3]; rfl
  have x37 : w3.2.2.1 (pq q 37) = u.2.2.1 (pq q 37) := by
    rw [← hw3]
    show (s30 (s30 (s30 w2 q (5 * j + 0) fn) q (5 * j + 1) (I 0)) q (5 * j + 4) (I ((e : Nat) : Int))).2.2.1 (pq q 37) = _
    rw [s30_37, s30_37, s30_37, yA]
  have xA : ∀ a, a < 5 * j + 4 → a ≠ 5 * j → a ≠ 5 * j + 1 → A w3 (pq q 30) a = A u (pq q 30) a := fun a h1 h2 h3 => by
    rw [← hw3]
    show A (s30 (s30 (s30 w2 q (5 * j + 0) fn) q (5 * j + 1) (I 0)) q (5 * j + 4) (I ((e : Nat) : Int))) (pq q 30) a = _
    rw [s30_a, if_neg (by omega), s30_a, if_neg (by omega), s30_a, if_neg (by omega)]
    show (w2.2.2.1 (pq q 30) a).toInt = _
    rw [yA]; rfl
  obtain ⟨s1, ⟨s2, s3⟩, ⟨s4, s5⟩, s6, s7⟩ := st
  refine ⟨f3, by rw [← hw3, F_wi (by omega) (by omega), if_pos rfl], j, wb, nb, cb, rk, ⟨FBc_r x37 (fun a ha => ⟨xA _ (by omega) (by omega) (by omega), xA _ (by omega) (by omega) (by omega), xA _ (by omega) (by omega) (by omega)⟩) s1, ⟨by rw [x1 _ (by unfold pq; omega)]; exact y21, s3⟩, ⟨by rw [xA _ (by omega) (by omega) (by omega)]; exact s4, by rw [xA _ (by omega) (by omega) (by omega)]; exact s5⟩, by rw [f3.Fq (by omega) (by simp)]; exact s6, trivial⟩, ⟨⟨by rw [f3.Fq (by omega) (by simp)]; exact p1, p2, by rw [f3.jq (by omega) (by simp)]; exact p3⟩, ⟨by rw [x1 _ (by unfold pq; omega)]; exact y24, fun k hk => by rw [f3.jq (by omega) (by simp)]; exact p5 k (by omega)⟩, ⟨by rw [x1 _ (by unfold pq; omega)]; exact y26, fun k hk => by rw [xj, yj, if_pos rfl]; exact gg1 k hk⟩, ⟨by rw [f3.Fq (by omega) (by simp)]; exact p8, by rw [f3.jq (by omega) (by simp)]; exact p9⟩, ⟨l, by rw [f3.Fq (by omega) (by simp)]; exact a1, by omega⟩, ⟨l2, by rw [f3.Fq (by omega) (by simp)]; exact b1, by omega⟩, cc⟩, hrk, by omega⟩
end
