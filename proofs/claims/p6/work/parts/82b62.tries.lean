set_option maxRecDepth 100000
section
variable {T : Nat → Option (Nat × Nat × List Nat × Nat × Nat)} {Fv : Int64 → Int64 → Prop} {P : Int64 → Prop} {u v w w1 : MS} {PR N q r n B W Y i h m g x j wb nb cb rk c f i2 h2 m2 k a U d b e : Nat} {L : List Nat} {ow kd : Nat → Nat} {t rest : Int64} {gi gl ga ki kl ka kj : List Nat}
theorem FNc.at5 (a : FNc q u w) (M : MIc T Fv P PR q u i h m L g x j wb nb cb rk) : F w 1105 = ((i : Nat) : Int) := by rw [a.Fg (by omega) (by simp)]; exact M.2.2.2.1.2
theorem unbind_t {B2 : Nat} (p : PTQ u q n ow kd Fv P B2 W Y) (hB : B ≤ B2) : FNc q u (wi u (pq q 24) ((B : Nat) : Int)) ∧ PTQ (wi u (pq q 24) ((B : Nat) : Int)) q n ow kd Fv P B W Y := by
  have := forget_t (k := B2 - B) p (by omega)
  rw [show B2 - (B2 - B) = B by omega] at this
  exact this
theorem tries_ok {y : Int} {fl : Nat} (M : MIc T Fv P PR q u i h m L 0 x j wb nb cb rk) (hx : x < i) (t9 : F u 1109 = 0) (t8 : F u 1108 = 0) (hf : PHc T u q i x rk ≤ c) (hy : (∃ s : Nat, y = ((s : Nat) : Int) ∧ s ≤ h) ∨ (y = -1 ∧ 1 ≤ h) ∨ (y = -2 ∧ x ≠ 0)) (efl : A u 23 (i + 2) = ((fl : Nat) : Int)) (hfl : i < fl) (tfl : T fl = some (h, m, L, 0, x)) (pt : PTc u f (i + 3) b e) (hff : f ≤ 24000) (hb : m + b ≤ 40) (hie : i < e) (te : T (e + 1) = some (h, m + b, L, 0, x)) (hN : 600000000010 ≤ N) : OK (fun w _ => OPQ T Fv P PR q c w) (hm_Ma_tries N u q (I y)) := by
  obtain ⟨n, ow, kd, Y, p⟩ := MI_p M
  have mb := MI_b M
  have web := (M.1.2.2.1 _ _ _ _ _ _ te).1
  have wfb := (M.1.2.2.1 _ _ _ _ _ _ tfl).1
  have wf := (M.1.2.2.1 _ _ _ _ _ _ M.2.2.2.1.1).2.1
  have tb := PTc_le pt
  have at0 := M.2.2.2.1.2
  have main : ∀ (w : MS) (top : Nat) (G : MS → Nat → Int32 → Int32 → Int32 → Int32 → Option (MS × Unit)), top ≤ 2047 → FR [] [] [] [44, 45, 46] u w → (∀ k, k < top → GT n ow kd P (w.2.2.2 44 k)) → OK (fun w _ => OPQ T Fv P PR q c w) (bnd (hm_Ma_fit N w q ((w.1 1105) + 3) (I ((top : Nat) : Int))) (fun u18 r18 => br (decide (r18 = (-1))) (lt (upI u18 (pq q 24) (I ((nb + m : Nat) : Int))) (fun w22 => bnd (hm_Co_at N w22 ((w22.1 1105) + 2)) (fun u25 r25 => lt (upI u25 1105 r25) (fun w27 => hb_Ma_tries_153 N G w27 q)))) (lt (upI u18 1105 r18) (fun w19 => hb_Ma_tries_153 N G w19 q)))) := by
    intro w top G htop fr gs
    obtain ⟨M1, ph1, s9, s8⟩ := MI_fr M hx fr
    have p1 := PT_fr (q := q) fr p
    have ln1 := MI_ln M1
    have s : SCQ u w := ⟨fun k _ => fr.1 k (by simp), fun k _ => fr.2.2.1 k (by simp)⟩
    unfold hb_Ma_tries_153
    rw [I_F (k := 1105), M1.2.2.2.1.2, I_lit (n := 3), I_add, show ((i : Nat) : Int) + (OfNat.ofNat 3 : Int) = ((i + 3 : Nat) : Int) by show _ + (3 : Int) = _; omega]
    refine ok_bnd.mpr (ok_mono (fit_ok (N := N) (CTX_s s M.1.2.1) (by omega) (PTc_s s pt) hff htop (by omega) ln1 p1 gs hN) (fun w2 r hw2 => ?_))
    obtain ⟨f2, ln2, B2, p2, hB2, hr⟩ := hw2
    rcases hr with rfl | ⟨rfl, rfl⟩
    · refine ok_br.mpr ⟨fun _ => ok_lt.mpr ?_, fun z => absurd z (by decide)⟩
      rw [wi_e]
      obtain ⟨f3, p3⟩ := unbind_t (B := nb + m) p2 hB2
      have f4 := FNc.tr f2 f3
      have a5 := f4.at5 M1
      rw [I_F (k := 1105), a5, I_lit (n := 2), I_add, Co_e (k := i + 2) (by show _ + (2 : Int) = _; omega) (by omega), bnd_so, f4.ag (by omega) (by simp), show A w 23 (i + 2) = ((fl : Nat) : Int) by rw [s.A (by simp)]; exact efl]
      refine ok_lt.mpr (ok_some.mpr ?_)
      rw [wi_e]
      exact NRM_f M1 (by rw [s9]; exact t9) (by rw [s8]; exact t8) (by rw [ph1]; exact hf) hx (FMc.at f4.toM) (at_t p3) (LNB_g (LNB_m ln2 (by simp) (by omega)) (by omega)) tfl (at_F (by omega)) hfl
    · rw [m1I]
      refine k_eq ⟨by omega, by omega⟩ ⟨by decide, by decide⟩ (fun z => absurd z (by omega)) (fun _ => ok_lt.mpr (ok_some.mpr ?_))
      rw [wi_e]
      rw [show nb + m + b = nb + (m + b) by omega] at p2
      exact NRM_f M1 (by rw [s9]; exact t9) (by rw [s8]; exact t8) (by rw [ph1]; exact hf) hx (FMc.at f2.toM) (at_t p2) (LNB_g ln2 (by omega)) te (at_F (by omega)) (by omega)
  have loop : ∀ (top : Nat), top ≤ 2000 → ((∃ s : Nat, y = ((s : Nat) : Int) ∧ s ≤ h ∧ top = s) ∨ (y = -1 ∧ 1 ≤ h ∧ top = 1) ∨ (y = -2 ∧ x ≠ 0 ∧ top = 1)) → ∀ (K d : Nat) (w : MS), d ≤ top → top - d < K → FR [] [] [] [44, 45, 46] u w → (∀ k, k < d → GT n ow kd P (w.2.2.2 44 k)) → OK (fun w _ => OPQ T Fv P PR q c w) (hg_Ma_tries N K w q (I y) (I ((nb + m : Nat) : Int)) (I ((top : Nat) : Int)) (I ((d : Nat) : Int))) := by
    intro top htop hcs K
    induction K with
    | zero => intro d _ _ hK; omega
    | succ K ih =>
      intro d w hd hK fr gs
      show OK _ (hb_Ma_tries_21 N (hg_Ma_tries N K) w q (I y) (I ((nb + m : Nat) : Int)) (I ((top : Nat) : Int)) (I ((d : Nat) : Int)))
      unfold hb_Ma_tries_21
      refine k_le ⟨by omega, by omega⟩ ⟨by omega, by omega⟩ (fun hh => ?_) (fun hh => ?_)
      · exact main w top _ (by omega) fr (fun k hk => gs k (by omega))
      · obtain ⟨M1, ph1, s9, s8⟩ := MI_fr M hx fr
        have p1 := PT_fr (q := q) fr p
        have put : ∀ t : Int64, GT n ow kd P t → OK (fun w _ => OPQ T Fv P PR q c w) (hb_Ma_tries_93 N (hg_Ma_tries N K) w q (I y) (I ((nb + m : Nat) : Int)) (I ((top : Nat) : Int)) (I ((d : Nat) : Int)) (I ((d : Nat) : Int)) t) := by
          intro t gt
          unfold hb_Ma_tries_93
          refine e_in ⟨by omega, by omega⟩ (by decide) (ok_lt.mpr ?_)
          rw [tnI (n := d) rfl (by omega), lit1q, I_add, show ((d : Nat) : Int) + 1 = ((d + 1 : Nat) : Int) by omega]
          refine ih (d + 1) _ (by omega) (by omega) (FR_44 fr) (fun k hk => ?_)
          rw [row_44]
          by_cases z : k = d
          · rw [if_pos z]; exact gt
          · rw [if_neg z]; exact gs k (by omega)
        have bel : d < h → OK (fun w _ => OPQ T Fv P PR q c w) (hb_Ma_tries_49 N (hg_Ma_tries N K) w q (I y) (I ((nb + m : Nat) : Int)) (I ((top : Nat) : Int)) (I ((d : Nat) : Int))) := by
          intro hdh
          unfold hb_Ma_tries_49 hb_Ma_tries_50
          refine ok_br.mpr ⟨fun _ => ?_, fun z => absurd z (by decide)⟩
          obtain ⟨b0, g0⟩ := below_m (N := N) (k := d) M1 p1 rfl hdh
          rw [b0, bnd_so]
          exact put _ g0
        rcases hcs with ⟨s, rfl, h1, rfl⟩ | ⟨rfl, h1, rfl⟩ | ⟨rfl, h1, rfl⟩
        · rw [show (-2 : Int32) = I (-2) from rfl]
          refine k_eq ⟨by omega, by omega⟩ ⟨by decide, by decide⟩ (fun z => absurd z (by omega)) (fun _ => bel (by omega))
        · exact ok_br.mpr ⟨fun z => absurd z (by decide), fun _ => bel (by omega)⟩
        · refine ok_br.mpr ⟨fun _ => ?_, fun z => absurd z (by decide)⟩
          have x1 := M1.2.2.2.2.2.2.1 h1 (by omega)
          have pY := p1.2.2.2.1
          have Yb := PTQ_b p1
          have sm := (M1.1.1.2 q M1.1.2.2.2.2.2.2.1).1.2.1
          rw [I_F (k := pq q 8), I_lit (n := 30)]
          refine k_le ⟨by decide, by decide⟩ (FRG1 w _) (fun z => absurd (show (30 : Int) ≤ _ from z) (by omega)) (fun _ => ?_)
          unfold hb_Ma_tries_50
          refine ok_br.mpr ⟨fun z => absurd z (by decide), fun _ => ?_⟩
          rw [I_F (k := pq q 8)]
          refine e_in ⟨by omega, by omega⟩ (by decide) ?_
          rw [tnI (n := (F w (pq q 8)).toNat) (by omega) (by omega)]
          exact put _ (pY.2 _ (by omega))
  unfold hm_Ma_tries hb_Ma_tries_0 hb_Ma_tries_17
  have e24 : u.1 (pq q 24) = I ((nb + m : Nat) : Int) := by rw [I_F, p.2.1.1]
  rw [e24, lit0q]
  rcases hy with ⟨s, rfl, h1⟩ | ⟨rfl, h1⟩ | ⟨rfl, h1⟩
  · refine k_lt ⟨by omega, by omega⟩ ⟨by decide, by decide⟩ (fun z => absurd z (by omega)) (fun _ => ?_)
    rw [show (0 : Int) = ((0 : Nat) : Int) from rfl]
    exact loop s (by omega) (Or.inl ⟨s, rfl, h1, rfl⟩) N 0 u (by omega) (by omega) FR.rf (fun k hk => by omega)
  · refine k_lt ⟨by decide, by decide⟩ ⟨by decide, by decide⟩ (fun _ => ?_) (fun z => absurd z (by decide))
    exact loop 1 (by omega) (Or.inr (Or.inl ⟨rfl, h1, rfl⟩)) N 0 u (by omega) (by omega) FR.rf (fun k hk => by omega)
  · refine k_lt ⟨by decide, by decide⟩ ⟨by decide, by decide⟩ (fun _ => ?_) (fun z => absurd z (by decide))
    exact loop 1 (by omega) (Or.inr (Or.inr ⟨rfl, h1, rfl⟩)) N 0 u (by omega) (by omega) FR.rf (fun k hk => by omega)
theorem match_okc (M : MIc T Fv P PR q u i h m L 0 x j wb nb cb rk) (hx : x < i) (t9 : F u 1109 = 0) (t8 : F u 1108 = 0) (hf : PHc T u q i x rk ≤ c) (hh : 1 ≤ h) (pt : PTc u f (i + 1) b e) (hff : f ≤ 24000) (hb : m + b ≤ 40) (hie : i < e) (te : T (e + 1) = some (h, m + b, L, 0, x)) (hN : 600000000010 ≤ N) : OK (fun w _ => OPQ T Fv P PR q c w) (hm_Ma_match N u q) := by
  obtain ⟨n, ow, kd, Y, p⟩ := MI_p M
  have mb := MI_b M
  have web := (M.1.2.2.1 _ _ _ _ _ _ te).1
  have tb := PTc_le pt
  obtain ⟨b0, g0⟩ := below_0 (N := N) M p (by omega)
  unfold hm_Ma_match hb_Ma_match_0 hb_Ma_match_73
  have e24 : u.1 (pq q 24) = I ((nb + m : Nat) : Int) := by rw [I_F, p.2.1.1]
  rw [b0, bnd_so, e24]
  refine ok_ck.mpr ⟨by decide, ok_lt.mpr ?_⟩
  rw [show (0 : Int32).toNatClampNeg = 0 from rfl]
  have fr : FR [] [] [] [44, 45, 46] u (upJ u 44 (vp_updL (u.2.2.2 44) 0 (u.2.2.2 (pq q 35) (wb + h - 1)))) := FR_44 FR.rf
  have gs : ∀ k, k < 1 → GT n ow kd P ((upJ u 44 (vp_updL (u.2.2.2 44) 0 (u.2.2.2 (pq q 35) (wb + h - 1)))).2.2.2 44 k) := fun k hk => by rw [row_44, if_pos (by omega)]; exact g0
  generalize upJ u 44 (vp_updL (u.2.2.2 44) 0 (u.2.2.2 (pq q 35) (wb + h - 1))) = w at fr gs ⊢
  obtain ⟨M1, ph1, s9, s8⟩ := MI_fr M hx fr
  have p1 := PT_fr (q := q) fr p
  have ln1 := MI_ln M1
  have s : SCQ u w := ⟨fun k _ => fr.1 k (by simp), fun k _ => fr.2.2.1 k (by simp)⟩
  rw [I_F (k := 1105), M1.2.2.2.1.2, lit1q, I_add, show ((i : Nat) : Int) + 1 = ((i + 1 : Nat) : Int) by omega]
  refine ok_bnd.mpr (ok_mono (fit_ok (N := N) (top := 1) (CTX_s s M.1.2.1) (by omega) (PTc_s s pt) hff (by omega) (by omega) ln1 p1 gs hN) (fun w2 r hw2 => ?_))
  obtain ⟨f2, ln2, B2, p2, hB2, hr⟩ := hw2
  rcases hr with rfl | ⟨rfl, rfl⟩
  · refine ok_br.mpr ⟨fun _ => ok_lt.mpr ?_, fun z => absurd z (by decide)⟩
    rw [wi_e]
    obtain ⟨f3, p3⟩ := unbind_t (B := nb + m) p2 hB2
    have f4 := FNc.tr f2 f3
    obtain ⟨M3, ph3⟩ := MI_f M1 hx f4.toM p3 (LNB_m ln2 (by simp) (by omega)) M1.2.2.2.1.1 (f4.at5 M1)
    obtain ⟨b3, g3⟩ := below_0 (N := N) M3 p3 (by omega)
    rw [b3, bnd_so, I_lit (n := 13), tell_e, bnd_so]
    refine ok_some.mpr (ERR_t M3 (by rw [f4.Fg (by omega) (by simp), s9]; exact t9) (by rw [f4.Fg (by omega) (by simp), s8]; exact t8) ?_ ⟨n, ow, kd, _, _, Y, p3, g3⟩ (Or.inl rfl) (Or.inr ⟨by decide, by decide⟩))
    rw [ph3]
    rw [← ph1] at hf
    exact hf
  · rw [show (-I 1 : Int32) = I (-1) from rfl]
    refine k_eq ⟨by omega, by omega⟩ ⟨by decide, by decide⟩ (fun z => absurd z (by omega)) (fun _ => ok_lt.mpr (ok_some.mpr ?_))
    rw [wi_e]
    rw [show nb + m + b = nb + (m + b) by omega] at p2
    exact NRM_f M1 (by rw [s9]; exact t9) (by rw [s8]; exact t8) (by rw [ph1]; exact hf) hx (FMc.at f2.toM) (at_t p2) (LNB_g ln2 (by omega)) te (at_F (by omega)) (by omega)
end
