set_option maxRecDepth 100000
def CTX (Fv : Int64 → Int64 → Prop) (P : Int64 → Prop) (m : MS) : Prop := FVc Fv ∧ (∀ t, P t → PT m t) ∧ WDc m 1 ∧ 22 ≤ F m 22 ∧ (∀ x : Int, RG x → P (mk 0 x) ∧ P (mk 2 x) ∧ P (mk 4 x)) ∧ (∀ a : Int, 0 ≤ a → a < F m 22 → P (mk 1 a)) ∧ P (mk 6 0)
section
variable {Fv : Int64 → Int64 → Prop} {P : Int64 → Prop} {u v w m m2 : MS} {PR N q r n B W Y : Nat} {ow kd : Nat → Nat} {t : Int64} {h h2 : Nat → Int64}
theorem CTX_fr (c : CTX Fv P u) (h1 : w.1 22 = u.1 22) (h2 : w.2.2.1 3 = u.2.2.1 3) : CTX Fv P w := by
  obtain ⟨c1, c2, c3, c4, c5, c6, c7⟩ := c
  have e : F w 22 = F u 22 := congrArg _ h1
  refine ⟨c1, fun t ht => ?_, ?_, by rw [e]; exact c4, c5, by rw [e]; exact c6, c7⟩
  · have := c2 t ht; unfold PT at this ⊢; rw [e]; exact this
  · unfold WDc at c3 ⊢
    have e2 : ∀ i, A w (1 + 2) i = A u (1 + 2) i := fun i => by show (w.2.2.1 3 i).toInt = _; rw [h2]; rfl
    have e3 : F w (20 * 1 + 2) = F u (20 * 1 + 2) := e
    rw [e3]; simp only [e2]; exact c3
theorem CTX_w (c : CTX Fv P u) (f : WFR u w) : CTX Fv P w := CTX_fr c (f.2.1 22 (by omega) (by simp)) (f.2.2.2.1 3 (by omega) (by simp))
theorem SZ_max (g : HPc h n ow kd Fv P) {f s : Nat} (z : SZc h n ow kd Fv P f t s) : s ≤ 500 + n := by
  by_cases e : 500 < s
  · obtain ⟨S, dS, h1, -⟩ := SZ_bigc g s f t z e
    have := @cnt_le S dS ow n
    omega
  · omega
theorem SML_rf {o : Int64} : SML h n ow kd h n ow kd Fv P o o := ⟨rfl, ⟨fun _ => rfl, fun _ _ => rfl⟩, fun _ _ z => z⟩
def WNTc (Fv : Int64 → Int64 → Prop) (P : Int64 → Prop) (u : MS) (q n : Nat) (ow kd : Nat → Nat) (B W Y : Nat) (x : Int) (w : MS) (r : Int32) : Prop := (r = 0 ∨ r = 1) ∧ ∃ U ow2 kd2, PTQ w q U ow2 kd2 Fv P B W Y ∧ (r = 1 → (U : Int) + x ≤ 500) ∧ FR [pq q 4, pq q 5] [] [] [pq q 2, pq q 3, pq q 33, pq q 35, pq q 6] u w ∧ (∀ i, i < B → SML (u.2.2.2 (pq q 2)) n ow kd (w.2.2.2 (pq q 2)) U ow2 kd2 Fv P (u.2.2.2 (pq q 33) i) (w.2.2.2 (pq q 33) i)) ∧ (∀ i, i < W → SML (u.2.2.2 (pq q 2)) n ow kd (w.2.2.2 (pq q 2)) U ow2 kd2 Fv P (u.2.2.2 (pq q 35) i) (w.2.2.2 (pq q 35) i))
theorem want_ok {x : Int} (p : PTQ u q n ow kd Fv P B W Y) (c : CTX Fv P u) (hx : 0 ≤ x ∧ x ≤ 100000) (hN : 2100000 ≤ N) : OK (fun w r => WNTc Fv P u q n ow kd B W Y x w r) (hm_Pr_want N u q (I x)) := by
  have p' := p
  obtain ⟨⟨p1, p2, p3⟩, ⟨p4, p5⟩, ⟨p6, p7⟩, ⟨p8, p9⟩, ⟨l, a1, a2, a3⟩, ⟨l2, b1, b2, b3⟩, c0⟩ := p
  unfold hm_Pr_want hb_Pr_want_0
  have fin : ∀ (w : MS) (U : Nat) (ow2 kd2 : Nat → Nat), PTQ w q U ow2 kd2 Fv P B W Y → U ≤ 500 → FR [pq q 4, pq q 5] [] [] [pq q 2, pq q 3, pq q 33, pq q 35, pq q 6] u w → (∀ i, i < B → SML (u.2.2.2 (pq q 2)) n ow kd (w.2.2.2 (pq q 2)) U ow2 kd2 Fv P (u.2.2.2 (pq q 33) i) (w.2.2.2 (pq q 33) i)) → (∀ i, i < W → SML (u.2.2.2 (pq q 2)) n ow kd (w.2.2.2 (pq q 2)) U ow2 kd2 Fv P (u.2.2.2 (pq q 35) i) (w.2.2.2 (pq q 35) i)) → OK (fun w r => WNTc Fv P u q n ow kd B W Y x w r) (hb_Pr_want_16 N () w q (I x)) := by
    intro w U ow2 kd2 pw hU f s1 s2
    unfold hb_Pr_want_16 hb_Pr_want_33
    rw [I_F (k := pq q 4), pw.1.1, I_add, I_lit (n := 500)]
    refine k_lt ⟨by decide, by decide⟩ ⟨by omega, by omega⟩ (fun _ => ok_ck.mpr ⟨by decide, ok_some.mpr ⟨Or.inl rfl, U, ow2, kd2, pw, fun z => absurd z (by decide), f, s1, s2⟩⟩) (fun y => ok_ck.mpr ⟨by decide, ok_some.mpr ⟨Or.inr rfl, U, ow2, kd2, pw, fun _ => y, f, s1, s2⟩⟩)
  rw [I_F (k := pq q 4), p1, I_add, I_lit (n := 500)]
  refine k_le ⟨by omega, by omega⟩ ⟨by decide, by decide⟩ (fun _ => fin u n ow kd p' p2 FR.rf (fun _ _ => SML_rf) (fun _ _ => SML_rf)) (fun _ => ?_)
  refine ok_bnd.mpr (ok_mono (clearHeap_ok (N := N) p' c.1 c.2.1 (by omega)) (fun w _ hw => ?_))
  obtain ⟨U, ow2, kd2, q1, q2, q3, q4, q5⟩ := hw
  exact fin w U ow2 kd2 q1 (by omega) q3 q4 q5
theorem rf_some {x : Nat} (h : x < 24) : rf (fr (some x)) = some x := rf_fr (fun r e => by cases e; exact h)
theorem endsWith_ok {hq n2 : Nat} {ow2 kd2 : Nat → Nat} (d : DWo Fv P PR q u) (hqq : q < PR) (hal : F u (pq q 9) ≠ 3) (hh : hq < PR) (hh2 : hq = q ∨ F u (pq hq 9) = 3) (hn : n2 ≤ 512) (g : HPc (u.2.2.2 (pq hq 2)) n2 ow2 kd2 Fv P) (gt : GT n2 ow2 kd2 P t) :
    OK (fun w _ => DWc Fv P PR w ∧ WFR u w ∧ F w (pq q 9) = 3 ∧ (∀ r, r ≠ q → F w (pq r 9) = F u (pq r 9)) ∧ F w 956 = F u 956 ∧ ((∀ r k, r ≠ q → k < 100 → w.1 (pq r k) = u.1 (pq r k)) ∧ w.2.2.2 = u.2.2.2 ∧ ∀ k, k ≠ 54 → w.2.2.1 k = u.2.2.1 k) ∧ ∀ r, w.1 (pq r 7) = u.1 (pq r 7)) (hm_Wl_endsWith N u q t hq) := by
  obtain ⟨⟨⟨g11, g12⟩, g13, g14, ⟨g15, g16, g16b⟩, g17, g18, g19⟩, d2⟩ := d
  have hlt := cEc_lt (m := u) PR hqq hal
  unfold hm_Wl_endsWith hb_Wl_endsWith_0 hb_Wl_endsWith_17
  refine k_F (y := 3) rfl ⟨by decide, by decide⟩ (fun z => absurd z hal) (fun _ => ?_)
  rw [I_F (k := 955), g15, I_lit (n := 24)]
  refine k_lt ⟨by omega, by omega⟩ ⟨by decide, by decide⟩ (fun _ => ?_) (fun z => absurd z (by show ¬ (24 : Int) ≤ _; omega))
  refine ok_lt.mpr (ok_lt.mpr (ok_lt.mpr ?_))
  rw [I_lit (n := 3), wi_e, wl_e, I_of (fr (some hq)), wi_e]
  generalize hw : wi (wl (wi u (pq q 9) (OfNat.ofNat 3)) (pq q 16) t) (pq q 17) (fr (some hq)).toInt = w
  have e955 : w.1 955 = I ((cEc u PR : Nat) : Int) := by
    rw [← hw]
    show (if 955 = pq q 17 then _ else if 955 = pq q 9 then _ else u.1 955) = _
    rw [if_neg (by unfold pq; omega), if_neg (by unfold pq; omega), I_F, g15]
  rw [e955]
  refine e_in ⟨by omega, by omega⟩ (by decide) (ok_lt.mpr (ok_lt.mpr (ok_some.mpr ?_)))
  rw [tnI (n := cEc u PR) rfl (by omega), show Int32.ofNat q = I ((q : Nat) : Int) from rfl, wa_e]
  rw [show (wa w 54 (cEc u PR) (q : Int)).1 955 = I ((cEc u PR : Nat) : Int) from e955, lit1q, I_add, wi_e]
  generalize hz : wi (wa w 54 (cEc u PR) (q : Int)) 955 ((cEc u PR : Nat) + 1) = z
  have z1 : ∀ k, z.1 k = if k = 955 then I ((cEc u PR : Nat) + 1) else if k = pq q 17 then fr (some hq) else if k = pq q 9 then 3 else u.1 k := by
    intro k
    rw [← hz, ← hw]
    show (if k = 955 then _ else if k = pq q 17 then I _ else if k = pq q 9 then _ else u.1 k) = _
    rw [← I_of (fr (some hq))]
    rfl
  have z2 : ∀ k, z.2.1 k = if k = pq q 16 then t else u.2.1 k := by
    intro k
    rw [← hz, ← hw]
    rfl
  have z3 : ∀ k, z.2.2.1 k = if k = 54 then upd (u.2.2.1 54) (cEc u PR) (I (q : Int)) else u.2.2.1 k := by
    intro k
    rw [← hz, ← hw]
    rfl
  have z4 : z.2.2.2 = u.2.2.2 := by rw [← hz, ← hw]; rfl
  have st : F z (pq q 9) = 3 := by
    show (z.1 (pq q 9)).toInt = 3
    rw [z1, if_neg (by unfold pq; omega), if_neg (by unfold pq; omega), if_pos rfl]; rfl
  have so9 : ∀ r, r ≠ q → F z (pq r 9) = F u (pq r 9) := fun r hr => by
    show (z.1 (pq r 9)).toInt = _
    rw [z1, if_neg (by unfold pq; omega), if_neg (by unfold pq; omega), if_neg (by unfold pq; omega)]; rfl
  have oI : ∀ r k, (r ≠ q ∨ (k ≠ 9 ∧ k ≠ 17)) → k < 100 → z.1 (pq r k) = u.1 (pq r k) := fun r k h hk => by
    rw [z1, if_neg (by unfold pq; omega), if_neg (by unfold pq; omega), if_neg (by unfold pq; omega)]
  have gI : ∀ k, k < 2000 → k ≠ 955 → z.1 k = u.1 k := fun k h1 h2 => by rw [z1, if_neg h2, if_neg (by unfold pq; omega), if_neg (by unfold pq; omega)]
  have e9 : F z 955 = (cEc u PR : Nat) + 1 := by
    show (z.1 955).toInt = _
    rw [z1, if_pos rfl, I_ti (by omega) (by omega)]
  have hce := cEc_up (m2 := z) hal st so9 PR hqq
  have st3 : ∀ r, F u (pq r 9) = 3 → F z (pq r 9) = 3 := fun r hr => by
    by_cases e : r = q
    · rw [e]; exact st
    · rw [so9 r e]; exact hr
  refine ⟨⟨⟨⟨by rw [show F z 942 = F u 942 from congrArg _ (gI 942 (by omega) (by omega))]; exact g11, g12⟩, fun r hr => by rw [z3, if_neg (by omega)]; exact g13 r hr, by rw [show F z 950 = F u 950 from congrArg _ (gI 950 (by omega) (by omega))]; exact g14, ⟨by rw [e9, hce]; omega, by rw [show F z 956 = F u 956 from congrArg _ (gI 956 (by omega) (by omega))]; exact g16, by rw [show F z 956 = F u 956 from congrArg _ (gI 956 (by omega) (by omega)), e9]; omega⟩, fun i hi => ?_, by rw [show F z 953 = F u 953 from congrArg _ (gI 953 (by omega) (by omega))]; exact g18, fun i hi => ?_⟩, fun r hr => ?_⟩, ⟨fun r k hk hk2 => ?_, fun k hk hk2 => ?_, fun r k hk _ => ?_, fun k hk hk2 => ?_, fun k _ _ => ?_, fun r k hk hk2 => ?_, fun k hk => ?_⟩, st, so9, congrArg _ (gI 956 (by omega) (by omega)), ⟨fun r k hr hk => oI r k (Or.inl hr) hk, z4, fun k hk => by rw [z3, if_neg hk]⟩, fun r => oI r 7 (Or.inr (by omega)) (by omega)⟩
  · rw [e9] at hi
    by_cases e : i = cEc u PR
    · refine ⟨q, ?_, hqq, st⟩
      show (z.2.2.1 54 i).toInt = _
      rw [z3, if_pos rfl]
      unfold upd
      rw [if_pos e, I_ti (by omega) (by omega)]
    · obtain ⟨r, r1, r2, r3⟩ := g17 i (by omega)
      refine ⟨r, ?_, r2, st3 r r3⟩
      show (z.2.2.1 54 i).toInt = _
      rw [z3, if_pos rfl]
      unfold upd
      rw [if_neg e]; exact r1
  · rw [show F z 953 = F u 953 from congrArg _ (gI 953 (by omega) (by omega))] at hi
    have : A z 53 i = A u 53 i := by show (z.2.2.1 53 i).toInt = _; rw [z3, if_neg (by omega)]; rfl
    rw [this]; exact g19 i hi
  · obtain ⟨s1, s2, s3⟩ := d2 r hr
    have fI : ∀ k, (r ≠ q ∨ (k ≠ 9 ∧ k ≠ 17)) → k < 100 → F z (pq r k) = F u (pq r k) := fun k h hk => congrArg _ (oI r k h hk)
    refine ⟨?_, fun _ => ?_, fun y => ?_⟩
    · obtain ⟨t1, t2, t3⟩ := s1
      refine ⟨by rw [fI 15 (by omega) (by omega)]; exact t1, by rw [fI 8 (by omega) (by omega)]; exact t2, fun y => ?_⟩
      rw [fI 8 (by omega) (by omega), fI 7 (by omega) (by omega)]
      exact t3 (fun y2 => y (st3 r y2))
    · by_cases e : r = q
      · subst e
        refine ⟨hq, n2, ow2, kd2, ?_, hh, ?_, hn, by rw [z4]; exact g, ?_⟩
        · rw [z1, if_neg (by unfold pq; omega), if_pos rfl]; exact rf_some (by omega)
        · rcases hh2 with y | y
          · rw [y]; exact st
          · exact st3 hq y
        · rw [z2, if_pos rfl]; exact gt
      · rename_i y
        rw [so9 r e] at y
        obtain ⟨hq2, n3, ow3, kd3, e1, e2, e3, e4, e5, e6⟩ := s2 y
        exact ⟨hq2, n3, ow3, kd3, by rw [oI r 17 (Or.inl e) (by omega)]; exact e1, e2, st3 hq2 e3, e4, by rw [z4]; exact e5, by rw [z2, if_neg (by unfold pq; omega)]; exact e6⟩
    · have e : r ≠ q := fun y2 => y (by rw [y2]; exact st)
      rw [so9 r e] at y
      obtain ⟨n3, ow3, kd3, B3, W3, Y3, p⟩ := s3 y e
      exact ⟨n3, ow3, kd3, B3, W3, Y3, PTQ_same p (fun k hk => oI r k (Or.inl e) (by simp at hk; omega)) (fun k hk => by rw [z4])⟩
  · refine oI r k (Or.inr ?_) hk
    simp at hk2; omega
  · exact gI k hk (by simp at hk2; omega)
  · rw [z3, if_neg (by unfold pq; omega)]
  · rw [z3, if_neg (by simp at hk2; omega)]
  · rw [z4]
  · rw [z2, if_neg (by simp at hk2; unfold pq; omega)]
  · rw [z2, if_neg (by unfold pq; omega)]
theorem endsBy_ok {a : Nat} (d : DWc Fv P PR u) (c : CTX Fv P u) (hqq : q < PR) (hal : F u (pq q 9) ≠ 3) (ha : a < 22) :
    OK (fun w _ => DWc Fv P PR w ∧ WFR u w ∧ F w (pq q 9) = 3 ∧ (∀ r, r ≠ q → F w (pq r 9) = F u (pq r 9)) ∧ F w 956 = F u 956 ∧ ((∀ r k, r ≠ q → k < 100 → w.1 (pq r k) = u.1 (pq r k)) ∧ w.2.2.2 = u.2.2.2 ∧ ∀ k, k ≠ 54 → w.2.2.1 k = u.2.2.1 k) ∧ ∀ r, w.1 (pq r 7) = u.1 (pq r 7)) (hm_Wl_endsBy N u q (I ((a : Nat) : Int))) := by
  obtain ⟨n, ow, kd, B, W, Y, p⟩ := (d.2 q hqq).2.2 hal
  unfold hm_Wl_endsBy hb_Wl_endsBy_0
  rw [lit1q, e_make, bnd_so]
  refine ok_bnd.mpr (ok_mono (endsWith_ok (N := N) (DWo_of d) hqq hal hqq (Or.inl rfl) (by have := p.1.2.1; omega) p.1.2.2 (Or.inl ⟨nh_so ?_, c.2.2.2.2.2.1 _ (by omega) (by have := c.2.2.2.1; omega)⟩)) (fun w _ hw => ok_some.mpr hw))
  rw [so_mk (by decide) (by decide)]; decide
end
