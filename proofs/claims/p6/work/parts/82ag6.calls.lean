section
variable {Q : MS → Unit → Prop} {u v w x : MS} {N G : Nat} {v1 v2 : Int32}
def FOR (u : MS) (G : Nat) (v2 : Int32) (v : MS) (r : Int32) : Prop := v = u ∧ (r = -1 ∨ ∃ f : Nat, f < G ∧ r = I f ∧ u.2.2.1 48 f = v2)
theorem fo_loop (h52 : F u 52 = ((G : Nat) : Int)) (hG : G ≤ 1000) : ∀ (d i : Nat) (m : Nat), i + d = G → d + 1 ≤ m → OK (FOR u G v2) (gg_M_functionOf N m u v1 v2 (I i)) := by
  intro d
  induction d with
  | zero =>
    intro i m hi hm
    obtain ⟨m', rfl⟩ : ∃ m', m = m' + 1 := ⟨m - 1, by omega⟩
    show OK _ (fb_M_functionOf_2 N (gg_M_functionOf N m') u v1 v2 (I i))
    unfold fb_M_functionOf_2
    rw [I_F' h52]
    exact k_le (x := (G : Int)) (y := (i : Int)) ⟨by omega, by omega⟩ ⟨by omega, by omega⟩ (fun _ => ok_some.mpr ⟨rfl, Or.inl rfl⟩) (fun y => by omega)
  | succ d ih =>
    intro i m hi hm
    obtain ⟨m', rfl⟩ : ∃ m', m = m' + 1 := ⟨m - 1, by omega⟩
    show OK _ (fb_M_functionOf_2 N (gg_M_functionOf N m') u v1 v2 (I i))
    unfold fb_M_functionOf_2 fb_M_functionOf_32
    have e : I (i : Int) + 1 = I ((i + 1 : Nat) : Int) := by rw [lit1q, I_add]; rfl
    have nx := ih (i + 1) m' (by omega) (by omega)
    have ei : (I ((i : Nat) : Int)).toNatClampNeg = i := by rw [I_tn (by omega) (by omega)]; omega
    rw [I_F' h52, e, ei]
    refine k_le (x := (G : Int)) (y := (i : Int)) ⟨by omega, by omega⟩ ⟨by omega, by omega⟩ (fun y => by omega) (fun _ => ?_)
    refine k_in (k := 47) (n := 1000) rfl (by decide) (by omega) (ok_br.mpr ⟨fun _ => ?_, fun _ => nx⟩)
    refine k_in (k := 48) (n := 1000) rfl (by decide) (by omega) (ok_br.mpr ⟨fun z => ?_, fun _ => nx⟩)
    exact ok_some.mpr ⟨rfl, Or.inr ⟨i, by omega, rfl, of_decide_eq_true z⟩⟩
theorem functionOf_ok (hN : 2000 ≤ N) (h52 : F u 52 = ((G : Nat) : Int)) (hG : G ≤ 1000) : OK (FOR u G v2) (fm_M_functionOf N u v1 v2) := by
  unfold fm_M_functionOf fb_M_functionOf_0
  exact fo_loop h52 hG G 0 N (by omega) (by omega)
def CL12 (u w : MS) (G j : Nat) : Prop := A u 23 j = 12 → (∃ k : Nat, k < 30 ∧ A w 27 j = 2000 + k ∧ A u 26 j = ((npre k : Nat) : Int) ∧ (A u 27 j = 1 → 18 ≤ k)) ∨ (A u 27 j ≠ 1 ∧ 0 ≤ A w 27 j ∧ A w 27 j < G ∧ A u 48 (A w 27 j).toNat = A u 26 j)
def CL15 (u w : MS) (G j : Nat) : Prop := A u 23 j = 15 → 0 ≤ A w 27 j ∧ A w 27 j < G
def CLI (u w : MS) (G i : Nat) : Prop := FR [71, 72] [] [27] [] u w ∧ (∀ j, (A u 23 j ≠ 12 ∧ A u 23 j ≠ 15) ∨ i ≤ j → A w 27 j = A u 27 j) ∧ (0 ≤ F w 71 ∧ F w 71 < 4002) ∧ (F w 72 = 0 → F u 72 = 0 ∧ ∀ j, j < i → CL12 u w G j ∧ CL15 u w G j)
theorem CLI_wa {i : Nat} {y : Int} (h : CLI u w G i) (hk : A u 23 i = 12 ∨ A u 23 i = 15) (hx : FR [71, 72] [] [] [] (wa w 27 i y) x) (h71 : 0 ≤ F x 71 ∧ F x 71 < 4002) (ry : RG y) (h72 : F x 72 = 0 → F w 72 = 0 ∧ CL12 u x G i ∧ CL15 u x G i) : CLI u x G (i + 1) := by
  obtain ⟨a1, a2, a3, a4⟩ := h
  have xA : ∀ r j, A x r j = A (wa w 27 i y) r j := fun r j => hx.A (by intro z; cases z)
  refine ⟨FR.tr (FR.wa a1 (by decide)) (FR.mo hx (by decide) (by decide) (by decide) (by decide)), fun j hj => ?_, h71, fun z => ?_⟩
  · have ji : j ≠ i := fun z => by
      rcases hj with q | q
      · rw [z] at q; omega
      · omega
    rw [xA, wa_ne ji]
    exact a2 j (by omega)
  · obtain ⟨b1, b2⟩ := h72 z
    obtain ⟨b3, b4⟩ := a4 b1
    refine ⟨b3, fun j hj => ?_⟩
    by_cases q : j = i
    · rw [q]; exact b2
    · have e : A x 27 j = A w 27 j := by rw [xA, wa_ne q]
      have := b4 j (by omega)
      unfold CL12 CL15 at this ⊢
      rw [e]; exact this
theorem calls_loop (hN : 20000 ≤ N) (tb : TBL u) (at' : ATM u) (h52 : F u 52 = ((G : Nat) : Int)) (hG : G ≤ 1000) (ngd : NGD u u) (h32 : 0 ≤ F u 32 ∧ F u 32 ≤ 15999) : ∀ (d i : Nat) (w : MS) (m : Nat), CLI u w G i → (i : Int) + d = F u 32 → d + 1 ≤ m → OK (fun x _ => CLI u x G (F u 32).toNat) (gg_M_calls N m w (I i)) := by
  intro d
  induction d with
  | zero =>
    intro i w m hw hi hm
    obtain ⟨m', rfl⟩ : ∃ m', m = m' + 1 := ⟨m - 1, by omega⟩
    show OK _ (fb_M_calls_2 N (gg_M_calls N m') w (I i))
    unfold fb_M_calls_2
    have e32 : F w 32 = F u 32 := hw.1.F (by decide)
    rw [I_F' e32]
    refine k_le (x := F u 32) (y := (i : Int)) ⟨by omega, by omega⟩ ⟨by omega, by omega⟩ (fun _ => ok_some.mpr ?_) (fun y => by omega)
    rw [show (F u 32).toNat = i by omega]; exact hw
  | succ d ih =>
    intro i w m hw hi hm
    obtain ⟨m', rfl⟩ : ∃ m', m = m' + 1 := ⟨m - 1, by omega⟩
    obtain ⟨a1, a2, a3, a4⟩ := id hw
    have e32 : F w 32 = F u 32 := a1.F (by decide)
    have e52 : F w 52 = ((G : Nat) : Int) := (a1.F (by decide)).trans h52
    have e14 : F w 14 = F u 14 := a1.F (by decide)
    have wA : ∀ r j, r ≠ 27 → A w r j = A u r j := fun r j hr => a1.A (by simpa using hr)
    have ei : (I ((i : Nat) : Int)).toNatClampNeg = i := by rw [I_tn (by omega) (by omega)]; omega
    have en : I (i : Int) + 1 = I ((i + 1 : Nat) : Int) := by rw [lit1q, I_add]; rfl
    have ng := ngd i (by omega)
    have nx : ∀ x, CLI u x G (i + 1) → OK (fun x _ => CLI u x G (F u 32).toNat) (gg_M_calls N m' x (I ((i + 1 : Nat) : Int))) := fun x hx => ih (i + 1) x m' hx (by omega) (by omega)
    have tbw : TBL w := fun k hk => by rw [wA 2 _ (by decide), wA 2 _ (by decide)]; exact tb k hk
    have atw : ATM w := by
      obtain ⟨b1, b2, b3⟩ := at'
      exact ⟨by rw [e14]; exact b1, by rw [e14]; exact b2, fun k hk => by rw [e14] at hk; rw [wA 13 _ (by decide), wA 13 _ (by decide)]; exact b3 k hk⟩
    have w27 : A w 27 i = A u 27 i := a2 i (Or.inr (Nat.le_refl _))
    have t24 : w.2.2.1 24 i = I (A u 24 i) := I_A' (wA 24 i (by decide))
    show OK _ (fb_M_calls_2 N (gg_M_calls N m') w (I i))
    unfold fb_M_calls_2
    rw [I_F' e32, ei]
    refine k_le (x := F u 32) (y := (i : Int)) ⟨by omega, by omega⟩ ⟨by omega, by omega⟩ (fun y => by omega) (fun _ => ?_)
    refine k_in (k := 23) (n := 16000) rfl (by decide) (by omega) ?_
    refine k_A (y := 12) rfl ⟨by decide, by decide⟩ (fun z => ?_) (fun z => ?_)
    · rw [wA 23 i (by decide)] at z
      have n12 := ng.2.2 z
      refine k_in (k := 25) (n := 16000) rfl (by decide) (by omega) (k_in (k := 26) (n := 16000) rfl (by decide) (by omega) ?_)
      refine ok_bnd.mpr (ok_mono (functionOf_ok (by omega) e52 hG) (fun x r6 h6 => ?_))
      rw [h6.1]
      refine k_in (k := 25) (n := 16000) rfl (by decide) (by omega) (k_in (k := 26) (n := 16000) rfl (by decide) (by omega) ?_)
      have e25 : w.2.2.1 25 i = I (A u 25 i) := I_A' (wA 25 i (by decide))
      have e26 : w.2.2.1 26 i = I (A u 26 i) := I_A' (wA 26 i (by decide))
      rw [e25]
      refine ok_bnd.mpr (ok_mono (predefinedOf_ok (by omega) tbw atw (by rw [e14]; exact n12)) (fun x r7 h7 => ?_))
      rw [h7.1]
      have wr : ∀ w', FR [71, 72] [] [] [] w w' → (0 ≤ F w' 71 ∧ F w' 71 < 4002) → (F w' 72 = 0 → F w 72 = 0 ∧ ¬ (r6 = -1 ∧ r7 = -1) ∧ (A u 27 i = 1 → r6 = -1 ∧ ∃ k : Nat, k < 30 ∧ r7 = I k ∧ 18 ≤ k)) → OK (fun x _ => CLI u x G (F u 32).toNat) (fb_M_calls_113 N (gg_M_calls N m') w' (I i) r6 r7) := fun w' f1 f2 f3 => by
        unfold fb_M_calls_113 fb_M_calls_132 fb_M_calls_191
        rw [ei, en]
        have fin : ∀ (y : Int), RG y → (F w' 72 = 0 → F w 72 = 0 ∧ ((∃ k : Nat, k < 30 ∧ y = 2000 + k ∧ A u 26 i = ((npre k : Nat) : Int) ∧ (A u 27 i = 1 → 18 ≤ k)) ∨ (A u 27 i ≠ 1 ∧ 0 ≤ y ∧ y < G ∧ A u 48 y.toNat = A u 26 i))) → OK (fun x _ => CLI u x G (F u 32).toNat) (gg_M_calls N m' (wa w' 27 i y) (I ((i + 1 : Nat) : Int))) := fun y ry hy => by
          have fx : FR [71, 72] [] [] [] (wa w 27 i y) (wa w' 27 i y) := by
            refine ⟨fun k hk => f1.1 k hk, fun k hk => f1.2.1 k hk, fun k hk => ?_, fun k hk => f1.2.2.2 k hk⟩
            have e := f1.2.2.1 k hk
            show (if k = 27 then upd (w'.2.2.1 27) i (I y) else w'.2.2.1 k) = (if k = 27 then upd (w.2.2.1 27) i (I y) else w.2.2.1 k)
            by_cases q : k = 27
            · rw [if_pos q, if_pos q]; rw [q] at e; rw [e]
            · rw [if_neg q, if_neg q]; exact e
          refine nx _ (CLI_wa hw (Or.inl z) fx f2 ry (fun q => ?_))
          obtain ⟨q1, q2⟩ := hy q
          have e27 : A (wa w' 27 i y) 27 i = y := wa_eq ry
          refine ⟨q1, fun _ => ?_, fun q3 => by omega⟩
          rw [e27]; exact q2
        rcases h7.2 with h7' | ⟨k7, g1, g2, g3⟩
        · rw [h7']
          show OK _ (ck (isK 27 4) (ck (inb (I (i : Int)) (ln 27)) (lt (upA w' 27 (upd (w'.2.2.1 27) i r6)) (fun w1 => gg_M_calls N m' w1 (I ((i + 1 : Nat) : Int))))))
          refine ok_ck.mpr ⟨rfl, k_in (k := 27) (n := 16000) rfl (by decide) (by omega) (ok_lt.mpr ?_)⟩
          rcases h6.2 with h6' | ⟨f6, j1, j2, j3⟩
          · rw [h6', show (-1 : Int32) = I (-1) from rfl, wa_e]
            exact fin (-1) ⟨by decide, by decide⟩ (fun q => absurd ⟨h6', h7'⟩ (f3 q).2.1)
          · rw [j2, wa_e]
            refine fin f6 ⟨by omega, by omega⟩ (fun q => ⟨(f3 q).1, Or.inr ⟨fun q1 => ?_, by omega, by omega, ?_⟩⟩)
            · obtain ⟨-, k, qk, q2, q3⟩ := (f3 q).2.2 q1
              rw [h7'] at q2
              have : (-1 : Int) = k := by
                have := congrArg Int32.toInt q2
                rw [show (-1 : Int32) = I (-1) from rfl, I_ti (by omega) (by omega), I_ti (by omega) (by omega)] at this
                exact this
              omega
            · have : A w 48 f6 = A w 26 i := by
                show (w.2.2.1 48 f6).toInt = (w.2.2.1 26 i).toInt
                rw [j3]
              rw [wA 48 _ (by decide), wA 26 _ (by decide)] at this
              rw [show ((f6 : Nat) : Int).toNat = f6 by omega]; exact this
        · have r7n : r7 ≠ -1 := fun q => by
            rw [g2] at q
            have := congrArg Int32.toInt q
            rw [show (-1 : Int32) = I (-1) from rfl, I_ti (by omega) (by omega), I_ti (by omega) (by omega)] at this
            omega
          rw [decide_eq_false r7n, br_fq]
          refine ok_ck.mpr ⟨rfl, k_in (k := 27) (n := 16000) rfl (by decide) (by omega) (ok_lt.mpr ?_)⟩
          rw [g2, show (2000 : Int32) = I 2000 from rfl, I_add, wa_e]
          refine fin (2000 + k7) ⟨by omega, by omega⟩ (fun q => ⟨(f3 q).1, Or.inl ⟨k7, g1, rfl, ?_, fun q1 => ?_⟩⟩)
          · have := congrArg Int32.toInt (e26.symm.trans g3)
            have pf := (pst_f k7 g1).2.2.2
            rw [I_ti (ARG1 u 26 i).1 (ARG1 u 26 i).2, I_ti (by omega) (by omega)] at this
            exact this
          · obtain ⟨-, k, j1, j2, j3⟩ := (f3 q).2.2 q1
            have := congrArg Int32.toInt (g2.symm.trans j2)
            rw [I_ti (by omega) (by omega), I_ti (by omega) (by omega)] at this
            omega
      have ru : ∀ (cd : Int32) (s : Int), cd = I s → RG s → s ≠ 0 → OK (fun x _ => CLI u x G (F u 32).toNat) (ck (inb (I (i : Int)) (ln 24)) (bnd (fm_M_rule N w cd (w.2.2.1 24 i)) (fun u8 _ => fb_M_calls_113 N (gg_M_calls N m') u8 (I i) r6 r7))) := fun cd s hc hs h0 => by
        refine k_in (k := 24) (n := 16000) rfl (by decide) (by omega) ?_
        exact k_rule (s := s) (t := A u 24 i) hc hs h0 t24 (by omega) a3 (fun w' h1 h2 h3 => wr w' h1 h3 (fun q => absurd q h2))
      have c80 : ¬ (r6 = -1 ∧ r7 = -1) → OK (fun x _ => CLI u x G (F u 32).toNat) (fb_M_calls_80 N (gg_M_calls N m') w (I i) r6 r7) := fun hn => by
        unfold fb_M_calls_80 fb_M_calls_101
        rw [ei]
        refine k_in (k := 27) (n := 16000) rfl (by decide) (by omega) ?_
        refine k_A (y := 1) rfl ⟨by decide, by decide⟩ (fun q1 => ?_) (fun q1 => ?_)
        · rw [w27] at q1
          refine ok_br.mpr ⟨fun q2 => ok_br.mpr ⟨fun q3 => ?_, fun _ => ru 7 7 rfl ⟨by decide, by decide⟩ (by decide)⟩, fun _ => ru 7 7 rfl ⟨by decide, by decide⟩ (by decide)⟩
          have h6' : r6 = -1 := of_decide_eq_true q2
          have h18 : (18 : Int32) ≤ r7 := of_decide_eq_true q3
          refine wr w FR.rf a3 (fun q => ⟨q, hn, fun _ => ⟨h6', ?_⟩⟩)
          rcases h7.2 with g | ⟨k7, g1, g2, g3⟩
          · exact absurd ⟨h6', g⟩ hn
          · refine ⟨k7, g1, g2, ?_⟩
            rw [g2, show (18 : Int32) = I 18 from rfl, I_le (by omega) (by omega) (by omega) (by omega)] at h18
            omega
        · rw [w27] at q1
          exact wr w FR.rf a3 (fun q => ⟨q, hn, fun q2 => absurd q2 q1⟩)
      refine ok_br.mpr ⟨fun q1 => ok_br.mpr ⟨fun q2 => ru 6 6 rfl ⟨by decide, by decide⟩ (by decide), fun q2 => c80 (fun q => ?_)⟩, fun q1 => c80 (fun q => ?_)⟩
      · exact absurd q.2 (of_decide_eq_false q2)
      · exact absurd q.1 (of_decide_eq_false q1)
    · rw [wA 23 i (by decide)] at z
      refine k_in (k := 23) (n := 16000) rfl (by decide) (by omega) ?_
      refine k_A (y := 15) rfl ⟨by decide, by decide⟩ (fun z2 => ?_) (fun z2 => ?_)
      · rw [wA 23 i (by decide)] at z2
        refine k_in (k := 25) (n := 16000) rfl (by decide) (by omega) (k_in (k := 26) (n := 16000) rfl (by decide) (by omega) ?_)
        refine ok_bnd.mpr (ok_mono (functionOf_ok (by omega) e52 hG) (fun x r3 h3 => ?_))
        rw [h3.1]
        refine k_in (k := 27) (n := 16000) rfl (by decide) (by omega) (ok_lt.mpr (k_in (k := 27) (n := 16000) rfl (by decide) (by omega) ?_))
        unfold fb_M_calls_191
        rw [en, I_of r3, wa_e]
        have ry := ti_rng r3
        refine k_A (y := -1) rfl ⟨by decide, by decide⟩ (fun q => ?_) (fun q => ?_)
        · refine k_in (k := 24) (n := 16000) rfl (by decide) (by omega) ?_
          have t24' : (wa w 27 i r3.toInt).2.2.1 24 i = I (A u 24 i) := I_A' (by rw [wa_rne (by decide)]; exact wA 24 i (by decide))
          exact k_rule (s := 6) (t := A u 24 i) rfl ⟨by decide, by decide⟩ (by decide) t24' (by omega) (by rw [F_wa]; exact a3) (fun w' h1 h2 h3 => nx w' (CLI_wa hw (Or.inr z2) h1 h3 ry (fun q => absurd q h2)))
        · refine nx _ (CLI_wa hw (Or.inr z2) FR.rf a3 ry (fun q2 => ⟨q2, fun q3 => by omega, fun _ => ?_⟩))
          rw [wa_eq ry] at q ⊢
          rcases h3.2 with g | ⟨f3, g1, g2, g3⟩
          · rw [g] at q; exact absurd rfl q
          · rw [g2, I_ti (by omega) (by omega)]; omega
      · unfold fb_M_calls_191
        rw [wA 23 i (by decide)] at z2
        rw [en]
        refine nx w ⟨a1, fun j hj => a2 j (by
          by_cases q : j = i
          · rw [q]; exact Or.inl ⟨z, z2⟩
          · omega), a3, fun q => ⟨(a4 q).1, fun j hj => ?_⟩⟩
        by_cases q1 : j = i
        · rw [q1]; exact ⟨fun q2 => absurd q2 z, fun q2 => absurd q2 z2⟩
        · exact (a4 q).2 j (by omega)
theorem calls_ok (hN : 20000 ≤ N) (tb : TBL u) (at' : ATM u) (h52 : F u 52 = ((G : Nat) : Int)) (hG : G ≤ 1000) (ngd : NGD u u) (h32 : 0 ≤ F u 32 ∧ F u 32 ≤ 15999) (h71 : 0 ≤ F u 71 ∧ F u 71 < 4002) : OK (fun x _ => CLI u x G (F u 32).toNat) (fm_M_calls N u) := by
  unfold fm_M_calls fb_M_calls_0
  exact calls_loop hN tb at' h52 hG ngd h32 (F u 32).toNat 0 u N ⟨FR.rf, fun _ _ => rfl, h71, fun q => ⟨q, fun j hj => by omega⟩⟩ (by omega) (by omega)
end
