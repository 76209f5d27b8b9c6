section
variable {Fv : Int64 → Int64 → Prop} {P P2 : Int64 → Prop} {u v w w2 x y : MS} {PR PR2 N p n n2 opM bnM bxM bx2 ND fr k tp mu CN PN SN UN FN rq q m h mm AN z j : Nat} {ow kd ow2 kd2 ro rn rh cb pc ct pM pE : Nat → Nat} {T : TY} {C : CY}
theorem function1_ok {a b : Int32} (h : F w 86 ≠ 0 → 0 ≤ F w 52 ∧ F w 52 ≤ 1000) (h49 : ∀ i, 0 ≤ A w 49 i ∧ A w 49 i < 4002) : OK (fun v _ => FR [3] [] [] [] w v) (fm_M_function1 N w a b) := by
  unfold fm_M_function1 fb_M_function1_0 fb_M_function1_33 fb_M_function1_87
  refine ok_lt.mpr ?_
  rw [three]
  have y : ∀ t : Int32, OK (fun v _ => FR [3] [] [] [] w v) (some (wi w 3 0, t)) := fun t => ok_some.mpr f3
  refine ok_br.mpr ⟨fun _ => y _, fun z86 => ok_br.mpr ⟨fun _ => y _, fun z0 => ok_br.mpr ⟨fun _ => y _, fun z1 => ok_br.mpr ⟨fun _ => y _, fun _ => ok_br.mpr ⟨fun _ => ?_, fun _ => y _⟩⟩⟩⟩⟩
  have n86 : F w 86 ≠ 0 := fun e => of_decide_eq_false z86 (by rw [show (wi w 3 0).1 86 = w.1 86 from rfl, I_F' e]; rfl)
  obtain ⟨a1, a2⟩ := h n86
  have ra := ti_rng a
  have ea : a = I a.toInt := I_of a
  rw [ea, lit0q, decL ra.1 ra.2 (by omega) (by omega)] at z0
  rw [ea, show (wi w 3 0).1 52 = w.1 52 from rfl, I_F (k := 52), decI (by omega) (by omega) ra.1 ra.2] at z1
  have c0 := of_decide_eq_false z0
  have c1 := of_decide_eq_false z1
  obtain ⟨i, hi⟩ : ∃ i : Nat, a.toInt = i := ⟨a.toInt.toNat, by omega⟩
  rw [hi] at ea
  rw [ea, show (wi w 3 0).2.2.1 = w.2.2.1 from rfl]
  have ii : ∀ k, ln k = 1000 → inb (I (i : Int)) (ln k) = true := fun k hk => inb_at hk (by omega) (by omega) (by decide)
  refine ok_br.mpr ⟨fun _ => ok_ck.mpr ⟨ii 47 rfl, y _⟩, fun _ => ok_br.mpr ⟨fun _ => ok_ck.mpr ⟨ii 48 rfl, y _⟩, fun _ => ok_br.mpr ⟨fun _ => ok_ck.mpr ⟨ii 51 rfl, y _⟩, fun _ => ok_ck.mpr ⟨ii 49 rfl, ?_⟩⟩⟩⟩
  have d := h49 i
  rw [I_tn (x := (i : Int)) (by omega) (by omega), Int.toNat_natCast, I_A (k := 49)]
  exact ok_ck.mpr ⟨inb_at (k := 8) (n := 4002) rfl (by omega) (by omega) (by decide), y _⟩
theorem feed_ok {a b c d e : Int32} (h : 0 ≤ F w 5 ∧ F w 5 ≤ 4000) (hN : 100 ≤ N) : OK (fun v _ => FR [3, 5] [] [4] [] w v ∧ 0 ≤ F v 5 ∧ F v 5 ≤ 4000) (fm_M_feed N w a b c d e) := by
  unfold fm_M_feed fb_M_feed_0
  refine ok_lt.mpr ?_
  rw [three]
  have e5 : F (wi w 3 0) 5 = F w 5 := FR.F f3 (by decide)
  have lp : ∀ (m k : Nat) (v : MS), k ≤ 20 → 20 - k < m → FR [3, 5] [] [4] [] w v → 0 ≤ F v 5 → F v 5 + (20 - k) ≤ 4000 → OK (fun v _ => FR [3, 5] [] [4] [] w v ∧ 0 ≤ F v 5 ∧ F v 5 ≤ 4000) (gg_M_feed N m v a b c d e (I k)) := by
    intro m
    induction m with
    | zero => intro k v _ h; omega
    | succ m ih =>
      intro k v hk hm fv h0 h4
      show OK _ (fb_M_feed_23 N (gg_M_feed N m) v a b c d e (I k))
      unfold fb_M_feed_23 fb_M_feed_76
      rw [show (20 : Int32) = I 20 from rfl, decI (by omega) (by omega) (by omega) (by omega)]
      refine ok_br.mpr ⟨fun _ => ok_some.mpr ⟨fv, h0, by omega⟩, fun zz => ?_⟩
      have zz' := of_decide_eq_false zz
      obtain ⟨t, ht⟩ : ∃ t : Nat, F v 5 = t := ⟨(F v 5).toNat, by omega⟩
      have stp : ∀ x : Int32, OK (fun v _ => FR [3, 5] [] [4] [] w v ∧ 0 ≤ F v 5 ∧ F v 5 ≤ 4000) (ck (inb (v.1 5) (ln 4)) (lt (upA v 4 (upd (v.2.2.1 4) (v.1 5).toNatClampNeg x)) (fun w1 => lt (upI w1 5 ((w1.1 5) + 1)) (fun w2 => gg_M_feed N m w2 a b c d e ((I k) + 1))))) := fun x => by
        rw [I_F' ht]
        refine ok_ck.mpr ⟨inb_at (k := 4) (n := 4000) rfl (by omega) (by omega) (by decide), ok_lt.mpr (ok_lt.mpr ?_)⟩
        rw [I_tn (x := (t : Int)) (by omega) (by omega), Int.toNat_natCast, I_of x, wa_e, show (wa v 4 t x.toInt).1 5 = I t from I_F' ht, lit1q, I_add, I_add, wi_e, show (k : Int) + 1 = ((k + 1 : Nat) : Int) from by omega]
        exact ih (k + 1) _ (by omega) (by omega) (FR.wi (FR.wa fv (by decide)) (by decide)) (by rw [F_wi (by omega) (by omega), if_pos rfl]; omega) (by rw [F_wi (by omega) (by omega), if_pos rfl]; omega)
      exact ok_br.mpr ⟨fun _ => ok_br.mpr ⟨fun _ => ok_br.mpr ⟨fun _ => ok_br.mpr ⟨fun _ => stp _, fun _ => stp _⟩, fun _ => stp _⟩, fun _ => stp _⟩, fun _ => stp _⟩
  rw [I_F (k := 5), e5, show (20 : Int32) = I 20 from rfl, I_add, show (4000 : Int32) = I 4000 from rfl, decI (by omega) (by omega) (by omega) (by omega)]
  refine ok_br.mpr ⟨fun z => ?_, fun _ => ok_some.mpr ⟨FR.mo f3 (by decide) (by decide) (by decide) (by decide), by rw [e5]; exact h.1, by rw [e5]; exact h.2⟩⟩
  have := of_decide_eq_true z
  rw [show (0 : Int32) = I ((0 : Nat) : Int) from rfl]
  exact lp N 0 _ (by omega) (by omega) (FR.mo f3 (by decide) (by decide) (by decide) (by decide)) (by rw [e5]; exact h.1) (by rw [e5]; omega)
theorem back_ok {a : Int32} (h : 0 ≤ F w 5 ∧ F w 5 ≤ 4000) : OK (fun v _ => FR [3, 5] [] [] [] w v ∧ 0 ≤ F v 5 ∧ F v 5 ≤ 4000) (fm_M_back N w a) := by
  unfold fm_M_back fb_M_back_0 fb_M_back_17
  refine ok_lt.mpr ?_
  rw [three]
  have e5 : F (wi w 3 0) 5 = F w 5 := FR.F f3 (by decide)
  have bad : OK (fun v (_ : Int32) => FR [3, 5] [] [] [] w v ∧ 0 ≤ F v 5 ∧ F v 5 ≤ 4000) (some (wi w 3 0, -1)) := ok_some.mpr ⟨FR.mo f3 (by decide) (by decide) (by decide) (by decide), by rw [e5]; exact h.1, by rw [e5]; exact h.2⟩
  have ra := ti_rng a
  have ea : a = I a.toInt := I_of a
  rw [I_F (k := 5), e5, ea, lit0q, decL ra.1 ra.2 (by omega) (by omega), decI ra.1 ra.2 (by omega) (by omega), I_sub, wi_e]
  refine ok_br.mpr ⟨fun _ => bad, fun z0 => ok_br.mpr ⟨fun z1 => ok_lt.mpr (ok_some.mpr ?_), fun _ => bad⟩⟩
  have c0 := of_decide_eq_false z0
  have c1 := of_decide_eq_true z1
  refine ⟨FR.wi (FR.mo f3 (by decide) (by decide) (by decide) (by decide)) (by decide), ?_, ?_⟩
  · rw [F_wi (by omega) (by omega), if_pos rfl]; omega
  · rw [F_wi (by omega) (by omega), if_pos rfl]; omega
end
