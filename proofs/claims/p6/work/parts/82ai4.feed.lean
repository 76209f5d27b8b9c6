section
variable {w : MS} {N : Nat}
theorem nar_rng {x : Int32} : -128 ≤ (vp_nar .byte x).toInt ∧ (vp_nar .byte x).toInt ≤ 127 := by
  show -128 ≤ (x.toInt8.toInt32).toInt ∧ (x.toInt8.toInt32).toInt ≤ 127
  rw [Int8.toInt_toInt32]
  exact ⟨Int8.le_toInt _, Int.le_of_lt_add_one (Int8.toInt_lt _)⟩
theorem feed_by {a b c d e : Int32} (h : 0 ≤ F w 5 ∧ F w 5 ≤ 4000) (hb : BYT w) (hN : 100 ≤ N) : OK (fun v _ => FR [3, 5] [] [4] [] w v ∧ (0 ≤ F v 5 ∧ F v 5 ≤ 4000) ∧ BYT v) (fm_M_feed N w a b c d e) := by
  unfold fm_M_feed fb_M_feed_0
  refine ok_lt.mpr ?_
  rw [three]
  have e5 : F (wi w 3 0) 5 = F w 5 := FR.F f3 (by decide)
  have lp : ∀ (m k : Nat) (v : MS), k ≤ 20 → 20 - k < m → FR [3, 5] [] [4] [] w v → 0 ≤ F v 5 → F v 5 + (20 - k) ≤ 4000 → BYT v → OK (fun v _ => FR [3, 5] [] [4] [] w v ∧ (0 ≤ F v 5 ∧ F v 5 ≤ 4000) ∧ BYT v) (gg_M_feed N m v a b c d e (I k)) := by
    intro m
    induction m with
    | zero => intro k v _ h; omega
    | succ m ih =>
      intro k v hk hm fv h0 h4 hv
      show OK _ (fb_M_feed_23 N (gg_M_feed N m) v a b c d e (I k))
      unfold fb_M_feed_23 fb_M_feed_76
      rw [show (20 : Int32) = I 20 from rfl, decI (by omega) (by omega) (by omega) (by omega)]
      refine ok_br.mpr ⟨fun _ => ok_some.mpr ⟨fv, ⟨h0, by omega⟩, hv⟩, fun zz => ?_⟩
      have zz' := of_decide_eq_false zz
      obtain ⟨t, ht⟩ : ∃ t : Nat, F v 5 = t := ⟨(F v 5).toNat, by omega⟩
      have stp : ∀ x : Int32, OK (fun v _ => FR [3, 5] [] [4] [] w v ∧ (0 ≤ F v 5 ∧ F v 5 ≤ 4000) ∧ BYT v) (ck (inb (v.1 5) (ln 4)) (lt (upA v 4 (upd (v.2.2.1 4) (v.1 5).toNatClampNeg (vp_nar .byte x))) (fun w1 => lt (upI w1 5 ((w1.1 5) + 1)) (fun w2 => gg_M_feed N m w2 a b c d e ((I k) + 1))))) := fun x => by
        rw [I_F' ht]
        refine ok_ck.mpr ⟨inb_at (k := 4) (n := 4000) rfl (by omega) (by omega) (by decide), ok_lt.mpr (ok_lt.mpr ?_)⟩
        rw [I_tn (x := (t : Int)) (by omega) (by omega), Int.toNat_natCast, I_of (vp_nar .byte x), wa_e, show (wa v 4 t (vp_nar .byte x).toInt).1 5 = I t from I_F' ht, lit1q, I_add, I_add, wi_e, show (k : Int) + 1 = ((k + 1 : Nat) : Int) from by omega]
        exact ih (k + 1) _ (by omega) (by omega) (FR.wi (FR.wa fv (by decide)) (by decide)) (by rw [F_wi (by omega) (by omega), if_pos rfl]; omega) (by rw [F_wi (by omega) (by omega), if_pos rfl]; omega) (fun i => by
          show -128 ≤ A (wa v 4 t (vp_nar .byte x).toInt) 4 i ∧ A (wa v 4 t (vp_nar .byte x).toInt) 4 i ≤ 127
          by_cases z : i = t
          · rw [z, wa_eq (ti_rng _)]; exact nar_rng
          · rw [wa_ne z]; exact hv i)
      exact ok_br.mpr ⟨fun _ => ok_br.mpr ⟨fun _ => ok_br.mpr ⟨fun _ => ok_br.mpr ⟨fun _ => stp _, fun _ => stp _⟩, fun _ => stp _⟩, fun _ => stp _⟩, fun _ => stp _⟩
  rw [I_F (k := 5), e5, show (20 : Int32) = I 20 from rfl, I_add, show (4000 : Int32) = I 4000 from rfl, decI (by omega) (by omega) (by omega) (by omega)]
  refine ok_br.mpr ⟨fun z => ?_, fun _ => ok_some.mpr ⟨FR.mo f3 (by decide) (by decide) (by decide) (by decide), ⟨by rw [e5]; exact h.1, by rw [e5]; exact h.2⟩, hb⟩⟩
  have := of_decide_eq_true z
  rw [show (0 : Int32) = I ((0 : Nat) : Int) from rfl]
  exact lp N 0 _ (by omega) (by omega) (FR.mo f3 (by decide) (by decide) (by decide) (by decide)) (by rw [e5]; exact h.1) (by rw [e5]; omega) hb
end
