set_option maxRecDepth 100000
def FDq (n n2 : Int) (r : Int32) : Prop := (n + 20 ≤ 4000 ∧ n2 = n + 20 ∧ r = I n2) ∨ (4000 < n + 20 ∧ n2 = n ∧ r = -1)
def BKq (n t n2 : Int) (r : Int32) : Prop := ((0 ≤ t ∧ t ≤ n) ∧ n2 = n - t ∧ r = I n2) ∨ (¬ (0 ≤ t ∧ t ≤ n) ∧ n2 = n ∧ r = -1)
theorem FD_f {n a b : Int} {r s : Int32} (h : FDq n a r) (k : FDq n b s) : a = b ∧ r = s := by
  rcases h with ⟨h1, h2, h3⟩ | ⟨h1, h2, h3⟩ <;> rcases k with ⟨k1, k2, k3⟩ | ⟨k1, k2, k3⟩
  · have : a = b := by omega
    subst this; exact ⟨rfl, by rw [h3, k3]⟩
  · omega
  · omega
  · exact ⟨by omega, by rw [h3, k3]⟩
theorem BK_f {n t a b : Int} {r s : Int32} (h : BKq n t a r) (k : BKq n t b s) : a = b ∧ r = s := by
  rcases h with ⟨h1, h2, h3⟩ | ⟨h1, h2, h3⟩ <;> rcases k with ⟨k1, k2, k3⟩ | ⟨k1, k2, k3⟩
  · have : a = b := by omega
    subst this; exact ⟨rfl, by rw [h3, k3]⟩
  · exact absurd h1 k1
  · exact absurd k1 h1
  · exact ⟨by omega, by rw [h3, k3]⟩
section
variable {u v w : MS} {N : Nat} {x y : Int32}
theorem app_len : ∀ (k M : Nat) (v : MS), k + 1 ≤ M → k ≤ 4 → 0 ≤ F v 81 → F v 81 + ((k : Nat) : Int) ≤ 4000 → OK (fun w _ => F w 81 = F v 81 + ((k : Nat) : Int)) (hg_To_append N M v x (I (8 * ((k : Nat) : Int) - 8)))
  | 0, M, v, hM, hk, h81, hT => by
    obtain ⟨M, rfl⟩ : ∃ M2, M = M2 + 1 := ⟨M - 1, by omega⟩
    show OK _ (hb_To_append_3 N (hg_To_append N M) v x (I (8 * ((0 : Nat) : Int) - 8)))
    unfold hb_To_append_3 hb_To_append_46
    rw [lit0q]
    exact k_lt ⟨by decide, by decide⟩ ⟨by decide, by decide⟩ (fun _ => ok_some.mpr (by omega)) (fun z => absurd z (by decide))
  | k + 1, M, v, hM, hk, h81, hT => by
    obtain ⟨M, rfl⟩ : ∃ M2, M = M2 + 1 := ⟨M - 1, by omega⟩
    show OK _ (hb_To_append_3 N (hg_To_append N M) v x (I (8 * ((k + 1 : Nat) : Int) - 8)))
    unfold hb_To_append_3 hb_To_append_46
    rw [lit0q]
    refine k_lt ⟨by omega, by omega⟩ ⟨by decide, by decide⟩ (fun z => absurd z (by omega)) (fun _ => ?_)
    rw [I_F (k := 81), show (4000 : Int32) = I 4000 from rfl]
    refine k_le ⟨by decide, by decide⟩ (FRG1 v _) (fun z => absurd z (by omega)) (fun h4 => ?_)
    have h4' : F v 81 < 4000 := h4
    obtain ⟨t, ht⟩ : ∃ t : Nat, F v 81 = ((t : Nat) : Int) := ⟨(F v 81).toNat, by omega⟩
    refine e_in ⟨by omega, by omega⟩ (by decide) (ok_lt.mpr (ok_lt.mpr ?_))
    rw [ht, tnI (n := t) rfl (by omega), show (-8 : Int32) = I (-8) from rfl, I_add, show 8 * ((k + 1 : Nat) : Int) - 8 + -8 = 8 * ((k : Nat) : Int) - 8 by omega]
    generalize hb : vp_nar .byte _ = by0
    have e1 : (upA v 5 (upd (v.2.2.1 5) t by0)).1 81 = I ((t : Nat) : Int) := by
      show v.1 81 = _
      rw [I_F, ht]
    rw [e1, lit1q, I_add, show ((t : Nat) : Int) + 1 = ((t + 1 : Nat) : Int) by omega, wi_e, I_of by0, wa_e]
    have e81 : F (wi (wa v 5 t by0.toInt) 81 ((t + 1 : Nat) : Int)) 81 = ((t + 1 : Nat) : Int) := by rw [F_wi (by omega) (by omega), if_pos rfl]
    exact ok_mono (app_len k M _ (by omega) (by omega) (by rw [e81]; omega) (by rw [e81]; omega)) (fun w _ hw => by rw [hw, e81]; omega)
theorem append_len (hN : 10 ≤ N) (h0 : 0 ≤ F u 81) (h1 : F u 81 + 4 ≤ 4000) : OK (fun w _ => F w 81 = F u 81 + 4) (hm_To_append N u x) := by
  unfold hm_To_append hb_To_append_0
  have e : (24 : Int32) = I (8 * ((4 : Nat) : Int) - 8) := rfl
  rw [e]
  exact app_len 4 N u (by omega) (by omega) h0 h1
theorem feed_c {a b c d e : Int32} (h : INVc u) (hN : 10 ≤ N) : OK (fun w r => FDq (F u 81) (F w 81) r) (hm_H_feed N u a b c d e) := by
  unfold hm_H_feed hb_H_feed_0
  have h81 := h.1.1.1
  rw [show u.1 81 + 20 = I (F u 81 + 20) by rw [I_F (k := 81), show (20 : Int32) = I 20 from rfl, I_add], show (4000 : Int32) = I 4000 from rfl]
  refine k_le ⟨by omega, by omega⟩ ⟨by decide, by decide⟩ (fun h4 => ?_) (fun h4 => ok_some.mpr (Or.inr ⟨by omega, rfl, rfl⟩))
  refine ok_bnd.mpr (ok_mono (append_len hN h81.1 (by omega)) (fun w1 _ h1 => ok_bnd.mpr (ok_mono (append_len hN (by omega) (by omega)) (fun w2 _ h2 => ok_bnd.mpr (ok_mono (append_len hN (by omega) (by omega)) (fun w3 _ h3 => ok_bnd.mpr (ok_mono (append_len hN (by omega) (by omega)) (fun w4 _ h4 => ok_bnd.mpr (ok_mono (append_len hN (by omega) (by omega)) (fun w5 _ h5 => ok_some.mpr (Or.inl ⟨by omega, by omega, ?_⟩)))))))))))
  exact I_F (k := 81)
theorem back_c {t : Int} (h : INVc u) (rt : RG t) : OK (fun w r => BKq (F u 81) t (F w 81) r) (hm_H_back N u (I t)) := by
  unfold hm_H_back hb_H_back_0 hb_H_back_15
  have h81 := h.1.1.1
  rw [lit0q, I_F (k := 81)]
  refine k_lt rt ⟨by decide, by decide⟩ (fun h0 => ok_some.mpr (Or.inr ⟨by omega, rfl, rfl⟩)) (fun h0 => k_le rt (FRG1 u _) (fun h1 => ok_lt.mpr (ok_some.mpr ?_)) (fun h1 => ok_some.mpr (Or.inr ⟨by omega, rfl, rfl⟩)))
  rw [I_sub, wi_e]
  have hr : RG (F u 81 - t) := ⟨by omega, by omega⟩
  refine Or.inl ⟨by omega, ?_, I_F (k := 81)⟩
  rw [F_wi hr.1 hr.2, if_pos rfl]
end
section
variable {u v w : MS} {N : Nat}
theorem feed_m {a b c d e : Int32} (h : 0 ≤ F w 5 ∧ F w 5 ≤ 4000) (hN : 100 ≤ N) : OK (fun v r => FDq (F w 5) (F v 5) r) (fm_M_feed N w a b c d e) := by
  unfold fm_M_feed fb_M_feed_0
  refine ok_lt.mpr ?_
  rw [three]
  have e5 : F (wi w 3 0) 5 = F w 5 := FR.F f3 (by decide)
  have lp : ∀ (m k : Nat) (v : MS), k ≤ 20 → 20 - k < m → 0 ≤ F v 5 → F v 5 + (20 - k) ≤ 4000 → OK (fun x r => F x 5 = F v 5 + (20 - k) ∧ r = I (F x 5)) (gg_M_feed N m v a b c d e (I k)) := by
    intro m
    induction m with
    | zero => intro k v _ h; omega
    | succ m ih =>
      intro k v hk hm h0 h4
      show OK _ (fb_M_feed_23 N (gg_M_feed N m) v a b c d e (I k))
      unfold fb_M_feed_23 fb_M_feed_76
      rw [show (20 : Int32) = I 20 from rfl, decI (by omega) (by omega) (by omega) (by omega)]
      refine ok_br.mpr ⟨fun zz => ok_some.mpr ⟨by have := of_decide_eq_true zz; omega, I_F (k := 5)⟩, fun zz => ?_⟩
      have zz' := of_decide_eq_false zz
      obtain ⟨t, ht⟩ : ∃ t : Nat, F v 5 = t := ⟨(F v 5).toNat, by omega⟩
      have stp : ∀ x : Int32, OK (fun y r => F y 5 = F v 5 + (20 - k) ∧ r = I (F y 5)) (ck (inb (v.1 5) (ln 4)) (lt (upA v 4 (upd (v.2.2.1 4) (v.1 5).toNatClampNeg x)) (fun w1 => lt (upI w1 5 ((w1.1 5) + 1)) (fun w2 => gg_M_feed N m w2 a b c d e ((I k) + 1))))) := fun x => by
        rw [I_F' ht]
        refine ok_ck.mpr ⟨inb_at (k := 4) (n := 4000) rfl (by omega) (by omega) (by decide), ok_lt.mpr (ok_lt.mpr ?_)⟩
        rw [I_tn (x := (t : Int)) (by omega) (by omega), Int.toNat_natCast, I_of x, wa_e, show (wa v 4 t x.toInt).1 5 = I t from I_F' ht, lit1q, I_add, I_add, wi_e, show (k : Int) + 1 = ((k + 1 : Nat) : Int) from by omega]
        have e9 : F (wi (wa v 4 t x.toInt) 5 ((t : Int) + 1)) 5 = (t : Int) + 1 := by rw [F_wi (by omega) (by omega), if_pos rfl]
        exact ok_mono (ih (k + 1) _ (by omega) (by omega) (by rw [e9]; omega) (by rw [e9]; omega)) (fun y r q => ⟨by rw [q.1, e9]; omega, q.2⟩)
      exact ok_br.mpr ⟨fun _ => ok_br.mpr ⟨fun _ => ok_br.mpr ⟨fun _ => ok_br.mpr ⟨fun _ => stp _, fun _ => stp _⟩, fun _ => stp _⟩, fun _ => stp _⟩, fun _ => stp _⟩
  rw [I_F (k := 5), e5, show (20 : Int32) = I 20 from rfl, I_add, show (4000 : Int32) = I 4000 from rfl, decI (by omega) (by omega) (by omega) (by omega)]
  refine ok_br.mpr ⟨fun z => ?_, fun z => ok_some.mpr (Or.inr ⟨by have := of_decide_eq_false z; omega, e5, rfl⟩)⟩
  have z' := of_decide_eq_true z
  rw [show (0 : Int32) = I ((0 : Nat) : Int) from rfl]
  refine ok_mono (lp N 0 _ (by omega) (by omega) (by rw [e5]; exact h.1) (by rw [e5]; omega)) (fun y r q => Or.inl ⟨z', ?_, q.2⟩)
  rw [q.1, e5]; omega
theorem back_m {t : Int} (h : 0 ≤ F w 5 ∧ F w 5 ≤ 4000) (rt : RG t) : OK (fun v r => BKq (F w 5) t (F v 5) r) (fm_M_back N w (I t)) := by
  unfold fm_M_back fb_M_back_0 fb_M_back_17
  refine ok_lt.mpr ?_
  rw [three]
  have e5 : F (wi w 3 0) 5 = F w 5 := FR.F f3 (by decide)
  have ra := rt
  rw [I_F (k := 5), e5, lit0q, decL ra.1 ra.2 (by omega) (by omega), decI ra.1 ra.2 (by omega) (by omega), I_sub, wi_e]
  refine ok_br.mpr ⟨fun z0 => ok_some.mpr (Or.inr ⟨by have := of_decide_eq_true z0; omega, e5, rfl⟩), fun z0 => ok_br.mpr ⟨fun z1 => ok_lt.mpr (ok_some.mpr ?_), fun z1 => ok_some.mpr (Or.inr ⟨by have := of_decide_eq_false z1; omega, e5, rfl⟩)⟩⟩
  have c0 := of_decide_eq_false z0
  have c1 := of_decide_eq_true z1
  exact Or.inl ⟨⟨by omega, c1⟩, by rw [F_wi (by omega) (by omega), if_pos rfl], I_F (k := 5)⟩
end
def Z5E {α : Type} (k : Nat) (x : Int32) (o : Option (MS × α)) : Prop := ∀ w r, o = some (w, r) → w.1 k = x
section
variable {α β : Type} {u0 u w : MS} {k N : Nat} {x : Int32}
theorem Z5_none : Z5E k x (none : Option (MS × α)) := fun _ _ e => by cases e
theorem Z5_some {r : α} (h : w.1 k = x) : Z5E k x (some (w, r)) := fun _ _ e => by injection e with e; injection e with e1 _; exact e1 ▸ h
theorem Z5_br {b : Bool} {p q : Option (MS × α)} (h1 : Z5E k x p) (h2 : Z5E k x q) : Z5E k x (br b p q) := by cases b <;> assumption
theorem Z5_ck {b : Bool} {p : Option (MS × α)} (h1 : Z5E k x p) : Z5E k x (ck b p) := by
  cases b
  · exact Z5_none
  · exact h1
theorem Z5_bo {o : Option β} {f : β → Option (MS × α)} (h : ∀ j, Z5E k x (f j)) : Z5E k x (bo o f) := by
  cases o with
  | none => exact Z5_none
  | some j => exact h j
theorem Z5_bnd {o : Option (MS × β)} {f : MS → β → Option (MS × α)} (h2 : ∀ w r, Z5E k x (f w r)) : Z5E k x (bnd o f) := by
  cases o with
  | none => exact Z5_none
  | some y => exact h2 y.1 y.2
theorem Z5_bnk {o : Option (MS × β)} {f : MS → β → Option (MS × α)} (h1 : Z5E k x o) (h2 : ∀ w r, w.1 k = x → Z5E k x (f w r)) : Z5E k x (bnd o f) := by
  cases o with
  | none => exact Z5_none
  | some y => exact h2 y.1 y.2 (h1 _ _ rfl)
theorem Z5_lt {y : β} {f : β → Option (MS × α)} (h2 : ∀ y, Z5E k x (f y)) : Z5E k x (lt y f) := h2 y
theorem upI_at {v : Int32} : (upI u k v).1 k = v := if_pos rfl
theorem upI_ne {v : Int32} {j : Nat} (h : j ≠ k) : (upI u k v).1 j = u.1 j := if_neg h
theorem read_m : Z5E 5 0 (fm_M_read N u) := by
  unfold fm_M_read fb_M_read_0
  refine Z5_lt (fun _ => Z5_lt (fun _ => Z5_lt (fun _ => Z5_lt (fun _ => Z5_lt (fun _ => Z5_lt (fun _ => Z5_lt (fun _ => Z5_lt (fun _ => Z5_lt (fun _ => Z5_lt (fun _ => Z5_ck (Z5_lt (fun _ => Z5_ck (Z5_lt (fun _ => Z5_bnd (fun _ _ => Z5_bnd (fun u14 _ => ?_))))))))))))))))
  show Z5E 5 0 (br _ _ _)
  have e : (upI u14 5 0).1 5 = 0 := upI_at
  refine Z5_br (Z5_bnk (fun w r h => (y5_fm_M_calls (u0 := upI u14 5 0) rfl w r h).trans e) (fun w r hw => ?_)) (Z5_some e)
  have e162 : Z5E 5 0 (fb_M_read_162 N () w) := by
    unfold fb_M_read_162
    exact Z5_some hw
  refine Z5_br (Z5_br (Z5_br e162 (Z5_br e162 (Z5_br (Z5_some ((upI_ne (by decide)).trans hw)) e162))) e162) (Z5_ck (Z5_some hw))
theorem read_c : Z5E 81 0 (hm_H_read N u) := by
  unfold hm_H_read hb_H_read_0
  have e27 : ∀ {w : MS} {r : Int32}, Z5E 81 0 (hb_H_read_27 N () w r) := fun {w r} => by
    unfold hb_H_read_27
    have e45 : ∀ {t : Int32}, Z5E 81 0 (hb_H_read_45 N () (upI w 81 0) r t) := fun {t} => by
      unfold hb_H_read_45
      refine Z5_ck ?_
      obtain ⟨w2, r2, e2, -, fc⟩ := clearAll_new (N := N) (u := upI (upI w 81 0) 10 t)
      show Z5E 81 0 (bnd (hm_Wl_clearAll N (upI (upI w 81 0) 10 t)) (fun u3 r3 => some (u3, r)))
      refine Z5_bnk (fun w3 r3 e3 => ?_) (fun w3 r3 h3 => Z5_some h3)
      rw [e2] at e3
      injection e3 with e3
      injection e3 with e3 _
      rw [← e3]
      exact (fc.1 81 (by decide) (by simp)).trans ((upI_ne (by decide)).trans upI_at)
    exact Z5_br e45 e45
  exact Z5_bnd (fun _ _ => Z5_bnd (fun _ _ => Z5_br (Z5_bnd (fun _ _ => e27)) e27))
theorem Z5_ke {o : Option (MS × α)} (h : KE u0 o) : Z5E 81 (u0.1 81) o := fun w r e => (h w r e).1 81 (by omega)
theorem Z5_bnK {o : Option (MS × β)} {f : MS → β → Option (MS × α)} (h1 : KE u0 o) (h2 : ∀ w r, KPS u0 w → Z5E 81 (u0.1 81) (f w r)) : Z5E 81 (u0.1 81) (bnd o f) := by
  cases o with
  | none => exact Z5_none
  | some x => exact h2 x.1 x.2 (h1 x.1 x.2 rfl)
theorem show_81 {v1 v2 v3 : Int32} (h : KPS u0 u) : Z5E 81 (u0.1 81) (hm_H_show N u v1 v2 v3) := by
  have k9 : ∀ {w : MS} {r : Int32}, KPS u0 w → Z5E 81 (u0.1 81) (lt (upI w 9 r) (fun w7 => some (w7, (w7.1 9)))) := fun hw => Z5_some ((upI_ne (by decide)).trans (hw.1 81 (by omega)))
  have tx : ∀ {w : MS} {b : Nat} {t : Int64}, KPS u0 w → Z5E 81 (u0.1 81) (bnd (hm_Te_text N w b t 56 0) (fun u5 r5 => lt (upI u5 9 r5) (fun w7 => some (w7, (w7.1 9))))) := fun hw => Z5_bnK (zm_Te_text hw (Or.inr rfl)) (fun w r hw => k9 hw)
  have so : ∀ {w : MS} {r : Int32}, KPS u0 w → Z5E 81 (u0.1 81) (some (w, r)) := fun hw => Z5_some (hw.1 81 (by omega))
  have e145 : ∀ {w : MS} {v2 v3 v6 t0 : Int32} {v4 v5 : Nat}, KPS u0 w → Z5E 81 (u0.1 81) (hb_H_show_145 N () w v2 v3 v4 v5 v6 t0) := fun hw => by
    unfold hb_H_show_145 hb_H_show_209
    exact Z5_br (Z5_br (Z5_ck (tx hw)) (Z5_br (Z5_bnK (zm_Fr_of hw) (fun w r hw => Z5_ck (tx hw))) (Z5_bnK (zm_Fr_of hw) (fun w r hw => Z5_ck (tx hw))))) (so hw)
  unfold hm_H_show hb_H_show_0 hb_H_show_19 hb_H_show_39 hb_H_show_93
  exact Z5_bnK (zm_Wl_find h) (fun w r hw => Z5_br (so hw) (Z5_br (Z5_br (Z5_bo (fun j => Z5_br (Z5_br (Z5_bo (fun j => tx hw)) (so hw)) (so hw))) (Z5_br (so hw) (Z5_br (so hw) (Z5_bo (fun j => Z5_br (so hw) (Z5_br (e145 hw) (Z5_br (Z5_bnK (zm_Fr_namesIn hw) (fun w r hw => e145 hw)) (Z5_bnK (zm_Fr_waitsIn hw) (fun w r hw => e145 hw))))))))) (so hw)))
end
