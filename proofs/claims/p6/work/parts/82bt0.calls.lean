set_option maxRecDepth 100000
def Z9 (u w : MS) : Prop := (∀ k, k < 860 → k ≠ 9 → w.1 k = u.1 k) ∧ ∀ k, k < 44 → w.2.2.1 k = u.2.2.1 k
def Z9E {α : Type} (u : MS) (o : Option (MS × α)) : Prop := ∀ w r, o = some (w, r) → Z9 u w
section
variable {α β : Type} {u0 u w m w2 m2 : MS} {k N : Nat} {r s v1 v2 : Int32} {c : Nat → Nat} {x : CS}
theorem Z9_k (h : KPS u0 w) : Z9 u0 w := ⟨fun k h1 _ => h.1 k h1, h.2.1⟩
theorem Z9_ke {o : Option (MS × α)} (h : KE u0 o) : Z9E u0 o := fun w r e => Z9_k (h w r e)
theorem Z9_none : Z9E u0 (none : Option (MS × α)) := fun _ _ e => by cases e
theorem Z9_some {r : α} (h : Z9 u0 w) : Z9E u0 (some (w, r)) := fun _ _ e => by injection e with e; injection e with e1 _; exact e1 ▸ h
theorem Z9_br {b : Bool} {p q : Option (MS × α)} (h1 : Z9E u0 p) (h2 : Z9E u0 q) : Z9E u0 (br b p q) := by cases b <;> assumption
theorem Z9_ck {b : Bool} {p : Option (MS × α)} (h1 : Z9E u0 p) : Z9E u0 (ck b p) := by
  cases b
  · exact Z9_none
  · exact h1
theorem Z9_bo {o : Option β} {f : β → Option (MS × α)} (h : ∀ j, Z9E u0 (f j)) : Z9E u0 (bo o f) := by
  cases o with
  | none => exact Z9_none
  | some j => exact h j
theorem Z9_bnK {o : Option (MS × β)} {f : MS → β → Option (MS × α)} (h1 : KE u0 o) (h2 : ∀ w r, KPS u0 w → Z9E u0 (f w r)) : Z9E u0 (bnd o f) := by
  cases o with
  | none => exact Z9_none
  | some x => exact h2 x.1 x.2 (h1 x.1 x.2 rfl)
theorem show_9 {v1 v2 v3 : Int32} (h : KPS u0 u) : Z9E u0 (hm_H_show N u v1 v2 v3) := by
  have k9 : ∀ {w : MS} {r : Int32}, KPS u0 w → Z9E u0 (lt (upI w 9 r) (fun w7 => some (w7, (w7.1 9)))) := fun hw => Z9_some ⟨fun k h1 h2 => (upI_ne h2).trans (hw.1 k h1), hw.2.1⟩
  have tx : ∀ {w : MS} {b : Nat} {t : Int64}, KPS u0 w → Z9E u0 (bnd (hm_Te_text N w b t 56 0) (fun u5 r5 => lt (upI u5 9 r5) (fun w7 => some (w7, (w7.1 9))))) := fun hw => Z9_bnK (zm_Te_text hw (Or.inr rfl)) (fun w r hw => k9 hw)
  have so : ∀ {w : MS} {r : Int32}, KPS u0 w → Z9E u0 (some (w, r)) := fun hw => Z9_some (Z9_k hw)
  have e145 : ∀ {w : MS} {v2 v3 v6 t0 : Int32} {v4 v5 : Nat}, KPS u0 w → Z9E u0 (hb_H_show_145 N () w v2 v3 v4 v5 v6 t0) := fun hw => by
    unfold hb_H_show_145 hb_H_show_209
    exact Z9_br (Z9_br (Z9_ck (tx hw)) (Z9_br (Z9_bnK (zm_Fr_of hw) (fun w r hw => Z9_ck (tx hw))) (Z9_bnK (zm_Fr_of hw) (fun w r hw => Z9_ck (tx hw))))) (so hw)
  unfold hm_H_show hb_H_show_0 hb_H_show_19 hb_H_show_39 hb_H_show_93
  exact Z9_bnK (zm_Wl_find h) (fun w r hw => Z9_br (so hw) (Z9_br (Z9_br (Z9_bo (fun j => Z9_br (Z9_br (Z9_bo (fun j => tx hw)) (so hw)) (so hw))) (Z9_br (so hw) (Z9_br (so hw) (Z9_bo (fun j => Z9_br (so hw) (Z9_br (e145 hw) (Z9_br (Z9_bnK (zm_Fr_namesIn hw) (fun w r hw => e145 hw)) (Z9_bnK (zm_Fr_waitsIn hw) (fun w r hw => e145 hw))))))))) (so hw)))
theorem RZ_9 (h : RZf m w) (k : Z9 m m2) (f5 : w2.1 5 = w.1 5) (g : Kgc w w2) : RZf m2 w2 := by
  obtain ⟨h1, h2, h3, h4, h5⟩ := h
  have e81 : F m2 81 = F m 81 := congrArg Int32.toInt (k.1 81 (by omega) (by omega))
  refine ⟨?_, fun j hj => ?_, TPf_k h3 (k.1 182 (by omega) (by omega)) (fun j hj => k.2 j (by revert hj; simp only [List.mem_cons, List.not_mem_nil, or_false]; omega)) (fun j hj => g.2 j (by revert hj; simp only [List.mem_cons, List.not_mem_nil, or_false]; omega)), CW36_k h4 (k.1 722 (by omega) (by omega)) (k.2 37 (by omega)) (k.2 38 (by omega)), ACZ_k h5 (k.1 10 (by omega) (by omega)) (g.1 86 (by omega)) ⟨k.1 22 (by omega) (by omega), k.1 442 (by omega) (by omega)⟩ (fun j hj => k.2 j (by omega)) ⟨g.1 14 (by omega), g.1 52 (by omega)⟩ (fun j hj => g.2 j (by omega))⟩
  · rw [e81, h1]
    exact congrArg Int32.toInt f5.symm
  · rw [k.2 5 (by omega), g.2 4 (by omega)]
    exact h2 j (by rw [← e81]; exact hj)
theorem keepz {cp : Option (MS × α)} {rp : Option (MS × β)} (z : RZf m w) (h1 : Z9E m cp) (h2 : K5E w rp) (h3 : KgE w rp) : ∀ m2 r w2 r2, cp = some (m2, r) → rp = some (w2, r2) → RZf m2 w2 ∧ True := fun m2 r w2 r2 a b => ⟨RZ_9 z (h1 m2 r a) (h2 w2 r2 b) (h3 w2 r2 b), trivial⟩
theorem back_z (z : RZf m w) (i2 : 0 ≤ F m 81 ∧ F m 81 ≤ 4000) (hF : F m2 81 = F w2 5) (ec : hm_H_back N m v1 = some (m2, r)) (ew : fm_M_back N w v1 = some (w2, s)) : RZf m2 w2 := by
  obtain ⟨h1, h2, h3, h4, h5⟩ := z
  have kc : (∀ k, k ≠ 81 → m2.1 k = m.1 k) ∧ m2.2.2.1 = m.2.2.1 ∧ F m2 81 ≤ F m 81 := by
    have pk : PK (fun m2 (_ : Int32) => (∀ k, k ≠ 81 → m2.1 k = m.1 k) ∧ m2.2.2.1 = m.2.2.1 ∧ F m2 81 ≤ F m 81) (hm_H_back N m v1) := by
      unfold hm_H_back hb_H_back_0 hb_H_back_15
      refine pk_br (fun _ => pk_some ⟨fun _ _ => rfl, rfl, Int.le_refl _⟩) (fun a1 => pk_br (fun a2 => pk_lt (pk_some ⟨fun k hk => upI_ne hk, rfl, ?_⟩)) (fun _ => pk_some ⟨fun _ _ => rfl, rfl, Int.le_refl _⟩))
      have a1 := of_decide_eq_false a1
      have a2 := of_decide_eq_true a2
      have rv := ti_rng v1
      rw [I_of v1, show (0 : Int32) = I 0 from rfl, I_lt rv.1 rv.2 (by omega) (by omega)] at a1
      rw [I_of v1, I_F (k := 81), I_le rv.1 rv.2 (by omega) (by omega)] at a2
      have e1 : m.1 81 - v1 = I (F m 81 - v1.toInt) := by rw [← I_sub, ← I_F, ← I_of]
      show ((upI m 81 (m.1 81 - v1)).1 81).toInt ≤ F m 81
      rw [upI_at, e1, I_ti (by omega) (by omega)]
      omega
    exact pk m2 r ec
  have kw : (∀ k, k ≠ 3 → k ≠ 5 → w2.1 k = w.1 k) ∧ w2.2.2.1 = w.2.2.1 := by
    have pk : PK (fun w2 (_ : Int32) => (∀ k, k ≠ 3 → k ≠ 5 → w2.1 k = w.1 k) ∧ w2.2.2.1 = w.2.2.1) (fm_M_back N w v1) := by
      unfold fm_M_back fb_M_back_0 fb_M_back_17
      exact pk_lt (pk_br (fun _ => pk_some ⟨fun k h1 h2 => upI_ne h1, rfl⟩) (fun _ => pk_br (fun _ => pk_lt (pk_some ⟨fun k h1 h2 => by rw [upI_ne h2, upI_ne h1], rfl⟩)) (fun _ => pk_some ⟨fun k h1 h2 => upI_ne h1, rfl⟩)))
    exact pk w2 s ew
  refine ⟨hF, fun j hj => ?_, TPf_k h3 (kc.1 182 (by decide)) (fun j _ => by rw [kc.2.1]) (fun j _ => by rw [kw.2]), CW36_k h4 (kc.1 722 (by decide)) (by rw [kc.2.1]) (by rw [kc.2.1]), ACZ_k h5 (kc.1 10 (by decide)) (kw.1 86 (by decide) (by decide)) ⟨kc.1 22 (by decide), kc.1 442 (by decide)⟩ (fun j _ => by rw [kc.2.1]) ⟨kw.1 14 (by decide) (by decide), kw.1 52 (by decide) (by decide)⟩ (fun j _ => by rw [kw.2])⟩
  rw [kc.2.1, kw.2]
  exact h2 j (by have := kc.2.2; omega)
theorem feed_z {a b e d g : Int32} (hN : 1000 ≤ N) (R : RP none c m x) (i2 : 0 ≤ F m 81 ∧ F m 81 ≤ 4000) (z : RZf m w) (hF : F m2 81 = F w2 5) (ec : hm_H_feed N m a b e d g = some (m2, r)) (ew : fm_M_feed N w a b e d g = some (w2, s)) : RZf m2 w2 := by
  obtain ⟨h1, h2, h3, h4, h5⟩ := z
  have kc := yh9_hm_H_feed (u0 := m) (N := N) Kh_rf m2 r ec
  have kw := yi9_fm_M_feed (u0 := w) (N := N) Ki_rf w2 s ew
  obtain ⟨k, hk⟩ : ∃ k : Nat, F m 81 = ((k : Nat) : Int) := ⟨(F m 81).toNat, by omega⟩
  have tape : TAPE m2 w2 := by
    by_cases q : k + 20 ≤ 4000
    · have e81 : FI x 4 1 = Int32.ofNat k := by
        rw [R.1.2.1 4 1 (by decide) (by decide), I_F' (k := 81) hk]; exact oI.symm
      have e5 : w.1 5 = Int32.ofNat k := by rw [I_F' (k := 5) (h1.symm.trans hk)]; exact oI.symm
      have tt : TT x w k := ⟨e81, e5, fun j hj => by rw [R.1.2.2.2.1 5 (by decide)]; exact h2 j (by omega)⟩
      obtain ⟨N1, rfl⟩ : ∃ N1, N = N1 + 5 := ⟨N - 5, by omega⟩
      obtain ⟨c2, x2, a2, f1, R2, -, -⟩ := ym_H_feed (N := N1 + 5) R m2 r ec
      rw [(fdH_ok (N := N1) (a := a) (b := b) (c := e) (d := d) (e := g) R.1.1 e81 q).1] at f1
      injection f1 with f1
      injection f1 with f1 _
      have tf := TT_feed (a := a) (b := b) (c := e) (d := d) (e := g) R.1.1 tt q
      have f2 : w2 = fdM w a b e d g := by
        obtain ⟨N2, hN2⟩ : ∃ N2, N1 + 5 = N2 + 21 := ⟨N1 + 5 - 21, by omega⟩
        rw [hN2, (fdM_ok (N := N2) (a := a) (b := b) (c := e) (d := d) (e := g) e5 q).1] at ew
        injection ew with ew
        injection ew with ew _
        exact ew.symm
      rw [f1, ← f2] at tf
      intro j hj
      have e2 : m2.1 81 = I ((k + 20 : Nat) : Int) := by
        have := R2.1.2.1 4 1 (by decide) (by decide)
        rw [tf.1] at this
        exact this.symm.trans oI
      have : F m2 81 = ((k + 20 : Nat) : Int) := by unfold F; rw [e2]; exact I_ti (by omega) (by omega)
      rw [← R2.1.2.2.2.1 5 (by decide)]
      exact tf.2.2 j (by omega)
    · have m1 : m2 = m := by
        have pk : PK (fun m2 (_ : Int32) => m2 = m) (hm_H_feed N m a b e d g) := by
          unfold hm_H_feed hb_H_feed_0
          rw [I_F' (k := 81) hk, show (20 : Int32) = I 20 from rfl, I_add, show (4000 : Int32) = I 4000 from rfl, decide_eq_decide.mpr (I_le (by omega) (by omega) (by omega) (by omega)), decide_eq_false (by omega), br_fq]
          exact pk_some rfl
        exact pk m2 r ec
      have w1 : w2 = upI w 3 0 := by
        have pk : PK (fun w2 (_ : Int32) => w2 = upI w 3 0) (fm_M_feed N w a b e d g) := by
          unfold fm_M_feed fb_M_feed_0
          refine pk_lt ?_
          rw [upI_ne (by decide), I_F' (k := 5) (h1.symm.trans hk), show (20 : Int32) = I 20 from rfl, I_add, show (4000 : Int32) = I 4000 from rfl, decide_eq_decide.mpr (I_le (by omega) (by omega) (by omega) (by omega)), decide_eq_false (by omega), br_fq]
          exact pk_some rfl
        exact pk w2 s ew
      rw [m1, w1]
      exact h2
  exact ⟨hF, tape, TPf_k h3 (kc.1 182 (by decide)) (fun j hj => kc.2 j (by rintro rfl; revert hj; decide)) (fun j hj => kw.2 j (by rintro rfl; revert hj; decide)), CW36_k h4 (kc.1 722 (by decide)) (kc.2 37 (by decide)) (kc.2 38 (by decide)), ACZ_k h5 (kc.1 10 (by decide)) (kw.1 86 (by decide) (by decide)) ⟨kc.1 22 (by decide), kc.1 442 (by decide)⟩ (fun j hj => kc.2 j (by omega)) ⟨kw.1 14 (by decide) (by decide), kw.1 52 (by decide) (by decide)⟩ (fun j hj => kw.2 j (by omega))⟩
theorem isf_p : PK (fun v r => v = m ∧ (r = 0 ↔ m.1 10 = 0 ∨ v1 < 0 ∨ m.1 442 ≤ v1)) (hm_H_isFunction N m v1) := by
  unfold hm_H_isFunction hb_H_isFunction_0 hb_H_isFunction_26 hb_H_isFunction_27
  exact pk_br (fun a => pk_ck (fun _ => pk_some ⟨rfl, fun _ => Or.inl (of_decide_eq_true a), fun _ => rfl⟩)) (fun a => pk_br (fun b => pk_ck (fun _ => pk_some ⟨rfl, fun _ => Or.inr (Or.inl (of_decide_eq_true b)), fun _ => rfl⟩)) (fun b => pk_br (fun d => pk_ck (fun _ => pk_some ⟨rfl, fun _ => Or.inr (Or.inr (of_decide_eq_true d)), fun _ => rfl⟩)) (fun d => pk_ck (fun _ => pk_some ⟨rfl, fun q => absurd q (by decide), fun q => by
    rcases q with q | q | q
    · exact absurd q (of_decide_eq_false a)
    · exact absurd q (of_decide_eq_false b)
    · exact absurd q (of_decide_eq_false d)⟩))))
theorem ix_of {g : Nat} (hg : g ≤ 666) (h1 : ¬ v1 < 0) (h2 : ¬ I (g : Nat) ≤ v1) : ∃ f : Nat, f < g ∧ v1 = I (f : Nat) := by
  have rv := ti_rng v1
  rw [I_of v1, show (0 : Int32) = I 0 from rfl, I_lt rv.1 rv.2 (by omega) (by omega)] at h1
  rw [I_of v1, I_le (by omega) (by omega) rv.1 rv.2] at h2
  refine ⟨v1.toInt.toNat, by omega, ?_⟩
  rw [Int.toNat_of_nonneg (by omega)]
  exact I_of v1
theorem function_e (z : ACZ m w) : PP (fun _ r _ s => r = s) (hm_H_function N m v1 v2) (fm_M_function1 N w v1 v2) := by
  show PP _ (hb_H_function_0 N () m v1 v2) (fb_M_function1_0 N () w v1 v2)
  unfold hb_H_function_0 fb_M_function1_0 fb_M_function1_33 fb_M_function1_87
  refine r_lt (l_bnd (pk_mo isf_p (fun v rr hv => ?_)))
  obtain ⟨e0, hv⟩ := hv
  rw [e0]
  have e86 : (upI w 3 0).1 86 = w.1 86 := upI_ne (by decide)
  have e52 : (upI w 3 0).1 52 = w.1 52 := upI_ne (by decide)
  have er : (upI w 3 0).2.2.1 = w.2.2.1 := rfl
  rw [e86, e52, er]
  rcases z with ⟨z1, z2⟩ | ⟨z1, z2, ⟨g, hg, t1, t2, t3⟩, -⟩
  · rw [decide_eq_true (hv.mpr (Or.inl z1)), br_tq, decide_eq_true z2, br_tq]
    exact pp_end rfl
  · have n86 : w.1 86 ≠ 0 := by rw [z2]; decide
    have n10 : m.1 10 ≠ 0 := by rw [z1]; decide
    rw [decide_eq_false n86, br_fq, t2]
    by_cases q : v1 < 0
    · rw [decide_eq_true (hv.mpr (Or.inr (Or.inl q))), br_tq, decide_eq_true q, br_tq]
      exact pp_end rfl
    · rw [decide_eq_false q, br_fq]
      by_cases q2 : I (g : Nat) ≤ v1
      · rw [decide_eq_true (hv.mpr (Or.inr (Or.inr (by rw [t1]; exact q2)))), br_tq, decide_eq_true q2, br_tq]
        exact pp_end rfl
      · have r0 : rr ≠ 0 := fun e => by
          rcases hv.mp e with y | y | y
          · exact n10 y
          · exact q y
          · rw [t1] at y; exact q2 y
        rw [decide_eq_false r0, br_fq, decide_eq_false q2, br_fq]
        obtain ⟨f, hf, rfl⟩ := ix_of hg q q2
        rw [tnI (n := f) rfl (by omega)]
        obtain ⟨f1, f2, f3, -, p, p1, p2, p3⟩ := t3 f hf
        rw [f1, f2, f3, p2, p3, tnI (n := p) rfl (by omega)]
        have nv : ∀ t : Int32, v2 = t → ¬ t < 0 → t ≤ 3 → decide (v2 < 0) = false ∧ decide (v2 ≤ 3) = true := fun t e h1 h2 => by rw [e]; exact ⟨decide_eq_false h1, decide_eq_true h2⟩
        by_cases v0 : v2 = 0
        · obtain ⟨d1, d2⟩ := nv 0 v0 (by decide) (by decide)
          rw [d1, br_fq, d2, br_tq, decide_eq_true v0, br_tq, br_tq]
          exact l_ck (fun _ => r_ck (fun _ => pp_end rfl))
        · by_cases v1' : v2 = 1
          · obtain ⟨d1, d2⟩ := nv 1 v1' (by decide) (by decide)
            rw [d1, br_fq, d2, br_tq, decide_eq_false v0, br_fq, br_fq, decide_eq_true v1', br_tq, br_tq]
            exact l_ck (fun _ => r_ck (fun _ => pp_end rfl))
          · by_cases v2' : v2 = 2
            · obtain ⟨d1, d2⟩ := nv 2 v2' (by decide) (by decide)
              rw [d1, br_fq, d2, br_tq, decide_eq_false v0, br_fq, br_fq, decide_eq_false v1', br_fq, br_fq, decide_eq_true v2', br_tq, br_tq]
              exact l_ck (fun _ => r_ck (fun _ => pp_end rfl))
            · by_cases v3' : v2 = 3
              · obtain ⟨d1, d2⟩ := nv 3 v3' (by decide) (by decide)
                rw [d1, br_fq, d2, br_tq, decide_eq_false v0, br_fq, br_fq, decide_eq_false v1', br_fq, br_fq, decide_eq_false v2', br_fq, br_fq, decide_eq_true v3', br_tq]
                exact l_ck (fun _ => r_ck (fun _ => r_ck (fun _ => pp_end rfl)))
              · rw [decide_eq_false v0, br_fq, decide_eq_false v1', br_fq, decide_eq_false v2', br_fq, decide_eq_false v3', br_fq]
                by_cases n0 : v2 < 0
                · rw [decide_eq_true n0, br_tq]
                  exact pp_end rfl
                · have n3 : ¬ v2 ≤ 3 := fun y => by
                    have rv := ti_rng v2
                    rw [I_of v2, show (0 : Int32) = I 0 from rfl, I_lt rv.1 rv.2 (by omega) (by omega)] at n0
                    rw [I_of v2, show (3 : Int32) = I 3 from rfl, I_le rv.1 rv.2 (by omega) (by omega)] at y
                    have : v2.toInt = 0 ∨ v2.toInt = 1 ∨ v2.toInt = 2 ∨ v2.toInt = 3 := by omega
                    rcases this with e | e | e | e
                    · exact v0 (by rw [I_of v2, e]; rfl)
                    · exact v1' (by rw [I_of v2, e]; rfl)
                    · exact v2' (by rw [I_of v2, e]; rfl)
                    · exact v3' (by rw [I_of v2, e]; rfl)
                  rw [decide_eq_false n0, br_fq, decide_eq_false n3, br_fq]
                  exact pp_end rfl
theorem letter_e (z : ACZ m w) : PP (fun _ r _ s => r = s) (hm_H_letter N m v1 v2) (fm_M_letter N w v1 v2) := by
  show PP _ (hb_H_letter_0 N () m v1 v2) (fb_M_letter_0 N () w v1 v2)
  unfold hb_H_letter_0 fb_M_letter_0 fb_M_letter_47
  refine r_lt ?_
  have e86 : (upI w 3 0).1 86 = w.1 86 := upI_ne (by decide)
  have e14 : (upI w 3 0).1 14 = w.1 14 := upI_ne (by decide)
  have er : (upI w 3 0).2.2.1 = w.2.2.1 := rfl
  rw [e86, e14, er]
  rcases z with ⟨z1, z2⟩ | ⟨z1, z2, -, fa, na, ⟨h1, h2, h3, h4, h5⟩, ⟨g1, g2⟩, g3⟩
  · rw [decide_eq_true z1, br_tq, decide_eq_true z2, br_tq]
    exact pp_end rfl
  · have n86 : w.1 86 ≠ 0 := by rw [z2]; decide
    have n10 : m.1 10 ≠ 0 := by rw [z1]; decide
    rw [decide_eq_false n86, br_fq, decide_eq_false n10, br_fq, g1]
    show PP _ (bnd (hb_Wo_sign_0 N () m 1 v1 v2) _) _
    unfold hb_Wo_sign_0 hb_Wo_sign_35
    rw [show m.1 (20 * 1 + 2) = I (na : Nat) from h1]
    by_cases q : v1 < 0
    · rw [decide_eq_true q, br_tq, br_tq]
      exact pp_end rfl
    · rw [decide_eq_false q, br_fq, br_fq]
      by_cases q2 : I (na : Nat) ≤ v1
      · rw [decide_eq_true q2, br_tq, br_tq]
        exact pp_end rfl
      · rw [decide_eq_false q2, br_fq, br_fq]
        obtain ⟨a, ha, rfl⟩ : ∃ f : Nat, f < na ∧ v1 = I (f : Nat) := by
          have rv := ti_rng v1
          rw [I_of v1, show (0 : Int32) = I 0 from rfl, I_lt rv.1 rv.2 (by omega) (by omega)] at q
          rw [I_of v1, I_le (by omega) (by omega) rv.1 rv.2] at q2
          refine ⟨v1.toInt.toNat, by omega, ?_⟩
          rw [Int.toNat_of_nonneg (by omega)]
          exact I_of v1
        by_cases q3 : v2 < 0
        · rw [decide_eq_true q3, br_tq, br_tq]
          exact pp_end rfl
        · rw [decide_eq_false q3, br_fq, br_fq, i_suc, tnI (n := a + 1) rfl (by omega), tnI (n := a) rfl (by omega), show m.2.2.1 (1 + 2) (a + 1) = I (fa (a + 1) : Nat) from h2 (a + 1) (by omega), show m.2.2.1 (1 + 2) a = I (fa a : Nat) from h2 a (by omega), g2 (a + 1) (by omega), g2 a (by omega)]
          have f1 := h4 a (by omega)
          have f2 := h4 (a + 1) (by omega)
          have f3 := h3 a ha
          have mono : ∀ d j, j + d = na → fa j ≤ fa na := fun d => by
            induction d with
            | zero => intro j hj; rw [show j = na by omega]; exact Nat.le_refl _
            | succ d ih => intro j hj; exact Nat.le_trans (h3 j (by omega)) (ih (j + 1) (by omega))
          have fna := mono (na - (a + 1)) (a + 1) (by omega)
          by_cases q4 : v2 < I (fa (a + 1) : Nat) - I (fa a : Nat)
          · rw [decide_eq_true q4, br_tq, br_tq]
            have rv := ti_rng v2
            rw [I_of v2, show (0 : Int32) = I 0 from rfl, I_lt rv.1 rv.2 (by omega) (by omega)] at q3
            rw [I_of v2, I_sub, I_lt rv.1 rv.2 (by omega) (by omega)] at q4
            obtain ⟨t, ht⟩ : ∃ t : Nat, v2 = I (t : Nat) ∧ t < fa (a + 1) - fa a := ⟨v2.toInt.toNat, by rw [Int.toNat_of_nonneg (by omega)]; exact I_of v2, by omega⟩
            rw [ht.1, I_add, tnI (x := ((fa a : Nat) : Int) + ((t : Nat) : Int)) (n := fa a + t) (by omega) (by omega), show m.2.2.1 (1 + 1) (fa a + t) = w.2.2.1 12 (fa a + t) from g3 _ (by omega)]
            have cx : ∀ {b : Bool} {p : Option (MS × Int32)} {f : MS → Int32 → Option (MS × Int32)}, bnd (ck b p) f = ck b (bnd p f) := fun {b p f} => by cases b <;> rfl
            rw [cx, cx, cx, cx, bnd_s]
            exact l_ck (fun _ => l_ck (fun _ => l_ck (fun _ => l_ck (fun _ => r_ck (fun _ => r_ck (fun _ => r_ck (fun _ => r_ck (fun _ => pp_end rfl))))))))
          · rw [decide_eq_false q4, br_fq, br_fq]
            have cx : ∀ {b : Bool} {p : Option (MS × Int32)} {f : MS → Int32 → Option (MS × Int32)}, bnd (ck b p) f = ck b (bnd p f) := fun {b p f} => by cases b <;> rfl
            rw [cx, cx, bnd_s]
            exact l_ck (fun _ => l_ck (fun _ => r_ck (fun _ => r_ck (fun _ => pp_end rfl))))
theorem begin_e (z : ACZ m w) : PP (fun _ z w2 (_ : Unit) => w2.1 3 = cd_L_begin z) (hm_H_begin N m v1) (fm_M_begin N w v1) := by
  show PP _ (hb_H_begin_0 N () m v1) (fb_M_begin_0 N () w v1)
  unfold hb_H_begin_0 fb_M_begin_0 fb_M_begin_24
  have thr : ∀ t : Int32, t ≠ 0 → PK (fun w2 (_ : Unit) => w2.1 3 = t) (fb_M_begin_42 N () w v1 t) := fun t ht => by
    unfold fb_M_begin_42
    refine pk_lt ?_
    rw [upI_at, decide_eq_false ht, br_fq]
    exact pk_some upI_at
  have ok0 : PK (fun w2 (_ : Unit) => w2.1 3 = 0) (fb_M_begin_42 N () w v1 0) := by
    unfold fb_M_begin_42
    refine pk_lt ?_
    rw [upI_at, decide_eq_true rfl, br_tq]
    refine pk_lt (pk_lt (pk_lt (pk_lt (pk_lt (pk_lt (pk_lt (pk_lt (pk_lt ?_))))))))
    generalize hx : upI (upI (upI (upI (upI (upI (upI (upI (upI (upI w 3 0) 87 1) 118 0) 119 0) 120 0) 121 0) 125 0) 128 0) 149 0) 150 0 = x
    have x3 : x.1 3 = 0 := by
      rw [← hx, upI_ne (by decide), upI_ne (by decide), upI_ne (by decide), upI_ne (by decide), upI_ne (by decide), upI_ne (by decide), upI_ne (by decide), upI_ne (by decide), upI_ne (by decide), upI_at]
    refine pk_bnd (pk_mo (fun v r e => yk9_fm_M_newProcess (u0 := x) (N := N) Kk9_rf v r e) (fun v r (hv : v.1 3 = x.1 3) => ?_))
    exact pk_ck (fun _ => pk_lt (pk_ck (fun _ => pk_lt (pk_some (hv.trans x3)))))
  rcases z with ⟨z1, z2⟩ | ⟨z1, z2, ⟨g, hg, t1, t2, t3⟩, -⟩
  · rw [decide_eq_true z1, br_tq, decide_eq_true z2, br_tq]
    exact pp_l (pk_mo (thr 1 (by decide)) (fun v r hv => hv))
  · have n86 : w.1 86 ≠ 0 := by rw [z2]; decide
    have n10 : m.1 10 ≠ 0 := by rw [z1]; decide
    rw [decide_eq_false n86, br_fq, decide_eq_false n10, br_fq, t2]
    refine l_bnd (pk_mo isf_p (fun v rr hv => ?_))
    obtain ⟨e0, hv⟩ := hv
    rw [e0]
    by_cases q : v1 < 0
    · rw [decide_eq_true (hv.mpr (Or.inr (Or.inl q))), br_tq, decide_eq_true q, br_tq]
      exact pp_l (pk_mo (thr 2 (by decide)) (fun v r hv => hv))
    · rw [decide_eq_false q, br_fq]
      by_cases q2 : I (g : Nat) ≤ v1
      · have q3 : ¬ v1 < I (g : Nat) := fun y => by
          have rv := ti_rng v1
          rw [I_of v1, I_lt rv.1 rv.2 (by omega) (by omega)] at y
          rw [I_of v1, I_le (by omega) (by omega) rv.1 rv.2] at q2
          omega
        rw [decide_eq_true (hv.mpr (Or.inr (Or.inr (by rw [t1]; exact q2)))), br_tq, decide_eq_false q3, br_fq]
        exact pp_l (pk_mo (thr 2 (by decide)) (fun v r hv => hv))
      · have q3 : v1 < I (g : Nat) := by
          have rv := ti_rng v1
          rw [I_of v1, I_lt rv.1 rv.2 (by omega) (by omega)]
          rw [I_of v1, I_le (by omega) (by omega) rv.1 rv.2] at q2
          omega
        have r0 : rr ≠ 0 := fun e => by
          rcases hv.mp e with y | y | y
          · exact n10 y
          · exact q y
          · rw [t1] at y; exact q2 y
        rw [decide_eq_false r0, br_fq, decide_eq_true q3, br_tq]
        obtain ⟨f, hf, rfl⟩ := ix_of hg q q2
        rw [tnI (n := f) rfl (by omega)]
        obtain ⟨f1, f2, f3, ⟨ar, ar1, ar2⟩, -⟩ := t3 f hf
        rw [f2, ar2]
        refine l_ck (fun _ => r_ck (fun _ => ?_))
        by_cases y : I (ar : Nat) = (0 : Int32)
        · have y2 : I (ar : Nat) ≤ (0 : Int32) := by rw [y]; decide
          rw [decide_eq_true y, br_tq, decide_eq_true y2, br_tq]
          have ci : PK (fun (_ : MS) (z : Unit ⊕ Nat) => z = .inl ()) (bnd (hm_Wl_clearAll N m) (fun u9 r9 => lt (upI u9 943 1) (fun w13 => bnd (hm_Wl_born N w13) (fun u15 r15 => br (decide (r15 = none)) (hb_H_begin_102 N () u15) (bo r15 (fun j17 => ck (inb (I (f : Nat)) 666) (bnd (hm_Fr_open N u15 j17 (I (f : Nat)) (u15.2.2.1 29 f) 0) (fun u24 r24 => hb_H_begin_102 N () u24)))))))) := by
            unfold hb_H_begin_102
            exact pk_bnd (fun _ _ _ => pk_lt (pk_bnd (fun _ _ _ => pk_br (fun _ => pk_some rfl) (fun _ => pk_bo (fun _ _ => pk_ck (fun _ => pk_bnd (fun _ _ _ => pk_some rfl)))))))
          intro m3 z3 w3 r3 x1 x2
          rw [ci m3 z3 x1]
          exact ok0 w3 r3 x2
        · have y2 : ¬ I (ar : Nat) ≤ (0 : Int32) := fun q => y (by
            rw [show (0 : Int32) = I 0 from rfl, I_le (by omega) (by omega) (by omega) (by omega)] at q
            rw [show ar = 0 by omega]; rfl)
          rw [decide_eq_false y, br_fq, decide_eq_false y2, br_fq]
          exact pp_l (pk_mo (thr 3 (by decide)) (fun v r hv => hv))
end
