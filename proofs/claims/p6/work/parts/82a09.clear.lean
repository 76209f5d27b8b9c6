theorem I_F' {w : MS} {k : Nat} {x : Int} (e : F w k = x) : w.1 k = I x := by rw [I_F, e]
theorem I_A' {w : MS} {k i : Nat} {x : Int} (e : A w k i = x) : w.2.2.1 k i = I x := by rw [I_A, e]
section
variable {h : Nat → Int64} {n p N U C sc : Nat} {ow kd ow2 kd2 ks : Nat → Nat} {Fv : Int64 → Int64 → Prop} {P : Int64 → Prop} {t : Int64}
theorem car_loop {k b : Nat} (hp1 : p < 25) (hk5 : k < 500) (hkb : k + b ≤ 500) (hU : U + b ≤ 500) (hC : C < 500) : ∀ (m j : Nat) (w : MS), j ≤ b → b - j < m → hp w p = h → F w 136 = U → F w 138 = C → (∀ i, i < j → w.2.2.2 134 (U + i) = h (k + i)) → 0 ≤ A w 135 k →
    OK (fun w2 r => FR [136, 138] [] [] [134, 137] w w2 ∧ F w2 136 = U + b ∧ F w2 138 = C + 1 ∧ w2.2.2.2 137 C = rp t U ∧ (∀ i, i < C → w2.2.2.2 137 i = w.2.2.2 137 i) ∧ (∀ i, i < b → w2.2.2.2 134 (U + i) = h (k + i)) ∧ (∀ i, i < U → w2.2.2.2 134 i = w.2.2.2 134 i) ∧ r = rp t (A w 135 k)) (gg_M_carried N m w (I p) t (I k) (I b) (I j)) := by
  intro m
  induction m with
  | zero => intro j w _ z; exact absurd z (Nat.not_lt_zero _)
  | succ m ih =>
    intro j w hj hm hw f1 f2 f3 f4
    show OK _ (fb_M_carried_48 N (gg_M_carried N m) w (I p) t (I k) (I b) (I j))
    unfold fb_M_carried_48
    rw [decI (by omega) (by omega) (by omega) (by omega)]
    by_cases e : b ≤ j
    · rw [decide_eq_true (by omega), br_tq, I_F' f2, inb_at (k := 137) (n := 500) rfl (by omega) (by omega) (by decide), ck_t, lt_e, I_tn (by omega) (by omega), Int.toNat_natCast, I_F' f1, wj_e, lt_e]
      rw [show (wj w 137 C ((t &&& -4294967296) ||| (I (U : Int)).toInt64)).1 138 = I C from I_F' f2, lit1q, I_add, wi_e, lt_e]
      rw [show (wi (wj w 137 C ((t &&& -4294967296) ||| (I (U : Int)).toInt64)) 138 ((C : Int) + 1)).1 136 = I U from I_F' (by rw [F_wi (by omega) (by omega), if_neg (by decide)]; exact f1), I_add, wi_e]
      unfold fb_M_carried_124
      rw [inb_at (k := 135) (n := 500) rfl (by omega) (by omega) (by decide), ck_t, I_tn (by omega) (by omega), Int.toNat_natCast]
      refine ok_some.mpr ⟨?_, ?_, ?_, ?_, ?_, ?_, ?_, ?_⟩
      · exact FR.wi (FR.wi (FR.wj FR.rf (by decide)) (by decide)) (by decide)
      · rw [F_wi (by omega) (by omega), if_pos rfl]
      · rw [F_wi (by omega) (by omega), if_neg (by decide), F_wi (by omega) (by omega), if_pos rfl]
      · rw [J_wi, J_wi, J_wj, if_pos rfl, if_pos rfl]; rfl
      · intro i hi
        rw [J_wi, J_wi, J_wj, if_pos rfl, if_neg (by omega)]
      · intro i hi
        rw [J_wi, J_wi, J_wj, if_neg (by decide)]
        exact f3 i (by omega)
      · intro i hi
        rw [J_wi, J_wi, J_wj, if_neg (by decide)]
      · rw [I_A]; rfl
    · rw [decide_eq_false (by omega), br_fq, I_add, show (k : Int) + (j : Int) = ((k + j : Nat) : Int) from by omega, cell_e hp1 (by omega), bnd_so, hw, I_F' f1, I_add, inb_at (k := 134) (n := 500) rfl (by omega) (by omega) (by decide), ck_t, lt_e, I_tn (by omega) (by omega), show ((U : Int) + (j : Int)).toNat = U + j from by omega, wj_e, lit1q, I_add]
      have := ih (j + 1) (wj w 134 (U + j) (h (k + j))) (by omega) (by omega) hw f1 f2 (fun i hi => by
        rw [J_wj, if_pos rfl]
        by_cases e2 : i = j
        · subst e2; rw [if_pos rfl]
        · rw [if_neg (by omega)]; exact f3 i (by omega)) f4
      refine ok_mono this (fun w2 r ⟨q1, q2, q3, q4, q5, q6, q7, q8⟩ => ⟨FR.tr (FR.wj FR.rf (by decide)) q1, q2, q3, q4, fun i hi => ?_, q6, fun i hi => ?_, q8⟩)
      · rw [q5 i hi, J_wj, if_neg (by decide)]
      · rw [q7 i hi, J_wj, if_pos rfl, if_neg (by omega)]
theorem carried_ok {w : MS} (g : HP h n ow kd Fv P) (hn : n ≤ 500) (hp1 : p < 25) (hw : hp w p = h) (ht : GT n ow kd P t) (c : GC h n ow kd w U C sc ow2 kd2 ks) (hN : 600 ≤ N) :
    OK (fun w2 r => FR [136, 138] [] [135] [134, 137] w w2 ∧ (∀ k, k < 500 → A w 135 k ≠ -1 → A w2 135 k = A w 135 k) ∧ (¬ isH t → r = t) ∧ (isH t → A w2 135 (vn t) ≠ -1 ∧ r = fw w2 t) ∧ (∀ i, i < U → w2.2.2.2 134 i = w.2.2.2 134 i) ∧ ∃ U2 C2 ow3 kd3 ks2, U ≤ U2 ∧ C ≤ C2 ∧ U2 ≤ 500 ∧ (∀ i, i < C → ks2 i = ks i) ∧ GC h n ow kd w2 U2 C2 sc ow3 kd3 ks2) (fm_M_carried N w (I p) t) := by
  have hU : U ≤ 500 := by have := c.2.2.2.1; have := cnt_le (S := fun k => k < 500 ∧ A w 135 k ≠ -1) (ow := ow) n; omega
  unfold fm_M_carried fb_M_carried_0
  by_cases hh : isH t
  · rw [inHeap_e.1 hh, bnd_so, lit0q, decE (by omega) (by omega) (by omega) (by omega), decide_eq_false (by omega), br_fq, valueOf_e, bnd_so]
    obtain ⟨bk, -⟩ := HP_bk g hh ht
    have gt2 : 0 ≤ va t ∧ vn t < n ∧ ow (vn t) = vn t ∧ (kd (vn t) : Int) = so t := by
      rcases ht with ⟨z, -⟩ | ⟨-, z⟩
      · exact absurd hh z
      · exact z
    obtain ⟨g1, g2, g3, g4⟩ := gt2
    have ev : va t = (vn t : Int) := by unfold vn; omega
    obtain ⟨be, pe⟩ := bs_eq (h := h) g4 (by omega)
    have b4 := bk.2.2.2.1
    rw [ev, inb_at (k := 135) (n := 500) rfl (by omega) (by omega) (by decide), ck_t, I_tn (by omega) (by omega), Int.toNat_natCast, I_A, litm1q, decE (A_r _ _ _).1 (A_r _ _ _).2 (by omega) (by omega)]
    by_cases e : A w 135 (vn t) = -1
    · rw [decide_eq_true e, br_tq, sizeOf_e (n := n) (ow := ow) (kd := kd) (Fv := Fv) hp1 hn hh (by rw [hw]; exact bk), bnd_so, ck_t, lt_e, hw]
      have cU := c.1.1
      have cC := c.1.2.1
      rw [I_F' cU, wa_e]
      obtain ⟨c1, c2⟩ := c.1
      have hkd : kd (vn t) = 3 ∨ kd (vn t) = 5 ∨ kd (vn t) = 7 := by rcases hh with z | z | z <;> omega
      have bp := blk_pos (h := h) hh
      have room : U + blk h t ≤ n := by
        have := (GC_add (w2 := wi (wi (wa w 135 (vn t) U) 136 (U + bs h kd (vn t))) 138 (C + 1)) g hn c g2 g3 hkd e)
        have b6 : ∀ j, j < bs h kd (vn t) → ow (vn t + j) = vn t := by rw [be]; exact bk.2.2.2.2.2
        have := cnt_add (S := fun i => i < 500 ∧ A w 135 i ≠ -1) (S2 := fun i => (i < 500 ∧ A w 135 i ≠ -1) ∨ i = vn t) (ow := ow) (k := vn t) (b := bs h kd (vn t)) b6 (fun z => z.2 e) (fun i => Iff.rfl) n (by rw [be]; exact b4)
        have c4 := c.2.2.2.1
        have := cnt_le (S := fun i => (i < 500 ∧ A w 135 i ≠ -1) ∨ i = vn t) (ow := ow) n
        rw [be] at *
        omega
      have := car_loop (t := t) (h := h) (p := p) (N := N) (U := U) (C := C) (k := vn t) (b := blk h t) hp1 (by omega) (by omega) (by omega) (by have := c.1.2.2.1; omega) N 0 (wa w 135 (vn t) U) (by omega) (by omega) hw cU cC (fun i hi => by omega) (by rw [A_wa (by omega) (by omega), if_pos rfl, if_pos rfl]; omega)
      refine ok_mono this (fun w2 r ⟨q1, q2, q3, q4, q5, q6, q7, q8⟩ => ?_)
      have qA : ∀ i, A w2 135 i = if i = vn t then (U : Int) else A w 135 i := fun i => by
        rw [FR.A q1 (by decide), A_wa (by omega) (by omega), if_pos rfl]
      have qk : A w2 135 (vn t) = U := by rw [qA, if_pos rfl]
      have er : r = fw w2 t := by
        rw [q8, A_wa (by omega) (by omega), if_pos rfl, if_pos rfl]
        unfold fw
        rw [qk]
      obtain ⟨hl, gc⟩ := GC_add (w2 := w2) g hn c g2 g3 hkd e (by rw [be]; exact q2) q3 qk (fun i _ hi => by rw [qA, if_neg hi]) (by rw [q4]; exact ⟨by rw [so_rp (by omega) (by omega), g4], by rw [va_rp (by omega) (by omega)]⟩) (fun i hi => q5 i hi) (by rw [be]; exact q6) (fun i hi => q7 i hi)
      refine ⟨FR.tr (FR.wa FR.rf (by decide)) (FR.mo q1 (fun _ z => z) (fun _ z => z) (fun _ z => by cases z) (fun _ z => z)), fun i hi hne => ?_, fun z => absurd hh z, fun _ => ⟨by rw [qk]; omega, er⟩, fun i hi => q7 i hi, _, _, _, _, _, ?_, ?_, ?_, ?_, gc⟩
      · rw [qA, if_neg (fun z => hne (by rw [z]; exact e))]
      · omega
      · omega
      · omega
      · intro i hi
        show (if i = C then vn t else ks i) = ks i
        rw [if_neg (by omega)]
    · rw [decide_eq_false e, br_fq]
      unfold fb_M_carried_124
      rw [inb_at (k := 135) (n := 500) rfl (by omega) (by omega) (by decide), ck_t, I_tn (by omega) (by omega), Int.toNat_natCast]
      exact ok_some.mpr ⟨FR.rf, fun _ _ _ => rfl, fun z => absurd hh z, fun _ => ⟨e, by rw [I_A]; rfl⟩, fun _ _ => rfl, U, C, ow2, kd2, ks, Nat.le_refl _, Nat.le_refl _, hU, fun _ _ => rfl, c⟩
  · rw [inHeap_e.2 hh, bnd_so, lit0q, decE (by omega) (by omega) (by omega) (by omega), decide_eq_true rfl, br_tq]
    exact ok_some.mpr ⟨FR.rf, fun _ _ _ => rfl, fun _ => rfl, fun z => absurd z hh, fun _ _ => rfl, U, C, ow2, kd2, ks, Nat.le_refl _, Nat.le_refl _, hU, fun _ _ => rfl, c⟩
end
