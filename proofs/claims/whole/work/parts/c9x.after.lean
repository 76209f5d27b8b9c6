/-! until when is waited, here -/
set_option maxRecDepth 100000
section
variable {α β : Type} {N p W n j z h k r : Nat} {w : MS} {x : Int64} {v : Int} {Q : MS → α → MS → β → Prop} {D : Option (MS × α)} {K : MS → Unit → Option (MS × β)}
theorem one_28 : fm_M_one N w (I v) (I 28) = bnd (fm_M_goTo N w (I v + 1)) (fun u7 _ => bnd (fm_M_otherRun N u7 (I v) (I 28)) (fun u8 _ => some (u8, ()))) := rfl
theorem oth_28 {y : Int32} : fm_M_otherRun N w y (I 28) = bnd (fm_M_afterRun N w y) (fun u13 _ => some (u13, ())) := rfl
theorem aft_89 {t2 : Int64} (hpp : p < 24) (hn : n < 100000) (h33 : F w 133 = ((p : Nat) : Int)) (h95 : A w 95 p = ((j + 1 : Nat) : Int)) (hj : j < 60) (h25 : A w 25 n = ((r : Nat) : Int)) (hh : PP Q D (K (wa (wj w 111 p t2) 98 (60 * p + j) ((r : Nat) : Int)) ())) : PP Q D (bnd (fb_M_afterRun_89 N () w (I ((n : Nat) : Int)) 111 (I ((p : Nat) : Int)) t2) K) := by
  unfold fb_M_afterRun_89
  refine rb_ck (fun _ => rb_ck (fun _ => ?_))
  rw [tnI (n := p) rfl (by omega), wj_e, lt_e]
  refine rb_ck (fun _ => ?_)
  have e25 : A (wj w 111 p t2) 25 n = ((r : Nat) : Int) := h25
  rw [tnI (n := n) rfl (by omega), I_A' e25]
  refine rb_bnd (pk_mo (goto_r (N := N) (w := wj w 111 p t2) (n := ((r : Nat) : Int)) hpp h33 h95 hj) (fun w5 _ e => ?_))
  subst e
  exact hh
/-- an hour, none, wrong -/
theorem after_k (hpp : p < 24) (hn : n < 100000) (h33 : F w 133 = ((p : Nat) : Int)) (h92 : A w 92 p = ((W + 1 : Nat) : Int)) (hW : W + 1 ≤ 46000) (h95 : A w 95 p = ((j + 1 : Nat) : Int)) (hj : j < 60) (h99 : A w 99 (60 * p + j) = ((z : Nat) : Int)) (h101 : A w 101 (60 * p + j) = ((h : Nat) : Int)) (h27 : A w 27 n = ((k : Nat) : Int)) (h25 : A w 25 n = ((r : Nat) : Int)) (hx : w.2.2.2 91 (46000 * p + W) = x)
    (c1 : so x = 0 → 0 ≤ va x → PP Q D (K (wa (wj (wa (wa w 92 p ((W : Nat) : Int)) 94 p ((z + h + k : Nat) : Int)) 111 p ((w.1 120).toInt64 + (I (va x)).toInt64)) 98 (60 * p + j) ((r : Nat) : Int)) ()))
    (c2 : x = mk 1 10 → PP Q D (K (wa (wj (wa (wa w 92 p ((W : Nat) : Int)) 94 p ((z + h + k : Nat) : Int)) 111 p (-1)) 98 (60 * p + j) ((r : Nat) : Int)) ()))
    (c3 : ¬ (so x = 0 ∧ 0 ≤ va x) → x ≠ mk 1 10 → PP Q D (bnd (bnd (fr_M_error N (wa w 92 p ((W : Nat) : Int)) 11) (fun u6 _ => some (u6, ()))) K)) : PP Q D (bnd (fm_M_afterRun N w (I ((n : Nat) : Int))) K) := by
  unfold fm_M_afterRun fb_M_afterRun_0
  refine rb_bnd (pk_mo (take_r (N := N) (W := W) hpp h33 h92 (by omega)) (fun w4 r4 e => ?_))
  obtain ⟨rfl, rfl⟩ := e
  rw [hx, sortOf_e, rb_bnd_so]
  have vr := va_r x
  have g33 : F (wa w 92 p ((W : Nat) : Int)) 133 = ((p : Nat) : Int) := h33
  have g95 : A (wa w 92 p ((W : Nat) : Int)) 95 p = ((j + 1 : Nat) : Int) := by rw [wa_rne (by omega)]; exact h95
  have g99 : A (wa w 92 p ((W : Nat) : Int)) 99 (60 * p + j) = ((z : Nat) : Int) := by rw [wa_rne (by omega)]; exact h99
  have g101 : A (wa w 92 p ((W : Nat) : Int)) 101 (60 * p + j) = ((h : Nat) : Int) := by rw [wa_rne (by omega)]; exact h101
  have g27 : A (wa w 92 p ((W : Nat) : Int)) 27 n = ((k : Nat) : Int) := by rw [wa_rne (by omega)]; exact h27
  have g25 : A (wa w 92 p ((W : Nat) : Int)) 25 n = ((r : Nat) : Int) := by rw [wa_rne (by omega)]; exact h25
  have g120 : (wa w 92 p ((W : Nat) : Int)).1 120 = w.1 120 := rfl
  generalize wa w 92 p ((W : Nat) : Int) = w3 at g33 g95 g99 g101 g27 g25 g120 c1 c2 c3
  have e49 : ∀ (y : Int32), (∀ u : MS, u = wa w3 94 p ((z + h + k : Nat) : Int) → PP Q D (bnd (br (decide (y = 0)) (fb_M_afterRun_89 N () u (I ((n : Nat) : Int)) (111) ((u.1 133)) ((-1))) (bnd (fm_M_valueOf N u x) (fun u4 r4 => fb_M_afterRun_89 N () u4 (I ((n : Nat) : Int)) (111) ((u.1 133)) (((u.1 120).toInt64 + r4.toInt64))))) K)) → PP Q D (bnd (fb_M_afterRun_49 N () w3 (I ((n : Nat) : Int)) x y) K) := fun y hy => by
    unfold fb_M_afterRun_49
    refine rb_ck (fun _ => ?_)
    rw [tnI (n := n) rfl (by omega), I_A' g27]
    refine rb_bnd (pk_mo (names_r (N := N) (k := k) hpp g33 g95 hj g99 g101) (fun u _ e => ?_))
    exact hy u e
  have k1 : so x = 0 → 0 ≤ va x → PP Q D (bnd (fb_M_afterRun_24 N () w3 (I ((n : Nat) : Int)) x 1) K) := fun s0 v0 => by
    unfold fb_M_afterRun_24
    rw [show decide ((1 : Int32) = 0) = false from rfl, br_f]
    refine e49 1 (fun u e => ?_)
    subst e
    have u33 : F (wa w3 94 p ((z + h + k : Nat) : Int)) 133 = ((p : Nat) : Int) := g33
    rw [show decide ((1 : Int32) = 0) = false from rfl, br_f, valueOf_e, bnd_so, I_F' u33]
    refine aft_89 (r := r) hpp hn u33 (by rw [wa_rne (by omega)]; exact g95) hj (by rw [wa_rne (by omega)]; exact g25) ?_
    rw [show (wa w3 94 p ((z + h + k : Nat) : Int)).1 120 = w.1 120 from g120]
    exact c1 s0 v0
  have k0 : ¬ (so x = 0 ∧ 0 ≤ va x) → PP Q D (bnd (fb_M_afterRun_23 N () w3 (I ((n : Nat) : Int)) x) K) := fun ns => by
    unfold fb_M_afterRun_23 fb_M_afterRun_24
    rw [show decide ((0 : Int32) = 0) = true from rfl, br_t, show fm_M_term N w3 1 10 = some (w3, mk 1 10) from rfl, rb_bnd_so]
    by_cases e : x = mk 1 10
    · rw [dec_lg e, br_t]
      refine e49 0 (fun u eu => ?_)
      subst eu
      have u33 : F (wa w3 94 p ((z + h + k : Nat) : Int)) 133 = ((p : Nat) : Int) := g33
      rw [show decide ((0 : Int32) = 0) = true from rfl, br_t, I_F' u33]
      exact aft_89 (r := r) hpp hn u33 (by rw [wa_rne (by omega)]; exact g95) hj (by rw [wa_rne (by omega)]; exact g25) (c2 e)
    · rw [dec_lg0 e, br_f]
      exact c3 ns e
  rw [show decide (I (so x) = 0) = decide (so x = 0) from by rw [lit0, decE (so_r _).1 (so_r _).2 (by omega) (by omega)]]
  by_cases s0 : so x = 0
  · rw [decide_eq_true s0, br_t, valueOf_e, rb_bnd_so, show decide (I (va x) < 0) = decide (va x < 0) from by rw [lit0]; exact decide_eq_decide.mpr (I_lt vr.1 vr.2 (by omega) (by omega))]
    by_cases v0 : va x < 0
    · rw [decide_eq_true v0, br_t]
      exact k0 (by omega)
    · rw [decide_eq_false v0, br_f]
      exact k1 s0 (by omega)
  · rw [decide_eq_false s0, br_f]
    exact k0 (by omega)
end
