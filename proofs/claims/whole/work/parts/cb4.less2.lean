/-! what is taken away of a list: all marks; what is kept is counted -/
set_option maxRecDepth 100000
section
variable {α β : Type} {b : Int → Nat → Nat → Prop} {Fv Fv' : Int64 → Int64 → Prop} {P P' : Int64 → Prop} {ow kd ow' kd' fa : Nat → Nat} {N p U W l l1 l0 na : Nat} {m0 w0 : MS} {h h' : Nat → Int64} {Q : MS → α → MS → β → Prop} {K1 : MS → Int32 → Option (MS × α)} {K2 : MS → Unit → Option (MS × β)}
/-- each of the second list is looked for -/
theorem mg_out (hpp : p < 24) (h133 : F w0 133 = ((p : Nat) : Int)) (h26 : F m0 (pq p 26) = ((W + 2 : Nat) : Int)) (hl : F m0 (pq p 45) = ((l : Nat) : Int)) (hl2 : W + 2 ≤ l ∧ l ≤ 1000000) (h92 : A w0 92 p = ((W + 2 : Nat) : Int)) (hW : W + 2 ≤ 46000) (hh : m0.2.2.2 (pq p 2) = h) (hh' : hp w0 p = h') (g : HPc h U ow kd Fv P) (hU : U ≤ 500) (g' : HP h' U ow' kd' Fv' P') (is : ISb b h U h' U) (q1 : TPb b U ow kd P U ow' kd' P' (m0.2.2.2 (pq p 35) W) (w0.2.2.2 91 (46000 * p + W))) (q0 : TPb b U ow kd P U ow' kd' P' (m0.2.2.2 (pq p 35) (W + 1)) (w0.2.2.2 91 (46000 * p + (W + 1)))) (T1 : ∀ j, j < l1 → so (tlc h (m0.2.2.2 (pq p 35) W) j) = 7) (T0 : ∀ j, j < l0 → so (tlc h (m0.2.2.2 (pq p 35) (W + 1)) j) = 7) (E0 : so (tlc h (m0.2.2.2 (pq p 35) (W + 1)) l0) = 6) (b1 : l1 ≤ 500) (b0 : l0 ≤ 500) (cx : CTX Fv P m0) (hF' : FVH Fv') (hA : ATf m0 w0 fa na) (hN : 200000 ≤ N)
    (fin : ∀ M2 m w fl q, q ≤ l1 → MGi m0 w0 m w l1 fl → PP Q (K1 m (I ((q : Nat) : Int))) (bnd ((gg_M_lessened N M2).2.2.2 w (I (((q : Nat) : Int) - 1)) 0 0) K2)) : ∀ (d M M2 : Nat) (m w : MS) (fl : Nat → Bool) (q o : Nat), o + d = l0 → q ≤ l1 → MGi m0 w0 m w l1 fl → PP Q (bnd ((hg_Ma_markGone N M).2.1 m p (I ((l1 : Nat) : Int)) (I ((q : Nat) : Int)) (tlc h (m0.2.2.2 (pq p 35) (W + 1)) o) (I ((o : Nat) : Int))) K1) (bnd ((gg_M_lessened N M2).2.1 w (I ((l1 : Nat) : Int)) (I ((l0 : Nat) : Int)) (I (((q : Nat) : Int) - 1)) 0 (tlc h' (w0.2.2.2 91 (46000 * p + (W + 1))) o) (I ((o : Nat) : Int))) K2) := by
  have tl0 := tl_TP is g g' q0 T0
  intro d
  induction d with
  | zero =>
    intro M M2 m w fl q o hi hq hg
    have : o = l0 := by omega
    subst this
    cases M with
    | zero => exact pp_nl
    | succ M =>
    cases M2 with
    | zero => exact pp_nr
    | succ M2 =>
    show PP Q (bnd (hb_Ma_markGone_37 N (hg_Ma_markGone N M) m p (I ((l1 : Nat) : Int)) (I ((q : Nat) : Int)) (tlc h (m0.2.2.2 (pq p 35) (W + 1)) o) (I ((o : Nat) : Int))) K1) (bnd (fb_M_lessened_72 N (gg_M_lessened N M2) w (I ((l1 : Nat) : Int)) (I ((o : Nat) : Int)) (I (((q : Nat) : Int) - 1)) 0 (tlc h' (w0.2.2.2 91 (46000 * p + (W + 1))) o) (I ((o : Nat) : Int))) K2)
    unfold hb_Ma_markGone_37 hb_Ma_markGone_188 fb_M_lessened_72
    rw [show (1000000000 : Int32) = I ((1000000000 : Nat) : Int) from rfl, decI (by omega) (by omega) (by omega) (by omega), decide_eq_false (by omega), br_f, e_tag, bnd_so, E0, show decide (I 6 = 7) = false from rfl, br_f, bnd_so, decI (by omega) (by omega) (by omega) (by omega), decide_eq_true (by omega), br_t]
    exact fin M2 m w fl q hq hg
  | succ d ih =>
    intro M M2 m w fl q o hi hq hg
    cases M with
    | zero => exact pp_nl
    | succ M =>
    cases M2 with
    | zero => exact pp_nr
    | succ M2 =>
    show PP Q (bnd (hb_Ma_markGone_37 N (hg_Ma_markGone N M) m p (I ((l1 : Nat) : Int)) (I ((q : Nat) : Int)) (tlc h (m0.2.2.2 (pq p 35) (W + 1)) o) (I ((o : Nat) : Int))) K1) (bnd (fb_M_lessened_72 N (gg_M_lessened N M2) w (I ((l1 : Nat) : Int)) (I ((l0 : Nat) : Int)) (I (((q : Nat) : Int) - 1)) 0 (tlc h' (w0.2.2.2 91 (46000 * p + (W + 1))) o) (I ((o : Nat) : Int))) K2)
    unfold hb_Ma_markGone_37 fb_M_lessened_72
    have p0 := TP_pair is g g' (tl0 o (by omega)) (T0 o (by omega))
    have nq : ∀ d K, K = 44 ∨ K = 45 ∨ K = 46 → pq p d ≠ K := fun d K hK c => pq_n (by omega) c.symm
    have jq : ∀ d, m.2.2.2 (pq p d) = m0.2.2.2 (pq p d) := fun d => hg.1.2.2.2 _ (by simp; exact ⟨nq d 44 (by omega), nq d 45 (by omega), nq d 46 (by omega)⟩)
    have x33 : F w 133 = ((p : Nat) : Int) := by rw [FR.F hg.2.1 (by simp)]; exact h133
    have x92 : A w 92 p = ((W + 2 : Nat) : Int) := by rw [FR.A hg.2.1 (by simp)]; exact h92
    have hpw : hp w p = h' := by
      rw [← hh']
      funext k
      show w.2.2.2 88 (500 * p + k) = _
      rw [hg.2.1.2.2.2 88 (by simp)]
      rfl
    have be1 : hm_Fr_below N m p 1 = some (m, m0.2.2.2 (pq p 35) W) := by
      have := below_e (N := N) (x := 1) (k := 1) (W := W + 2) (l := l) (show F m (pq p 26) = _ by rw [FR.F hg.1 (by simp)]; exact h26) (show F m (pq p 45) = _ by rw [FR.F hg.1 (by simp)]; exact hl) hl2.1 hl2.2 rfl (by omega)
      rw [show W + 2 - 1 - 1 = W by omega, jq] at this
      exact this
    have tp1 : PK (fun w2 r => w2 = w ∧ r = w0.2.2.2 91 (46000 * p + W)) (fm_M_top N w 1) := by
      have := top_r (N := N) (k := 1) (W := W + 2) hpp x33 x92 hW (by omega)
      rw [show W + 2 - 1 - 1 = W by omega, hg.2.1.2.2.2 91 (by simp)] at this
      exact this
    rw [show (1000000000 : Int32) = I ((1000000000 : Nat) : Int) from rfl, decI (by omega) (by omega) (by omega) (by omega), decide_eq_false (by omega), br_f, e_tag, bnd_so, T0 o (by omega), show decide (I 7 = 7) = true from rfl, br_t, be1, bnd_so, decI (by omega) (by omega) (by omega) (by omega), decide_eq_false (by omega), br_f, valueOf_e, rb_bnd_so, p0.1.2.2.2.1, I_F' x33, cell_e (by omega) (by omega), rb_bnd_so, valueOf_e, rb_bnd_so, p0.1.2.2.2.1, show I ((vn (tlc h' (w0.2.2.2 91 (46000 * p + (W + 1))) o) : Nat) : Int) + 1 = I ((vn (tlc h' (w0.2.2.2 91 (46000 * p + (W + 1))) o) + 1 : Nat) : Int) from addN, I_F' x33, cell_e (by omega) (by omega), rb_bnd_so, hpw]
    refine rb_bnd (pk_mo tp1 (fun w4 r e => ?_))
    obtain ⟨rfl, rfl⟩ := e
    exact mg_in (o := o) hpp h133 hh hh' g hU g' is q1 q0 T1 T0 b1 b0 (by omega) cx hF' hA hN (fun M M2 m w fl q hq hg => ih M M2 m w fl q (o + 1) (by omega) hq hg) l1 M M2 m w4 fl q 0 (by omega) hq hg
/-- no mark yet -/
theorem mg_0 (hpp : p < 24) (h133 : F w0 133 = ((p : Nat) : Int)) (h26 : F m0 (pq p 26) = ((W + 2 : Nat) : Int)) (hl : F m0 (pq p 45) = ((l : Nat) : Int)) (hl2 : W + 2 ≤ l ∧ l ≤ 1000000) (h92 : A w0 92 p = ((W + 2 : Nat) : Int)) (hW : W + 2 ≤ 46000) (b1 : l1 ≤ 500)
    (go : ∀ M M2 m w, MGi m0 w0 m w l1 (fun _ => false) → PP Q (bnd ((hg_Ma_markGone N M).2.1 m p (I ((l1 : Nat) : Int)) (I ((0 : Nat) : Int)) (m0.2.2.2 (pq p 35) (W + 1)) (I ((0 : Nat) : Int))) K1) (bnd ((gg_M_lessened N M2).2.1 w (I ((l1 : Nat) : Int)) (I ((l0 : Nat) : Int)) (I (((0 : Nat) : Int) - 1)) 0 (w0.2.2.2 91 (46000 * p + (W + 1))) (I ((0 : Nat) : Int))) K2)) : ∀ (d M M2 : Nat) (m w : MS) (i : Nat), i + d = l1 → MGi m0 w0 m w i (fun _ => false) → PP Q (bnd ((hg_Ma_markGone N M).1 m p (I ((l1 : Nat) : Int)) (I ((i : Nat) : Int))) K1) (bnd ((gg_M_lessened N M2).1 w (I ((l1 : Nat) : Int)) (I ((l0 : Nat) : Int)) (I ((i : Nat) : Int))) K2) := by
  intro d
  induction d with
  | zero =>
    intro M M2 m w i hi hg
    have : i = l1 := by omega
    subst this
    cases M with
    | zero => exact pp_nl
    | succ M =>
    cases M2 with
    | zero => exact pp_nr
    | succ M2 =>
    show PP Q (bnd (hb_Ma_markGone_2 N (hg_Ma_markGone N M) m p (I ((i : Nat) : Int)) (I ((i : Nat) : Int))) K1) (bnd (fb_M_lessened_39 N (gg_M_lessened N M2) w (I ((i : Nat) : Int)) (I ((l0 : Nat) : Int)) (I ((i : Nat) : Int))) K2)
    unfold hb_Ma_markGone_2 fb_M_lessened_39
    have nq : ∀ d K, K = 44 ∨ K = 45 ∨ K = 46 → pq p d ≠ K := fun d K hK c => pq_n (by omega) c.symm
    have jq : ∀ d, m.2.2.2 (pq p d) = m0.2.2.2 (pq p d) := fun d => hg.1.2.2.2 _ (by simp; exact ⟨nq d 44 (by omega), nq d 45 (by omega), nq d 46 (by omega)⟩)
    have x33 : F w 133 = ((p : Nat) : Int) := by rw [FR.F hg.2.1 (by simp)]; exact h133
    have x92 : A w 92 p = ((W + 2 : Nat) : Int) := by rw [FR.A hg.2.1 (by simp)]; exact h92
    have be0 : hm_Fr_below N m p 0 = some (m, m0.2.2.2 (pq p 35) (W + 1)) := by
      have := below_e (N := N) (x := 0) (k := 0) (W := W + 2) (l := l) (show F m (pq p 26) = _ by rw [FR.F hg.1 (by simp)]; exact h26) (show F m (pq p 45) = _ by rw [FR.F hg.1 (by simp)]; exact hl) hl2.1 hl2.2 rfl (by omega)
      rw [show W + 2 - 1 - 0 = W + 1 by omega, jq] at this
      exact this
    have tp0 : PK (fun w2 r => w2 = w ∧ r = w0.2.2.2 91 (46000 * p + (W + 1))) (fm_M_top N w 0) := by
      have := top_r (N := N) (k := 0) (W := W + 2) hpp x33 x92 hW (by omega)
      rw [show W + 2 - 1 - 0 = W + 1 by omega, hg.2.1.2.2.2 91 (by simp)] at this
      exact this
    rw [decI (by omega) (by omega) (by omega) (by omega), decide_eq_true (by omega), br_t, be0, bnd_so, br_t]
    refine rb_bnd (pk_mo tp0 (fun w4 r e => ?_))
    obtain ⟨rfl, rfl⟩ := e
    exact go M M2 m w4 hg
  | succ d ih =>
    intro M M2 m w i hi hg
    cases M with
    | zero => exact pp_nl
    | succ M =>
    cases M2 with
    | zero => exact pp_nr
    | succ M2 =>
    show PP Q (bnd (hb_Ma_markGone_2 N (hg_Ma_markGone N M) m p (I ((l1 : Nat) : Int)) (I ((i : Nat) : Int))) K1) (bnd (fb_M_lessened_39 N (gg_M_lessened N M2) w (I ((l1 : Nat) : Int)) (I ((l0 : Nat) : Int)) (I ((i : Nat) : Int))) K2)
    unfold hb_Ma_markGone_2 fb_M_lessened_39
    rw [decI (by omega) (by omega) (by omega) (by omega), decide_eq_false (by omega), br_f, br_f]
    refine lb_ck (fun _ => rb_ck (fun _ => ?_))
    rw [tnI (n := i) rfl (by omega), wj_e, lt_e, show vp_nar .boolean 0 = I 0 from rfl, wa_e, lt_e, show I ((i : Nat) : Int) + 1 = I ((i + 1 : Nat) : Int) from addN]
    refine ih M M2 _ _ (i + 1) (by omega) ⟨FR.wj hg.1 (by simp), FR.wa hg.2.1 (by simp), fun k hk => ⟨?_, ?_⟩⟩
    · rw [wj_row]
      by_cases c : k = i
      · rw [if_pos c]; rfl
      · rw [if_neg c]
        exact (hg.2.2 k (by omega)).1
    · rw [wa_ro (by omega) (by omega)]
      by_cases c : k = i
      · rw [if_pos c]; rfl
      · rw [if_neg c]
        exact (hg.2.2 k (by omega)).2
end
/-- behind the counting, there -/
def wiE (N M : Nat) (u : MS) (p : Nat) (v2 v3 : Int32) : Option (MS × Unit) := bnd (hm_Ma_room N u p (2 * v3)) (fun u32 r32 => br (decide (r32 = 0)) (some (u32, ())) (bnd (hm_Fr_below N u32 p 1) (fun u37 r37 => (hg_Ma_without N M).2 u37 p (v2) ((u32.1 (pq p 4))) (0) (r37) (0))))
section
variable {α β : Type} {N p q : Nat} {m w : MS} {fl : Nat → Bool} {Q : MS → α → MS → β → Prop} {D : Option (MS × α)} {E : Option (MS × β)} {K1 : MS → Unit → Option (MS × α)} {K2 : MS → Unit → Option (MS × β)}
theorem cnt_l (hq : q ≤ 1000) (hf : ∀ i, i < q → m.2.2.2 44 i = (if fl i = true then 1 else 0)) (go : ∀ M, PP Q (bnd (wiE N M m p (I ((q : Nat) : Int)) (I ((cnk fl q : Nat) : Int))) K1) E) : ∀ d M i : Nat, i + d = q → PP Q (bnd ((hg_Ma_without N M).1 m p (I ((q : Nat) : Int)) (I ((cnk fl i : Nat) : Int)) (I ((i : Nat) : Int))) K1) E := by
  intro d
  induction d with
  | zero =>
    intro M i hi
    have : i = q := by omega
    subst this
    cases M with
    | zero => exact pp_nl
    | succ M =>
    show PP Q (bnd (hb_Ma_without_79 N (hg_Ma_without N M) m p (I ((i : Nat) : Int)) (I ((cnk fl i : Nat) : Int)) (I ((i : Nat) : Int))) K1) E
    unfold hb_Ma_without_79
    rw [decI (by omega) (by omega) (by omega) (by omega), decide_eq_true (by omega), br_t]
    exact go M
  | succ d ih =>
    intro M i hi
    cases M with
    | zero => exact pp_nl
    | succ M =>
    show PP Q (bnd (hb_Ma_without_79 N (hg_Ma_without N M) m p (I ((q : Nat) : Int)) (I ((cnk fl i : Nat) : Int)) (I ((i : Nat) : Int))) K1) E
    unfold hb_Ma_without_79 hb_Ma_without_106
    rw [decI (by omega) (by omega) (by omega) (by omega), decide_eq_false (by omega), br_f]
    refine lb_ck (fun _ => ?_)
    rw [tnI (n := i) rfl (by omega), hf i (by omega), show I ((i : Nat) : Int) + 1 = I ((i + 1 : Nat) : Int) from addN]
    cases hfi : fl i with
    | true =>
      rw [show (if true = true then (1 : Int64) else 0) = 1 from rfl, dec_lg0 (by decide), br_f, show I ((cnk fl i : Nat) : Int) + 0 = I ((cnk fl i : Nat) : Int) from addN (b := 0), ← cnk_f hfi]
      exact ih M (i + 1) (by omega)
    | false =>
      rw [show (if false = true then (1 : Int64) else 0) = 0 from rfl, dec_lg rfl, br_t, show I ((cnk fl i : Nat) : Int) + 1 = I ((cnk fl i + 1 : Nat) : Int) from addN, ← cnk_s hfi]
      exact ih M (i + 1) (by omega)
theorem cnt_r (hq : q ≤ 1000) (hf : ∀ i, i < q → A w 168 i = (if fl i = true then 1 else 0)) (go : PP Q D (bnd (bnd (fm_M_anew N (wi w 169 1) (I ((q : Nat) : Int)) (2 * I ((cnk fl q : Nat) : Int))) (fun u2 _ => some (u2, ()))) K2)) : ∀ d M i : Nat, i + d = q → PP Q D (bnd ((gg_M_lessened N M).2.2.2 w (I (((q : Nat) : Int) - 1)) (I ((cnk fl i : Nat) : Int)) (I ((i : Nat) : Int))) K2) := by
  intro d
  induction d with
  | zero =>
    intro M i hi
    have : i = q := by omega
    subst this
    cases M with
    | zero => exact pp_nr
    | succ M =>
    show PP Q D (bnd (fb_M_lessened_222 N (gg_M_lessened N M) w (I (((i : Nat) : Int) - 1)) (I ((cnk fl i : Nat) : Int)) (I ((i : Nat) : Int))) K2)
    unfold fb_M_lessened_222
    rw [show decide (I (((i : Nat) : Int) - 1) < I ((i : Nat) : Int)) = true from decide_eq_true (by rw [I_lt (by omega) (by omega) (by omega) (by omega)]; omega), br_t, show upI w 169 1 = wi w 169 1 from rfl, lt_e, show I (((i : Nat) : Int) - 1) + 1 = I ((i : Nat) : Int) from by rw [lit1, I_add]; congr 1; omega]
    exact go
  | succ d ih =>
    intro M i hi
    cases M with
    | zero => exact pp_nr
    | succ M =>
    show PP Q D (bnd (fb_M_lessened_222 N (gg_M_lessened N M) w (I (((q : Nat) : Int) - 1)) (I ((cnk fl i : Nat) : Int)) (I ((i : Nat) : Int))) K2)
    unfold fb_M_lessened_222 fb_M_lessened_247
    rw [show decide (I (((q : Nat) : Int) - 1) < I ((i : Nat) : Int)) = false from decide_eq_false (by rw [I_lt (by omega) (by omega) (by omega) (by omega)]; omega), br_f]
    refine rb_ck (fun _ => ?_)
    rw [tnI (n := i) rfl (by omega), I_A' (hf i (by omega)), show I ((i : Nat) : Int) + 1 = I ((i + 1 : Nat) : Int) from addN]
    cases hfi : fl i with
    | true =>
      rw [show (if true = true then (1 : Int) else 0) = 1 from rfl, show decide (I 1 = 0) = false from rfl, br_f, ← cnk_f hfi]
      exact ih M (i + 1) (by omega)
    | false =>
      rw [show (if false = true then (1 : Int) else 0) = 0 from rfl, show decide (I 0 = 0) = true from rfl, br_t, show I ((cnk fl i : Nat) : Int) + 1 = I ((cnk fl i + 1 : Nat) : Int) from addN, ← cnk_s hfi]
      exact ih M (i + 1) (by omega)
end
