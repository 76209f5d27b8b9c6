/-! what is taken away of a list: marks, both sides -/
set_option maxRecDepth 100000
/-- marks are alike -/
def MGi (m0 w0 m w : MS) (l1 : Nat) (fl : Nat → Bool) : Prop := FR [] [] [] [44, 45, 46] m0 m ∧ FR [] [] [168] [141] w0 w ∧ ∀ i, i < l1 → m.2.2.2 44 i = (if fl i = true then 1 else 0) ∧ A w 168 i = (if fl i = true then 1 else 0)
section
variable {N : Nat} {w : MS}
/-- how long it is changes nothing, here -/
theorem len_w : ∀ (M : Nat) (x : Int64) (v : Int32), PK (fun w2 (_ : Int32) => w2 = w) (gg_M_lengthOf N M w x v) := by
  intro M
  induction M with
  | zero => intro x v; exact pk_none
  | succ M ih =>
    intro x v
    show PK _ (fb_M_lengthOf_5 N (gg_M_lengthOf N M) w x v)
    unfold fb_M_lengthOf_5 fb_M_lengthOf_50
    rw [sortOf_e, bnd_so]
    refine pk_br (fun _ => ?_) (fun _ => ?_)
    · rw [valueOf_e, bnd_so]
      unfold fm_M_cell fb_M_cell_0
      refine pk_bnd (pk_ck (fun _ => pk_some ?_))
      exact ih _ _
    · rw [sortOf_e, bnd_so]
      exact pk_br (fun _ => pk_some rfl) (fun _ => pk_some rfl)
end
section
variable {α β : Type} {b : Int → Nat → Nat → Prop} {Fv Fv' : Int64 → Int64 → Prop} {P P' : Int64 → Prop} {ow kd ow' kd' fa : Nat → Nat} {N p U W l l1 l0 na o : Nat} {m0 w0 : MS} {h h' : Nat → Int64} {t1 t0 x1 x0 : Int64} {Q : MS → α → MS → β → Prop} {K1 : MS → Int32 → Option (MS × α)} {K2 : MS → Unit → Option (MS × β)}
theorem MGi_fr {m w m2 w2 : MS} {fl : Nat → Bool} (h : MGi m0 w0 m w l1 fl) (f1 : FR [] [] [] [45, 46] m m2) (f2 : FR [] [] [] [141] w w2) : MGi m0 w0 m2 w2 l1 fl := ⟨FR.tr h.1 (FR.mo f1 (by simp) (by simp) (by simp) (by simp)), FR.tr h.2.1 (FR.mo f2 (by simp) (by simp) (by simp) (by simp)), fun i hi => ⟨by rw [f1.2.2.2 44 (by simp)]; exact (h.2.2 i hi).1, by rw [FR.A f2 (by simp)]; exact (h.2.2 i hi).2⟩⟩
theorem MGi_set {m w : MS} {fl : Nat → Bool} {i : Nat} (hg : MGi m0 w0 m w l1 fl) : MGi m0 w0 (wj m 44 i 1) (wa w 168 i 1) l1 (fun k => if k = i then true else fl k) := by
  refine ⟨FR.wj hg.1 (by simp), FR.wa hg.2.1 (by simp), fun k hk => ⟨?_, ?_⟩⟩
  · rw [wj_row]
    by_cases c : k = i
    · rw [if_pos c]; simp [c]
    · rw [if_neg c]
      simp only [if_neg c]
      exact (hg.2.2 k hk).1
  · rw [wa_ro (by omega) (by omega)]
    by_cases c : k = i
    · rw [if_pos c]; simp [c]
    · rw [if_neg c]
      simp only [if_neg c]
      exact (hg.2.2 k hk).2
/-- one is looked for among all -/
theorem mg_in (hpp : p < 24) (h133 : F w0 133 = ((p : Nat) : Int)) (hh : m0.2.2.2 (pq p 2) = h) (hh' : hp w0 p = h') (g : HPc h U ow kd Fv P) (hU : U ≤ 500) (g' : HP h' U ow' kd' Fv' P') (is : ISb b h U h' U) (q1 : TPb b U ow kd P U ow' kd' P' t1 x1) (q0 : TPb b U ow kd P U ow' kd' P' t0 x0) (T1 : ∀ j, j < l1 → so (tlc h t1 j) = 7) (T0 : ∀ j, j < l0 → so (tlc h t0 j) = 7) (b1 : l1 ≤ 500) (b0 : l0 ≤ 500) (ho : o < l0) (cx : CTX Fv P m0) (hF' : FVH Fv') (hA : ATf m0 w0 fa na) (hN : 200000 ≤ N)
    (out : ∀ M M2 m w fl q, q ≤ l1 → MGi m0 w0 m w l1 fl → PP Q (bnd ((hg_Ma_markGone N M).2.1 m p (I ((l1 : Nat) : Int)) (I ((q : Nat) : Int)) (tlc h t0 (o + 1)) (I ((o + 1 : Nat) : Int))) K1) (bnd ((gg_M_lessened N M2).2.1 w (I ((l1 : Nat) : Int)) (I ((l0 : Nat) : Int)) (I (((q : Nat) : Int) - 1)) 0 (tlc h' x0 (o + 1)) (I ((o + 1 : Nat) : Int))) K2)) : ∀ (d M M2 : Nat) (m w : MS) (fl : Nat → Bool) (q i : Nat), i + d = l1 → q ≤ l1 → MGi m0 w0 m w l1 fl → PP Q (bnd ((hg_Ma_markGone N M).2.2 m p (I ((l1 : Nat) : Int)) (I ((q : Nat) : Int)) (tlc h t0 o) (I ((o : Nat) : Int)) (tlc h t1 i) (I ((i : Nat) : Int))) K1) (bnd ((gg_M_lessened N M2).2.2.1 w (I ((l1 : Nat) : Int)) (I ((l0 : Nat) : Int)) (I (((q : Nat) : Int) - 1)) 0 (tlc h' x0 (o + 1)) (I ((o : Nat) : Int)) (h' (vn (tlc h' x0 o))) (tlc h' x1 i) (I ((i : Nat) : Int)) 1) K2) := by
  have tl0 := tl_TP is g g' q0 T0
  have tl1 := tl_TP is g g' q1 T1
  have p0 := TP_pair is g g' (tl0 o (by omega)) (T0 o ho)
  -- on to the next one, there
  have nx : ∀ (M M2 : Nat) (m w : MS) (fl : Nat → Bool) (q : Nat), q ≤ l1 → MGi m0 w0 m w l1 fl → PP Q (bnd (hb_Ma_markGone_169 N (hg_Ma_markGone N M) m p (I ((l1 : Nat) : Int)) (I ((q : Nat) : Int)) (tlc h t0 o) (I ((o : Nat) : Int))) K1) (bnd (fb_M_lessened_213 N (gg_M_lessened N M2) w (I ((l1 : Nat) : Int)) (I ((l0 : Nat) : Int)) (I (((q : Nat) : Int) - 1)) 0 (tlc h' x0 (o + 1)) (I ((o : Nat) : Int))) K2) := fun M M2 m w fl q hq hg => by
    unfold hb_Ma_markGone_169 fb_M_lessened_213
    refine lb_ck (fun _ => ?_)
    have j2 : m.2.2.2 (pq p 2) = h := by rw [hg.1.2.2.2 _ (by simp; exact ⟨fun c => pq_n (by omega) c.symm, fun c => pq_n (by omega) c.symm, fun c => pq_n (by omega) c.symm⟩)]; exact hh
    rw [valI, p0.1.2.1, show I ((vn (tlc h t0 o) : Nat) : Int) + 1 = I ((vn (tlc h t0 o) + 1 : Nat) : Int) from addN, tnI (n := vn (tlc h t0 o) + 1) rfl (by omega), j2, show I ((o : Nat) : Int) + 1 = I ((o + 1 : Nat) : Int) from addN]
    exact out M M2 m w fl q hq hg
  intro d
  induction d with
  | zero =>
    intro M M2 m w fl q i hi hq hg
    have : i = l1 := by omega
    subst this
    cases M with
    | zero => exact pp_nl
    | succ M =>
    cases M2 with
    | zero => exact pp_nr
    | succ M2 =>
    show PP Q (bnd (hb_Ma_markGone_66 N (hg_Ma_markGone N M) m p (I ((i : Nat) : Int)) (I ((q : Nat) : Int)) (tlc h t0 o) (I ((o : Nat) : Int)) (tlc h t1 i) (I ((i : Nat) : Int))) K1) (bnd (fb_M_lessened_123 N (gg_M_lessened N M2) w (I ((i : Nat) : Int)) (I ((l0 : Nat) : Int)) (I (((q : Nat) : Int) - 1)) 0 (tlc h' x0 (o + 1)) (I ((o : Nat) : Int)) (h' (vn (tlc h' x0 o))) (tlc h' x1 i) (I ((i : Nat) : Int)) 1) K2)
    unfold hb_Ma_markGone_66 fb_M_lessened_123
    rw [decI (by omega) (by omega) (by omega) (by omega), decide_eq_true (by omega), br_t, br_t]
    exact nx M M2 m w fl q hq hg
  | succ d ih =>
    intro M M2 m w fl q i hi hq hg
    cases M with
    | zero => exact pp_nl
    | succ M =>
    cases M2 with
    | zero => exact pp_nr
    | succ M2 =>
    show PP Q (bnd (hb_Ma_markGone_66 N (hg_Ma_markGone N M) m p (I ((l1 : Nat) : Int)) (I ((q : Nat) : Int)) (tlc h t0 o) (I ((o : Nat) : Int)) (tlc h t1 i) (I ((i : Nat) : Int))) K1) (bnd (fb_M_lessened_123 N (gg_M_lessened N M2) w (I ((l1 : Nat) : Int)) (I ((l0 : Nat) : Int)) (I (((q : Nat) : Int) - 1)) 0 (tlc h' x0 (o + 1)) (I ((o : Nat) : Int)) (h' (vn (tlc h' x0 o))) (tlc h' x1 i) (I ((i : Nat) : Int)) 1) K2)
    have p1 := TP_pair is g g' (tl1 i (by omega)) (T1 i (by omega))
    have nq : ∀ K, K = 44 ∨ K = 45 ∨ K = 46 → pq p 2 ≠ K := fun K hK c => pq_n (by omega) c.symm
    have j2 : ∀ m' : MS, FR [] [] [] [44, 45, 46] m0 m' → m'.2.2.2 (pq p 2) = h := fun m' f => by rw [f.2.2.2 _ (by simp; exact ⟨nq 44 (by omega), nq 45 (by omega), nq 46 (by omega)⟩)]; exact hh
    have hpw : ∀ w' : MS, FR [] [] [168] [141] w0 w' → hp w' p = h' := fun w' f => by
      rw [← hh']
      funext k
      show w'.2.2.2 88 (500 * p + k) = _
      rw [f.2.2.2 88 (by simp)]
      rfl
    have x33 : ∀ w' : MS, FR [] [] [168] [141] w0 w' → F w' 133 = ((p : Nat) : Int) := fun w' f => by rw [FR.F f (by simp)]; exact h133
    obtain ⟨k44, k168⟩ := hg.2.2 i (by omega)
    -- the next of the first list
    have nxt : ∀ (m' w' : MS) (fl' : Nat → Bool), MGi m0 w0 m' w' l1 fl' → PP Q (bnd (hb_Ma_markGone_148 N (hg_Ma_markGone N M) m' p (I ((l1 : Nat) : Int)) (I ((q : Nat) : Int)) (tlc h t0 o) (I ((o : Nat) : Int)) (tlc h t1 i) (I ((i : Nat) : Int))) K1) (bnd (fb_M_lessened_190 N (gg_M_lessened N M2) w' (I ((l1 : Nat) : Int)) (I ((l0 : Nat) : Int)) (I (((q : Nat) : Int) - 1)) 0 (tlc h' x0 (o + 1)) (I ((o : Nat) : Int)) (h' (vn (tlc h' x0 o))) (tlc h' x1 i) (I ((i : Nat) : Int)) 1) K2) := fun m' w' fl' hg' => by
      unfold hb_Ma_markGone_148 fb_M_lessened_190
      refine lb_ck (fun _ => ?_)
      rw [valI, p1.1.2.1, show I ((vn (tlc h t1 i) : Nat) : Int) + 1 = I ((vn (tlc h t1 i) + 1 : Nat) : Int) from addN, tnI (n := vn (tlc h t1 i) + 1) rfl (by omega), j2 m' hg'.1, valueOf_e, bnd_so, p1.1.2.2.2.1, I_F' (x33 w' hg'.2.1), show I ((vn (tlc h' x1 i) : Nat) : Int) + 1 = I ((vn (tlc h' x1 i) + 1 : Nat) : Int) from addN, cell_e (by omega) (by omega), bnd_so, hpw w' hg'.2.1, show I ((i : Nat) : Int) + 1 = I ((i + 1 : Nat) : Int) from addN]
      exact ih M M2 m' w' fl' q (i + 1) (by omega) hq hg'
    unfold hb_Ma_markGone_66 fb_M_lessened_123
    rw [decI (by omega) (by omega) (by omega) (by omega), decide_eq_false (by omega), br_f, br_f, show decide ((1 : Int32) = 0) = false from rfl, br_f, tnI (n := i) rfl (by omega), I_A' k168, k44]
    refine lb_ck (fun _ => rb_ck (fun _ => ?_))
    cases hf : fl i with
    | true =>
      rw [show (if true = true then (1 : Int64) else 0) = 1 from rfl, show (if true = true then (1 : Int) else 0) = 1 from rfl, dec_lg0 (by decide), br_f, show decide (I 1 = 0) = false from rfl, br_f]
      exact nxt m w fl hg
    | false =>
      rw [show (if false = true then (1 : Int64) else 0) = 0 from rfl, show (if false = true then (1 : Int) else 0) = 0 from rfl, dec_lg rfl, br_t, show decide (I 0 = 0) = true from rfl, br_t]
      refine lb_ck (fun _ => lb_ck (fun _ => ?_))
      rw [valI, valI, p1.1.2.1, p0.1.2.1, tnI (n := vn (tlc h t1 i)) rfl (by omega), tnI (n := vn (tlc h t0 o)) rfl (by omega), j2 m hg.1, valueOf_e, rb_bnd_so, p1.1.2.2.2.1, I_F' (x33 w hg.2.1), cell_e (by omega) (by omega), rb_bnd_so, hpw w hg.2.1]
      have cxm : CTX Fv P m := CTX_fr cx (hg.1.1 22 (by simp)) (hg.1.2.2.1 3 (by simp))
      have hAm : ATf m w fa na := ATf_k hA (hg.1.1 22 (by simp)) (hg.1.2.2.1 2 (by simp)) (hg.1.2.2.1 3 (by simp)) (hg.2.1.1 14 (by simp)) (hg.2.1.2.2.1 12 (by simp)) (hg.2.1.2.2.1 13 (by simp))
      refine l_bb (r_bb (pp_bb (pp_mo (order_pp (N := N) (v := pq p 2) (m := m) (w := w) (p := p) (n0 := U) (n0' := U) ⟨nq 45 (by omega), nq 46 (by omega)⟩ (j2 m hg.1) (hpw w hg.2.1) g hU cxm.1 cxm.2.1 cxm.2.2.1 g' hU (by omega) (x33 w hg.2.1) hF' is hAm hN p1.2.1 p0.2.1) (fun m3 r w3 s hq9 => ?_))))
      obtain ⟨⟨fa3, fb3⟩, sg⟩ := hq9
      have hg3 := MGi_fr hg fa3 fb3
      by_cases r0 : r = 0
      · have s0 := sg.2.mp r0
        subst r0
        subst s0
        rw [show decide ((0 : Int32) = 0) = true from rfl, br_t, br_t]
        refine lb_ck (fun _ => rb_ck (fun _ => ?_))
        rw [show vp_nar .boolean 1 = I 1 from rfl, wj_e, lt_e, wa_e, lt_e, lt_e, show I ((i : Nat) : Int) + 1 = I ((i + 1 : Nat) : Int) from addN]
        have hg4 := MGi_set (i := i) hg3
        -- behind it, here
        have fin : ∀ q' : Nat, q' ≤ l1 → PP Q (bnd (hb_Ma_markGone_169 N (hg_Ma_markGone N M) (wj m3 44 i 1) p (I ((l1 : Nat) : Int)) (I ((q' : Nat) : Int)) (tlc h t0 o) (I ((o : Nat) : Int))) K1) (bnd (fb_M_lessened_186 N (gg_M_lessened N M2) (wa w3 168 i 1) (I ((l1 : Nat) : Int)) (I ((l0 : Nat) : Int)) 0 (tlc h' x0 (o + 1)) (I ((o : Nat) : Int)) (h' (vn (tlc h' x0 o))) (tlc h' x1 i) (I ((i : Nat) : Int)) (I (((q' : Nat) : Int) - 1))) K2) := fun q' hq' => by
          unfold fb_M_lessened_186 fb_M_lessened_190
          rw [valueOf_e, bnd_so, p1.1.2.2.2.1, I_F' (x33 _ hg4.2.1), show I ((vn (tlc h' x1 i) : Nat) : Int) + 1 = I ((vn (tlc h' x1 i) + 1 : Nat) : Int) from addN, cell_e (by omega) (by omega), bnd_so, show I ((i : Nat) : Int) + 1 = I ((i + 1 : Nat) : Int) from addN]
          cases M2 with
          | zero => exact pp_nr
          | succ M2 =>
          show PP Q _ (bnd (fb_M_lessened_123 N (gg_M_lessened N M2) (wa w3 168 i 1) (I ((l1 : Nat) : Int)) (I ((l0 : Nat) : Int)) (I (((q' : Nat) : Int) - 1)) 0 (tlc h' x0 (o + 1)) (I ((o : Nat) : Int)) (h' (vn (tlc h' x0 o))) _ (I ((i + 1 : Nat) : Int)) 0) K2)
          unfold fb_M_lessened_123
          rw [show decide ((0 : Int32) = 0) = true from rfl, br_t]
          refine rb_br (fun _ => ?_) (fun _ => ?_)
          · exact nx M M2 _ _ _ q' hq' hg4
          · exact nx M M2 _ _ _ q' hq' hg4
        by_cases c : q < i + 1
        · rw [if_pos (by rw [I_lt (by omega) (by omega) (by omega) (by omega)]; omega), decI (by omega) (by omega) (by omega) (by omega), decide_eq_false (by omega), br_f, show I ((i : Nat) : Int) = I (((i + 1 : Nat) : Int) - 1) from by congr 1; omega]
          have := fin (i + 1) (by omega)
          rw [show I ((i : Nat) : Int) = I (((i + 1 : Nat) : Int) - 1) from by congr 1; omega] at this
          exact this
        · rw [if_neg (by rw [I_lt (by omega) (by omega) (by omega) (by omega)]; omega), decI (by omega) (by omega) (by omega) (by omega), decide_eq_true (by omega), br_t]
          exact fin q hq
      · have s0 : ¬ s = 0 := fun c => r0 (sg.2.mpr c)
        rw [decide_eq_false r0, br_f, decide_eq_false s0, br_f]
        exact nxt m3 w3 fl hg3
end
