set_option maxRecDepth 100000
section
variable {m m0 w w0 : MS} {fa : Nat → Nat} {na a i N b len L k : Nat} {y : Int32}
def MR36 (w : MS) (fa : Nat → Nat) (a : Nat) (y : Int32) (k : Nat) : Prop := I (npre k : Nat) = y ∧ fa (a + 1) - fa a = plen k ∧ ∀ j, j < plen k → w36 (f36 (sg36 k) + j) = w.2.2.1 12 (fa a + j)
def PRq (w : MS) (fa : Nat → Nat) (a : Nat) (y : Int32) (v : MS) (r : Int32) : Prop := v = w ∧ ((r = -1 ∧ ∀ k, k < 30 → ¬ MR36 w fa a y k) ∨ ∃ k : Nat, k < 30 ∧ r = I (k : Nat) ∧ MR36 w fa a y k)
theorem pr_in (h2 : w.2.2.1 2 = mS0.2.2.1 2) (h13 : w.2.2.1 13 a = I (fa a : Nat) ∧ fa a ≤ 4300) (ha : a < 2101) (hk : k < 30) {M : Nat} (hO : ¬ MR36 w fa a y k → ∀ M', PK (PRq w fa a y) ((gg_M_predefinedOf N M').1 w (I (a : Nat)) y (I (pst (k + 1) : Nat)) (I ((k + 1 : Nat) : Int)))) : ∀ (M t : Nat) (s : Bool), t ≤ plen k → (s = true → I (npre k : Nat) = y ∧ fa (a + 1) - fa a = plen k ∧ ∀ j, j < t → w36 (f36 (sg36 k) + j) = w.2.2.1 12 (fa a + j)) → (s = false → ¬ MR36 w fa a y k) → PK (PRq w fa a y) ((gg_M_predefinedOf N M).2 w (I (a : Nat)) y (I (pst k : Nat)) (I (k : Nat)) (I (plen k : Nat)) (b2c s) (I (t : Nat)))
  | 0, _, _, _, _, _ => pk_none
  | M + 1, t, s, ht, h1, h0 => by
    have pf := pst_f k hk
    have rf := r36 k hk
    show PK _ (fb_M_predefinedOf_64 N (gg_M_predefinedOf N M) w (I (a : Nat)) y (I (pst k : Nat)) (I (k : Nat)) (I (plen k : Nat)) (b2c s) (I (t : Nat)))
    have no : ¬ MR36 w fa a y k → PK (PRq w fa a y) ((gg_M_predefinedOf N M).1 w (I (a : Nat)) y (I (pst k : Nat) + (I (plen k : Nat) + 2)) (I (k : Nat) + 1)) := fun hz => by
      rw [show (2 : Int32) = I 2 from rfl, I_add, I_add, i_suc, show ((pst k : Nat) : Int) + (((plen k : Nat) : Int) + 2) = ((pst (k + 1) : Nat) : Int) by omega]
      exact hO hz M
    have fin : (s = true → MR36 w fa a y k) → PK (PRq w fa a y) (fb_M_predefinedOf_117 N (gg_M_predefinedOf N M) w (I (a : Nat)) y (I (pst k : Nat)) (I (k : Nat)) (I (plen k : Nat)) (b2c s)) := fun hz => by
      unfold fb_M_predefinedOf_117
      cases s with
      | false =>
        rw [show decide (b2c false = 0) = true from rfl, br_tq]
        exact no (h0 rfl)
      | true =>
        rw [show decide (b2c true = 0) = false from rfl, br_fq]
        exact pk_some ⟨rfl, Or.inr ⟨k, hk, rfl, hz rfl⟩⟩
    unfold fb_M_predefinedOf_64
    rw [decide_eq_decide.mpr (I_le (x := (plen k : Nat)) (y := (t : Nat)) (by omega) (by omega) (by omega) (by omega))]
    by_cases z : plen k ≤ t
    · rw [decide_eq_true (by omega), br_tq]
      refine fin (fun e => ?_)
      obtain ⟨g1, g2, g3⟩ := h1 e
      exact ⟨g1, g2, fun j hj => g3 j (by omega)⟩
    · rw [decide_eq_false (by omega), br_fq]
      cases s with
      | false =>
        rw [show decide (b2c false = 0) = true from rfl, br_tq]
        exact fin (fun e => absurd e (by decide))
      | true =>
        rw [show decide (b2c true = 0) = false from rfl, br_fq]
        obtain ⟨g1, g2, g3⟩ := h1 rfl
        have lt := rf.2.2 t (by omega)
        rw [tnI (x := (a : Nat)) (n := a) rfl (by omega), h13.1, show (2 : Int32) = I 2 from rfl, I_add, I_add, I_add, tnI (x := ((pst k : Nat) : Int) + 2 + ((t : Nat) : Int)) (n := pst k + 2 + t) (by omega) (by omega), tnI (x := ((fa a : Nat) : Int) + ((t : Nat) : Int)) (n := fa a + t) (by omega) (by omega), h2, lt]
        unfold fb_M_predefinedOf_109
        rw [i_suc]
        refine pk_ck (fun _ => pk_ck (fun _ => pk_ck (fun _ => pk_br (fun z1 => ?_) (fun z1 => ?_))))
        · exact pr_in h2 h13 ha hk (M := M) hO M (t + 1) true (by omega) (fun _ => ⟨g1, g2, fun j hj => by
            by_cases e : j = t
            · rw [e]; exact of_decide_eq_true z1
            · exact g3 j (by omega)⟩) (fun e => absurd e (by decide))
        · exact pr_in h2 h13 ha hk (M := M) hO M (t + 1) false (by omega) (fun e => absurd e (by decide)) (fun _ q => of_decide_eq_false z1 (q.2.2 t (by omega)))
theorem pr_out (h2 : w.2.2.1 2 = mS0.2.2.1 2) (h13 : w.2.2.1 13 a = I (fa a : Nat) ∧ fa a ≤ 4300) (h14 : w.2.2.1 13 (a + 1) = I (fa (a + 1) : Nat) ∧ fa (a + 1) ≤ 4300 ∧ fa a ≤ fa (a + 1)) (ha : a < 2101) : ∀ (d k : Nat), k + d = 30 → (∀ i, i < k → ¬ MR36 w fa a y i) → ∀ M, PK (PRq w fa a y) ((gg_M_predefinedOf N M).1 w (I (a : Nat)) y (I (pst k : Nat)) (I (k : Nat)))
  | 0, k, hk, hn, M => by
    cases M with
    | zero => exact pk_none
    | succ M =>
    have : k = 30 := by omega
    subst this
    show PK _ (fb_M_predefinedOf_5 N (gg_M_predefinedOf N M) w (I (a : Nat)) y (I (pst 30 : Nat)) (I ((30 : Nat) : Int)))
    unfold fb_M_predefinedOf_5
    rw [show decide (Int32.ofNat (ln 2) ≤ I (pst 30 : Nat)) = true from by decide +kernel, br_tq]
    exact pk_some ⟨rfl, Or.inl ⟨rfl, hn⟩⟩
  | d + 1, k, hk, hn, M => by
    cases M with
    | zero => exact pk_none
    | succ M =>
    have pf := pst_f k (by omega)
    have hh := h36 k (by omega)
    show PK _ (fb_M_predefinedOf_5 N (gg_M_predefinedOf N M) w (I (a : Nat)) y (I (pst k : Nat)) (I (k : Nat)))
    unfold fb_M_predefinedOf_5
    have l2 : Int32.ofNat (ln 2) = I 218 := rfl
    rw [l2, decide_eq_decide.mpr (I_le (x := (218 : Int)) (y := (pst k : Nat)) (by omega) (by omega) (by omega) (by omega)), decide_eq_false (by omega), br_fq, i_suc, tnI (n := pst k + 1) rfl (by omega), tnI (n := pst k) rfl (by omega), h2, hh.1, hh.2, i_suc, tnI (x := ((a + 1 : Nat) : Int)) (n := a + 1) rfl (by omega), tnI (x := (a : Nat)) (n := a) rfl (by omega), h13.1, h14.1, I_sub]
    have nx : ¬ MR36 w fa a y k → ∀ M', PK (PRq w fa a y) ((gg_M_predefinedOf N M').1 w (I (a : Nat)) y (I (pst (k + 1) : Nat)) (I ((k + 1 : Nat) : Int))) := fun hz M' => pr_out h2 h13 h14 ha d (k + 1) (by omega) (fun i hi => by
      by_cases e : i = k
      · rw [e]; exact hz
      · exact hn i (by omega)) M'
    have go : ∀ s : Bool, (s = true → I (npre k : Nat) = y ∧ fa (a + 1) - fa a = plen k) → (s = false → ¬ MR36 w fa a y k) → PK (PRq w fa a y) ((gg_M_predefinedOf N M).2 w (I (a : Nat)) y (I (pst k : Nat)) (I (k : Nat)) (I (plen k : Nat)) (b2c s) 0) := fun s g1 g2 => pr_in (M := M) h2 h13 ha (by omega) nx M 0 s (Nat.zero_le _) (fun e => ⟨(g1 e).1, (g1 e).2, fun j hj => absurd hj (by omega)⟩) g2
    unfold fb_M_predefinedOf_58 fb_M_predefinedOf_59
    refine pk_ck (fun _ => pk_lt (pk_ck (fun _ => pk_br (fun z1 => pk_ck (fun _ => pk_ck (fun _ => pk_br (fun z2 => ?_) (fun z2 => ?_)))) (fun z1 => ?_))))
    · have := (I_eq (x := ((fa (a + 1) : Nat) : Int) - ((fa a : Nat) : Int)) (y := (plen k : Nat)) (by omega) (by omega) (by omega) (by omega)).mp (of_decide_eq_true z2)
      exact go true (fun _ => ⟨of_decide_eq_true z1, by omega⟩) (fun e => absurd e (by decide))
    · refine go false (fun e => absurd e (by decide)) (fun _ q => of_decide_eq_false z2 ?_)
      rw [I_eq (by omega) (by omega) (by omega) (by omega)]
      have := q.2.1
      omega
    · exact go false (fun e => absurd e (by decide)) (fun _ q => of_decide_eq_false z1 q.1)
theorem pre_rf (h2 : w.2.2.1 2 = mS0.2.2.1 2) (h : ATf m w0 fa na) (h12 : w.2.2.1 12 = w0.2.2.1 12) (h13 : w.2.2.1 13 = w0.2.2.1 13) (ha : a < na) : PK (fun v r => v = w ∧ (r = -1 ↔ cl36 (ix36 m fa a) y = 0) ∧ (18 ≤ r ↔ cl36 (ix36 m fa a) y = 2)) (fm_M_predefinedOf N w (I (a : Nat)) y) := by
  obtain ⟨⟨a1, a2, a3, a4, a5⟩, ⟨b1, b2⟩, c1⟩ := h
  have f3 := a3 a ha
  have mono : ∀ d j, j + d = na → fa j ≤ fa na := fun d => by
    induction d with
    | zero => intro j hj; rw [show j = na by omega]; exact Nat.le_refl _
    | succ d ih => intro j hj; exact Nat.le_trans (a3 j (by omega)) (ih (j + 1) (by omega))
  have fna := mono (na - (a + 1)) (a + 1) (by omega)
  have pr := pr_out (N := N) (y := y) h2 ⟨by rw [h13]; exact b2 a (by omega), a4 a (by omega)⟩ ⟨by rw [h13]; exact b2 (a + 1) (by omega), a4 (a + 1) (by omega), f3⟩ (by omega) 30 0 rfl (fun i hi => absurd hi (by omega)) N
  have prr : PK (PRq w fa a y) (fm_M_predefinedOf N w (I (a : Nat)) y) := pr
  refine pk_mo prr (fun v r q => ⟨q.1, ?_⟩)
  have mc : ∀ k, k < 30 → MR36 w fa a y k → MC36 m fa a (sg36 k) := fun k hk q => by
    obtain ⟨p1, p2, p3⟩ := r36 k hk
    refine ⟨q.2.1.trans p1, fun j hj => ?_⟩
    rw [q.2.2 j (by omega), h12]
    exact (c1 _ (by have := q.2.1; omega)).symm
  have mr : ∀ k, k < 30 → MC36 m fa a (sg36 k) → I (npre k : Nat) = y → MR36 w fa a y k := fun k hk q hy => by
    obtain ⟨p1, p2, p3⟩ := r36 k hk
    refine ⟨hy, q.1.trans p1.symm, fun j hj => ?_⟩
    rw [h12, ← c1 _ (by have := q.1; omega)]
    exact q.2 j (by omega)
  have sg8 : sg36 8 = 7 := rfl
  have n8 : I ((npre 8 : Nat) : Int) = (2 : Int32) := rfl
  have i18 : ∀ k : Nat, k < 30 → ((18 : Int32) ≤ I (k : Nat) ↔ 18 ≤ k) := fun k hk => (I_le (x := (18 : Int)) (y := (k : Nat)) (by omega) (by omega) (by omega) (by omega)).trans (by omega)
  rcases q.2 with ⟨r1, r2⟩ | ⟨k, k1, k2, k3⟩
  · have c0 : cl36 (ix36 m fa a) y = 0 := by
      cases e : ix36 m fa a with
      | none => rfl
      | some i =>
        have i1 : mc36 m fa a i = true := List.find?_some e
        have i2 := List.mem_range.mp (List.mem_of_find?_eq_some e)
        have i1 := mc36_e.mp i1
        show (if i = 7 ∧ y = 2 then 1 else if takL.getD i 0 = y then (if 17 ≤ i then 2 else 1) else 0) = 0
        by_cases z : i = 7 ∧ y = 2
        · exact absurd (mr 8 (by decide) (by rw [sg8, ← z.1]; exact i1) (by rw [n8, z.2])) (r2 8 (by decide))
        · rw [if_neg z]
          by_cases z2 : takL.getD i 0 = y
          · obtain ⟨k, k1, k2, k3, -⟩ := q36 i i2
            exact absurd (mr k k1 (by rw [k3]; exact i1) (by rw [← t36 k k1 k2, k3]; exact z2)) (r2 k k1)
          · rw [if_neg z2]
    rw [r1, c0]
    exact ⟨⟨fun _ => rfl, fun _ => rfl⟩, ⟨fun z => absurd z (by decide), fun z => absurd z (by decide)⟩⟩
  · have hm := mc k k1 k3
    have hs := (r36 k k1).2.1
    rw [ix_s hm hs, k2, i18 k k1]
    have i1 : I (k : Nat) ≠ (-1 : Int32) := fun z => absurd ((I_eq (x := (k : Nat)) (y := (-1 : Int)) (by omega) (by omega) (by omega) (by omega)).mp (z.trans (show (-1 : Int32) = I (-1) from rfl))) (by omega)
    have ce : cl36 (some (sg36 k)) y = if sg36 k = 7 ∧ y = 2 then 1 else if takL.getD (sg36 k) 0 = y then (if 17 ≤ sg36 k then 2 else 1) else 0 := rfl
    rw [ce]
    by_cases z : sg36 k = 7 ∧ y = 2
    · rw [if_pos z]
      have : k ≤ 8 := by
        have := z.1
        unfold sg36 at this
        split at this <;> omega
      exact ⟨⟨fun q => absurd q i1, fun q => absurd q (by decide)⟩, ⟨fun q => absurd q (by omega), fun q => absurd q (by decide)⟩⟩
    · rw [if_neg z]
      have k8 : k ≠ 8 := fun e => z (by rw [e]; exact ⟨rfl, by rw [← k3.1, e]; rfl⟩)
      rw [if_pos ((t36 k k1 k8).trans k3.1)]
      have se : 17 ≤ sg36 k ↔ 18 ≤ k := by
        unfold sg36
        split <;> omega
      by_cases g : 17 ≤ sg36 k
      · rw [if_pos g]
        exact ⟨⟨fun q => absurd q i1, fun q => absurd q (by decide)⟩, ⟨fun _ => rfl, fun _ => se.mp g⟩⟩
      · rw [if_neg g]
        exact ⟨⟨fun q => absurd q i1, fun q => absurd q (by decide)⟩, ⟨fun q => absurd (se.mpr q) g, fun q => absurd q (by decide)⟩⟩
theorem pdf_all (hN : 200010 ≤ N) (c : CW36 m) (h : ATf m w fa na) (w36' : WDc m 36) (w1 : WDc m 1) (h2 : w.2.2.1 2 = mS0.2.2.1 2) (ha : a < na) : PDF N m w (I (a : Nat)) y (cl36 (ix36 m fa a) y) := by
  refine ⟨fun v hv => pre_rf (by rw [hv 2 (by decide)]; exact h2) h (hv 12 (by decide)) (hv 13 (by decide)) ha, fun m' hm => ?_⟩
  obtain ⟨k1, k2, k3⟩ := hm
  have c' : CW36 m' := ⟨by rw [k2 722 (by decide) (by decide)]; exact c.1, fun j hj => by rw [k3 38 (by decide) (by decide)]; exact c.2.1 j hj, fun j hj => by rw [k3 37 (by decide) (by decide)]; exact c.2.2 j hj⟩
  have h' : ATf m' w fa na := ⟨⟨by rw [k1.1 22 (by decide)]; exact h.1.1, fun j hj => by rw [k1.2 3 (by decide)]; exact h.1.2.1 j hj, h.1.2.2⟩, h.2.1, fun j hj => by rw [k1.2 2 (by decide)]; exact h.2.2 j hj⟩
  have ixe : ix36 m' fa a = ix36 m fa a := by
    unfold ix36 mc36
    rw [k1.2 2 (by decide)]
  have wd : ∀ v, (v = 36 ∨ v = 1) → WDc m v → WDc m' v := fun v hv q => by
    have e1 : F m' (20 * v + 2) = F m (20 * v + 2) := by
      rcases hv with rfl | rfl
      · exact congrArg Int32.toInt (k2 722 (by decide) (by decide))
      · exact congrArg Int32.toInt (k1.1 22 (by decide))
    have e2 : ∀ j, A m' (v + 2) j = A m (v + 2) j := fun j => by
      rcases hv with rfl | rfl
      · exact congrArg Int32.toInt (congrFun (k3 38 (by decide) (by decide)) j)
      · exact congrArg Int32.toInt (congrFun (k1.2 3 (by decide)) j)
    unfold WDc at q ⊢
    rw [e1]
    exact ⟨q.1, q.2.1, q.2.2.1, q.2.2.2.1, fun k hk => by rw [e2, e2]; exact q.2.2.2.2 k hk⟩
  have := pre_cl (y := y) hN c' h' ha (wd 36 (Or.inl rfl) w36') (wd 1 (Or.inr rfl) w1)
  rw [ixe] at this
  exact this
end
