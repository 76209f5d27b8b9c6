/-! found() of the reference: where the name stands -/
set_option maxRecDepth 100000
/-- where a name stands in the innermost scope -/
def LKt : SCT → Nat → Int → Prop
  | [], _, _ => False
  | e :: _, x, i => (∃ k : Nat, i = ((k : Nat) : Int) ∧ e.1[k]? = some x) ∨ (x ∉ e.1 ∧ ((∃ k : Nat, i = -2 - ((k : Nat) : Int) ∧ e.2.1[k]? = some x) ∨ 60 ≤ e.2.1.length))
/-- where what is held comes from -/
def HFl (w : MS) : SCT → Prop
  | [] => True
  | e :: t => (∀ k x, e.2.1[k]? = some x → ∃ i : Int, w.2.2.1 62 (1400 * t.length + k) = I i ∧ LKt t x i) ∧ HFl w t
/-- what found leaves -/
def FDX (x : Nat) (sc : SCT) (w v : MS) (r : Int32) : Prop := (r = -1 ∧ v = w ∧ fnb x sc = false) ∨ (r ≠ -1 ∧ fnb x sc = true ∧ FHD w v ∧ (FHU sc.length w v ∧ ∀ j, 1400 * sc.length ≤ j → v.2.2.1 62 j = w.2.2.1 62 j) ∧ RNl v (hld x sc) ∧ HFl v (hld x sc) ∧ ∃ i : Int, r = I i ∧ LKt (hld x sc) x i)
section
variable {w v : MS} {sc t t2 : SCT} {e e2 : List Nat × List Nat × Nat} {s x y N d : Nat} {i : Int}
theorem LKt_mo (h1 : e2.1 = e.1) (h2 : e.2.1 <+: e2.2.1) (h : LKt (e :: t) x i) : LKt (e2 :: t2) x i := by
  rcases h with ⟨k, a, b⟩ | ⟨a, ⟨k, b, c⟩ | b⟩
  · exact Or.inl ⟨k, a, by rw [h1]; exact b⟩
  · refine Or.inr ⟨by rw [h1]; exact a, Or.inl ⟨k, b, ?_⟩⟩
    obtain ⟨l, hl⟩ := h2
    rw [← hl, List.getElem?_append_left (List.getElem?_eq_some_iff.mp c).1]
    exact c
  · refine Or.inr ⟨by rw [h1]; exact a, Or.inr ?_⟩
    have := h2.length_le
    omega
theorem hld_hd {t : SCT} (h : LKt t y i) : LKt (hld x t) y i := by
  cases t with
  | nil => exact h.elim
  | cons e t =>
    unfold hld
    split
    · exact h
    · split
      · split
        · exact LKt_mo (e := e) (t := t) rfl (List.prefix_append _ _) h
        · exact LKt_mo (e := e) (t := t) rfl List.prefix_rfl h
      · exact h
theorem HFl_fr : ∀ {sc : SCT}, SOK sc → HFl w sc → (∀ j, j < 1400 * sc.length → v.2.2.1 62 j = w.2.2.1 62 j) → HFl v sc
  | [], _, _, _ => trivial
  | e :: t, ok, h, b => by
    obtain ⟨⟨n1, n2, n3, n4, n5, n6, n7⟩, ok2⟩ := ok
    have el : (e :: t).length = t.length + 1 := rfl
    refine ⟨fun k x hk => ?_, HFl_fr ok2 h.2 (fun j hj => b j (by omega))⟩
    have := (List.getElem?_eq_some_iff.mp hk).1
    rw [b _ (by omega)]
    exact h.1 k x hk
theorem bIx_loop (hw : RW1 w s e) (hs : s ≤ 27) (hl : e.1.length ≤ 1400) (hx : x < 1400) (hb : ∀ y, y ∈ e.1 → y < 1400) : ∀ (M k : Nat), (∀ j, j < k → e.1[j]? ≠ some x) → k ≤ e.1.length → PK (fun v r => v = w ∧ ((r = -1 ∧ x ∉ e.1) ∨ ∃ j : Nat, r = I (j : Nat) ∧ j < 1400 ∧ e.1[j]? = some x)) (gg_M_boundIn N M w (I (s : Nat)) (I (x : Nat)) (I (k : Nat)))
  | 0, k, _, _ => pk_none
  | M + 1, k, hj, hk => by
    show PK _ (fb_M_boundIn_2 N (gg_M_boundIn N M) w (I (s : Nat)) (I (x : Nat)) (I (k : Nat)))
    unfold fb_M_boundIn_2
    refine pk_ck (fun _ => ?_)
    rw [tnI (n := s) rfl (by omega), hw.1, decI (by omega) (by omega) (by omega) (by omega)]
    refine pk_br (fun h1 => ?_) (fun h1 => ?_)
    · have h1 := of_decide_eq_true h1
      refine pk_some ⟨rfl, Or.inl ⟨rfl, fun hm => ?_⟩⟩
      obtain ⟨j, hj2, e2⟩ := List.getElem_of_mem hm
      exact hj j (by omega) (by rw [List.getElem?_eq_getElem hj2, e2])
    · have h1 := of_decide_eq_false h1
      have hk2 : k < e.1.length := by omega
      refine pk_ck (fun _ => ?_)
      have e1 : (1400 : Int32) * I (s : Nat) + I (k : Nat) = I ((1400 * s + k : Nat) : Int) := by
        rw [show (1400 : Int32) = I 1400 from rfl, I_mul, I_add]
        congr 1
      have gk : e.1[k]? = some e.1[k] := List.getElem?_eq_getElem hk2
      have hy := hb _ (List.getElem_mem hk2)
      rw [e1, tnI (n := 1400 * s + k) rfl (by omega), hw.2.1 k _ gk]
      refine pk_br (fun h2 => ?_) (fun h2 => ?_)
      · have h2 := of_decide_eq_true h2
        have : e.1[k] = x := i_inj (by omega) (by omega) h2
        exact pk_some ⟨rfl, Or.inr ⟨k, rfl, by omega, by rw [gk, this]⟩⟩
      · have h2 := of_decide_eq_false h2
        rw [i_suc]
        refine bIx_loop hw hs hl hx hb M (k + 1) (fun j hj2 => ?_) (by omega)
        by_cases ej : j = k
        · rw [ej, gk]
          intro z
          injection z with z
          exact h2 (by rw [z])
        · exact hj j (by omega)
theorem bIx_p (hw : RW1 w s e) (hs : s ≤ 27) (hn : e.1.Nodup) (hb : ∀ y, y ∈ e.1 → y < 1400) (hx : x < 1400) : PK (fun v r => v = w ∧ ((r = -1 ∧ x ∉ e.1) ∨ ∃ j : Nat, r = I (j : Nat) ∧ j < 1400 ∧ e.1[j]? = some x)) (fm_M_boundIn N w (I (s : Nat)) (I (x : Nat))) := by
  unfold fm_M_boundIn fb_M_boundIn_0
  have := bIx_loop (N := N) hw hs (nd_len 1400 _ hn hb) hx hb N 0 (fun j hj => absurd hj (Nat.not_lt_zero _)) (Nat.zero_le _)
  exact this
theorem fnx_lp (S : SG_M_found) (hx : x < 1400) (hw : RW1 w t.length e) (ht : RNl w t) (hf : HFl w (e :: t)) (ok : SOK (e :: t)) (hs : t.length ≤ 26) (nx : x ∉ e.1) (hS : t ≠ [] → PK (fun v r => FDX x t w v r) (S w (I ((t.length - 1 : Nat) : Int)) (I (x : Nat)))) : ∀ (M k : Nat), (∀ j, j < k → e.2.1[j]? ≠ some x) → k ≤ e.2.1.length → PK (fun v r => FDX x (e :: t) w v r) (gg_M_found N S M w (I (t.length : Nat)) (I (x : Nat)) (I (k : Nat)))
  | 0, k, _, _ => pk_none
  | M + 1, k, hj, hk => by
    obtain ⟨⟨n1, n2, n3, n4, n5, n6, n7⟩, ok2⟩ := id ok
    show PK _ (fb_M_found_17 N S (gg_M_found N S M) w (I (t.length : Nat)) (I (x : Nat)) (I (k : Nat)))
    unfold fb_M_found_17
    refine pk_ck (fun _ => ?_)
    rw [tnI (n := t.length) rfl (by omega), hw.2.2.1, decI (by omega) (by omega) (by omega) (by omega)]
    refine pk_br (fun h1 => ?_) (fun h1 => ?_)
    · have h1 := of_decide_eq_true h1
      have nh : x ∉ e.2.1 := fun hm => by
        obtain ⟨j, hj2, e2⟩ := List.getElem_of_mem hm
        exact hj j (by omega) (by rw [List.getElem?_eq_getElem hj2, e2])
      have c1 : (e.1.contains x || e.2.1.contains x) = false := by
        rw [Bool.or_eq_false_iff]
        exact ⟨by simpa using nx, by simpa using nh⟩
      have fe : fnb x (e :: t) = fnb x t := by
        unfold fnb
        rw [List.any_cons]
        have : e.1.contains x = false := by simpa using nx
        rw [this, Bool.false_or]
      refine pk_br (fun h2 => ?_) (fun h2 => ?_)
      · have h2 := of_decide_eq_true h2
        have h0 : t.length = 0 := i_inj (by omega) (by omega) h2
        refine pk_some (Or.inl ⟨rfl, rfl, ?_⟩)
        rw [fe, List.length_eq_zero_iff.mp h0]
        rfl
      · have h2 := of_decide_eq_false h2
        have t0 : t ≠ [] := fun z => h2 (by rw [z]; rfl)
        have tl : t.length ≠ 0 := fun z => t0 (List.length_eq_zero_iff.mp z)
        rw [show I (t.length : Nat) - 1 = I ((t.length - 1 : Nat) : Int) by rw [lit1, I_sub]; congr 1; omega]
        refine pk_bnd (pk_mo (hS t0) (fun u1 r1 q => ?_))
        rcases q with ⟨q1, q2, q3⟩ | ⟨q1, q2, ⟨q3, q4⟩, ⟨⟨q5, q6⟩, q62⟩, q7, q8, i9, q9, q10⟩
        · rw [decide_eq_true q1]
          refine pk_some (Or.inl ⟨rfl, q2, by rw [fe]; exact q3⟩)
        · rw [decide_eq_false q1]
          refine pk_ck (fun _ => ?_)
          have hw1 : RW1 u1 t.length e := ⟨by rw [q4 60 (by decide)]; exact hw.1, fun k y hk => by rw [q4 59 (by decide)]; exact hw.2.1 k y hk, by rw [q5 _ (Nat.le_refl _)]; exact hw.2.2.1, fun k y hk => by rw [q6 _ (by omega)]; exact hw.2.2.2.1 k y hk, by rw [q4 64 (by decide)]; exact hw.2.2.2.2⟩
          have hl : (hld x t).length = t.length := hld_len
          rw [hw1.2.2.1, show (60 : Int32) = I 60 from rfl, decL (by omega) (by omega) (by omega) (by omega)]
          refine pk_br (fun h3 => ?_) (fun h3 => ?_)
          · have h3 := of_decide_eq_true h3
            have h60 : e.2.1.length < 60 := by omega
            refine pk_ck (fun _ => pk_ck (fun _ => ?_))
            have e1 : (1400 : Int32) * I (t.length : Nat) + I (e.2.1.length : Nat) = I ((1400 * t.length + e.2.1.length : Nat) : Int) := by
              rw [show (1400 : Int32) = I 1400 from rfl, I_mul, I_add]
              congr 1
            have e3 : ∀ g : Nat → Int32, (upA u1 61 g).2.2.1 63 t.length = I (e.2.1.length : Nat) := fun g => by rw [upA_no (by decide)]; exact hw1.2.2.1
            have e4 : ∀ g g2 : Nat → Int32, (upA (upA u1 61 g) 62 g2).2.2.1 63 t.length = I (e.2.1.length : Nat) := fun g g2 => by rw [upA_no (by decide)]; exact e3 g
            refine pk_lt (pk_ck (fun _ => pk_ck (fun _ => pk_lt (pk_ck (fun _ => pk_ck (fun _ => pk_lt (pk_ck (fun _ => ?_))))))))
            rw [e1, tnI (n := 1400 * t.length + e.2.1.length) rfl (by omega), e3, e1, tnI (n := 1400 * t.length + e.2.1.length) rfl (by omega), e4, i_suc, upA_at, upd_at]
            refine pk_some (Or.inr ⟨?_, by rw [fe]; exact q2, ?_, ⟨?_, ?_⟩, ?_, ?_, ?_⟩)
            · rw [show (-1 : Int32) = I (-1) from rfl, I_sub, show (-1 : Int) - ((e.2.1.length + 1 : Nat) : Int) = -2 - (e.2.1.length : Int) by omega]
              exact neg_ne (by omega)
            · exact ⟨fun k => q3 k, fun k hk => by rw [upA_no (by omega), upA_no (by omega), upA_no (by omega)]; exact q4 k hk⟩
            · refine ⟨fun j hj => ?_, fun j hj => ?_⟩
              · rw [upA_at, upA_no (by decide), upA_no (by decide), upd_no (by simp only [List.length_cons] at hj; omega)]
                exact q5 j (by simp only [List.length_cons] at hj; omega)
              · rw [upA_no (by decide), upA_no (by decide), upA_at, upd_no (by simp only [List.length_cons] at hj; omega)]
                exact q6 j (by simp only [List.length_cons] at hj; omega)
            · intro j hj
              rw [upA_no (by decide), upA_at, upd_no (by simp only [List.length_cons] at hj; omega), upA_no (by decide)]
              exact q62 j (by simp only [List.length_cons] at hj; omega)
            · have hh : ∀ y, y ∈ e.2.1 → y < 1400 := fun y hy => fnd_lt ok2 (HLx_fnd (n6 y hy))
              have := hold_w (x := x) (r1 := r1) (t := hld x t) (w := u1) (e := e) h60 (by omega) (hld_ok ok2) (by rw [hl]; exact hw1) q7 hh (nd_len 1400 _ n1 n2)
              unfold hld
              rw [c1, if_neg (by decide), if_pos q2, if_pos h60]
              rw [hl] at this
              rw [upA_no (by decide), upA_no (by decide)]
              exact this
            · unfold hld
              rw [c1, if_neg (by decide), if_pos q2, if_pos h60]
              refine ⟨fun k y hk => ?_, ?_⟩
              · have hk : (e.2.1 ++ [x])[k]? = some y := hk
                rw [hl, upA_no (by decide), upA_at]
                by_cases ek : k < e.2.1.length
                · rw [List.getElem?_append_left ek] at hk
                  obtain ⟨i, i1, i2⟩ := hf.1 k y hk
                  rw [upd_no (by omega), upA_no (by decide), q62 _ (by omega)]
                  exact ⟨i, i1, hld_hd i2⟩
                · have hk2 := (List.getElem?_eq_some_iff.mp hk).1
                  rw [List.length_append, List.length_singleton] at hk2
                  have ek2 : k = e.2.1.length := by omega
                  rw [ek2, upd_at]
                  rw [ek2, List.getElem?_append_right (Nat.le_refl _), Nat.sub_self] at hk
                  injection hk with hk
                  rw [← hk]
                  exact ⟨i9, q9, q10⟩
              · refine HFl_fr (hld_ok ok2) q8 (fun j hj => ?_)
                rw [hl] at hj
                rw [upA_no (by decide), upA_at, upd_no (by omega), upA_no (by decide)]
            · refine ⟨-2 - (e.2.1.length : Int), ?_, ?_⟩
              · rw [show (-1 : Int32) = I (-1) from rfl, I_sub, show (-1 : Int) - ((e.2.1.length + 1 : Nat) : Int) = -2 - (e.2.1.length : Int) by omega]
              · unfold hld
                rw [c1, if_neg (by decide), if_pos q2, if_pos h60]
                refine Or.inr ⟨nx, Or.inl ⟨e.2.1.length, rfl, ?_⟩⟩
                show (e.2.1 ++ [x])[e.2.1.length]? = some x
                rw [List.getElem?_append_right (Nat.le_refl _), Nat.sub_self]
                rfl
          · have h3 := of_decide_eq_false h3
            refine pk_some (Or.inr ⟨by decide, by rw [fe]; exact q2, ⟨q3, q4⟩, ⟨⟨fun j hj => q5 j (by simp only [List.length_cons] at hj; omega), fun j hj => q6 j (by simp only [List.length_cons] at hj; omega)⟩, fun j hj => q62 j (by simp only [List.length_cons] at hj; omega)⟩, ?_⟩)
            unfold hld
            rw [c1, if_neg (by decide), if_pos q2, if_neg (by omega)]
            refine ⟨⟨by rw [hl]; exact hw1, q7⟩, ⟨fun k y hk => ?_, q8⟩, -2, rfl, Or.inr ⟨nx, Or.inr (by show 60 ≤ e.2.1.length; omega)⟩⟩
            obtain ⟨i, i1, i2⟩ := hf.1 k y hk
            have := (List.getElem?_eq_some_iff.mp hk).1
            rw [hl, q62 _ (by omega)]
            exact ⟨i, i1, hld_hd i2⟩
    · have h1 := of_decide_eq_false h1
      have hk2 : k < e.2.1.length := by omega
      refine pk_ck (fun _ => ?_)
      have e1 : (1400 : Int32) * I (t.length : Nat) + I (k : Nat) = I ((1400 * t.length + k : Nat) : Int) := by
        rw [show (1400 : Int32) = I 1400 from rfl, I_mul, I_add]
        congr 1
      have gk : e.2.1[k]? = some e.2.1[k] := List.getElem?_eq_getElem hk2
      have hy := fnd_lt ok2 (HLx_fnd (n6 _ (List.getElem_mem hk2)))
      rw [e1, tnI (n := 1400 * t.length + k) rfl (by omega), hw.2.2.2.1 k _ gk]
      refine pk_br (fun h2 => ?_) (fun h2 => ?_)
      · have h2 := of_decide_eq_true h2
        have ex : e.2.1[k] = x := i_inj (by omega) (by omega) h2
        have mx : x ∈ e.2.1 := by rw [← ex]; exact List.getElem_mem hk2
        refine pk_some (Or.inr ⟨?_, ?_, FHD_rf, ⟨FHU_rf, fun _ _ => rfl⟩, ?_⟩)
        · rw [show (-2 : Int32) = I (-2) from rfl, I_sub]
          exact neg_ne (by omega)
        · obtain ⟨d, hd, hx2⟩ := HLx_fnd (n6 x mx)
          exact fnb_e.mpr ⟨d, List.mem_cons_of_mem _ hd, hx2⟩
        · unfold hld
          rw [if_pos (by rw [Bool.or_eq_true]; exact Or.inr (List.contains_iff_mem.mpr mx))]
          exact ⟨⟨hw, ht⟩, hf, -2 - ((k : Nat) : Int), by rw [show (-2 : Int32) = I (-2) from rfl, I_sub], Or.inr ⟨nx, Or.inl ⟨k, rfl, by rw [gk, ex]⟩⟩⟩
      · have h2 := of_decide_eq_false h2
        rw [i_suc]
        refine fnx_lp S hx hw ht hf ok hs nx hS M (k + 1) (fun j hj2 => ?_) (by omega)
        by_cases ej : j = k
        · rw [ej, gk]
          intro z
          injection z with z
          exact h2 (by rw [z])
        · exact hj j (by omega)
theorem fnx_d (hx : x < 1400) : ∀ (d : Nat) (sc : SCT) (w : MS), RNl w sc → HFl w sc → SOK sc → sc ≠ [] → sc.length ≤ 27 → PK (fun v r => FDX x sc w v r) ((rc_M_found N d) w (I ((sc.length - 1 : Nat) : Int)) (I (x : Nat)))
  | 0, sc, w, _, _, _, _, _ => pk_none
  | d + 1, [], w, _, _, _, h, _ => absurd rfl h
  | d + 1, e :: t, w, hw, hf, ok, _, hl => by
    have hl : t.length + 1 ≤ 27 := hl
    show PK _ (fm_M_found N (rc_M_found N d) w (I (t.length : Nat)) (I (x : Nat)))
    unfold fm_M_found fb_M_found_0
    refine pk_bnd (pk_mo (bIx_p (N := N) hw.1 (by omega) ok.1.1 ok.1.2.1 hx) (fun v r q => ?_))
    obtain ⟨rfl, q⟩ := q
    rcases q with ⟨q1, q2⟩ | ⟨j, q1, q2, q3⟩
    · rw [decide_eq_true q1]
      exact fnx_lp (N := N) (rc_M_found N d) hx hw.1 hw.2 hf ok (by omega) q2 (fun t0 => fnx_d hx d t _ hw.2 hf.2 ok.2 t0 (by omega)) N 0 (fun j hj => absurd hj (Nat.not_lt_zero _)) (Nat.zero_le _)
    · rw [q1, decide_eq_false (nat_ne (by omega))]
      have q4 : x ∈ e.1 := List.mem_of_getElem? q3
      refine pk_some (Or.inr ⟨nat_ne (by omega), fnb_e.mpr ⟨e, List.mem_cons_self, q4⟩, FHD_rf, ⟨FHU_rf, fun _ _ => rfl⟩, ?_⟩)
      unfold hld
      rw [if_pos (by rw [Bool.or_eq_true]; exact Or.inl (List.contains_iff_mem.mpr q4))]
      exact ⟨hw, hf, ((j : Nat) : Int), rfl, Or.inl ⟨j, rfl, q3⟩⟩
end
