section
set_option maxRecDepth 100000
section
variable {w v : MS} {sc t : SCT} {e : List Nat × List Nat × Nat} {s x N d : Nat}
def FDP (x : Nat) (sc : SCT) (w v : MS) (r : Int32) : Prop := (r = -1 ∧ v = w ∧ fnb x sc = false) ∨ (r ≠ -1 ∧ fnb x sc = true ∧ FHD w v ∧ FHU sc.length w v ∧ RNl v (hld x sc))
theorem FHD_rf : FHD w w := ⟨fun _ => rfl, fun _ _ => rfl⟩
theorem FHU_rf {n : Nat} : FHU n w w := ⟨fun _ _ => rfl, fun _ _ => rfl⟩
theorem neg_ne {k : Nat} (hk : k ≤ 4000) : I (-2 - (k : Int)) ≠ -1 := by
  rw [show (-1 : Int32) = I (-1) from rfl]
  intro h
  have := (I_eq (by omega) (by omega) (by omega) (by omega)).mp h
  omega
theorem nat_ne {k : Nat} (hk : k ≤ 4000) : I (k : Nat) ≠ -1 := by
  rw [show (-1 : Int32) = I (-1) from rfl]
  intro h
  have := (I_eq (by omega) (by omega) (by omega) (by omega)).mp h
  omega
theorem upd_at {g : Nat → Int32} {i : Nat} {y : Int32} : upd g i y i = y := if_pos rfl
theorem upd_no {g : Nat → Int32} {i j : Nat} {y : Int32} (h : j ≠ i) : upd g i y j = g j := if_neg h
theorem upA_at {k : Nat} {g : Nat → Int32} : (upA w k g).2.2.1 k = g := if_pos rfl
theorem upA_no {k j : Nat} {g : Nat → Int32} (h : j ≠ k) : (upA w k g).2.2.1 j = w.2.2.1 j := if_neg h
theorem hold_w (h60 : e.2.1.length < 60) (hs : t.length ≤ 27) (ok : SOK t) (h : RW1 w t.length e) (ht : RNl w t) (hh : ∀ y, y ∈ e.2.1 → y < 1400) (nl : e.1.length ≤ 1400) {r1 : Int32} : RNl (upA (upA (upA w 61 (upd (w.2.2.1 61) (1400 * t.length + e.2.1.length) (I (x : Nat)))) 62 (upd (w.2.2.1 62) (1400 * t.length + e.2.1.length) r1)) 63 (upd (w.2.2.1 63) t.length (I ((e.2.1.length + 1 : Nat) : Int)))) ((e.1, e.2.1 ++ [x], e.2.2) :: t) := by
  obtain ⟨h1, h2, h3, h4, h5⟩ := h
  have r61 : ∀ (j : Nat), (upA (upA (upA w 61 (upd (w.2.2.1 61) (1400 * t.length + e.2.1.length) (I (x : Nat)))) 62 (upd (w.2.2.1 62) (1400 * t.length + e.2.1.length) r1)) 63 (upd (w.2.2.1 63) t.length (I ((e.2.1.length + 1 : Nat) : Int)))).2.2.1 61 j = upd (w.2.2.1 61) (1400 * t.length + e.2.1.length) (I (x : Nat)) j := fun j => by
    rw [upA_no (by decide), upA_no (by decide), upA_at]
  have r63 : ∀ (j : Nat), (upA (upA (upA w 61 (upd (w.2.2.1 61) (1400 * t.length + e.2.1.length) (I (x : Nat)))) 62 (upd (w.2.2.1 62) (1400 * t.length + e.2.1.length) r1)) 63 (upd (w.2.2.1 63) t.length (I ((e.2.1.length + 1 : Nat) : Int)))).2.2.1 63 j = upd (w.2.2.1 63) t.length (I ((e.2.1.length + 1 : Nat) : Int)) j := fun j => by
    rw [upA_at]
  have ro : ∀ k, k ≠ 61 → k ≠ 62 → k ≠ 63 → (upA (upA (upA w 61 (upd (w.2.2.1 61) (1400 * t.length + e.2.1.length) (I (x : Nat)))) 62 (upd (w.2.2.1 62) (1400 * t.length + e.2.1.length) r1)) 63 (upd (w.2.2.1 63) t.length (I ((e.2.1.length + 1 : Nat) : Int)))).2.2.1 k = w.2.2.1 k := fun k a b c => by
    rw [upA_no c, upA_no b, upA_no a]
  generalize upA (upA (upA w 61 (upd (w.2.2.1 61) (1400 * t.length + e.2.1.length) (I (x : Nat)))) 62 (upd (w.2.2.1 62) (1400 * t.length + e.2.1.length) r1)) 63 (upd (w.2.2.1 63) t.length (I ((e.2.1.length + 1 : Nat) : Int))) = v at r61 r63 ro
  refine ⟨⟨?_, fun k y hk => ?_, ?_, fun k y hk => ?_, ?_⟩, RNl_fr ok ht (fun j hj => ⟨?_, ?_, ?_⟩) (fun j hj => ⟨?_, ?_⟩)⟩
  · rw [ro 60 (by decide) (by decide) (by decide)]; exact h1
  · rw [ro 59 (by decide) (by decide) (by decide)]; exact h2 k y hk
  · rw [r63, upd_at]
    show I ((e.2.1.length + 1 : Nat) : Int) = I (((e.2.1 ++ [x]).length : Nat) : Int)
    rw [List.length_append, List.length_singleton]
  · have hk : (e.2.1 ++ [x])[k]? = some y := hk
    rw [r61]
    by_cases ek : k < e.2.1.length
    · rw [upd_no (by omega)]
      rw [List.getElem?_append_left ek] at hk
      exact h4 k y hk
    · have hk2 := (List.getElem?_eq_some_iff.mp hk).1
      rw [List.length_append, List.length_singleton] at hk2
      have : k = e.2.1.length := by omega
      rw [this, upd_at]
      rw [this, List.getElem?_append_right (Nat.le_refl _), Nat.sub_self] at hk
      injection hk with hk
      rw [hk]
  · rw [ro 64 (by decide) (by decide) (by decide)]; exact h5
  · rw [ro 60 (by decide) (by decide) (by decide)]
  · rw [r63, upd_no (by omega)]
  · rw [ro 64 (by decide) (by decide) (by decide)]
  · rw [ro 59 (by decide) (by decide) (by decide)]
  · rw [r61, upd_no (by omega)]
theorem fnd_lp (S : SG_M_found) (hx : x < 1400) (hw : RW1 w t.length e) (ht : RNl w t) (ok : SOK (e :: t)) (hs : t.length ≤ 26) (nx : x ∉ e.1) (hS : t ≠ [] → PK (fun v r => FDP x t w v r) (S w (I ((t.length - 1 : Nat) : Int)) (I (x : Nat)))) : ∀ (M k : Nat), (∀ j, j < k → e.2.1[j]? ≠ some x) → k ≤ e.2.1.length → PK (fun v r => FDP x (e :: t) w v r) (gg_M_found N S M w (I (t.length : Nat)) (I (x : Nat)) (I (k : Nat)))
  | 0, k, _, _ => pk_none
  | M + 1, k, hj, hk => by
    obtain ⟨⟨n1, n2, n3, n4, n5, n6, n7⟩, ok2⟩ := id ok
    show PK _ (fb_M_found_17 N S (gg_M_found N S M) w (I (t.length : Nat)) (I (x : Nat)) (I (k : Nat)))
    unfold fb_M_found_17
    refine pk_ck (fun _ => ?_)
    rw [tnI (n := t.length) rfl (by omega), hw.2.2.1, decI (by omega) (by omega) (by omega) (by omega)]
    refine pk_br (fun h1 => ?_) (fun h1 => ?_)
    · have h1 := of_decide_eq_true h1
      have nh : x ∉ e.2.1 := fun hm => by
        obtain ⟨j, hj2, e2⟩ := List.getElem_of_mem hm
        exact hj j (by omega) (by rw [List.getElem?_eq_getElem hj2, e2])
      have c1 : (e.1.contains x || e.2.1.contains x) = false := by
        rw [Bool.or_eq_false_iff]
        exact ⟨by simpa using nx, by simpa using nh⟩
      have fe : fnb x (e :: t) = fnb x t := by
        unfold fnb
        rw [List.any_cons]
        have : e.1.contains x = false := by simpa using nx
        rw [this, Bool.false_or]
      refine pk_br (fun h2 => ?_) (fun h2 => ?_)
      · have h2 := of_decide_eq_true h2
        have h0 : t.length = 0 := i_inj (by omega) (by omega) h2
        refine pk_some (Or.inl ⟨rfl, rfl, ?_⟩)
        rw [fe, List.length_eq_zero_iff.mp h0]
        rfl
      · have h2 := of_decide_eq_false h2
        have t0 : t ≠ [] := fun z => h2 (by rw [z]; rfl)
        have tl : t.length ≠ 0 := fun z => t0 (List.length_eq_zero_iff.mp z)
        rw [show I (t.length : Nat) - 1 = I ((t.length - 1 : Nat) : Int) by rw [lit1q, I_sub]; congr 1; omega]
        refine pk_bnd (pk_mo (hS t0) (fun u1 r1 q => ?_))
        rcases q with ⟨q1, q2, q3⟩ | ⟨q1, q2, ⟨q3, q4⟩, ⟨q5, q6⟩, q7⟩
        · rw [decide_eq_true q1]
          refine pk_some (Or.inl ⟨rfl, q2, by rw [fe]; exact q3⟩)
        · rw [decide_eq_false q1]
          refine pk_ck (fun _ => ?_)
          have hw1 : RW1 u1 t.length e := ⟨by rw [q4 60 (by decide)]; exact hw.1, fun k y hk => by rw [q4 59 (by decide)]; exact hw.2.1 k y hk, by rw [q5 _ (Nat.le_refl _)]; exact hw.2.2.1, fun k y hk => by rw [q6 _ (by omega)]; exact hw.2.2.2.1 k y hk, by rw [q4 64 (by decide)]; exact hw.2.2.2.2⟩
          have hl : (hld x t).length = t.length := hld_len
          rw [hw1.2.2.1, show (60 : Int32) = I 60 from rfl, decL (by omega) (by omega) (by omega) (by omega)]
          refine pk_br (fun h3 => ?_) (fun h3 => ?_)
          · have h3 := of_decide_eq_true h3
            have h60 : e.2.1.length < 60 := by omega
            refine pk_ck (fun _ => pk_ck (fun _ => ?_))
            have e1 : (1400 : Int32) * I (t.length : Nat) + I (e.2.1.length : Nat) = I ((1400 * t.length + e.2.1.length : Nat) : Int) := by
              rw [show (1400 : Int32) = I 1400 from rfl, I_mul, I_add]
              congr 1
            have e3 : ∀ g : Nat → Int32, (upA u1 61 g).2.2.1 63 t.length = I (e.2.1.length : Nat) := fun g => by rw [upA_no (by decide)]; exact hw1.2.2.1
            have e4 : ∀ g g2 : Nat → Int32, (upA (upA u1 61 g) 62 g2).2.2.1 63 t.length = I (e.2.1.length : Nat) := fun g g2 => by rw [upA_no (by decide)]; exact e3 g
            refine pk_ltq (pk_ck (fun _ => pk_ck (fun _ => pk_ltq (pk_ck (fun _ => pk_ck (fun _ => pk_ltq (pk_ck (fun _ => ?_))))))))
            rw [e1, tnI (n := 1400 * t.length + e.2.1.length) rfl (by omega), e3, e1, tnI (n := 1400 * t.length + e.2.1.length) rfl (by omega), e4, i_suc, upA_at, upd_at]
            refine pk_some (Or.inr ⟨?_, by rw [fe]; exact q2, ?_, ?_, ?_⟩)
            · rw [show (-1 : Int32) = I (-1) from rfl, I_sub, show (-1 : Int) - ((e.2.1.length + 1 : Nat) : Int) = -2 - (e.2.1.length : Int) by omega]
              exact neg_ne (by omega)
            · exact ⟨fun k => q3 k, fun k hk => by rw [upA_no (by omega), upA_no (by omega), upA_no (by omega)]; exact q4 k hk⟩
            · refine ⟨fun j hj => ?_, fun j hj => ?_⟩
              · rw [upA_at, upA_no (by decide), upA_no (by decide), upd_no (by simp only [List.length_cons] at hj; omega)]
                exact q5 j (by simp only [List.length_cons] at hj; omega)
              · rw [upA_no (by decide), upA_no (by decide), upA_at, upd_no (by simp only [List.length_cons] at hj; omega)]
                exact q6 j (by simp only [List.length_cons] at hj; omega)
            · have hh : ∀ y, y ∈ e.2.1 → y < 1400 := fun y hy => fnd_lt ok2 (HLx_fnd (n6 y hy))
              have := hold_w (x := x) (r1 := r1) (t := hld x t) (w := u1) (e := e) h60 (by omega) (hld_ok ok2) (by rw [hl]; exact hw1) q7 hh (nd_len 1400 _ n1 n2)
              unfold hld
              rw [c1, if_neg (by decide), if_pos q2, if_pos h60]
              rw [hl] at this
              rw [upA_no (by decide), upA_no (by decide)]
              exact this
          · have h3 := of_decide_eq_false h3
            refine pk_some (Or.inr ⟨by decide, by rw [fe]; exact q2, ⟨q3, q4⟩, ⟨fun j hj => q5 j (by simp only [List.length_cons] at hj; omega), fun j hj => q6 j (by simp only [List.length_cons] at hj; omega)⟩, ?_⟩)
            unfold hld
            rw [c1, if_neg (by decide), if_pos q2, if_neg (by omega)]
            exact ⟨by rw [hl]; exact hw1, q7⟩
    · have h1 := of_decide_eq_false h1
      have hk2 : k < e.2.1.length := by omega
      refine pk_ck (fun _ => ?_)
      have e1 : (1400 : Int32) * I (t.length : Nat) + I (k : Nat) = I ((1400 * t.length + k : Nat) : Int) := by
        rw [show (1400 : Int32) = I 1400 from rfl, I_mul, I_add]
        congr 1
      have gk : e.2.1[k]? = some e.2.1[k] := List.getElem?_eq_getElem hk2
      have hy := fnd_lt ok2 (HLx_fnd (n6 _ (List.getElem_mem hk2)))
      rw [e1, tnI (n := 1400 * t.length + k) rfl (by omega), hw.2.2.2.1 k _ gk]
      refine pk_br (fun h2 => ?_) (fun h2 => ?_)
      · have h2 := of_decide_eq_true h2
        have ex : e.2.1[k] = x := i_inj (by omega) (by omega) h2
        have mx : x ∈ e.2.1 := by rw [← ex]; exact List.getElem_mem hk2
        refine pk_some (Or.inr ⟨?_, ?_, FHD_rf, FHU_rf, ?_⟩)
        · rw [show (-2 : Int32) = I (-2) from rfl, I_sub]
          exact neg_ne (by omega)
        · obtain ⟨d, hd, hx2⟩ := HLx_fnd (n6 x mx)
          exact fnb_e.mpr ⟨d, List.mem_cons_of_mem _ hd, hx2⟩
        · unfold hld
          rw [if_pos (by rw [Bool.or_eq_true]; exact Or.inr (List.contains_iff_mem.mpr mx))]
          exact ⟨hw, ht⟩
      · have h2 := of_decide_eq_false h2
        rw [i_suc]
        refine fnd_lp S hx hw ht ok hs nx hS M (k + 1) (fun j hj2 => ?_) (by omega)
        by_cases ej : j = k
        · rw [ej, gk]
          intro z
          injection z with z
          exact h2 (by rw [z])
        · exact hj j (by omega)
theorem fnd_d (hx : x < 1400) : ∀ (d : Nat) (sc : SCT) (w : MS), RNl w sc → SOK sc → sc ≠ [] → sc.length ≤ 27 → PK (fun v r => FDP x sc w v r) ((rc_M_found N d) w (I ((sc.length - 1 : Nat) : Int)) (I (x : Nat)))
  | 0, sc, w, _, _, _, _ => pk_none
  | d + 1, [], w, _, _, h, _ => absurd rfl h
  | d + 1, e :: t, w, hw, ok, _, hl => by
    have hl : t.length + 1 ≤ 27 := hl
    show PK _ (fm_M_found N (rc_M_found N d) w (I (t.length : Nat)) (I (x : Nat)))
    unfold fm_M_found fb_M_found_0
    refine pk_bnd (pk_mo (bIn_p (N := N) hw.1 (by omega) ok.1.1 ok.1.2.1 hx) (fun v r q => ?_))
    obtain ⟨rfl, q⟩ := q
    rcases q with ⟨q1, q2⟩ | ⟨j, q1, q2, q3⟩
    · rw [decide_eq_true q1]
      exact fnd_lp (N := N) (rc_M_found N d) hx hw.1 hw.2 ok (by omega) q2 (fun t0 => fnd_d hx d t _ hw.2 ok.2 t0 (by omega)) N 0 (fun j hj => absurd hj (Nat.not_lt_zero _)) (Nat.zero_le _)
    · rw [q1, decide_eq_false (nat_ne (by omega))]
      refine pk_some (Or.inr ⟨nat_ne (by omega), fnb_e.mpr ⟨e, List.mem_cons_self, q3⟩, FHD_rf, FHU_rf, ?_⟩)
      unfold hld
      rw [if_pos (by rw [Bool.or_eq_true]; exact Or.inl (List.contains_iff_mem.mpr q3))]
      exact hw
end
end
section
set_option maxRecDepth 100000
def CNl (m : MS) (nm : Nat → Nat) : SCT → Prop
  | [] => True
  | e :: t => m.2.2.1 40 t.length = I (tot t : Nat) ∧ (∀ k x, e.1[k]? = some x → m.2.2.1 39 (tot t + k) = I (nm x : Nat)) ∧ CNl m nm t
def CNs (m : MS) (nm : Nat → Nat) (sc : SCT) : Prop := m.1 709 = I ((sc.length - 1 : Nat) : Int) ∧ (1 ≤ sc.length ∧ sc.length ≤ 27) ∧ m.1 706 = I (tot sc : Nat) ∧ tot sc ≤ 4000 ∧ CNl m nm sc
def NMJ (nm : Nat → Nat) : Prop := (∀ x y, nm x = nm y → x = y) ∧ ∀ x, nm x ≤ x + 1
def gN : SCT → Nat → Option Nat
  | [], _ => none
  | e :: t, i => if i < tot t then gN t i else e.1[i - tot t]?
def lvi : SCT → Nat → Nat
  | [], _ => 0
  | e :: t, i => if t.length = 0 ∨ tot t ≤ i then t.length else lvi t i
section
variable {m v : MS} {nm : Nat → Nat} {sc t : SCT} {e : List Nat × List Nat × Nat} {s x y N i f tok : Nat}
theorem gN_lt : ∀ {sc : SCT} {i : Nat}, i < tot sc → ∃ y, gN sc i = some y
  | [], _, h => absurd h (Nat.not_lt_zero _)
  | e :: t, i, h => by
    unfold gN
    have h : i < tot t + e.1.length := h
    by_cases z : i < tot t
    · rw [if_pos z]; exact gN_lt z
    · rw [if_neg z]; exact ⟨_, List.getElem?_eq_getElem (by omega)⟩
theorem gN_fnd : ∀ {sc : SCT} {i y : Nat}, gN sc i = some y → fnd y sc
  | [], _, _, h => by cases h
  | e :: t, i, y, h => by
    unfold gN at h
    split at h
    · obtain ⟨d, a, b⟩ := gN_fnd h
      exact ⟨d, List.mem_cons_of_mem _ a, b⟩
    · exact ⟨e, List.mem_cons_self, List.mem_of_getElem? h⟩
theorem cn_at : ∀ {sc : SCT} {i y : Nat}, CNl m nm sc → gN sc i = some y → m.2.2.1 39 i = I (nm y : Nat)
  | [], _, _, _, h => by cases h
  | e :: t, i, y, c, h => by
    unfold gN at h
    split at h
    · exact cn_at c.2.2 h
    · rename_i z
      have := c.2.1 (i - tot t) y h
      rw [show tot t + (i - tot t) = i by omega] at this
      exact this
theorem nmi_i (h : NMJ nm) (hx : x < 1400) (hy : y < 1400) (e : I (nm x : Nat) = I (nm y : Nat)) : x = y := h.1 x y (i_inj (by have := h.2 x; omega) (by have := h.2 y; omega) e)
theorem iB_lv {sc0 : SCT} : ∀ (M : Nat) (sc : SCT), CNl m nm sc → sc ≠ [] → sc.length ≤ 27 → tot sc ≤ 4000 → i ≤ 4000 → PK (fun v r => r = 1 ∧ v = upA m 42 (upd (m.2.2.1 42) (I (tok : Nat)).toNatClampNeg (I (lvi sc i : Nat)))) ((hg_Cm_isBound N M).2 m (I (tok : Nat)) (I (i : Nat)) (I ((sc.length - 1 : Nat) : Int)))
  | 0, _, _, _, _, _, _ => pk_none
  | M + 1, [], _, h, _, _, _ => absurd rfl h
  | M + 1, e :: t, c, _, hl, ht, hi => by
    have hl : t.length + 1 ≤ 27 := hl
    have ht : tot t + e.1.length ≤ 4000 := ht
    show PK _ (hb_Cm_isBound_31 N (hg_Cm_isBound N M) m (I (tok : Nat)) (I (i : Nat)) (I (t.length : Nat)))
    unfold hb_Cm_isBound_31 hb_Cm_isBound_54
    have fin : lvi (e :: t) i = t.length → PK (fun v r => r = 1 ∧ v = upA m 42 (upd (m.2.2.1 42) (I (tok : Nat)).toNatClampNeg (I (lvi (e :: t) i : Nat)))) (ck (inb (I (tok : Nat)) 4002) (lt (upA m 42 (upd (m.2.2.1 42) (I (tok : Nat)).toNatClampNeg (I (t.length : Nat)))) (fun w3 => ck (isb 1) (some (w3, (1 : Int32)))))) := fun z => by
      refine pk_ck (fun _ => pk_ltq (pk_ck (fun _ => pk_some ⟨rfl, ?_⟩)))
      rw [z]
    rw [lit0q, decI (by omega) (by omega) (by omega) (by omega)]
    refine pk_br (fun h1 => ?_) (fun h1 => ?_)
    · have h1 := of_decide_eq_true h1
      exact fin (by unfold lvi; rw [if_pos (Or.inl (by omega))])
    · have h1 := of_decide_eq_false h1
      refine pk_ck (fun _ => ?_)
      rw [tnI (n := t.length) rfl (by omega), c.1, decI (by omega) (by omega) (by omega) (by omega)]
      refine pk_br (fun h2 => ?_) (fun h2 => ?_)
      · have h2 := of_decide_eq_true h2
        exact fin (by unfold lvi; rw [if_pos (Or.inr (by omega))])
      · have h2 := of_decide_eq_false h2
        have t0 : t ≠ [] := fun z => by rw [z] at h1; exact h1 (by decide)
        have e1 : lvi (e :: t) i = lvi t i := by
          conv => lhs; unfold lvi
          rw [if_neg (by omega)]
        rw [e1, show I (t.length : Nat) + -1 = I ((t.length - 1 : Nat) : Int) by rw [show (-1 : Int32) = I (-1) from rfl, I_add]; congr 1; omega]
        exact iB_lv (sc0 := sc0) M t c.2.2 t0 (by omega) (by omega) hi
theorem iB_lp (hn : NMJ nm) (c : CNs m nm sc) (ok : SOK sc) (hx : x < 1400) (hf : f ≤ 4000) : ∀ (M n : Nat), n ≤ tot sc → (∀ j, n ≤ j → j < tot sc → gN sc j ≠ some x) → PK (fun v r => (r = 0 ∧ v = m ∧ ∀ j, f ≤ j → j < tot sc → gN sc j ≠ some x) ∨ (r = 1 ∧ ∃ i, f ≤ i ∧ i < tot sc ∧ gN sc i = some x ∧ (∀ j, i < j → j < tot sc → gN sc j ≠ some x) ∧ v = upA m 42 (upd (m.2.2.1 42) (I (tok : Nat)).toNatClampNeg (I (lvi sc i : Nat))))) ((hg_Cm_isBound N M).1 m (I (nm x : Nat)) (I (tok : Nat)) (I (f : Nat)) (I ((n : Int) - 1)))
  | 0, _, _, _ => pk_none
  | M + 1, n, hn2, hj => by
    obtain ⟨c1, c2, c3, c4, c5⟩ := id c
    show PK _ (hb_Cm_isBound_8 N (hg_Cm_isBound N M) m (I (nm x : Nat)) (I (tok : Nat)) (I (f : Nat)) (I ((n : Int) - 1)))
    unfold hb_Cm_isBound_8
    rw [decL (by omega) (by omega) (by omega) (by omega)]
    refine pk_br (fun h1 => ?_) (fun h1 => ?_)
    · have h1 := of_decide_eq_true h1
      exact pk_ck (fun _ => pk_some (Or.inl ⟨rfl, rfl, fun j hj1 hj2 => hj j (by omega) hj2⟩))
    · have h1 := of_decide_eq_false h1
      refine pk_ck (fun _ => ?_)
      obtain ⟨y, hy⟩ := gN_lt (sc := sc) (i := n - 1) (by omega)
      rw [show ((n : Int) - 1) = ((n - 1 : Nat) : Int) by omega, tnI (n := n - 1) rfl (by omega), cn_at c5 hy]
      refine pk_br (fun h2 => ?_) (fun h2 => ?_)
      · have h2 := of_decide_eq_true h2
        have : y = x := nmi_i hn (fnd_lt ok (gN_fnd hy)) hx h2
        rw [c1]
        refine pk_mo (iB_lv (N := N) (nm := nm) (sc0 := sc) M sc c5 (fun z => by rw [z] at c2; exact absurd c2.1 (by decide)) c2.2 c4 (by omega)) (fun v r q => Or.inr ⟨q.1, n - 1, by omega, by omega, by rw [hy, this], fun j hj1 hj2 => hj j (by omega) hj2, q.2⟩)
      · have h2 := of_decide_eq_false h2
        rw [show I ((n - 1 : Nat) : Int) + -1 = I (((n - 1 : Nat) : Int) - 1) by rw [show (-1 : Int32) = I (-1) from rfl, I_add]; rfl]
        refine iB_lp hn c ok hx hf M (n - 1) (by omega) (fun j hj1 hj2 => ?_)
        by_cases ej : j = n - 1
        · rw [ej, hy]
          intro z
          injection z with z
          exact h2 (by rw [z])
        · exact hj j (by omega) hj2
end
end
section
set_option maxRecDepth 100000
def lvx (x : Nat) : SCT → Nat
  | [] => 0
  | e :: t => if e.1.contains x then t.length else lvx x t
def bnS (x : Nat) : SCT → SCT
  | [] => []
  | e :: t => (e.1 ++ [x], e.2.1, max e.2.2 (e.1.length + 1)) :: t
section
variable {m v : MS} {nm : Nat → Nat} {sc t : SCT} {e : List Nat × List Nat × Nat} {s x y N i f tok : Nat}
theorem lv_e : ∀ {sc : SCT} {i : Nat}, gN sc i = some x → (∀ j, i < j → j < tot sc → gN sc j ≠ some x) → lvi sc i = lvx x sc
  | [], _, h, _ => by cases h
  | e :: t, i, h, hl => by
    unfold lvx
    by_cases c : e.1.contains x = true
    · rw [if_pos c]
      obtain ⟨k, hk, ek⟩ := List.getElem_of_mem (List.contains_iff_mem.mp c)
      have g : gN (e :: t) (tot t + k) = some x := by
        unfold gN
        rw [if_neg (by omega), show tot t + k - tot t = k by omega, List.getElem?_eq_getElem hk, ek]
      have : tot t + k ≤ i := by
        apply Nat.le_of_not_lt
        intro z
        exact hl (tot t + k) z (by show tot t + k < tot t + e.1.length; omega) g
      unfold lvi
      rw [if_pos (Or.inr (by omega))]
    · rw [if_neg c]
      have hi : i < tot t := by
        apply Nat.lt_of_not_le
        intro z
        unfold gN at h
        rw [if_neg (by omega)] at h
        exact c (List.contains_iff_mem.mpr (List.mem_of_getElem? h))
      have h2 : gN t i = some x := by
        unfold gN at h
        rw [if_pos hi] at h
        exact h
      have t0 : t.length ≠ 0 := fun z => by
        rw [List.length_eq_zero_iff.mp z] at h2
        cases h2
      have e1 : lvi (e :: t) i = lvi t i := by
        conv => lhs; unfold lvi
        rw [if_neg (by omega)]
      rw [e1]
      refine lv_e h2 (fun j hj1 hj2 z => ?_)
      refine hl j hj1 (by show j < tot t + e.1.length; omega) ?_
      unfold gN
      rw [if_pos hj2]
      exact z
theorem fnd_gN : ∀ {sc : SCT}, fnd x sc → ∃ i, i < tot sc ∧ gN sc i = some x
  | [], ⟨_, h, _⟩ => absurd h List.not_mem_nil
  | e :: t, ⟨d, hd, hx⟩ => by
    rcases List.mem_cons.mp hd with rfl | hd
    · obtain ⟨k, hk, ek⟩ := List.getElem_of_mem hx
      refine ⟨tot t + k, by show tot t + k < tot t + d.1.length; omega, ?_⟩
      unfold gN
      rw [if_neg (by omega), show tot t + k - tot t = k by omega, List.getElem?_eq_getElem hk, ek]
    · obtain ⟨i, hi, g⟩ := fnd_gN ⟨d, hd, hx⟩
      refine ⟨i, by show i < tot t + e.1.length; omega, ?_⟩
      unfold gN
      rw [if_pos hi]
      exact g
theorem isB_all (hn : NMJ nm) (c : CNs m nm sc) (ok : SOK sc) (hx : x < 1400) (ht : tok ≤ 4001) : PK (fun v r => (r = 0 ∧ v = m ∧ fnb x sc = false) ∨ (r = 1 ∧ fnb x sc = true ∧ v = upA m 42 (upd (m.2.2.1 42) tok (I (lvx x sc : Nat))))) (hm_Cm_isBound N m (I (nm x : Nat)) (I (tok : Nat)) 0) := by
  unfold hm_Cm_isBound hb_Cm_isBound_0
  rw [c.2.2.1, lit1q, I_sub]
  refine pk_mo (iB_lp (N := N) (f := 0) hn c ok hx (by omega) N (tot sc) (Nat.le_refl _) (fun j h1 h2 => absurd h2 (by omega))) (fun v r q => ?_)
  rcases q with ⟨q1, q2, q3⟩ | ⟨q1, i, q2, q3, q4, q5, q6⟩
  · refine Or.inl ⟨q1, q2, ?_⟩
    cases hf : fnb x sc
    · rfl
    · obtain ⟨i, hi, g⟩ := fnd_gN (fnb_e.mp hf)
      exact absurd g (q3 i (Nat.zero_le _) hi)
  · refine Or.inr ⟨q1, fnb_e.mpr (gN_fnd q4), ?_⟩
    rw [q6, lv_e q4 q5, tnI (n := tok) rfl (by omega)]
theorem isB_own (hn : NMJ nm) (c : CNs m nm (e :: t)) (ok : SOK (e :: t)) (hx : x < 1400) (ht : tok ≤ 4001) : PK (fun v r => (r = 0 ∧ v = m ∧ x ∉ e.1) ∨ (r = 1 ∧ x ∈ e.1 ∧ v = upA m 42 (upd (m.2.2.1 42) tok (I (t.length : Nat))))) (hm_Cm_isBound N m (I (nm x : Nat)) (I (tok : Nat)) (I (tot t : Nat))) := by
  unfold hm_Cm_isBound hb_Cm_isBound_0
  have c4 : tot t + e.1.length ≤ 4000 := c.2.2.2.1
  rw [c.2.2.1, lit1q, I_sub]
  refine pk_mo (iB_lp (N := N) (f := tot t) hn c ok hx (by omega) N (tot (e :: t)) (Nat.le_refl _) (fun j h1 h2 => absurd h2 (by omega))) (fun v r q => ?_)
  rcases q with ⟨q1, q2, q3⟩ | ⟨q1, i, q2, q3, q4, q5, q6⟩
  · refine Or.inl ⟨q1, q2, fun hm => ?_⟩
    obtain ⟨k, hk, ek⟩ := List.getElem_of_mem hm
    refine q3 (tot t + k) (by omega) (by show tot t + k < tot t + e.1.length; omega) ?_
    unfold gN
    rw [if_neg (by omega), show tot t + k - tot t = k by omega, List.getElem?_eq_getElem hk, ek]
  · have hm : x ∈ e.1 := by
      unfold gN at q4
      rw [if_neg (by omega)] at q4
      exact List.mem_of_getElem? q4
    refine Or.inr ⟨q1, hm, ?_⟩
    rw [q6, lv_e q4 q5, tnI (n := tok) rfl (by omega)]
    unfold lvx
    rw [if_pos (List.contains_iff_mem.mpr hm)]
end
end
section
set_option maxRecDepth 100000
def rfP (own : Bool) (x : Nat) : SCT → SCT
  | [] => []
  | e :: t => if own then (if e.1.contains x then e :: t else bnS x (e :: t)) else (if fnb x (e :: t) then hld x (e :: t) else bnS x (e :: t))
def rfL (own : Bool) (x : Nat) : SCT → Nat
  | [] => 32
  | e :: t => if own then (if e.1.contains x then t.length else 32) else (if fnb x (e :: t) then lvx x (e :: t) else 32)
def rfX (own : Bool) (x : Nat) : SCT → Nat
  | [] => 0
  | e :: t => if own then (if e.1.contains x then 0 else e.1.length + 1) else (if fnb x (e :: t) then 0 else e.1.length + 1)
def NFR (m v : MS) : Prop := (∀ k, k ≠ 706 → k < 440 ∨ 460 ≤ k → v.1 k = m.1 k) ∧ ∀ k, k < 22 ∨ 36 ≤ k → k ≠ 39 → k ≠ 41 → k ≠ 42 → v.2.2.1 k = m.2.2.1 k
section
variable {m v u : MS} {nm : Nat → Nat} {sc t : SCT} {e : List Nat × List Nat × Nat} {s x y N i f tok cm : Nat}
theorem NFR_rf : NFR m m := ⟨fun _ _ _ => rfl, fun _ _ _ _ _ => rfl⟩
theorem NFR_tr (a : NFR m v) (b : NFR v u) : NFR m u := ⟨fun k h1 h2 => (b.1 k h1 h2).trans (a.1 k h1 h2), fun k h1 h2 h3 h4 => (b.2 k h1 h2 h3 h4).trans (a.2 k h1 h2 h3 h4)⟩
theorem NFR_kn (h : Knc m v) : NFR m v := ⟨fun k _ h2 => h.1 k h2, fun k h1 _ _ _ => h.2 k h1⟩
theorem CNl_fr : ∀ {sc : SCT}, CNl m nm sc → v.2.2.1 40 = m.2.2.1 40 → (∀ j, j < tot sc → v.2.2.1 39 j = m.2.2.1 39 j) → CNl v nm sc
  | [], _, _, _ => trivial
  | e :: t, c, h40, h39 => ⟨by rw [h40]; exact c.1, fun k x hk => by
      have := (List.getElem?_eq_some_iff.mp hk).1
      rw [h39 _ (by show tot t + k < tot t + e.1.length; omega)]; exact c.2.1 k x hk, CNl_fr c.2.2 h40 (fun j hj => h39 j (by show j < tot t + e.1.length; omega))⟩
theorem CNs_kn (c : CNs m nm sc) (h : Knc m v) : CNs v nm sc := ⟨by rw [h.1 _ (by decide)]; exact c.1, c.2.1, by rw [h.1 _ (by decide)]; exact c.2.2.1, c.2.2.2.1, CNl_fr c.2.2.2.2 (h.2 _ (by decide)) (fun j _ => by rw [h.2 _ (by decide)])⟩
theorem CNs_42 {g : Nat → Int32} (c : CNs m nm sc) : CNs (upA m 42 g) nm sc := ⟨c.1, c.2.1, c.2.2.1, c.2.2.2.1, CNl_fr c.2.2.2.2 (upA_no (by decide)) (fun j _ => by rw [upA_no (by decide)])⟩
theorem tot_hld : ∀ {sc : SCT}, tot (hld x sc) = tot sc
  | [] => rfl
  | e :: t => by
    unfold hld
    split
    · rfl
    · split
      · show tot (hld x t) + e.1.length = tot t + e.1.length
        rw [tot_hld]
      · rfl
theorem CNl_hld : ∀ {sc : SCT}, CNl m nm sc → CNl m nm (hld x sc)
  | [], _ => trivial
  | e :: t, c => by
    unfold hld
    split
    · exact c
    · split
      · exact ⟨by rw [hld_len, tot_hld]; exact c.1, fun k y hk => by rw [tot_hld]; exact c.2.1 k y hk, CNl_hld c.2.2⟩
      · exact c
theorem CNs_hld (c : CNs m nm sc) : CNs m nm (hld x sc) := ⟨by rw [hld_len]; exact c.1, by rw [hld_len]; exact c.2.1, by rw [tot_hld]; exact c.2.2.1, by rw [tot_hld]; exact c.2.2.2.1, CNl_hld c.2.2.2.2⟩
theorem bind_c (c : CNs m nm (e :: t)) (h4 : tot (e :: t) < 4000) (hm : m.2.2.1 41 t.length = I (cm : Nat)) (hc : cm ≤ 4000) : PK (fun v _ => CNs v nm (bnS x (e :: t)) ∧ v.2.2.1 41 = upd (m.2.2.1 41) t.length (I ((max cm (e.1.length + 1) : Nat) : Int)) ∧ v.2.2.1 42 = m.2.2.1 42 ∧ NFR m v) (hm_Cm_bind N m (I (nm x : Nat))) := by
  obtain ⟨c1, c2, c3, c4, c5⟩ := c
  have h4 : tot t + e.1.length < 4000 := h4
  have et : tot (e :: t) = tot t + e.1.length := rfl
  have c2 : 1 ≤ t.length + 1 ∧ t.length + 1 ≤ 27 := c2
  have c1 : m.1 709 = I (t.length : Nat) := c1
  unfold hm_Cm_bind hb_Cm_bind_0 hb_Cm_bind_32
  rw [c3, show (4000 : Int32) = I 4000 from rfl, decide_eq_false (fun z => by
    have := (I_le (by omega) (by omega) (by omega) (by omega)).mp z
    omega)]
  show PK _ (ck _ _)
  refine pk_ck (fun _ => pk_ltq (pk_ltq (pk_ck (fun _ => pk_ck (fun _ => pk_ltq (pk_ck (fun _ => pk_ltq (pk_some ?_))))))))
  rw [tnI (n := tot (e :: t)) rfl (by omega)]
  have e9 : ∀ g : Nat → Int32, (upI (upA m 39 g) 706 ((upA m 39 g).1 706 + 1)).1 709 = I (t.length : Nat) := fun g => by rw [upI_ne (by decide)]; exact c1
  have e6 : ∀ g : Nat → Int32, (upI (upA m 39 g) 706 ((upA m 39 g).1 706 + 1)).1 706 = I ((tot (e :: t) + 1 : Nat) : Int) := fun g => by rw [upI_at]; show m.1 706 + 1 = _; rw [c3, i_suc]
  have e40 : ∀ g : Nat → Int32, (upI (upA m 39 g) 706 ((upA m 39 g).1 706 + 1)).2.2.1 40 = m.2.2.1 40 := fun g => upA_no (by decide)
  have e41 : ∀ g : Nat → Int32, (upI (upA m 39 g) 706 ((upA m 39 g).1 706 + 1)).2.2.1 41 = m.2.2.1 41 := fun g => upA_no (by decide)
  rw [e9, tnI (n := t.length) rfl (by omega), e6, e40, e41, c5.1, hm, I_sub, show ((tot (e :: t) + 1 : Nat) : Int) - (tot t : Nat) = ((e.1.length + 1 : Nat) : Int) by omega]
  have ey : (if I (cm : Nat) < I ((e.1.length + 1 : Nat) : Int) then I ((e.1.length + 1 : Nat) : Int) else I (cm : Nat)) = I ((max cm (e.1.length + 1) : Nat) : Int) := by
    by_cases z : cm < e.1.length + 1
    · rw [if_pos ((I_lt (by omega) (by omega) (by omega) (by omega)).mpr (by omega)), Nat.max_eq_right (by omega)]
    · rw [if_neg (fun y => z (by have := (I_lt (by omega) (by omega) (by omega) (by omega)).mp y; omega)), Nat.max_eq_left (by omega)]
  rw [ey]
  generalize hg : upd (m.2.2.1 39) (tot (e :: t)) (I (nm x : Nat)) = g
  refine ⟨⟨by rw [show (upA (upI (upA m 39 g) 706 ((upA m 39 g).1 706 + 1)) 41 (upd (m.2.2.1 41) t.length (I ((max cm (e.1.length + 1) : Nat) : Int)))).1 709 = I (t.length : Nat) from e9 g]; rfl, c2, by
    show (upI (upA m 39 g) 706 ((upA m 39 g).1 706 + 1)).1 706 = _
    rw [e6]
    congr 2
    show tot t + e.1.length + 1 = tot t + (e.1 ++ [x]).length
    rw [List.length_append, List.length_singleton]; omega, by
    show tot t + (e.1 ++ [x]).length ≤ 4000
    rw [List.length_append, List.length_singleton]; omega, ⟨by rw [upA_no (by decide), e40]; exact c5.1, fun k y hk => ?_, CNl_fr c5.2.2 (by rw [upA_no (by decide), e40]) (fun j hj => ?_)⟩⟩, upA_at, by rw [upA_no (by decide)]; exact upA_no (by decide), ⟨fun k h1 _ => upI_ne h1, fun k h1 h2 h3 h5 => by rw [upA_no h3]; exact upA_no h2⟩⟩
  · have hk : (e.1 ++ [x])[k]? = some y := hk
    rw [upA_no (by decide)]
    show (upA m 39 g).2.2.1 39 (tot t + k) = _
    rw [upA_at, ← hg]
    by_cases ek : k < e.1.length
    · rw [upd_no (by rw [et]; omega)]
      rw [List.getElem?_append_left ek] at hk
      exact c5.2.1 k y hk
    · have hk2 := (List.getElem?_eq_some_iff.mp hk).1
      rw [List.length_append, List.length_singleton] at hk2
      have : k = e.1.length := by omega
      rw [this, et, upd_at]
      rw [this, List.getElem?_append_right (Nat.le_refl _), Nat.sub_self] at hk
      injection hk with hk
      rw [hk]
  · rw [upA_no (by decide)]
    show (upA m 39 g).2.2.1 39 j = _
    rw [upA_at, ← hg, upd_no (by rw [et]; omega)]
end
end
section
set_option maxRecDepth 100000
section
variable {m v u : MS} {nm : Nat → Nat} {sc t : SCT} {e : List Nat × List Nat × Nat} {s x y N i f tok cm : Nat}
theorem upd_id {g : Nat → Int32} {y : Int32} (h : g i = y) : upd g i y = g := by
  funext j
  by_cases e : j = i
  · rw [e, upd_at, h]
  · exact upd_no e
theorem upd_tw {g : Nat → Int32} {a b : Int32} : upd (upd g i a) i b = upd g i b := by
  funext j
  by_cases e : j = i
  · rw [e, upd_at, upd_at]
  · rw [upd_no e, upd_no e, upd_no e]
theorem rf_n (h : fnb x (e :: t) = false) : rfP false x (e :: t) = bnS x (e :: t) ∧ rfX false x (e :: t) = e.1.length + 1 ∧ rfL false x (e :: t) = 32 := by
  refine ⟨?_, ?_, ?_⟩
  · show (if false = true then (if e.1.contains x then e :: t else bnS x (e :: t)) else (if fnb x (e :: t) then hld x (e :: t) else bnS x (e :: t))) = _
    rw [h]; rfl
  · show (if false = true then (if e.1.contains x then 0 else e.1.length + 1) else (if fnb x (e :: t) then 0 else e.1.length + 1)) = _
    rw [h]; rfl
  · show (if false = true then (if e.1.contains x then t.length else 32) else (if fnb x (e :: t) then lvx x (e :: t) else 32)) = _
    rw [h]; rfl
theorem rf_y (h : fnb x (e :: t) = true) : rfP false x (e :: t) = hld x (e :: t) ∧ rfX false x (e :: t) = 0 ∧ rfL false x (e :: t) = lvx x (e :: t) := by
  refine ⟨?_, ?_, ?_⟩
  · show (if false = true then (if e.1.contains x then e :: t else bnS x (e :: t)) else (if fnb x (e :: t) then hld x (e :: t) else bnS x (e :: t))) = _
    rw [h]; rfl
  · show (if false = true then (if e.1.contains x then 0 else e.1.length + 1) else (if fnb x (e :: t) then 0 else e.1.length + 1)) = _
    rw [h]; rfl
  · show (if false = true then (if e.1.contains x then t.length else 32) else (if fnb x (e :: t) then lvx x (e :: t) else 32)) = _
    rw [h]; rfl
theorem ro_n (h : e.1.contains x = false) : rfP true x (e :: t) = bnS x (e :: t) ∧ rfX true x (e :: t) = e.1.length + 1 ∧ rfL true x (e :: t) = 32 := by
  refine ⟨?_, ?_, ?_⟩
  · show (if true = true then (if e.1.contains x then e :: t else bnS x (e :: t)) else (if fnb x (e :: t) then hld x (e :: t) else bnS x (e :: t))) = _
    rw [h]; rfl
  · show (if true = true then (if e.1.contains x then 0 else e.1.length + 1) else (if fnb x (e :: t) then 0 else e.1.length + 1)) = _
    rw [h]; rfl
  · show (if true = true then (if e.1.contains x then t.length else 32) else (if fnb x (e :: t) then lvx x (e :: t) else 32)) = _
    rw [h]; rfl
theorem ro_y (h : e.1.contains x = true) : rfP true x (e :: t) = e :: t ∧ rfX true x (e :: t) = 0 ∧ rfL true x (e :: t) = t.length := by
  refine ⟨?_, ?_, ?_⟩
  · show (if true = true then (if e.1.contains x then e :: t else bnS x (e :: t)) else (if fnb x (e :: t) then hld x (e :: t) else bnS x (e :: t))) = _
    rw [h]; rfl
  · show (if true = true then (if e.1.contains x then 0 else e.1.length + 1) else (if fnb x (e :: t) then 0 else e.1.length + 1)) = _
    rw [h]; rfl
  · show (if true = true then (if e.1.contains x then t.length else 32) else (if fnb x (e :: t) then lvx x (e :: t) else 32)) = _
    rw [h]; rfl
def NPQ (nm : Nat → Nat) (s : Nat) (sc2 : SCT) (cm2 : Nat) (g : Nat → Int32) (m v : MS) : Prop := CNs v nm sc2 ∧ v.2.2.1 41 = upd (m.2.2.1 41) s (I (cm2 : Nat)) ∧ v.2.2.1 42 = g ∧ NFR m v
theorem NPQ_kn {sc2 : SCT} {cm2 : Nat} {g : Nat → Int32} (q : NPQ nm s sc2 cm2 g m v) (h : Knc v u) : NPQ nm s sc2 cm2 g m u := ⟨CNs_kn q.1 h, by rw [h.2 _ (by decide)]; exact q.2.1, by rw [h.2 _ (by decide)]; exact q.2.2.1, NFR_tr q.2.2.2 (NFR_kn h)⟩
theorem put2 {sc2 : SCT} {cm2 : Nat} {g : Nat → Int32} {a b : Int32} {f : MS → Unit → Option (MS × Unit)} {Q : MS → Unit → Prop} (q : NPQ nm s sc2 cm2 g m v) (k : ∀ u, NPQ nm s sc2 cm2 g m u → PK Q (f u ())) : PK Q (bnd (hm_Co_put N v a) (fun u3 _ => bnd (hm_Co_put N u3 b) (fun u6 r6 => f u6 r6))) := by
  refine pk_bnd (fun w1 r1 e1 => pk_bnd (fun w2 r2 e2 => ?_))
  exact k w2 (NPQ_kn (NPQ_kn q (yn_hm_Co_put (u0 := v) Kn_rf w1 r1 e1)) (yn_hm_Co_put (u0 := w1) Kn_rf w2 r2 e2))
theorem nIP_c {own : Bool} (hn : NMJ nm) (c : CNs m nm (e :: t)) (ok : SOK (e :: t)) (hx : x < 1400) (hx0 : nm x ≠ 0) (ht : tok ≤ 4001) (h4 : tot (e :: t) < 4000) (hm : m.2.2.1 41 t.length = I (cm : Nat)) (hc : cm ≤ 4000) (ho : decide (m.1 713 = 0) = !own) : PK (fun v _ => NPQ nm t.length (rfP own x (e :: t)) (max cm (rfX own x (e :: t))) (upd (m.2.2.1 42) tok (I (rfL own x (e :: t) : Nat))) m v) (hm_Cm_nameInPattern N m (I (nm x : Nat)) (I (tok : Nat))) := by
  have c2 : 1 ≤ t.length + 1 ∧ t.length + 1 ≤ 27 := c.2.1
  have c1 : m.1 709 = I (t.length : Nat) := c.1
  unfold hm_Cm_nameInPattern hb_Cm_nameInPattern_0 hb_Cm_nameInPattern_92
  refine pk_ck (fun _ => pk_ltq ?_)
  rw [tnI (n := tok) rfl (by omega), decide_eq_false (p := I (nm x : Nat) = 0) (fun z => hx0 (i_inj (b := 0) (by have := hn.2 x; omega) (by omega) z))]
  generalize hw : upA m 42 (upd (m.2.2.1 42) tok 32) = w
  have cw : CNs w nm (e :: t) := by rw [← hw]; exact CNs_42 c
  have w41 : w.2.2.1 41 = m.2.2.1 41 := by rw [← hw]; exact upA_no (by decide)
  have w42 : w.2.2.1 42 = upd (m.2.2.1 42) tok (I (32 : Nat)) := by rw [← hw]; exact upA_at
  have nw : NFR m w := by rw [← hw]; exact ⟨fun _ _ _ => rfl, fun k _ _ _ h => upA_no h⟩
  have w13 : w.1 713 = m.1 713 := by rw [← hw]; rfl
  show PK _ (br (decide (w.1 713 = 0)) (hb_Cm_nameInPattern_46 N () w (I (nm x : Nat)) (I (nm x : Nat)) (I (tok : Nat)) 0) (ck (inb (w.1 709) 32) (hb_Cm_nameInPattern_46 N () w (I (nm x : Nat)) (I (nm x : Nat)) (I (tok : Nat)) (w.2.2.1 40 (w.1 709).toNatClampNeg))))
  have same : ∀ {lv : Nat}, NPQ nm t.length (e :: t) cm (upd (m.2.2.1 42) tok (I (lv : Nat))) m (upA w 42 (upd (w.2.2.1 42) tok (I (lv : Nat)))) := fun {lv} => ⟨CNs_42 cw, by rw [upA_no (by decide), w41, upd_id hm], by rw [upA_at, w42, upd_tw], NFR_tr nw ⟨fun _ _ _ => rfl, fun k _ _ _ h => upA_no h⟩⟩
  have new : PK (fun v _ => NPQ nm t.length (bnS x (e :: t)) (max cm (e.1.length + 1)) (upd (m.2.2.1 42) tok (I (32 : Nat))) m v) (bnd (hm_Co_put N w 4) (fun u3 r3 => bnd (hm_Co_put N u3 (I (nm x : Nat))) (fun u6 r6 => bnd (hm_Cm_bind N u6 (I (nm x : Nat))) (fun u8 r8 => some (u8, ()))))) := by
    have q0 : NPQ nm t.length (e :: t) cm (upd (m.2.2.1 42) tok (I (32 : Nat))) m w := ⟨cw, by rw [w41, upd_id hm], w42, nw⟩
    refine put2 (N := N) q0 (f := fun u6 _ => bnd (hm_Cm_bind N u6 (I (nm x : Nat))) (fun u8 r8 => some (u8, ()))) (fun u6 q6 => ?_)
    have h41 : u6.2.2.1 41 t.length = I (cm : Nat) := by rw [q6.2.1, upd_at]
    refine pk_bnd (pk_mo (bind_c (N := N) (x := x) q6.1 h4 h41 hc) (fun u8 _ q8 => pk_some ⟨q8.1, ?_, ?_, NFR_tr q6.2.2.2 q8.2.2.2⟩))
    · rw [q8.2.1, q6.2.1, upd_tw]
    · rw [q8.2.2.1, q6.2.2.1]
  cases own with
  | false =>
    rw [w13, ho]
    show PK _ (hb_Cm_nameInPattern_46 N () w (I (nm x : Nat)) (I (nm x : Nat)) (I (tok : Nat)) 0)
    unfold hb_Cm_nameInPattern_46 hb_Cm_nameInPattern_92
    refine pk_bnd (pk_mo (isB_all (N := N) hn cw ok hx ht) (fun v r q => ?_))
    rcases q with ⟨q1, q2, q3⟩ | ⟨q1, q2, q3⟩
    · rw [decide_eq_true q1, q2]
      refine pk_mo new (fun v _ q => ?_)
      rw [(rf_n q3).1, (rf_n q3).2.1, (rf_n q3).2.2]
      exact q
    · rw [q1]
      show PK _ (bnd (hm_Co_put N v 3) (fun u10 r10 => bnd (hm_Co_put N u10 (I (nm x : Nat))) (fun u13 r13 => some (u13, ()))))
      rw [q3]
      refine put2 (N := N) same (f := fun u6 _ => some (u6, ())) (fun u6 q6 => pk_some ?_)
      rw [(rf_y q2).1, (rf_y q2).2.1, (rf_y q2).2.2]
      show NPQ nm t.length (hld x (e :: t)) (max cm 0) (upd (m.2.2.1 42) tok (I (lvx x (e :: t) : Nat))) m u6
      rw [Nat.max_eq_left (Nat.zero_le _)]
      exact ⟨CNs_hld q6.1, q6.2⟩
  | true =>
    rw [w13, ho]
    show PK _ (ck (inb (w.1 709) 32) (hb_Cm_nameInPattern_46 N () w (I (nm x : Nat)) (I (nm x : Nat)) (I (tok : Nat)) (w.2.2.1 40 (w.1 709).toNatClampNeg)))
    refine pk_ck (fun _ => ?_)
    have w9 : w.1 709 = I (t.length : Nat) := cw.1
    rw [w9, tnI (n := t.length) rfl (by omega), cw.2.2.2.2.1]
    unfold hb_Cm_nameInPattern_46 hb_Cm_nameInPattern_92
    refine pk_bnd (pk_mo (isB_own (N := N) hn cw ok hx ht) (fun v r q => ?_))
    rcases q with ⟨q1, q2, q3⟩ | ⟨q1, q2, q3⟩
    · rw [decide_eq_true q1, q2]
      refine pk_mo new (fun v _ q => ?_)
      have c0 : e.1.contains x = false := by simpa using q3
      rw [(ro_n c0).1, (ro_n c0).2.1, (ro_n c0).2.2]
      exact q
    · rw [q1]
      show PK _ (bnd (hm_Co_put N v 3) (fun u10 r10 => bnd (hm_Co_put N u10 (I (nm x : Nat))) (fun u13 r13 => some (u13, ()))))
      rw [q3]
      refine put2 (N := N) same (f := fun u6 _ => some (u6, ())) (fun u6 q6 => pk_some ?_)
      have c0 := List.contains_iff_mem.mpr q2
      rw [(ro_y c0).1, (ro_y c0).2.1, (ro_y c0).2.2]
      show NPQ nm t.length (e :: t) (max cm 0) (upd (m.2.2.1 42) tok (I (t.length : Nat))) m u6
      rw [Nat.max_eq_left (Nat.zero_le _)]
      exact q6
end
end
section
set_option maxRecDepth 100000
section
variable {w v u : MS} {sc t : SCT} {e : List Nat × List Nat × Nat} {s x y N : Nat}
theorem bnS_ok (ok : SOK (e :: t)) (hx : x < 1400) (nx : x ∉ e.1) : SOK (bnS x (e :: t)) := by
  obtain ⟨⟨n1, n2, n3, n4, n5, n6, n7⟩, ok2⟩ := ok
  have nd : (e.1 ++ [x]).Nodup := by
    rw [List.nodup_append]
    refine ⟨n1, List.nodup_cons.mpr ⟨List.not_mem_nil, List.nodup_nil⟩, fun a ha b hb => ?_⟩
    rw [List.mem_singleton.mp hb]
    exact fun z => nx (by rw [← z]; exact ha)
  have lt : ∀ y, y ∈ e.1 ++ [x] → y < 1400 := fun y hy => by
    rcases List.mem_append.mp hy with h | h
    · exact n2 y h
    · rw [List.mem_singleton.mp h]; exact hx
  have ln := nd_len 1400 _ nd lt
  have l1 : (e.1 ++ [x]).length = e.1.length + 1 := by rw [List.length_append, List.length_singleton]
  refine ⟨⟨nd, lt, n3, ?_, ?_, n6, n7⟩, ok2⟩
  · show (e.1 ++ [x]).length ≤ max e.2.2 (e.1.length + 1)
    rw [l1]; exact Nat.le_max_right _ _
  · show max e.2.2 (e.1.length + 1) ≤ 1400
    exact Nat.max_le.mpr ⟨n5, by omega⟩
theorem bind_m (h : RNs w (e :: t)) (hx : x < 1400) (nx : x ∉ e.1) : PK (fun v _ => RNs v (bnS x (e :: t)) ∧ v.1 66 = (if 40 < max e.2.2 (e.1.length + 1) then 1 else w.1 66) ∧ (∀ k, k ≠ 66 → v.1 k = w.1 k) ∧ ∀ k, k ≠ 59 → k ≠ 60 → k ≠ 64 → v.2.2.1 k = w.2.2.1 k) (fm_M_bind N w (I (x : Nat))) := by
  obtain ⟨r1, r2, ⟨⟨a1, a2, a3, a4, a5⟩, r3⟩, ok⟩ := h
  obtain ⟨⟨n1, n2, n3, n4, n5, n6, n7⟩, ok2⟩ := id ok
  have okb := bnS_ok ok hx nx
  have l0 := nd_len 1400 _ n1 n2
  have r2 : 1 ≤ t.length + 1 ∧ t.length + 1 ≤ 27 := r2
  have r1 : w.1 65 = I (t.length : Nat) := r1
  have e0 : (1400 : Int32) * I (t.length : Nat) + I (e.1.length : Nat) = I ((1400 * t.length + e.1.length : Nat) : Int) := by
    rw [show (1400 : Int32) = I 1400 from rfl, I_mul, I_add]
    congr 1
  unfold fm_M_bind fb_M_bind_0
  rw [r1]
  refine pk_ck (fun _ => pk_ck (fun _ => pk_ltq (pk_ck (fun _ => pk_ck (fun _ => pk_ltq (pk_ck (fun _ => pk_ck (fun _ => ?_))))))))
  rw [tnI (n := t.length) rfl (by omega), a1, e0, tnI (n := 1400 * t.length + e.1.length) rfl (by omega)]
  generalize hg : upd (w.2.2.1 59) (1400 * t.length + e.1.length) (I (x : Nat)) = g
  have b5 : (upA w 59 g).1 65 = I (t.length : Nat) := r1
  have b60 : (upA w 59 g).2.2.1 60 = w.2.2.1 60 := upA_no (by decide)
  rw [b5, tnI (n := t.length) rfl (by omega), b60, a1, i_suc]
  generalize hg2 : upd (w.2.2.1 60) t.length (I ((e.1.length + 1 : Nat) : Int)) = g2
  have c5 : (upA (upA w 59 g) 60 g2).1 65 = I (t.length : Nat) := r1
  have c60 : (upA (upA w 59 g) 60 g2).2.2.1 60 t.length = I ((e.1.length + 1 : Nat) : Int) := by rw [upA_at, ← hg2, upd_at]
  have c64 : (upA (upA w 59 g) 60 g2).2.2.1 64 t.length = I (e.2.2 : Nat) := by rw [upA_no (by decide), upA_no (by decide)]; exact a5
  rw [c5, tnI (n := t.length) rfl (by omega), c60, c64, decI (by omega) (by omega) (by omega) (by omega)]
  have fin : ∀ k : Nat, k = max e.2.2 (e.1.length + 1) → PK (fun v _ => RNs v (bnS x (e :: t)) ∧ v.1 66 = (if 40 < max e.2.2 (e.1.length + 1) then 1 else w.1 66) ∧ (∀ k, k ≠ 66 → v.1 k = w.1 k) ∧ ∀ k, k ≠ 59 → k ≠ 60 → k ≠ 64 → v.2.2.1 k = w.2.2.1 k) (fb_M_bind_87 N () (upA (upA w 59 g) 60 g2) 64 (I (t.length : Nat)) (I (k : Nat))) := fun k hk => by
    have hk2 : k ≤ 1400 := by rw [hk]; exact okb.1.2.2.2.2.1
    unfold fb_M_bind_87 fb_M_bind_107
    refine pk_ck (fun _ => pk_ck (fun _ => pk_ltq ?_))
    rw [tnI (n := t.length) rfl (by omega)]
    generalize hg3 : upd ((upA (upA w 59 g) 60 g2).2.2.1 64) t.length (I (k : Nat)) = g3
    have d5 : (upA (upA (upA w 59 g) 60 g2) 64 g3).1 65 = I (t.length : Nat) := r1
    have d64 : (upA (upA (upA w 59 g) 60 g2) 64 g3).2.2.1 64 t.length = I (k : Nat) := by rw [upA_at, ← hg3, upd_at]
    have rn : ∀ v : MS, v.1 65 = w.1 65 → v.2.2.1 = (upA (upA (upA w 59 g) 60 g2) 64 g3).2.2.1 → RNs v (bnS x (e :: t)) := fun v v1 v2 => by
      have p59 : v.2.2.1 59 = g := by rw [v2, upA_no (by decide), upA_no (by decide), upA_at]
      have p60 : v.2.2.1 60 = g2 := by rw [v2, upA_no (by decide), upA_at]
      have p64 : v.2.2.1 64 = upd (w.2.2.1 64) t.length (I (k : Nat)) := by rw [v2, upA_at, ← hg3, upA_no (by decide), upA_no (by decide)]
      have po : ∀ j, j ≠ 59 → j ≠ 60 → j ≠ 64 → v.2.2.1 j = w.2.2.1 j := fun j j1 j2 j3 => by rw [v2, upA_no j3, upA_no j2, upA_no j1]
      have l1 : (e.1 ++ [x]).length = e.1.length + 1 := by rw [List.length_append, List.length_singleton]
      refine ⟨by rw [v1, r1]; rfl, r2, ⟨⟨?_, fun j y hj => ?_, ?_, fun j y hj => ?_, ?_⟩, RNl_fr ok2 r3 (fun j hj => ⟨?_, ?_, ?_⟩) (fun j hj => ⟨?_, ?_⟩)⟩, okb⟩
      · show v.2.2.1 60 t.length = I (((e.1 ++ [x]).length : Nat) : Int)
        rw [p60, ← hg2, upd_at, l1]
      · have hj : (e.1 ++ [x])[j]? = some y := hj
        rw [p59, ← hg]
        by_cases ek : j < e.1.length
        · rw [upd_no (by omega)]
          rw [List.getElem?_append_left ek] at hj
          exact a2 j y hj
        · have hk2 := (List.getElem?_eq_some_iff.mp hj).1
          rw [l1] at hk2
          have : j = e.1.length := by omega
          rw [this, upd_at]
          rw [this, List.getElem?_append_right (Nat.le_refl _), Nat.sub_self] at hj
          injection hj with hj
          rw [hj]
      · rw [po 63 (by decide) (by decide) (by decide)]; exact a3
      · rw [po 61 (by decide) (by decide) (by decide)]; exact a4 j y hj
      · rw [p64, upd_at, hk]
      · rw [p60, ← hg2, upd_no (by omega)]
      · rw [po 63 (by decide) (by decide) (by decide)]
      · rw [p64, upd_no (by omega)]
      · rw [p59, ← hg, upd_no (by omega)]
      · rw [po 61 (by decide) (by decide) (by decide)]
    refine pk_ck (fun _ => ?_)
    rw [d5, tnI (n := t.length) rfl (by omega), d64, show (40 : Int32) = I 40 from rfl, decI (by omega) (by omega) (by omega) (by omega)]
    refine pk_br (fun h1 => ?_) (fun h1 => ?_)
    · have h1 := of_decide_eq_true h1
      refine pk_ck (fun _ => pk_some ⟨rn _ rfl rfl, ?_, fun _ _ => rfl, fun j j1 j2 j3 => by rw [upA_no j3, upA_no j2, upA_no j1]⟩)
      rw [if_neg (by omega)]; rfl
    · have h1 := of_decide_eq_false h1
      refine pk_ltq (pk_ck (fun _ => pk_some ⟨rn _ (upI_ne (by decide)) rfl, ?_, fun j hj => upI_ne hj, fun j j1 j2 j3 => by
        show (upA (upA (upA w 59 g) 60 g2) 64 g3).2.2.1 j = _
        rw [upA_no j3, upA_no j2, upA_no j1]⟩))
      rw [if_pos (by omega)]; exact upI_at
  refine pk_br (fun h1 => ?_) (fun h1 => ?_)
  · have h1 := of_decide_eq_true h1
    exact pk_ck (fun _ => fin e.2.2 (by rw [Nat.max_eq_left (by omega)]))
  · have h1 := of_decide_eq_false h1
    exact pk_ck (fun _ => fin (e.1.length + 1) (by rw [Nat.max_eq_right (by omega)]))
end
end
section
set_option maxRecDepth 100000
def UND (w : MS) (x : Nat) : Prop := w.2.2.1 16 (x + 1) - w.2.2.1 16 x = 1 ∧ w.2.2.1 15 (w.2.2.1 16 x).toNatClampNeg = 95
def WNQ (K : Nat → Nat) (T p : Nat) (sc2 : SCT) (lg : Int32) (w v : MS) : Prop := WP v K T p ∧ RNs v sc2 ∧ v.1 66 = lg ∧ (∀ k, k ∉ [32, 39, 66, 69] → v.1 k = w.1 k) ∧ ∀ k, k < 23 ∨ 65 ≤ k → v.2.2.1 k = w.2.2.1 k
section
variable {w v u : MS} {K : Nat → Nat} {nm : Nat → Nat} {sc t : SCT} {e : List Nat × List Nat × Nat} {s x y N T p : Nat}
theorem RNl_e : ∀ {sc : SCT}, RNl w sc → v.2.2.1 59 = w.2.2.1 59 → v.2.2.1 60 = w.2.2.1 60 → v.2.2.1 61 = w.2.2.1 61 → v.2.2.1 63 = w.2.2.1 63 → v.2.2.1 64 = w.2.2.1 64 → RNl v sc
  | [], _, _, _, _, _, _ => trivial
  | e :: t, h, a, b, c, d, f => ⟨⟨by rw [b]; exact h.1.1, by rw [a]; exact h.1.2.1, by rw [d]; exact h.1.2.2.1, by rw [c]; exact h.1.2.2.2.1, by rw [f]; exact h.1.2.2.2.2⟩, RNl_e h.2 a b c d f⟩
theorem RNs_e (h : RNs w sc) (h65 : v.1 65 = w.1 65) (hr : ∀ k, 59 ≤ k → k ≤ 64 → v.2.2.1 k = w.2.2.1 k) : RNs v sc := ⟨by rw [h65]; exact h.1, h.2.1, RNl_e h.2.2.1 (hr _ (by decide) (by decide)) (hr _ (by decide) (by decide)) (hr _ (by decide) (by decide)) (hr _ (by decide) (by decide)) (hr _ (by decide) (by decide)), h.2.2.2⟩
theorem WP_e {q : Nat} (h : WP w K T p) (h69 : v.1 69 = I (q : Nat)) (hq : q ≤ T) (h6 : v.2.2.1 6 = w.2.2.1 6) (h7 : v.2.2.1 7 = w.2.2.1 7) : WP v K T q := ⟨⟨h.1.1, by rw [h6]; exact h.1.2.1, by rw [h7]; exact h.1.2.2⟩, h69, hq⟩
theorem und_p (hx : x < 1400) (hp : p ≤ 4001) (h7 : w.2.2.1 7 p = I (x : Nat)) : PK (fun v r => v = w ∧ ((r = 1 ∧ UND w x) ∨ (r = 0 ∧ ¬ UND w x))) (fm_M_isUnderscore N w (I (p : Nat))) := by
  unfold fm_M_isUnderscore fb_M_isUnderscore_0 fb_M_isUnderscore_46 fb_M_isUnderscore_47
  rw [tnI (n := p) rfl (by omega), h7, i_suc, tnI (n := x + 1) rfl (by omega), tnI (n := x) rfl (by omega)]
  refine pk_ck (fun _ => pk_ck (fun _ => pk_ck (fun _ => pk_br (fun h1 => ?_) (fun h1 => ?_))))
  · refine pk_ck (fun _ => pk_ck (fun _ => pk_br (fun h2 => ?_) (fun h2 => ?_)))
    · exact pk_ck (fun _ => pk_some ⟨rfl, Or.inl ⟨rfl, of_decide_eq_true h1, of_decide_eq_true h2⟩⟩)
    · exact pk_ck (fun _ => pk_some ⟨rfl, Or.inr ⟨rfl, fun z => of_decide_eq_false h2 z.2⟩⟩)
  · exact pk_ck (fun _ => pk_some ⟨rfl, Or.inr ⟨rfl, fun z => of_decide_eq_false h1 z.1⟩⟩)
theorem nP_105 {sc2 : SCT} {lg r : Int32} (q : WNQ K T p sc2 lg w v) (hl : p < T) : PK (fun u _ => WNQ K T (p + 1) sc2 lg w u) (fb_M_namePattern_105 N () v r) := by
  obtain ⟨q1, q2, q3, q4, q5⟩ := q
  unfold fb_M_namePattern_105
  refine pk_ltq (pk_some ⟨WP_e q1 (by rw [upI_at, q1.2.1, i_suc]) hl rfl rfl, RNs_e q2 (upI_ne (by decide)) (fun _ _ _ => rfl), by rw [upI_ne (by decide)]; exact q3, fun k hk => ?_, q5⟩)
  rw [upI_ne (fun z => hk (by rw [z]; decide))]
  exact q4 k hk
theorem nP_104 {sc2 : SCT} {lg r a b : Int32} (q : WNQ K T p sc2 lg w v) (hl : p < T) : PK (fun u _ => WNQ K T (p + 1) sc2 lg w u) (fb_M_namePattern_104 N () v r 35 a b) := by
  obtain ⟨q1, q2, q3, q4, q5⟩ := q
  unfold fb_M_namePattern_104
  refine pk_ck (fun _ => pk_ck (fun _ => pk_ltq (nP_105 ⟨WP_e q1 q1.2.1 q1.2.2 (upA_no (by decide)) (upA_no (by decide)), RNs_e q2 rfl (fun k h1 h2 => upA_no (by omega)), q3, q4, fun k hk => ?_⟩ hl)))
  rw [upA_no (by omega)]
  exact q5 k hk
theorem pat_q {sc2 : SCT} {lg r : Int32} (q : WNQ K T p sc2 lg w v) : PK (fun u _ => WNQ K T p sc2 lg w u ∧ u.2.2.1 7 = v.2.2.1 7 ∧ Krc v u) (fm_M_pattern N v r) := fun u r1 e1 => by
  obtain ⟨q1, q2, q3, q4, q5⟩ := q
  have f := yr_fm_M_pattern (u0 := v) Kr_rf u r1 e1
  exact ⟨⟨WP_e q1 (by rw [f.1 69 (by decide)]; exact q1.2.1) q1.2.2 (f.2 6 (by decide)) (f.2 7 (by decide)), RNs_e q2 (f.1 65 (by decide)) (fun k h1 h2 => f.2 k (by omega)), by rw [f.1 66 (by decide)]; exact q3, fun k hk => by rw [f.1 k (by simp only [List.mem_cons, List.not_mem_nil, or_false] at hk ⊢; omega)]; exact q4 k hk, fun k hk => by rw [f.2 k (by omega)]; exact q5 k hk⟩, f.2 7 (by decide), f⟩
def lgX (e : List Nat × List Nat × Nat) (X : Nat) (g : Int32) : Int32 := if 0 < X ∧ 40 < max e.2.2 X then 1 else g
theorem WNQ_0 (h : WP w K T p) (hn : RNs w sc) : WNQ K T p sc (w.1 66) w w := ⟨h, hn, rfl, fun _ _ => rfl, fun _ _ => rfl⟩
theorem nP_61 {own : Bool} {r : Int32} (hr : (r = -1 ∧ rfP own x (e :: t) = bnS x (e :: t) ∧ rfX own x (e :: t) = e.1.length + 1 ∧ x ∉ e.1 ∧ WNQ K T p (e :: t) (w.1 66) w v) ∨ (r ≠ -1 ∧ rfX own x (e :: t) = 0 ∧ WNQ K T p (rfP own x (e :: t)) (w.1 66) w v)) (hl : p < T) (hx : x < 1400) (h7 : v.2.2.1 7 p = I (x : Nat)) : PK (fun u _ => WNQ K T (p + 1) (rfP own x (e :: t)) (lgX e (rfX own x (e :: t)) (w.1 66)) w u) (fb_M_namePattern_61 N () v r) := by
  unfold fb_M_namePattern_61 fb_M_namePattern_73
  rcases hr with ⟨h1, h2, h3, h4, q⟩ | ⟨h1, h3, q⟩
  · rw [decide_eq_true h1]
    rw [br_tq]
    refine pk_bnd (pk_mo (pat_q (N := N) q) (fun u3 r3 q3 => ?_))
    obtain ⟨⟨a1, a2, a3, a4, a5⟩, b7, -⟩ := q3
    rw [br_tq]
    refine pk_ck (fun _ => ?_)
    have tp := a1.1.1.1
    rw [(WP_i a1).2.1, b7, h7]
    refine pk_bnd (pk_mo (bind_m (N := N) a2 hx h4) (fun u4 r4 q4 => ?_))
    obtain ⟨c1, c2, c3, c4⟩ := q4
    refine nP_104 ⟨WP_e a1 (by rw [c3 69 (by decide)]; exact a1.2.1) a1.2.2 (c4 6 (by decide) (by decide) (by decide)) (c4 7 (by decide) (by decide) (by decide)), by rw [h2]; exact c1, ?_, fun k hk => ?_, fun k hk => ?_⟩ hl
    · rw [c2, a3, h3]
      unfold lgX
      by_cases z : 40 < max e.2.2 (e.1.length + 1)
      · rw [if_pos z, if_pos ⟨by omega, z⟩]
      · rw [if_neg z, if_neg (fun y => z y.2)]
    · rw [c3 k (fun z => hk (by rw [z]; decide))]; exact a4 k hk
    · rw [c4 k (by omega) (by omega) (by omega)]; exact a5 k hk
  · rw [decide_eq_false h1]
    rw [br_fq]
    refine pk_bnd (pk_mo (pat_q (N := N) q) (fun u3 r3 q3 => ?_))
    rw [br_fq]
    refine pk_mo (nP_104 q3.1 hl) (fun u _ q => ?_)
    rw [h3]
    unfold lgX
    rw [if_neg (fun z => absurd z.1 (by omega))]
    exact q
theorem nP_m {own : Bool} {v1 : Int32} (h : WP w K T p) (hl : p < T) (hn : RNs w (e :: t)) (h7 : w.2.2.1 7 p = I (x : Nat)) (hx : x < 1400) (hu : UND w x ↔ nm x = 0) (ho : decide (v1 = 0) = !own) : PK (fun u _ => (nm x = 0 ∧ WNQ K T (p + 1) (e :: t) (w.1 66) w u) ∨ (nm x ≠ 0 ∧ WNQ K T (p + 1) (rfP own x (e :: t)) (lgX e (rfX own x (e :: t)) (w.1 66)) w u)) (fm_M_namePattern N w v1) := by
  have tp := h.1.1.1
  obtain ⟨hi, hp, -⟩ := WP_i h
  obtain ⟨n1, n2, n3, n4⟩ := id hn
  have n2 : 1 ≤ t.length + 1 ∧ t.length + 1 ≤ 27 := n2
  have n1 : w.1 65 = I (t.length : Nat) := n1
  unfold fm_M_namePattern fb_M_namePattern_0
  rw [h.2.1]
  refine pk_bnd (pk_mo (und_p (N := N) hx (by omega) h7) (fun v r q => ?_))
  obtain ⟨rfl, q⟩ := q
  rcases q with ⟨q1, q2⟩ | ⟨q1, q2⟩
  · rw [q1]
    show PK _ (bnd (fm_M_pattern N v 0) _)
    refine pk_bnd (pk_mo (pat_q (N := N) (WNQ_0 h hn)) (fun u3 r3 q3 => ?_))
    exact pk_mo (nP_105 q3.1 hl) (fun u _ q => Or.inl ⟨hu.mp q2, q⟩)
  · have nx : nm x ≠ 0 := fun z => q2 (hu.mpr z)
    rw [q1]
    show PK _ (br (decide (v1 = 0)) _ _)
    rw [ho]
    cases own with
    | false =>
      show PK _ (ck _ _)
      refine pk_ck (fun _ => ?_)
      rw [h.2.1, tnI (n := p) rfl (by omega), h7, n1]
      refine pk_bnd (pk_mo (fnd_d (N := N) hx 30 (e :: t) v n3 n4 (fun z => by cases z) (by show t.length + 1 ≤ 27; omega)) (fun u r q => ?_))
      rcases q with ⟨q1, q2, q3⟩ | ⟨q1, q2, ⟨q3, q4⟩, -, q5⟩
      · have ex : x ∉ e.1 := fun z => by
          have : fnb x (e :: t) = true := fnb_e.mpr ⟨e, List.mem_cons_self, z⟩
          rw [q3] at this
          cases this
        rw [q2]
        exact pk_mo (nP_61 (N := N) (own := false) (Or.inl ⟨q1, (rf_n q3).1, (rf_n q3).2.1, ex, WNQ_0 h hn⟩) hl hx h7) (fun u _ q => Or.inr ⟨nx, q⟩)
      · have wq : WNQ K T p (hld x (e :: t)) (v.1 66) v u := ⟨WP_e h (by rw [q3]; exact h.2.1) h.2.2 (q4 6 (by decide)) (q4 7 (by decide)), ⟨by rw [q3, n1, hld_len]; rfl, by rw [hld_len]; exact n2, q5, hld_ok n4⟩, q3 66, fun k _ => q3 k, fun k hk => q4 k (by omega)⟩
        refine pk_mo (nP_61 (N := N) (own := false) (Or.inr ⟨q1, (rf_y q2).2.1, by rw [(rf_y q2).1]; exact wq⟩) hl hx (by rw [q4 7 (by decide)]; exact h7)) (fun u _ q => Or.inr ⟨nx, q⟩)
    | true =>
      show PK _ (ck _ _)
      refine pk_ck (fun _ => ?_)
      rw [h.2.1, tnI (n := p) rfl (by omega), h7, n1]
      refine pk_bnd (pk_mo (bIn_p (N := N) n3.1 (by omega) n4.1.1 n4.1.2.1 hx) (fun u r q => ?_))
      obtain ⟨rfl, q⟩ := q
      rcases q with ⟨q1, q2⟩ | ⟨j, q1, q2, q3⟩
      · have c0 : e.1.contains x = false := by simpa using q2
        exact pk_mo (nP_61 (N := N) (own := true) (Or.inl ⟨q1, (ro_n c0).1, (ro_n c0).2.1, q2, WNQ_0 h hn⟩) hl hx h7) (fun u _ q => Or.inr ⟨nx, q⟩)
      · have c0 := List.contains_iff_mem.mpr q3
        refine pk_mo (nP_61 (N := N) (own := true) (Or.inr ⟨by rw [q1]; exact nat_ne (by omega), (ro_y c0).2.1, by rw [(ro_y c0).1]; exact WNQ_0 h hn⟩) hl hx h7) (fun u _ q => Or.inr ⟨nx, q⟩)
end
end
section
set_option maxRecDepth 100000
def HDs (Nk K W : Nat → Nat) (p p2 : Nat) : SCT → SCT → Prop
  | [], [] => ∀ j, p ≤ j → j < p2 → K j = 3 → W j ≤ 32
  | e :: t, e2 :: t2 => ((∀ x, x ∈ e2.2.1 → x ∈ e.2.1 ∨ ∃ j, (p ≤ j ∧ j < p2) ∧ K j = 3 ∧ Nk j = x ∧ W j < t.length) ∧ (e2.2.1.length < 60 → ∀ j, p ≤ j → j < p2 → K j = 3 → W j < t.length → Nk j ∈ e2.2.1) ∧ e.2.1 <+: e2.2.1) ∧ HDs Nk K W p p2 t t2
  | _, _ => False
def BDs : SCT → SCT → Prop
  | [], [] => True
  | e :: t, e2 :: t2 => (e2.1 = e.1 ∧ e2.2.2 = e.2.2) ∧ BDs t t2
  | _, _ => False
def SCX : SCT → SCT → Nat → Prop
  | e :: t, e2 :: t2, X => e.1 <+: e2.1 ∧ e2.2.2 = max e.2.2 X ∧ BDs t t2
  | _, _, _ => False
section
variable {Nk K W : Nat → Nat} {sc sc2 sc3 t t2 : SCT} {e e2 : List Nat × List Nat × Nat} {p p2 p3 x X Y : Nat} {own : Bool}
theorem BDs_rf : ∀ {sc : SCT}, BDs sc sc
  | [] => trivial
  | _ :: _ => ⟨⟨rfl, rfl⟩, BDs_rf⟩
theorem BDs_tr : ∀ {a b c : SCT}, BDs a b → BDs b c → BDs a c
  | [], [], [], _, _ => trivial
  | [], [], _ :: _, _, h => h.elim
  | [], _ :: _, _, h, _ => h.elim
  | _ :: _, [], _, h, _ => h.elim
  | _ :: _, _ :: _, [], _, h => h.elim
  | _ :: _, _ :: _, _ :: _, h, k => ⟨⟨k.1.1.trans h.1.1, k.1.2.trans h.1.2⟩, BDs_tr h.2 k.2⟩
theorem BDs_len : ∀ {a b : SCT}, BDs a b → b.length = a.length ∧ tot b = tot a
  | [], [], _ => ⟨rfl, rfl⟩
  | [], _ :: _, h => h.elim
  | _ :: _, [], h => h.elim
  | e :: t, e2 :: t2, h => by
    obtain ⟨a, b⟩ := BDs_len h.2
    exact ⟨by show t2.length + 1 = t.length + 1; omega, by show tot t2 + e2.1.length = tot t + e.1.length; rw [b, h.1.1]⟩
theorem HDs_len : ∀ {a b : SCT}, HDs Nk K W p p2 a b → b.length = a.length
  | [], [], _ => rfl
  | [], _ :: _, h => h.elim
  | _ :: _, [], h => h.elim
  | _ :: t, _ :: t2, h => by show t2.length + 1 = t.length + 1; rw [HDs_len h.2]
theorem SCX_rf {e : List Nat × List Nat × Nat} {t : SCT} : SCX (e :: t) (e :: t) 0 := ⟨List.prefix_rfl, (Nat.max_eq_left (Nat.zero_le _)).symm, BDs_rf⟩
theorem SCX_tr : ∀ {a b c : SCT}, SCX a b X → SCX b c Y → SCX a c (max X Y)
  | [], [], _, h, _ => h.elim
  | [], _ :: _, _, h, _ => h.elim
  | _ :: _, [], _, h, _ => h.elim
  | _ :: _, _ :: _, [], _, h => h.elim
  | _ :: _, _ :: _, _ :: _, h, k => ⟨h.1.trans k.1, by rw [k.2.1, h.2.1, Nat.max_assoc], BDs_tr h.2.2 k.2.2⟩
theorem HDs_no : ∀ {sc : SCT}, (∀ j, p ≤ j → j < p2 → K j = 3 → sc.length ≤ W j + 1 ∧ W j ≤ 32) → HDs Nk K W p p2 sc sc
  | [], h => fun j h1 h2 h3 => (h j h1 h2 h3).2
  | e :: t, h => ⟨⟨fun x hx => Or.inl hx, fun _ j h1 h2 h3 h4 => by
      have : t.length + 1 ≤ W j + 1 := (h j h1 h2 h3).1
      omega, List.prefix_rfl⟩, HDs_no (fun j h1 h2 h3 => by
      have : t.length + 1 ≤ W j + 1 := (h j h1 h2 h3).1
      exact ⟨by omega, (h j h1 h2 h3).2⟩)⟩
theorem HDs_tr : ∀ {a b c : SCT}, p ≤ p2 → p2 ≤ p3 → HDs Nk K W p p2 a b → HDs Nk K W p2 p3 b c → HDs Nk K W p p3 a c
  | [], [], [], _, _, h, k => fun j h1 h2 h3 => by
    by_cases z : j < p2
    · exact h j h1 z h3
    · exact k j (by omega) h2 h3
  | [], [], _ :: _, _, _, _, h => h.elim
  | [], _ :: _, _, _, _, h, _ => h.elim
  | _ :: _, [], _, _, _, h, _ => h.elim
  | _ :: _, _ :: _, [], _, _, _, h => h.elim
  | e :: t, e2 :: t2, e3 :: t3, l1, l2, h, k => by
    have hl := HDs_len h.2
    refine ⟨⟨fun x hx => ?_, fun h60 j h1 h2 h3 h4 => ?_, h.1.2.2.trans k.1.2.2⟩, HDs_tr l1 l2 h.2 k.2⟩
    · rcases k.1.1 x hx with a | ⟨j, a1, a2, a3, a4⟩
      · rcases h.1.1 x a with b | ⟨j, b1, b2, b3, b4⟩
        · exact Or.inl b
        · exact Or.inr ⟨j, ⟨b1.1, by omega⟩, b2, b3, b4⟩
      · exact Or.inr ⟨j, ⟨by omega, a1.2⟩, a2, a3, by omega⟩
    · have pl := k.1.2.2.length_le
      by_cases z : j < p2
      · exact k.1.2.2.subset (h.1.2.1 (by omega) j h1 z h3 h4)
      · exact k.1.2.1 h60 j (by omega) h2 h3 (by omega)
theorem HDs_w {W2 : Nat → Nat} : ∀ {a b : SCT}, (∀ j, p ≤ j → j < p2 → W2 j = W j) → HDs Nk K W p p2 a b → HDs Nk K W2 p p2 a b
  | [], [], hw, h => fun j h1 h2 h3 => by rw [hw j h1 h2]; exact h j h1 h2 h3
  | [], _ :: _, _, h => h.elim
  | _ :: _, [], _, h => h.elim
  | e :: t, e2 :: t2, hw, h => ⟨⟨fun x hx => by
      rcases h.1.1 x hx with a | ⟨j, a1, a2, a3, a4⟩
      · exact Or.inl a
      · exact Or.inr ⟨j, a1, a2, a3, by rw [hw j a1.1 a1.2]; exact a4⟩, fun h60 j h1 h2 h3 h4 => h.1.2.1 h60 j h1 h2 h3 (by rw [← hw j h1 h2]; exact h4), h.1.2.2⟩, HDs_w hw h.2⟩
theorem lvx_le : ∀ {sc : SCT}, lvx x sc ≤ sc.length - 1
  | [] => Nat.zero_le _
  | e :: t => by
    unfold lvx
    split
    · exact Nat.le_refl _
    · have := lvx_le (sc := t)
      show lvx x t ≤ t.length + 1 - 1
      omega
theorem lvx_lt (h : fnb x t = true) : lvx x t < t.length := by
  have := lvx_le (x := x) (sc := t)
  cases t with
  | nil => cases h
  | cons a b => show lvx x (a :: b) < b.length + 1; have h2 : (a :: b).length = b.length + 1 := rfl; omega
theorem HLx_HD (hN : Nk p = x) : ∀ {sc : SCT}, sc.length ≤ 33 → HLx x sc → W p = lvx x sc → HDs Nk K W p (p + 1) sc sc
  | [], _, h, _ => h.elim
  | e :: t, hln, h, hW => by
    have hln : t.length + 1 ≤ 33 := hln
    have jp : ∀ j, p ≤ j → j < p + 1 → j = p := fun j a b => by omega
    by_cases c : e.1.contains x = true
    · unfold lvx at hW
      rw [if_pos c] at hW
      refine HDs_no (fun j h1 h2 _ => ?_)
      rw [jp j h1 h2, hW]
      exact ⟨Nat.le_refl _, by omega⟩
    · unfold lvx at hW
      rw [if_neg c] at hW
      rcases h with h | ⟨h1, h2⟩
      · exact absurd (List.contains_iff_mem.mpr h) c
      · refine ⟨⟨fun y hy => Or.inl hy, fun h60 j a b _ _ => ?_, List.prefix_rfl⟩, HLx_HD hN (by omega) h2 hW⟩
        rw [jp j a b, hN]
        rcases h1 with h1 | h1
        · exact h1
        · omega
theorem hld_HD (hN : Nk p = x) (hK : K p = 3) : ∀ {sc : SCT}, sc.length ≤ 33 → SOK sc → fnb x sc = true → W p = lvx x sc → HDs Nk K W p (p + 1) sc (hld x sc)
  | [], _, _, h, _ => by cases h
  | e :: t, hln, ok, hf, hW => by
    have hln2 : t.length + 1 ≤ 33 := hln
    obtain ⟨⟨n1, n2, n3, n4, n5, n6, n7⟩, ok2⟩ := id ok
    have jp : ∀ j, p ≤ j → j < p + 1 → j = p := fun j a b => by omega
    unfold hld
    by_cases c : (e.1.contains x || e.2.1.contains x) = true
    · rw [if_pos c]
      refine HLx_HD hN hln ?_ hW
      rw [Bool.or_eq_true] at c
      by_cases c1 : e.1.contains x = true
      · exact Or.inl (List.contains_iff_mem.mp c1)
      · rcases c with c | c
        · exact absurd c c1
        · have := List.contains_iff_mem.mp c
          exact Or.inr ⟨Or.inl this, n6 x this⟩
    · rw [if_neg c]
      have c1 : e.1.contains x = false := by
        cases z : e.1.contains x
        · rfl
        · exact absurd (by rw [z]; rfl) c
      have f2 : fnb x t = true := by
        unfold fnb at hf ⊢
        rw [List.any_cons, c1, Bool.false_or] at hf
        exact hf
      rw [if_pos f2]
      unfold lvx at hW
      rw [c1] at hW
      have hW : W p = lvx x t := hW
      have lt := lvx_lt f2
      refine ⟨⟨fun y hy => ?_, fun h60 j a b _ _ => ?_, ?_⟩, hld_HD hN hK (by omega) ok2 f2 hW⟩
      · have hy : y ∈ (if e.2.1.length < 60 then e.2.1 ++ [x] else e.2.1) := hy
        split at hy
        · rcases List.mem_append.mp hy with h | h
          · exact Or.inl h
          · exact Or.inr ⟨p, ⟨Nat.le_refl _, by omega⟩, hK, by rw [hN, List.mem_singleton.mp h], by omega⟩
        · exact Or.inl hy
      · have h60 : (if e.2.1.length < 60 then e.2.1 ++ [x] else e.2.1).length < 60 := h60
        show Nk j ∈ (if e.2.1.length < 60 then e.2.1 ++ [x] else e.2.1)
        rw [jp j a b, hN]
        split
        · exact List.mem_append_right _ (List.mem_singleton.mpr rfl)
        · rename_i z
          rw [if_neg z] at h60
          exact absurd h60 z
      · show e.2.1 <+: (if e.2.1.length < 60 then e.2.1 ++ [x] else e.2.1)
        split
        · exact List.prefix_append _ _
        · exact List.prefix_rfl
theorem hld_BD : ∀ {sc : SCT}, BDs sc (hld x sc)
  | [] => trivial
  | e :: t => by
    unfold hld
    split
    · exact BDs_rf
    · split
      · exact ⟨⟨rfl, rfl⟩, hld_BD⟩
      · exact BDs_rf
theorem hld_SCX (h : sc ≠ []) : SCX sc (hld x sc) 0 := by
  cases sc with
  | nil => exact absurd rfl h
  | cons e t =>
    unfold hld
    split
    · exact SCX_rf
    · split
      · exact ⟨List.prefix_rfl, (Nat.max_eq_left (Nat.zero_le _)).symm, hld_BD⟩
      · exact SCX_rf
theorem rfP_d (ok : SOK (e :: t)) (hl : t.length ≤ 26) (hN : Nk p = x) (hK : K p = 3) (hW : W p = rfL own x (e :: t)) : SCX (e :: t) (rfP own x (e :: t)) (rfX own x (e :: t)) ∧ HDs Nk K W p (p + 1) (e :: t) (rfP own x (e :: t)) := by
  have jp : ∀ j, p ≤ j → j < p + 1 → j = p := fun j a b => by omega
  have new : SCX (e :: t) (bnS x (e :: t)) (e.1.length + 1) ∧ (W p = 32 → HDs Nk K W p (p + 1) (e :: t) (bnS x (e :: t))) := by
    refine ⟨⟨List.prefix_append _ _, rfl, BDs_rf⟩, fun h => ?_⟩
    have a : HDs Nk K W p (p + 1) (e :: t) (e :: t) := HDs_no (fun j h1 h2 _ => by rw [jp j h1 h2, h]; exact ⟨by show t.length + 1 ≤ 32 + 1; omega, Nat.le_refl _⟩)
    exact ⟨a.1, a.2⟩
  cases own with
  | false =>
    cases hf : fnb x (e :: t)
    · obtain ⟨a, b, c⟩ := rf_n hf
      rw [a, b]
      exact ⟨new.1, new.2 (by rw [hW, c])⟩
    · obtain ⟨a, b, c⟩ := rf_y hf
      rw [a, b]
      exact ⟨hld_SCX (fun z => by cases z), hld_HD hN hK (by show t.length + 1 ≤ 33; omega) ok hf (by rw [hW, c])⟩
  | true =>
    cases hf : e.1.contains x
    · obtain ⟨a, b, c⟩ := ro_n (t := t) hf
      rw [a, b]
      exact ⟨new.1, new.2 (by rw [hW, c])⟩
    · obtain ⟨a, b, c⟩ := ro_y (t := t) hf
      rw [a, b]
      exact ⟨SCX_rf, HDs_no (fun j h1 h2 _ => by rw [jp j h1 h2, hW, c]; exact ⟨Nat.le_refl _, by omega⟩)⟩
end
end
section
set_option maxRecDepth 100000
def adN (m : MS) (n : Nat) (a b c d f : Int32) : MS := upA (upA (upA (upA (upA (upA (upI m 306 (I ((n + 1 : Nat) : Int))) 16 (upd (m.2.2.1 16) (n + 1) a)) 17 (upd (m.2.2.1 17) (n + 1) b)) 18 (upd (m.2.2.1 18) (n + 1) c)) 19 (upd (m.2.2.1 19) (n + 1) d)) 20 (upd (m.2.2.1 20) (n + 1) f)) 21 (upd (m.2.2.1 21) (n + 1) 0)
def nod (m : MS) (j : Nat) : Int32 × Int32 × Int32 × Int32 × Int32 := (m.2.2.1 16 j, m.2.2.1 17 j, m.2.2.1 18 j, m.2.2.1 19 j, m.2.2.1 20 j)
def KPO (n : Nat) (m v : MS) : Prop := ∀ j, j ≤ n → nod v j = nod m j ∧ v.2.2.1 21 j = m.2.2.1 21 j
def KPX (lo n ε : Nat) (m v : MS) : Prop := (∀ j, lo < j → j ≤ n → nod v j = nod m j ∧ (j ≠ ε → v.2.2.1 21 j = m.2.2.1 21 j)) ∧ Kcc m v
section
variable {m v u : MS} {n j N ε lo : Nat} {a b c d f : Int32}
theorem add_e (h : m.1 306 = I (n : Nat)) (hn : n + 1 < 8016) : hm_Tr_add N m a b c d f = some (adN m n a b c d f, I ((n + 1 : Nat) : Int)) := by
  unfold hm_Tr_add hb_Tr_add_0
  rw [h, i_suc, show (8016 : Int32) = I 8016 from rfl, decL (by omega) (by omega) (by omega) (by omega), decide_eq_true (by omega)]
  have e1 : ∀ v : MS, v.1 306 = I ((n + 1 : Nat) : Int) → ∀ o : Option (MS × Int32), ck (inb (v.1 306) 8016) o = o := fun v hv o => by
    rw [hv, i_inb (by omega) (by decide)]; rfl
  have e0 : (upI m 306 (I ((n + 1 : Nat) : Int))).1 306 = I ((n + 1 : Nat) : Int) := upI_at
  have tn : (I ((n + 1 : Nat) : Int)).toNatClampNeg = n + 1 := tnI (n := n + 1) rfl (by omega)
  show ck (inb ((upI m 306 (I ((n + 1 : Nat) : Int))).1 306) 8016) _ = _
  rw [e1 _ e0]
  show ck (inb ((upI m 306 (I ((n + 1 : Nat) : Int))).1 306) 8016) _ = _
  rw [e1 _ e0]
  show ck (inb ((upI m 306 (I ((n + 1 : Nat) : Int))).1 306) 8016) _ = _
  rw [e1 _ e0]
  show ck (inb ((upI m 306 (I ((n + 1 : Nat) : Int))).1 306) 8016) _ = _
  rw [e1 _ e0]
  show ck (inb ((upI m 306 (I ((n + 1 : Nat) : Int))).1 306) 8016) _ = _
  rw [e1 _ e0]
  show ck (inb ((upI m 306 (I ((n + 1 : Nat) : Int))).1 306) 8016) _ = _
  rw [e1 _ e0]
  have f1 : ∀ (w : MS) (k : Nat) (g : Nat → Int32), (upA w k g).1 = w.1 := fun _ _ _ => rfl
  simp only [lt, f1, e0, tn]
  rfl
theorem adN_16 : (adN m n a b c d f).2.2.1 16 = upd (m.2.2.1 16) (n + 1) a := rfl
theorem adN_17 : (adN m n a b c d f).2.2.1 17 = upd (m.2.2.1 17) (n + 1) b := rfl
theorem adN_18 : (adN m n a b c d f).2.2.1 18 = upd (m.2.2.1 18) (n + 1) c := rfl
theorem adN_19 : (adN m n a b c d f).2.2.1 19 = upd (m.2.2.1 19) (n + 1) d := rfl
theorem adN_20 : (adN m n a b c d f).2.2.1 20 = upd (m.2.2.1 20) (n + 1) f := rfl
theorem adN_21 : (adN m n a b c d f).2.2.1 21 = upd (m.2.2.1 21) (n + 1) 0 := rfl
theorem adN_r {k : Nat} (h : k < 16 ∨ 21 < k) : (adN m n a b c d f).2.2.1 k = m.2.2.1 k := by
  unfold adN
  rw [upA_no (by omega), upA_no (by omega), upA_no (by omega), upA_no (by omega), upA_no (by omega), upA_no (by omega)]
  rfl
theorem adN_i {k : Nat} (h : k ≠ 306) : (adN m n a b c d f).1 k = m.1 k := upI_ne h
theorem adN_n : (adN m n a b c d f).1 306 = I ((n + 1 : Nat) : Int) := by
  show (upI m 306 (I ((n + 1 : Nat) : Int))).1 306 = _
  exact upI_at
theorem adN_o : KPO n m (adN m n a b c d f) := fun j hj => by
  unfold nod
  rw [adN_16, adN_17, adN_18, adN_19, adN_20, adN_21, upd_no (by omega), upd_no (by omega), upd_no (by omega), upd_no (by omega), upd_no (by omega), upd_no (by omega)]
  exact ⟨rfl, rfl⟩
theorem adN_nod : nod (adN m n a b c d f) (n + 1) = (a, b, c, d, f) ∧ (adN m n a b c d f).2.2.1 21 (n + 1) = 0 := by
  unfold nod
  rw [adN_16, adN_17, adN_18, adN_19, adN_20, adN_21, upd_at, upd_at, upd_at, upd_at, upd_at, upd_at]
  exact ⟨rfl, rfl⟩
theorem KPO_rf : KPO n m m := fun _ _ => ⟨rfl, rfl⟩
theorem KPO_tr {k : Nat} (h : KPO n m v) (h2 : KPO k v u) (hk : n ≤ k) : KPO n m u := fun j hj => ⟨(h2 j (by omega)).1.trans (h j hj).1, (h2 j (by omega)).2.trans (h j hj).2⟩
theorem KPX_nod (h : KPX lo n ε m v) (h1 : lo < j) (hj : j ≤ n) : nod v j = nod m j := (h.1 j h1 hj).1
end
end
section
set_option maxRecDepth 100000
def wup (g : Nat → Int32) (K W : Nat → Nat) (p p2 : Nat) : Nat → Int32 := fun j => if p ≤ j ∧ j < p2 ∧ K j = 3 then I (W j : Nat) else g j
def PTN (N : Nat) (K nm : Nat → Nat) (m2 : MS) (lo n2 ν : Nat) (own : Bool) (p p2 : Nat) (sc sc2 : SCT) (X : Nat) (W : Nat → Nat) : Prop := ∀ (d : Nat) (m3 : MS) (cm : Nat), KPX lo n2 ν m2 m3 → CNs m3 nm sc → m3.2.2.1 41 (sc.length - 1) = I (cm : Nat) → cm ≤ 4000 → decide (m3.1 713 = 0) = !own → tot sc + (p2 - p) ≤ 4000 → PK (fun m4 _ => NPQ nm (sc.length - 1) sc2 (max cm X) (wup (m3.2.2.1 42) K W p p2) m3 m4) ((hrc_Cm_listPattern N d).2 m3 (I (ν : Nat)))
section
variable {m v u m2 m3 : MS} {K nm W : Nat → Nat} {sc t : SCT} {e : List Nat × List Nat × Nat} {s x y N i f tok cm p p2 n2 ν lo : Nat} {own : Bool}
theorem wup_0 {g : Nat → Int32} (h : ∀ j, p ≤ j → j < p2 → K j ≠ 3) : wup g K W p p2 = g := by
  funext j
  unfold wup
  rw [if_neg (fun z => h j z.1 z.2.1 z.2.2)]
theorem wup_1 {g : Nat → Int32} (h : K p = 3) : wup g K W p (p + 1) = upd g p (I (W p : Nat)) := by
  funext j
  unfold wup
  by_cases z : j = p
  · rw [z, if_pos ⟨Nat.le_refl _, by omega, h⟩, upd_at]
  · rw [if_neg (fun y => z (by omega)), upd_no z]
theorem wup_tr {g : Nat → Int32} {q : Nat} (h1 : p ≤ q) (h2 : q ≤ p2) : wup (wup g K W p q) K W q p2 = wup g K W p p2 := by
  funext j
  unfold wup
  by_cases a : q ≤ j ∧ j < p2 ∧ K j = 3
  · rw [if_pos a, if_pos ⟨by omega, a.2⟩]
  · rw [if_neg a]
    by_cases b : p ≤ j ∧ j < q ∧ K j = 3
    · rw [if_pos b, if_pos ⟨b.1, by omega, b.2.2⟩]
    · rw [if_neg b, if_neg (fun z => by
        by_cases y : j < q
        · exact b ⟨z.1, y, z.2.2⟩
        · exact a ⟨by omega, z.2⟩)]
theorem wup_w {g : Nat → Int32} {W2 : Nat → Nat} (h : ∀ j, p ≤ j → j < p2 → W2 j = W j) : wup g K W2 p p2 = wup g K W p p2 := by
  funext j
  unfold wup
  by_cases a : p ≤ j ∧ j < p2 ∧ K j = 3
  · rw [if_pos a, if_pos a, h j a.1 a.2.1]
  · rw [if_neg a, if_neg a]
theorem NPQ_rf (c : CNs m nm sc) (hm : m.2.2.1 41 s = I (cm : Nat)) : NPQ nm s sc cm (m.2.2.1 42) m m := ⟨c, (upd_id hm).symm, rfl, NFR_rf⟩
theorem NPQ_tr {sc2 sc3 : SCT} {cm2 cm3 : Nat} {g g2 : Nat → Int32} (a : NPQ nm s sc2 cm2 g m v) (b : NPQ nm s sc3 cm3 g2 v u) : NPQ nm s sc3 cm3 g2 m u := ⟨b.1, by rw [b.2.1, a.2.1, upd_tw], b.2.2.1, NFR_tr a.2.2.2 b.2.2.2⟩
theorem KPX_n (h : KPX lo n2 ν m2 m3) (f : NFR m3 v) : KPX lo n2 ν m2 v := by
  refine ⟨fun j h0 hj => ?_, ⟨fun k hk => ?_, fun k hk => ?_⟩⟩
  · have a := h.1 j h0 hj
    have r : ∀ k, 16 ≤ k → k ≤ 21 → v.2.2.1 k = m3.2.2.1 k := fun k h1 h2 => f.2 k (by omega) (by omega) (by omega) (by omega)
    unfold nod at a ⊢
    rw [r 16 (by decide) (by decide), r 17 (by decide) (by decide), r 18 (by decide) (by decide), r 19 (by decide) (by decide), r 20 (by decide) (by decide), r 21 (by decide) (by decide)]
    exact a
  · rw [f.1 k (by omega) (by omega)]; exact h.2.1 k hk
  · rw [f.2 k (by omega) (by omega) (by omega) (by omega)]; exact h.2.2 k hk
theorem I_dn {a b : Nat} {s : Int32} (ha : a < 100) (hb : b < 100) (hs : s = I (b : Nat)) : decide (I (a : Nat) = s) = decide (a = b) := by
  rw [hs]
  by_cases z : a = b
  · rw [decide_eq_true z, decide_eq_true (by rw [z])]
  · rw [decide_eq_false z, decide_eq_false (fun y => z ((I_ne ha hb).mp y))]
theorem ptn_leaf {k : Nat} {a b c g : Int32} (hn : nod m2 ν = (I (k : Nat), a, b, c, g)) (hlo : lo < ν) (hν : ν ≤ n2) (hl : n2 ≤ 8015) (hk : k = 1 ∨ k = 2 ∨ k = 4) (h3 : ∀ j, p ≤ j → j < p2 → K j ≠ 3) : PTN N K nm m2 lo n2 ν own p p2 sc sc 0 W := by
  intro d m3 cm kx cn hm hc ho ht
  cases d with
  | zero => exact pk_none
  | succ d =>
    have e0 := KPX_nod kx hlo hν
    rw [hn] at e0
    have e1 : m3.2.2.1 16 ν = I (k : Nat) := (Prod.mk.inj e0).1
    show PK _ (hm_Cm_pattern N (hrc_Cm_listPattern N d) m3 (I (ν : Nat)))
    unfold hm_Cm_pattern hb_Cm_pattern_0 hb_Cm_pattern_298
    rw [tnI (n := ν) rfl (by omega), e1, wup_0 h3, Nat.max_eq_left (Nat.zero_le cm)]
    refine pk_ck (fun _ => ?_)
    have q0 := NPQ_rf cn hm
    rcases hk with rfl | rfl | rfl
    · rw [show decide (I ((1 : Nat) : Int) = 1) = true from rfl, br_tq]
      refine pk_bnd (fun w1 r1 e1 => pk_ck (fun _ => pk_bnd (fun w2 r2 e2 => pk_some ?_)))
      exact NPQ_kn (NPQ_kn q0 (yn_hm_Co_put (u0 := m3) Kn_rf w1 r1 e1)) (yn_hm_Cm_term (u0 := w1) Kn_rf w2 r2 e2)
    · rw [show decide (I ((2 : Nat) : Int) = 1) = false from rfl, br_fq, show decide (I ((2 : Nat) : Int) = 2) = true from rfl, br_tq]
      refine pk_bnd (fun w1 r1 e1 => pk_ck (fun _ => pk_bnd (fun w2 r2 e2 => pk_some ?_)))
      exact NPQ_kn (NPQ_kn q0 (yn_hm_Co_put (u0 := m3) Kn_rf w1 r1 e1)) (yn_hm_Cm_term (u0 := w1) Kn_rf w2 r2 e2)
    · rw [show decide (I ((4 : Nat) : Int) = 1) = false from rfl, br_fq, show decide (I ((4 : Nat) : Int) = 2) = false from rfl, br_fq, show decide (I ((4 : Nat) : Int) = 3) = false from rfl, br_fq, show decide (I ((4 : Nat) : Int) = 4) = true from rfl, br_tq]
      refine pk_bnd (fun w1 r1 e1 => pk_bnd (fun w2 r2 e2 => pk_some ?_))
      exact NPQ_kn (NPQ_kn q0 (yn_hm_Co_put (u0 := m3) Kn_rf w1 r1 e1)) (yn_hm_Cm_string (u0 := w1) Kn_rf w2 r2 e2)
theorem ptn_name {c g : Int32} (hnm : NMJ nm) (hn : nod m2 ν = (I ((3 : Nat) : Int), I (p : Nat), I (nm x : Nat), c, g)) (hlo : lo < ν) (hν : ν ≤ n2) (hl : n2 ≤ 8015) (ok : SOK (e :: t)) (hx : x < 1400) (hx0 : nm x ≠ 0) (hp : p ≤ 4000) (hK : K p = 3) (hW : W p = rfL own x (e :: t)) : PTN N K nm m2 lo n2 ν own p (p + 1) (e :: t) (rfP own x (e :: t)) (rfX own x (e :: t)) W := by
  intro d m3 cm kx cn hm hc ho ht
  cases d with
  | zero => exact pk_none
  | succ d =>
    have e0 := KPX_nod kx hlo hν
    rw [hn] at e0
    have e1 : m3.2.2.1 16 ν = I ((3 : Nat) : Int) := (Prod.mk.inj e0).1
    have e2 : m3.2.2.1 17 ν = I (p : Nat) := (Prod.mk.inj (Prod.mk.inj e0).2).1
    have e3 : m3.2.2.1 18 ν = I (nm x : Nat) := (Prod.mk.inj (Prod.mk.inj (Prod.mk.inj e0).2).2).1
    show PK _ (hm_Cm_pattern N (hrc_Cm_listPattern N d) m3 (I (ν : Nat)))
    unfold hm_Cm_pattern hb_Cm_pattern_0 hb_Cm_pattern_298
    rw [tnI (n := ν) rfl (by omega), e1, e2, e3, wup_1 hK, hW]
    refine pk_ck (fun _ => ?_)
    rw [show decide (I ((3 : Nat) : Int) = 1) = false from rfl, br_fq, show decide (I ((3 : Nat) : Int) = 2) = false from rfl, br_fq, show decide (I ((3 : Nat) : Int) = 3) = true from rfl, br_tq]
    refine pk_ck (fun _ => pk_ck (fun _ => pk_bnd ?_))
    exact pk_mo (nIP_c (N := N) hnm cn ok hx hx0 (by omega) (by omega) hm hc ho) (fun v _ q => pk_some q)
end
end
section
set_option maxRecDepth 100000
def PRW (N : Nat) (K nm : Nat → Nat) (m2 : MS) (lo n2 : Nat) (own : Bool) (W : Nat → Nat) : List Nat → Nat → Nat → SCT → SCT → Nat → Prop
  | [], p, p2, sc, sc2, X => p = p2 ∧ sc2 = sc ∧ X = 0
  | ν :: l, p, p2, sc, sc2, X => ∃ q q2 sc1 X1 X2, (p ≤ q ∧ q ≤ q2 ∧ q2 ≤ p2) ∧ (∀ j, p ≤ j → j < q → K j ≠ 3) ∧ (∃ mi li ni, PTN N K nm mi li ni ν own q q2 sc sc1 X1 W ∧ KPX li ni ν mi m2 ∧ (lo ≤ li ∧ ni ≤ n2) ∧ (li < ν ∧ ν ≤ ni) ∧ (l ≠ [] → ni < l.headD 0)) ∧ (1 ≤ ν ∧ ν ≤ n2) ∧ m2.2.2.1 21 ν = I ((l.headD 0 : Nat) : Int) ∧ (tot sc1 ≤ tot sc + (q2 - q) ∧ sc1.length = sc.length) ∧ PRW N K nm m2 lo n2 own W l q2 p2 sc1 sc2 X2 ∧ X = max X1 X2
section
variable {m v u m2 m3 : MS} {K nm W : Nat → Nat} {sc sc2 t : SCT} {e : List Nat × List Nat × Nat} {s x y N i f tok cm p p2 n2 ν μ X lo : Nat} {own : Bool}
theorem ptn_und {c g : Int32} (hn : nod m2 ν = (I ((3 : Nat) : Int), I (p : Nat), 0, c, g)) (hlo : lo < ν) (hν : ν ≤ n2) (hl : n2 ≤ 8015) (hp : p ≤ 4000) (hK : K p = 3) (hW : W p = 32) : PTN N K nm m2 lo n2 ν own p (p + 1) sc sc 0 W := by
  intro d m3 cm kx cn hm hc ho ht
  cases d with
  | zero => exact pk_none
  | succ d =>
    have e0 := KPX_nod kx hlo hν
    rw [hn] at e0
    have e1 : m3.2.2.1 16 ν = I ((3 : Nat) : Int) := (Prod.mk.inj e0).1
    have e2 : m3.2.2.1 17 ν = I (p : Nat) := (Prod.mk.inj (Prod.mk.inj e0).2).1
    have e3 : m3.2.2.1 18 ν = 0 := (Prod.mk.inj (Prod.mk.inj (Prod.mk.inj e0).2).2).1
    show PK _ (hm_Cm_pattern N (hrc_Cm_listPattern N d) m3 (I (ν : Nat)))
    unfold hm_Cm_pattern hb_Cm_pattern_0 hb_Cm_pattern_298
    rw [tnI (n := ν) rfl (by omega), e1, e2, e3, wup_1 hK, hW, Nat.max_eq_left (Nat.zero_le cm)]
    refine pk_ck (fun _ => ?_)
    rw [show decide (I ((3 : Nat) : Int) = 1) = false from rfl, br_fq, show decide (I ((3 : Nat) : Int) = 2) = false from rfl, br_fq, show decide (I ((3 : Nat) : Int) = 3) = true from rfl, br_tq]
    refine pk_ck (fun _ => pk_ck (fun _ => pk_bnd ?_))
    unfold hm_Cm_nameInPattern hb_Cm_nameInPattern_0 hb_Cm_nameInPattern_92
    refine pk_ck (fun _ => pk_ltq ?_)
    rw [tnI (n := p) rfl (by omega), show decide ((0 : Int32) = 0) = true from rfl, br_tq]
    refine pk_bnd (fun w1 r1 e1 => pk_some (pk_some ?_))
    have q0 : NPQ nm (sc.length - 1) sc cm (upd (m3.2.2.1 42) p (I (32 : Nat))) m3 (upA m3 42 (upd (m3.2.2.1 42) p 32)) := ⟨CNs_42 cn, by rw [upA_no (by decide), upd_id hm], upA_at, ⟨fun _ _ _ => rfl, fun k _ _ _ h => upA_no h⟩⟩
    exact NPQ_kn q0 (yn_hm_Co_put Kn_rf w1 r1 e1)
theorem KPX_tr {n3 l3 : Nat} {m4 : MS} (h : KPX lo n2 ν m2 m3) (h2 : KPX l3 n3 ν m3 m4) (hn : n2 ≤ n3) (hl : l3 ≤ lo) : KPX lo n2 ν m2 m4 := by
  refine ⟨fun j h0 hj => ⟨(h2.1 j (by omega) (by omega)).1.trans (h.1 j h0 hj).1, fun z => ((h2.1 j (by omega) (by omega)).2 z).trans ((h.1 j h0 hj).2 z)⟩, ⟨fun k hk => (h2.2.1 k hk).trans (h.2.1 k hk), fun k hk => (h2.2.2 k hk).trans (h.2.2 k hk)⟩⟩
theorem PTN_up {n3 l3 : Nat} (h : KPX lo n2 ν m2 m3) (hn : n2 ≤ n3) (hl : l3 ≤ lo) (q : PTN N K nm m2 lo n2 ν own p p2 sc sc2 X W) : PTN N K nm m3 l3 n3 ν own p p2 sc sc2 X W := fun d m4 cm kx => q d m4 cm (KPX_tr h kx hn hl)
theorem KPX_o (h : KPO n2 m2 m3) (k : Kcc m2 m3) : KPX lo n2 ν m2 m3 := ⟨fun j _ hj => ⟨(h j hj).1, fun _ => (h j hj).2⟩, k⟩
theorem KPX_d {n3 l3 : Nat} {m4 : MS} (h : KPO n2 m2 m3) (kc : Kcc m2 m3) (h2 : KPX l3 n3 μ m3 m4) (hn : n2 ≤ n3) (hμ : n2 < μ) (hl : l3 ≤ lo) : KPX lo n2 ν m2 m4 := by
  refine ⟨fun j h0 hj => ⟨(h2.1 j (by omega) (by omega)).1.trans (h j hj).1, fun z => ((h2.1 j (by omega) (by omega)).2 (by omega)).trans (h j hj).2⟩, ⟨fun k hk => (h2.2.1 k hk).trans (kc.1 k hk), fun k hk => (h2.2.2 k hk).trans (kc.2 k hk)⟩⟩
theorem ptn_neg {a b c g : Int32} (hn : nod m2 ν = (I ((17 : Nat) : Int), a, b, c, g)) (hlo : lo < ν) (hν : ν ≤ n2) (hl : n2 ≤ 8015) (h3 : ∀ j, p ≤ j → j < p2 → K j ≠ 3) : PTN N K nm m2 lo n2 ν own p p2 sc sc 0 W := by
  intro d m3 cm kx cn hm hc ho ht
  cases d with
  | zero => exact pk_none
  | succ d =>
    have e0 := KPX_nod kx hlo hν
    rw [hn] at e0
    have e1 : m3.2.2.1 16 ν = I ((17 : Nat) : Int) := (Prod.mk.inj e0).1
    show PK _ (hm_Cm_pattern N (hrc_Cm_listPattern N d) m3 (I (ν : Nat)))
    unfold hm_Cm_pattern hb_Cm_pattern_0 hb_Cm_pattern_298
    rw [tnI (n := ν) rfl (by omega), e1, wup_0 h3, Nat.max_eq_left (Nat.zero_le cm)]
    refine pk_ck (fun _ => ?_)
    have q0 := NPQ_rf cn hm
    have dd : ∀ b : Nat, b < 100 → b ≠ 17 → ∀ s : Int32, s = I (b : Nat) → decide (I ((17 : Nat) : Int) = s) = false := fun b hb h17 s hs => by rw [I_dn (by decide) hb hs]; exact decide_eq_false (fun z => h17 z.symm)
    rw [dd 1 (by decide) (by decide) 1 rfl, br_fq, dd 2 (by decide) (by decide) 2 rfl, br_fq, dd 3 (by decide) (by decide) 3 rfl, br_fq, dd 4 (by decide) (by decide) 4 rfl, br_fq, dd 5 (by decide) (by decide) 5 rfl, br_fq, dd 6 (by decide) (by decide) 6 rfl, br_fq, dd 7 (by decide) (by decide) 7 rfl, br_fq, dd 8 (by decide) (by decide) 8 rfl, br_fq, dd 9 (by decide) (by decide) 9 rfl, br_fq, dd 10 (by decide) (by decide) 10 rfl, br_fq, dd 11 (by decide) (by decide) 11 rfl, br_fq, dd 12 (by decide) (by decide) 12 rfl, br_fq, dd 13 (by decide) (by decide) 13 rfl, br_fq, dd 14 (by decide) (by decide) 14 rfl, br_fq, dd 15 (by decide) (by decide) 15 rfl, br_fq, dd 16 (by decide) (by decide) 16 rfl, br_fq, show decide (I ((17 : Nat) : Int) = 17) = true from rfl, br_tq]
    refine pk_bnd (fun w1 r1 e1 => pk_ck (fun _ => pk_ck (fun _ => pk_bnd (fun w2 r2 e2 => pk_some ?_))))
    exact NPQ_kn (NPQ_kn q0 (yn_hm_Co_put (u0 := m3) Kn_rf w1 r1 e1)) (yn_hm_Cm_term (u0 := w1) Kn_rf w2 r2 e2)
theorem ptn_grp {q q2 : Nat} {a c g : Int32} (hn : nod m2 ν = (I ((5 : Nat) : Int), a, I (μ : Nat), c, g)) (hlo : lo < ν) (hν : ν ≤ n2) (hμ : μ < ν) (hl : n2 ≤ 8015) (hq : p ≤ q ∧ q ≤ q2 ∧ q2 ≤ p2) (g1 : ∀ j, p ≤ j → j < q → K j ≠ 3) (g2 : ∀ j, q2 ≤ j → j < p2 → K j ≠ 3) (h : ∀ {m3 : MS}, KPX lo n2 ν m2 m3 → ∀ d cm, CNs m3 nm sc → m3.2.2.1 41 (sc.length - 1) = I (cm : Nat) → cm ≤ 4000 → decide (m3.1 713 = 0) = !own → tot sc + (q2 - q) ≤ 4000 → PK (fun m4 _ => NPQ nm (sc.length - 1) sc2 (max cm X) (wup (m3.2.2.1 42) K W q q2) m3 m4) ((hrc_Cm_listPattern N d).2 m3 (I (μ : Nat)))) : PTN N K nm m2 lo n2 ν own p p2 sc sc2 X W := by
  intro d m3 cm kx cn hm hc ho ht
  cases d with
  | zero => exact pk_none
  | succ d =>
    have e0 := KPX_nod kx hlo hν
    rw [hn] at e0
    have e1 : m3.2.2.1 16 ν = I ((5 : Nat) : Int) := (Prod.mk.inj e0).1
    have e3 : m3.2.2.1 18 ν = I (μ : Nat) := (Prod.mk.inj (Prod.mk.inj (Prod.mk.inj e0).2).2).1
    show PK _ (hm_Cm_pattern N (hrc_Cm_listPattern N d) m3 (I (ν : Nat)))
    unfold hm_Cm_pattern hb_Cm_pattern_0 hb_Cm_pattern_298
    rw [tnI (n := ν) rfl (by omega), e1, e3]
    refine pk_ck (fun _ => ?_)
    have dd : ∀ b : Nat, b < 100 → b ≠ 5 → ∀ s : Int32, s = I (b : Nat) → decide (I ((5 : Nat) : Int) = s) = false := fun b hb h17 s hs => by rw [I_dn (by decide) hb hs]; exact decide_eq_false (fun z => h17 z.symm)
    rw [dd 1 (by decide) (by decide) 1 rfl, br_fq, dd 2 (by decide) (by decide) 2 rfl, br_fq, dd 3 (by decide) (by decide) 3 rfl, br_fq, dd 4 (by decide) (by decide) 4 rfl, br_fq, show decide (I ((5 : Nat) : Int) = 5) = true from rfl, br_tq]
    refine pk_ck (fun _ => pk_bnd (pk_mo (h kx d cm cn hm hc ho (by omega)) (fun v _ qv => pk_some ?_)))
    rw [← wup_tr (g := m3.2.2.1 42) (K := K) (W := W) (q := q) hq.1 (by omega), wup_0 (p := p) (p2 := q) g1, ← wup_tr (g := m3.2.2.1 42) (K := K) (W := W) (p := q) (q := q2) hq.2.1 hq.2.2, wup_0 (p := q2) (p2 := p2) g2]
    exact qv
theorem PRW_len : ∀ {l : List Nat} {p p2 : Nat} {sc sc2 : SCT} {X : Nat}, PRW N K nm m2 lo n2 own W l p p2 sc sc2 X → p ≤ p2 ∧ tot sc2 ≤ tot sc + (p2 - p) ∧ sc2.length = sc.length
  | [], _, _, _, _, _, ⟨h1, h2, _⟩ => by
    subst h1
    subst h2
    exact ⟨Nat.le_refl _, by omega, rfl⟩
  | ν :: l, p, p2, sc, sc2, X, ⟨q, q2, sc1, X1, X2, h1, _, _, _, _, h2, h3, _⟩ => by
    obtain ⟨a, b, c⟩ := PRW_len h3
    exact ⟨by omega, by omega, by rw [c, h2.2]⟩
theorem prw_tup (hl : n2 ≤ 8015) : ∀ {l : List Nat} {p p2 : Nat} {sc sc2 : SCT} {X : Nat}, PRW N K nm m2 lo n2 own W l p p2 sc sc2 X → ∀ (d M : Nat) (m3 : MS) (cm : Nat), (∀ j, lo < j → j ≤ n2 → nod m3 j = nod m2 j ∧ m3.2.2.1 21 j = m2.2.2.1 21 j) → Kcc m2 m3 → CNs m3 nm sc → m3.2.2.1 41 (sc.length - 1) = I (cm : Nat) → cm ≤ 4000 → (cm ≤ 4000 → max cm X ≤ 4000) → decide (m3.1 713 = 0) = !own → tot sc + (p2 - p) ≤ 4000 → PK (fun m4 _ => NPQ nm (sc.length - 1) sc2 (max cm X) (wup (m3.2.2.1 42) K W p p2) m3 m4) (hg_Cm_pattern N (hrc_Cm_listPattern N d) M m3 (I ((l.headD 0 : Nat) : Int)))
  | _, _, _, _, _, _, _, _, 0, _, _, _, _, _, _, _, _, _, _ => pk_none
  | [], p, p2, sc, sc2, X, ⟨h1, h2, h3⟩, d, M + 1, m3, cm, _, _, cn, hm, hc, _, ho, ht => by
    subst h1
    subst h2
    subst h3
    show PK _ (hb_Cm_pattern_268 N (hrc_Cm_listPattern N d) (hg_Cm_pattern N (hrc_Cm_listPattern N d) M) m3 0)
    unfold hb_Cm_pattern_268 hb_Cm_pattern_298
    rw [show decide ((0 : Int32) = 0) = true from rfl, br_tq, Nat.max_eq_left (Nat.zero_le cm), wup_0 (fun j h1 h2 => absurd h2 (by omega))]
    exact pk_some (NPQ_rf cn hm)
  | ν :: l, p, p2, sc, sc2, X, ⟨q, q2, sc1, X1, X2, h1, g1, h2, h3, h4, h5, h6, h7⟩, d, M + 1, m3, cm, k1, k2, cn, hm, hc, hX, ho, ht => by
    subst h7
    obtain ⟨a1, a2, a3⟩ := PRW_len h6
    show PK _ (hb_Cm_pattern_268 N (hrc_Cm_listPattern N d) (hg_Cm_pattern N (hrc_Cm_listPattern N d) M) m3 (I (ν : Nat)))
    unfold hb_Cm_pattern_268 hb_Cm_pattern_298
    have hX := hX hc
    rw [decide_eq_false (p := I (ν : Nat) = 0) (fun z => by have := (I_eq (x := (ν : Nat)) (y := 0) (by omega) (by omega) (by omega) (by omega)).mp z; omega), br_fq]
    have kx : KPX lo n2 ν m2 m3 := ⟨fun j h0 hj => ⟨(k1 j h0 hj).1, fun _ => (k1 j h0 hj).2⟩, k2⟩
    obtain ⟨mi, li, ni, h2, hx2, hni, hli, -⟩ := h2
    refine pk_bnd (pk_mo (h2 d m3 cm (KPX_tr hx2 kx hni.2 hni.1) cn hm hc ho (by omega)) (fun v _ qv => pk_ck (fun _ => ?_)))
    have e21 : v.2.2.1 21 ν = I ((l.headD 0 : Nat) : Int) := by
      rw [qv.2.2.2.2 21 (by decide) (by decide) (by decide) (by decide), (k1 ν (by omega) h3.2).2]
      exact h4
    rw [tnI (n := ν) rfl (by omega), e21]
    have k1v : ∀ j, lo < j → j ≤ n2 → nod v j = nod m2 j ∧ v.2.2.1 21 j = m2.2.2.1 21 j := fun j h0 hj => by
      have r : ∀ k, 16 ≤ k → k ≤ 21 → v.2.2.1 k = m3.2.2.1 k := fun k h1 h2 => qv.2.2.2.2 k (by omega) (by omega) (by omega) (by omega)
      have a := k1 j h0 hj
      unfold nod at a ⊢
      rw [r 16 (by decide) (by decide), r 17 (by decide) (by decide), r 18 (by decide) (by decide), r 19 (by decide) (by decide), r 20 (by decide) (by decide), r 21 (by decide) (by decide)]
      exact a
    have k2v : Kcc m2 v := (KPX_n kx qv.2.2.2).2
    have o13 : v.1 713 = m3.1 713 := qv.2.2.2.1 713 (by decide) (by decide)
    have := prw_tup hl h6 d M v (max cm X1) k1v k2v qv.1 (by rw [h5.2, qv.2.1, upd_at]) (by omega) (fun _ => by omega) (by rw [o13]; exact ho) (by omega)
    refine pk_mo this (fun u _ qu => ?_)
    rw [h5.2] at qu
    rw [← wup_tr (g := m3.2.2.1 42) (K := K) (W := W) (q := q) h1.1 (by omega), wup_0 (p := p) (p2 := q) g1, ← wup_tr (g := m3.2.2.1 42) (K := K) (W := W) (p := q) (q := q2) h1.2.1 h1.2.2, ← qv.2.2.1, show max cm (max X1 X2) = max (max cm X1) X2 by omega]
    exact NPQ_tr qv qu
end
end
section
set_option maxRecDepth 100000
section
variable {m v u m2 m3 : MS} {K nm W : Nat → Nat} {sc sc2 sc3 t : SCT} {e : List Nat × List Nat × Nat} {s x y N i f tok cm p p2 p3 n2 ν μ X Y lo : Nat} {own : Bool} {l : List Nat}
theorem ptn_tup {q q2 : Nat} {a c g : Int32} (hn : nod m2 ν = (I ((6 : Nat) : Int), a, I ((l.headD 0 : Nat) : Int), c, g)) (hlo : lo < ν) (hν : ν ≤ n2) (hl : n2 ≤ 8015) (hq : p ≤ q ∧ q ≤ q2 ∧ q2 ≤ p2) (g1 : ∀ j, p ≤ j → j < q → K j ≠ 3) (g2 : ∀ j, q2 ≤ j → j < p2 → K j ≠ 3) (hX : X ≤ 4000) {n1 : Nat} {m1 : MS} (h : PRW N K nm m1 lo n1 own W l q q2 sc sc2 X) (h1 : KPO n1 m1 m2) (hk : Kcc m1 m2) (hn1 : n1 < ν) : PTN N K nm m2 lo n2 ν own p p2 sc sc2 X W := by
  intro d m3 cm kx cn hm hc ho ht
  cases d with
  | zero => exact pk_none
  | succ d =>
    have e0 := KPX_nod kx hlo hν
    rw [hn] at e0
    have e1 : m3.2.2.1 16 ν = I ((6 : Nat) : Int) := (Prod.mk.inj e0).1
    have e3 : m3.2.2.1 18 ν = I ((l.headD 0 : Nat) : Int) := (Prod.mk.inj (Prod.mk.inj (Prod.mk.inj e0).2).2).1
    show PK _ (hm_Cm_pattern N (hrc_Cm_listPattern N d) m3 (I (ν : Nat)))
    unfold hm_Cm_pattern hb_Cm_pattern_0 hb_Cm_pattern_298
    rw [tnI (n := ν) rfl (by omega), e1]
    refine pk_ck (fun _ => ?_)
    have dd : ∀ b : Nat, b < 100 → b ≠ 6 → ∀ s : Int32, s = I (b : Nat) → decide (I ((6 : Nat) : Int) = s) = false := fun b hb h17 s hs => by rw [I_dn (by decide) hb hs]; exact decide_eq_false (fun z => h17 z.symm)
    rw [dd 1 (by decide) (by decide) 1 rfl, br_fq, dd 2 (by decide) (by decide) 2 rfl, br_fq, dd 3 (by decide) (by decide) 3 rfl, br_fq, dd 4 (by decide) (by decide) 4 rfl, br_fq, dd 5 (by decide) (by decide) 5 rfl, br_fq, show decide (I ((6 : Nat) : Int) = 6) = true from rfl, br_tq]
    refine pk_bnd (fun w1 r1 x1 => pk_ck (fun _ => pk_bnd (fun w2 r2 x2 => pk_ck (fun _ => ?_))))
    have f1 := yn_hm_Co_put (u0 := m3) Kn_rf w1 r1 x1
    have f2 := yn_hm_Co_put (u0 := w1) Kn_rf w2 r2 x2
    have q0 := NPQ_kn (NPQ_kn (NPQ_rf cn hm) f1) f2
    have r18 : w2.2.2.1 18 ν = I ((l.headD 0 : Nat) : Int) := by rw [q0.2.2.2.2 18 (by decide) (by decide) (by decide) (by decide)]; exact e3
    have kx2 := KPX_n kx q0.2.2.2
    have k1 : ∀ j, lo < j → j ≤ n1 → nod w2 j = nod m1 j ∧ w2.2.2.1 21 j = m1.2.2.1 21 j := fun j h0 hj => ⟨(kx2.1 j h0 (by omega)).1.trans (h1 j hj).1, ((kx2.1 j h0 (by omega)).2 (by omega)).trans (h1 j hj).2⟩
    have k2 : Kcc m1 w2 := ⟨fun k hk2 => (kx2.2.1 k hk2).trans (hk.1 k hk2), fun k hk2 => (kx2.2.2 k hk2).trans (hk.2 k hk2)⟩
    rw [r18]
    have o13 : w2.1 713 = m3.1 713 := q0.2.2.2.1 713 (by decide) (by decide)
    refine pk_mo (prw_tup (N := N) (by omega) h d N w2 cm k1 k2 q0.1 (by rw [q0.2.1, upd_at]) hc (fun _ => by omega) (by rw [o13]; exact ho) (by omega)) (fun u _ qu => ?_)
    rw [q0.2.2.1] at qu
    rw [← wup_tr (g := m3.2.2.1 42) (K := K) (W := W) (q := q) hq.1 (by omega), wup_0 (p := p) (p2 := q) g1, ← wup_tr (g := m3.2.2.1 42) (K := K) (W := W) (p := q) (q := q2) hq.2.1 hq.2.2, wup_0 (p := q2) (p2 := p2) g2]
    exact NPQ_tr q0 qu
theorem prw_lst {c0 q3 : Nat} {sc3 : SCT} {X3 : Nat} (hl : n2 ≤ 8015) (hν : ν ≤ 8015) (hX3 : X3 ≤ 4000) (tl : ∀ (d : Nat) (m3 : MS) (cm : Nat), (∀ j, lo < j → j ≤ n2 → nod m3 j = nod m2 j ∧ m3.2.2.1 21 j = m2.2.2.1 21 j) → Kcc m2 m3 → m3.2.2.1 20 ν = I (c0 : Nat) → CNs m3 nm sc2 → m3.2.2.1 41 (sc2.length - 1) = I (cm : Nat) → cm ≤ 4000 → decide (m3.1 713 = 0) = !own → tot sc2 + (q3 - p2) ≤ 4000 → ∀ f : MS → Unit → Option (MS × Unit), (∀ v, f v () = some (v, ())) → PK (fun m4 _ => NPQ nm (sc2.length - 1) sc3 (max cm X3) (wup (m3.2.2.1 42) K W p2 q3) m3 m4) (br (decide (I (c0 : Nat) = 0)) (bnd (hm_Co_put N m3 1) (fun u7 r7 => bnd (hm_Cm_term N u7 6 0) (fun u9 r9 => f u9 ()))) (ck (inb (I (ν : Nat)) 8016) (bnd ((hrc_Cm_listPattern N d).2 m3 (I (c0 : Nat))) (fun u15 r15 => f u15 ()))))) (hq3 : p2 ≤ q3) : ∀ {l : List Nat} {p : Nat} {sc : SCT} {X : Nat}, PRW N K nm m2 lo n2 own W l p p2 sc sc2 X → ∀ (d M : Nat) (m3 : MS) (cm : Nat), (∀ j, lo < j → j ≤ n2 → nod m3 j = nod m2 j ∧ m3.2.2.1 21 j = m2.2.2.1 21 j) → Kcc m2 m3 → m3.2.2.1 20 ν = I (c0 : Nat) → CNs m3 nm sc → m3.2.2.1 41 (sc.length - 1) = I (cm : Nat) → cm ≤ 4000 → max cm X ≤ 4000 → decide (m3.1 713 = 0) = !own → tot sc + (q3 - p) ≤ 4000 → PK (fun m4 _ => NPQ nm (sc.length - 1) sc3 (max cm (max X X3)) (wup (m3.2.2.1 42) K W p q3) m3 m4) (hg_Cm_listPattern N (hrc_Cm_listPattern N d) M m3 (I (ν : Nat)) (I ((l.headD 0 : Nat) : Int)))
  | _, _, _, _, _, _, 0, _, _, _, _, _, _, _, _, _, _, _ => pk_none
  | [], p, sc, X, ⟨h1, h2, h3⟩, d, M + 1, m3, cm, k1, k2, k20, cn, hm, hc, _, ho, ht => by
    subst h1
    subst h2
    subst h3
    show PK _ (hb_Cm_listPattern_10 N (hrc_Cm_listPattern N d) (hg_Cm_listPattern N (hrc_Cm_listPattern N d) M) m3 (I (ν : Nat)) 0)
    unfold hb_Cm_listPattern_10 hb_Cm_listPattern_84
    rw [show decide ((0 : Int32) = 0) = true from rfl, br_tq, tnI (n := ν) rfl (by omega), k20, show max 0 X3 = X3 by omega]
    exact pk_ck (fun _ => tl d m3 cm k1 k2 k20 cn hm hc ho ht (fun v _ => some (v, ())) (fun _ => rfl))
  | ν1 :: l, p, sc, X, ⟨q, q2, sc1, X1, X2, h1, g1, h2, h3, h4, h5, h6, h7⟩, d, M + 1, m3, cm, k1, k2, k20, cn, hm, hc, hX, ho, ht => by
    subst h7
    obtain ⟨a1, a2, a3⟩ := PRW_len h6
    show PK _ (hb_Cm_listPattern_10 N (hrc_Cm_listPattern N d) (hg_Cm_listPattern N (hrc_Cm_listPattern N d) M) m3 (I (ν : Nat)) (I (ν1 : Nat)))
    unfold hb_Cm_listPattern_10 hb_Cm_listPattern_84
    rw [decide_eq_false (p := I (ν1 : Nat) = 0) (fun z => by have := (I_eq (x := (ν1 : Nat)) (y := 0) (by omega) (by omega) (by omega) (by omega)).mp z; omega), br_fq]
    refine pk_bnd (fun w1 r1 x1 => ?_)
    have q0 := NPQ_kn (NPQ_rf cn hm) (yn_hm_Co_put (u0 := m3) Kn_rf w1 r1 x1)
    have tr : ∀ {a b : MS}, NFR a b → (∀ j, lo < j → j ≤ n2 → nod a j = nod m2 j ∧ a.2.2.1 21 j = m2.2.2.1 21 j) ∧ Kcc m2 a ∧ a.2.2.1 20 ν = I (c0 : Nat) ∧ decide (a.1 713 = 0) = !own → (∀ j, lo < j → j ≤ n2 → nod b j = nod m2 j ∧ b.2.2.1 21 j = m2.2.2.1 21 j) ∧ Kcc m2 b ∧ b.2.2.1 20 ν = I (c0 : Nat) ∧ decide (b.1 713 = 0) = !own := fun {a b} f z => by
      have r : ∀ k, 16 ≤ k → k ≤ 21 → b.2.2.1 k = a.2.2.1 k := fun k h1 h2 => f.2 k (by omega) (by omega) (by omega) (by omega)
      refine ⟨fun j h0 hj => ?_, ⟨fun k hk => ?_, fun k hk => ?_⟩, ?_, ?_⟩
      · have y := z.1 j h0 hj
        unfold nod at y ⊢
        rw [r 16 (by decide) (by decide), r 17 (by decide) (by decide), r 18 (by decide) (by decide), r 19 (by decide) (by decide), r 20 (by decide) (by decide), r 21 (by decide) (by decide)]
        exact y
      · rw [f.1 k (by omega) (by omega)]; exact z.2.1.1 k hk
      · rw [f.2 k (by omega) (by omega) (by omega) (by omega)]; exact z.2.1.2 k hk
      · rw [r 20 (by decide) (by decide)]; exact z.2.2.1
      · rw [f.1 713 (by decide) (by decide)]; exact z.2.2.2
    obtain ⟨b1, b2, b3, b4⟩ := tr q0.2.2.2 ⟨k1, k2, k20, ho⟩
    have kx : KPX lo n2 ν1 m2 w1 := ⟨fun j h0 hj => ⟨(b1 j h0 hj).1, fun _ => (b1 j h0 hj).2⟩, b2⟩
    obtain ⟨mi, li, ni, h2, hx2, hni, hli, -⟩ := h2
    refine pk_bnd (pk_mo (h2 d w1 cm (KPX_tr hx2 kx hni.2 hni.1) q0.1 (by rw [q0.2.1, upd_at]) hc b4 (by omega)) (fun v _ qv => pk_ck (fun _ => ?_)))
    obtain ⟨d1, d2, d3, d4⟩ := tr qv.2.2.2 ⟨b1, b2, b3, b4⟩
    have e21 : v.2.2.1 21 ν1 = I ((l.headD 0 : Nat) : Int) := by
      rw [(d1 ν1 (by omega) h3.2).2]
      exact h4
    rw [tnI (n := ν1) rfl (by omega), e21]
    have := prw_lst hl hν hX3 tl hq3 h6 d M v (max cm X1) d1 d2 d3 qv.1 (by rw [h5.2, qv.2.1, upd_at]) (by omega) (by omega) d4 (by omega)
    refine pk_mo this (fun u _ qu => ?_)
    rw [h5.2, qv.2.2.1, q0.2.2.1] at qu
    rw [← wup_tr (g := m3.2.2.1 42) (K := K) (W := W) (q := q) h1.1 (by omega), wup_0 (p := p) (p2 := q) g1, ← wup_tr (g := m3.2.2.1 42) (K := K) (W := W) (p := q) (q := q2) h1.2.1 (by omega), show max cm (max (max X1 X2) X3) = max (max cm X1) (max X2 X3) by omega]
    exact NPQ_tr q0 (NPQ_tr qv qu)
theorem ptn_lst {q q2 q3 c0 X3 : Nat} {a c : Int32} (hn : nod m2 ν = (I ((7 : Nat) : Int), a, I ((l.headD 0 : Nat) : Int), c, I (c0 : Nat))) (hlo : lo < ν) (hν : ν ≤ n2) (hl : n2 ≤ 8015) (hq : p ≤ q ∧ q ≤ q2 ∧ q2 ≤ q3 ∧ q3 ≤ p2) (g1 : ∀ j, p ≤ j → j < q → K j ≠ 3) (g2 : ∀ j, q3 ≤ j → j < p2 → K j ≠ 3) (hX : X ≤ 4000 ∧ X3 ≤ 4000) {n1 : Nat} {m1 : MS} (h : PRW N K nm m1 lo n1 own W l q q2 sc sc2 X) (h1 : KPO n1 m1 m2) (hk : Kcc m1 m2) (hn1 : n1 < ν) (tl : (c0 = 0 ∧ sc3 = sc2 ∧ X3 = 0 ∧ ∀ j, q2 ≤ j → j < q3 → K j ≠ 3) ∨ (0 < c0 ∧ c0 ≤ n1 ∧ ∃ p4 l4, lo ≤ l4 ∧ (q2 ≤ p4 ∧ p4 ≤ q3) ∧ (∀ j, q2 ≤ j → j < p4 → K j ≠ 3) ∧ PTN N K nm m1 l4 n1 c0 own p4 q3 sc2 sc3 X3 W)) : PTN N K nm m2 lo n2 ν own p p2 sc sc3 (max X X3) W := by
  intro d m3 cm kx cn hm hc ho ht
  cases d with
  | zero => exact pk_none
  | succ d =>
    cases d with
    | zero =>
      have e0 := KPX_nod kx hlo hν
      rw [hn] at e0
      have e1 : m3.2.2.1 16 ν = I ((7 : Nat) : Int) := (Prod.mk.inj e0).1
      show PK _ (hm_Cm_pattern N (hrc_Cm_listPattern N 0) m3 (I (ν : Nat)))
      unfold hm_Cm_pattern hb_Cm_pattern_0
      rw [tnI (n := ν) rfl (by omega), e1]
      refine pk_ck (fun _ => ?_)
      have dd : ∀ b : Nat, b < 100 → b ≠ 7 → ∀ s : Int32, s = I (b : Nat) → decide (I ((7 : Nat) : Int) = s) = false := fun b hb h17 s hs => by rw [I_dn (by decide) hb hs]; exact decide_eq_false (fun z => h17 z.symm)
      rw [dd 1 (by decide) (by decide) 1 rfl, br_fq, dd 2 (by decide) (by decide) 2 rfl, br_fq, dd 3 (by decide) (by decide) 3 rfl, br_fq, dd 4 (by decide) (by decide) 4 rfl, br_fq, dd 5 (by decide) (by decide) 5 rfl, br_fq, dd 6 (by decide) (by decide) 6 rfl, br_fq, show decide (I ((7 : Nat) : Int) = 7) = true from rfl, br_tq]
      exact pk_bnd (pk_none (Q := fun w r => PK _ _))
    | succ d =>
      obtain ⟨a1, a2, a3⟩ := PRW_len h
      have e0 := KPX_nod kx hlo hν
      rw [hn] at e0
      have e1 : m3.2.2.1 16 ν = I ((7 : Nat) : Int) := (Prod.mk.inj e0).1
      have e3 : m3.2.2.1 18 ν = I ((l.headD 0 : Nat) : Int) := (Prod.mk.inj (Prod.mk.inj (Prod.mk.inj e0).2).2).1
      have e5 : m3.2.2.1 20 ν = I (c0 : Nat) := (Prod.mk.inj (Prod.mk.inj (Prod.mk.inj (Prod.mk.inj e0).2).2).2).2
      show PK _ (hm_Cm_pattern N (hrc_Cm_listPattern N (d + 1)) m3 (I (ν : Nat)))
      unfold hm_Cm_pattern hb_Cm_pattern_0 hb_Cm_pattern_298
      rw [tnI (n := ν) rfl (by omega), e1]
      refine pk_ck (fun _ => ?_)
      have dd : ∀ b : Nat, b < 100 → b ≠ 7 → ∀ s : Int32, s = I (b : Nat) → decide (I ((7 : Nat) : Int) = s) = false := fun b hb h17 s hs => by rw [I_dn (by decide) hb hs]; exact decide_eq_false (fun z => h17 z.symm)
      rw [dd 1 (by decide) (by decide) 1 rfl, br_fq, dd 2 (by decide) (by decide) 2 rfl, br_fq, dd 3 (by decide) (by decide) 3 rfl, br_fq, dd 4 (by decide) (by decide) 4 rfl, br_fq, dd 5 (by decide) (by decide) 5 rfl, br_fq, dd 6 (by decide) (by decide) 6 rfl, br_fq, show decide (I ((7 : Nat) : Int) = 7) = true from rfl, br_tq]
      refine pk_bnd ?_
      show PK _ (hm_Cm_listPattern N (hrc_Cm_listPattern N d) m3 (I (ν : Nat)))
      unfold hm_Cm_listPattern hb_Cm_listPattern_0
      rw [tnI (n := ν) rfl (by omega), e3]
      refine pk_ck (fun _ => ?_)
      have k1 : ∀ j, lo < j → j ≤ n1 → nod m3 j = nod m1 j ∧ m3.2.2.1 21 j = m1.2.2.1 21 j := fun j h0 hj => ⟨(kx.1 j h0 (by omega)).1.trans (h1 j hj).1, ((kx.1 j h0 (by omega)).2 (by omega)).trans (h1 j hj).2⟩
      have k2 : Kcc m1 m3 := ⟨fun k hk2 => (kx.2.1 k hk2).trans (hk.1 k hk2), fun k hk2 => (kx.2.2 k hk2).trans (hk.2 k hk2)⟩
      refine pk_mo (prw_lst (N := N) (own := own) (K := K) (W := W) (q3 := q3) (sc3 := sc3) (X3 := X3) (by omega) (by omega) hX.2 (fun d m3 cm kk1 kk2 k20 cn hm hc ho ht f hf => ?_) hq.2.2.1 h d N m3 cm k1 k2 e5 cn hm hc (by omega) ho (by omega)) (fun u _ qu => pk_some ?_)
      · rcases tl with ⟨t1, t2, t3, t4⟩ | ⟨t1, t2, p4, l4, t0, t3, t4, t5⟩
        · subst t1
          subst t2
          subst t3
          rw [show decide (I ((0 : Nat) : Int) = 0) = true from rfl, br_tq, Nat.max_eq_left (Nat.zero_le cm), wup_0 t4]
          refine pk_bnd (fun w1 r1 x1 => pk_bnd (fun w2 r2 x2 => ?_))
          show PK _ (f w2 ())
          rw [hf]
          exact pk_some (NPQ_kn (NPQ_kn (NPQ_rf cn hm) (yn_hm_Co_put (u0 := m3) Kn_rf w1 r1 x1)) (yn_hm_Cm_term (u0 := w1) Kn_rf w2 r2 x2))
        · rw [decide_eq_false (p := I (c0 : Nat) = 0) (fun z => by have := (I_eq (x := (c0 : Nat)) (y := 0) (by omega) (by omega) (by omega) (by omega)).mp z; omega), br_fq]
          refine pk_ck (fun _ => pk_bnd (pk_mo (t5 d m3 cm ⟨fun j h0 hj => ⟨(kk1 j (by omega) hj).1, fun _ => (kk1 j (by omega) hj).2⟩, kk2⟩ cn hm hc ho (by omega)) (fun v _ qv => ?_)))
          show PK _ (f v ())
          rw [hf]
          refine pk_some ?_
          rw [← wup_tr (g := m3.2.2.1 42) (K := K) (W := W) (q := p4) t3.1 t3.2, wup_0 (p := q2) (p2 := p4) t4]
          exact qv
      · rw [← wup_tr (g := m3.2.2.1 42) (K := K) (W := W) (q := q) hq.1 (by omega), wup_0 (p := p) (p2 := q) g1, ← wup_tr (g := m3.2.2.1 42) (K := K) (W := W) (p := q) (q := q3) (by omega) hq.2.2.2, wup_0 (p := q3) (p2 := p2) g2]
        exact qu
end
end
section
def SNW (X : Nat) : SCT → SCT → Prop
  | e :: t, e2 :: _ => (∀ x, x ∈ e2.1 → x ∈ e.1 ∨ fnb x (e :: t) = false) ∧ e2.1.length ≤ max e.1.length X
  | _, _ => True
def SCO (own : Bool) (a b : SCT) (X : Nat) : Prop := SCX a b X ∧ (own = false → SNW X a b)
section
variable {sc sc2 sc3 t : SCT} {e : List Nat × List Nat × Nat} {x X Y : Nat} {w : MS} {own : Bool}
theorem fnb_cons : fnb x (e :: t) = (e.1.contains x || fnb x t) := rfl
theorem BDs_fnb : ∀ {a b : SCT}, BDs a b → fnb x b = fnb x a
  | [], [], _ => rfl
  | e :: t, e2 :: t2, h => by rw [fnb_cons, fnb_cons, h.1.1, BDs_fnb h.2]
  | [], _ :: _, h => h.elim
  | _ :: _, [], h => h.elim
theorem SCX_fnb {a b : SCT} (h : SCX a b X) (k : fnb x a = true) : fnb x b = true := by
  cases a with
  | nil => exact h.elim
  | cons e t =>
    cases b with
    | nil => exact h.elim
    | cons e2 t2 =>
      obtain ⟨h1, h2, h3⟩ := h
      rw [fnb_cons] at k ⊢
      rw [BDs_fnb h3]
      cases z : fnb x t with
      | true => exact Bool.or_true _
      | false =>
        rw [z, Bool.or_false] at k
        rw [Bool.or_false, List.contains_iff_mem]
        rw [List.contains_iff_mem] at k
        exact h1.subset k
theorem SNW_rf : SNW X sc sc := by
  cases sc with
  | nil => trivial
  | cons e t => exact ⟨fun x hx => Or.inl hx, Nat.le_max_left _ _⟩
theorem SNW_tr (h : SNW X sc sc2) (hx : SCX sc sc2 X) (k : SNW Y sc2 sc3) : SNW (max X Y) sc sc3 := by
  cases sc with
  | nil => trivial
  | cons e t =>
    cases sc3 with
    | nil => trivial
    | cons e3 t3 =>
      cases sc2 with
      | nil => exact hx.elim
      | cons e2 t2 =>
        refine ⟨fun x hx3 => ?_, ?_⟩
        · rcases k.1 x hx3 with z | z
          · exact h.1 x z
          · refine Or.inr ?_
            cases y : fnb x (e :: t) with
            | false => rfl
            | true => rw [SCX_fnb hx y] at z; cases z
        · have h2 := h.2
          have k2 := k.2
          omega
theorem SCO_rf : SCO own (e :: t) (e :: t) 0 := ⟨SCX_rf, fun _ => SNW_rf⟩
theorem SCO_tr (h : SCO own sc sc2 X) (k : SCO own sc2 sc3 Y) : SCO own sc sc3 (max X Y) := ⟨SCX_tr h.1 k.1, fun z => SNW_tr (h.2 z) h.1 (k.2 z)⟩
theorem SCO_0 (h : RNs w sc) : SCO own sc sc 0 := by
  cases sc with
  | nil => exact absurd h.2.1.1 (by decide)
  | cons e t => exact SCO_rf
theorem rfP_sn (h : own = false) : SNW (rfX own x (e :: t)) (e :: t) (rfP own x (e :: t)) := by
  subst h
  show SNW (if fnb x (e :: t) then 0 else e.1.length + 1) (e :: t) (if fnb x (e :: t) then hld x (e :: t) else bnS x (e :: t))
  by_cases z : fnb x (e :: t) = true
  · rw [if_pos z, if_pos z]
    unfold hld
    split
    · exact SNW_rf
    · split
      · exact ⟨fun y hy => Or.inl hy, Nat.le_max_left _ _⟩
      · exact SNW_rf
  · rw [if_neg z, if_neg z]
    have z : fnb x (e :: t) = false := by
      cases y : fnb x (e :: t) with
      | false => rfl
      | true => exact absurd y z
    refine ⟨fun y hy => ?_, ?_⟩
    · have hy : y ∈ e.1 ++ [x] := hy
      rcases List.mem_append.mp hy with i | i
      · exact Or.inl i
      · rw [List.mem_singleton.mp i]; exact Or.inr z
    · show (e.1 ++ [x]).length ≤ _
      rw [List.length_append]
      show e.1.length + 1 ≤ _
      omega
end
end
section
set_option maxRecDepth 100000
def CTZ (m0 w0 : MS) (K : Nat → Nat) (T : Nat) (nm Nk : Nat → Nat) : Prop := TKC m0 K T ∧ TWK w0 K T ∧ NMJ nm ∧ ∀ j, j < T → K j = 3 → m0.2.2.1 7 j = I (nm (Nk j) : Nat) ∧ w0.2.2.1 7 j = I (Nk j : Nat) ∧ Nk j < 1400 ∧ (UND w0 (Nk j) ↔ nm (Nk j) = 0)
def RLP (m0 w0 : MS) (T p : Nat) (m w : MS) : Prop := Kcc m0 m ∧ Ktc w0 w ∧ m.1 665 = I (p : Nat) ∧ w.1 69 = I (p : Nat) ∧ p ≤ T ∧ m.1 666 = w.1 70 ∧ w.1 67 = 0
def PCF (m v : MS) : Prop := (∀ k, k ∉ [306, 665] → v.1 k = m.1 k) ∧ ∀ k, k < 16 ∨ 21 < k → v.2.2.1 k = m.2.2.1 k
def WFP (w v : MS) : Prop := (∀ k, k ∉ [32, 39, 66, 69] → v.1 k = w.1 k) ∧ ∀ k, k < 23 ∨ 65 ≤ k → v.2.2.1 k = w.2.2.1 k
def lgS (sc : SCT) (X : Nat) (g : Int32) : Int32 := match sc with
  | [] => g
  | e :: _ => lgX e X g
def PAZ (N : Nat) (m0 w0 : MS) (K : Nat → Nat) (T : Nat) (nm Nk : Nat → Nat) (p n : Nat) (own : Bool) (sc : SCT) (m w m2 : MS) (z : Int32 ⊕ Nat) (w2 : MS) (_ : Int32) : Prop := match z with
  | .inr _ => FLW w2
  | .inl ε => ∃ (p2 n2 ν : Nat) (sc2 : SCT) (X : Nat) (W : Nat → Nat), ε = I (ν : Nat) ∧ (n < ν ∧ ν ≤ n2) ∧ RLP m0 w0 T p2 m2 w2 ∧ (p < p2 ∧ m2.1 306 = I (n2 : Nat) ∧ n2 + 2 * p + 1 ≤ n + 2 * p2) ∧ KPO n m m2 ∧ m2.2.2.1 21 ν = 0 ∧ PCF m m2 ∧ RNs w2 sc2 ∧ SCO own sc sc2 X ∧ HDs Nk K W p p2 sc sc2 ∧ (tot sc2 ≤ tot sc + (p2 - p) ∧ X ≤ 1400) ∧ w2.1 66 = lgS sc X (w.1 66) ∧ WFP w w2 ∧ PTN N K nm m2 n n2 ν own p p2 sc sc2 X W
def pAtB (N : Nat) (S : SG_M_rowPattern) (G : Unit) (v1 v2 : Int32) (u8 : MS) : Option (MS × Int32) := ck (inb (u8.1 69) (ln 6)) (br (decide ((u8.2.2.1 6 (u8.1 69).toNatClampNeg) = 2)) (bnd (fm_M_namePattern N u8 v1) (fun u20 r20 => fb_M_patternAt_388 N S G u20 (r20))) (br (decide (v2 = 0)) (ck (inb (u8.1 69) (ln 6)) (br (decide ((u8.2.2.1 6 (u8.1 69).toNatClampNeg) = 4)) (fb_M_patternAt_160 N S G u8 (v2)) (ck (inb (u8.1 69) (ln 6)) (br (decide ((u8.2.2.1 6 (u8.1 69).toNatClampNeg) = 1)) (bnd (fm_M_pattern N u8 3) (fun u16 r16 => ck (inb (u16.1 69) (ln 7)) (bnd (fm_M_term N u16 1 (u16.2.2.1 7 (u16.1 69).toNatClampNeg)) (fun u17 r17 => ck (inb r16 (ln 34)) (lt (upJ u17 34 (vp_updL (u17.2.2.2 34) r16.toNatClampNeg r17)) (fun w18 => lt (upI w18 69 ((w18.1 69) + 1)) (fun w19 => fb_M_patternAt_388 N S G w19 (r16)))))))) (ck (inb (u8.1 69) (ln 6)) (br (decide ((u8.2.2.1 6 (u8.1 69).toNatClampNeg) = 5)) (bnd (fm_M_pattern N u8 4) (fun u13 r13 => ck (inb (u13.1 69) (ln 7)) (ck (inb r13 (ln 35)) (lt (upA u13 35 (upd (u13.2.2.1 35) r13.toNatClampNeg (u13.2.2.1 7 (u13.1 69).toNatClampNeg))) (fun w14 => lt (upI w14 69 ((w14.1 69) + 1)) (fun w15 => fb_M_patternAt_388 N S G w15 (r13))))))) (bnd (fm_M_takeSign N u8 0) (fun u9 r9 => br (decide (r9 = 0)) (bnd (S.1 u9 v1) (fun u10 r10 => fb_M_patternAt_388 N S G u10 (r10))) (bnd (S.2 u9 v1) (fun u11 r11 => bnd (fm_M_needSign N u11 1) (fun u12 _ => fb_M_patternAt_388 N S G u12 (r11)))))))))))) (fb_M_patternAt_160 N S G u8 (v2))))
section
variable {m0 w0 m w v u u0 : MS} {K nm Nk W : Nat → Nat} {T p n N : Nat} {sc t : SCT} {e : List Nat × List Nat × Nat} {own : Bool} {S : SG_M_rowPattern} {v1 v2 : Int32}
theorem pAt_101 {t0 : Int32} : fb_M_patternAt_101 N S () u v1 v2 t0 = br (decide (t0 = 0)) (bnd (fm_M_wrong N u 2) (fun u21 _ => some (u21, (-1)))) (bnd (fm_M_opens N u) (fun u8 _ => pAtB N S () v1 v2 u8)) := rfl
theorem Kf_pk {α : Type} {o : Option (MS × α)} (h : KfE u0 o) : PK (fun w _ => FLW w) o := fun w r e => h w r e
theorem pAtB_f (h : Kfc u0 u) (hS0 : ∀ (u : MS) a0, Kfc u0 u → KfE u0 (S.1 u a0)) (hS1 : ∀ (u : MS) a0, Kfc u0 u → KfE u0 (S.2 u a0)) : KfE u0 (pAtB N S () v1 v2 u) := by
  unfold pAtB
  repeat' (first | with_reducible assumption | with_reducible refine Kf_br ?_ ?_ | with_reducible refine Kf_bnd ?_ (fun _ _ _ => ?_) | with_reducible refine Kf_ck ?_ | with_reducible refine Kf_ltm ?_ (fun _ _ => ?_) | with_reducible refine Kf_some ?_ | with_reducible exact yf_fb_M_patternAt_388 (by assumption) hS0 hS1 | with_reducible exact yf_fb_M_patternAt_160 (by assumption) hS0 hS1 | with_reducible exact yf_fm_M_namePattern (by assumption) | with_reducible exact yf_fm_M_pattern (by assumption) | with_reducible exact yf_fm_M_term (by assumption) | with_reducible exact yf_fm_M_takeSign (by assumption) | with_reducible exact yf_fm_M_needSign (by assumption) | with_reducible exact hS0 _ _ (by assumption) | with_reducible exact hS1 _ _ (by assumption) | with_reducible refine Kf_ltv (fun _ => ?_) | with_reducible refine Kf_I ?_ (by decide) | with_reducible refine Kf_A ?_ | with_reducible refine Kf_J ?_ | with_reducible refine Kf_L ?_)
theorem RLP_c (c : CTZ m0 w0 K T nm Nk) (h : RLP m0 w0 T p m w) : CP m K T p := ⟨⟨c.1.1, fun j hj => by rw [h.1.2 6 (by decide)]; exact c.1.2 j hj⟩, h.2.2.1, h.2.2.2.2.1⟩
theorem RLP_w (c : CTZ m0 w0 K T nm Nk) (h : RLP m0 w0 T p m w) : WP w K T p := ⟨⟨c.2.1.1, fun j hj => by rw [h.2.1.2 6 (by decide)]; exact c.2.1.2.1 j hj, fun j hj => by rw [h.2.1.2 7 (by decide)]; exact c.2.1.2.2 j hj⟩, h.2.2.2.1, h.2.2.2.2.1⟩
theorem PCF_k (h : PCF m v) : Kcc m v := ⟨fun k hk => h.1 k (by simp only [List.mem_cons, List.not_mem_nil, or_false]; omega), fun k hk => h.2 k (by omega)⟩
theorem PCF_tr (h : PCF m v) (k : PCF v u) : PCF m u := ⟨fun j hj => (k.1 j hj).trans (h.1 j hj), fun j hj => (k.2 j hj).trans (h.2 j hj)⟩
theorem WFP_k (h : WFP w v) : Ktc w v := ⟨fun k hk => h.1 k (by unfold TIN at hk; simp only [List.mem_cons, List.not_mem_nil, or_false] at hk ⊢; omega), fun k hk => h.2 k (by unfold TRW at hk; simp only [List.mem_cons, List.not_mem_nil, or_false] at hk; omega)⟩
theorem WFP_tr (h : WFP w v) (k : WFP v u) : WFP w u := ⟨fun j hj => (k.1 j hj).trans (h.1 j hj), fun j hj => (k.2 j hj).trans (h.2 j hj)⟩
theorem Kc_tr (h : Kcc m v) (k : Kcc v u) : Kcc m u := ⟨fun j hj => (k.1 j hj).trans (h.1 j hj), fun j hj => (k.2 j hj).trans (h.2 j hj)⟩
theorem Kt_tr (h : Ktc m v) (k : Ktc v u) : Ktc m u := ⟨fun j hj => (k.1 j hj).trans (h.1 j hj), fun j hj => (k.2 j hj).trans (h.2 j hj)⟩
theorem lf_e (h : CP m K T p) (hn : m.1 306 = I (n : Nat)) (h8 : n + 1 < 8016) : hm_Pa_leaf N m = some (upI (adN m n (I (K p : Nat)) (I (p : Nat)) (m.2.2.1 7 p) 0 0) 665 (I ((p + 1 : Nat) : Int)), I ((n + 1 : Nat) : Int)) := by
  obtain ⟨a, b, c⟩ := CP_i h
  unfold hm_Pa_leaf hb_Pa_leaf_0
  rw [a, b, c, h.2.1, add_e hn h8]
  show some (upI (adN m n (I (K p : Nat)) (I (p : Nat)) (m.2.2.1 7 p) 0 0) 665 ((adN m n (I (K p : Nat)) (I (p : Nat)) (m.2.2.1 7 p) 0 0).1 665 + 1), _) = _
  rw [adN_i (by decide), h.2.1, i_suc]
end
end
