/-! a FUNCTION is called, both sides -/
set_option maxRecDepth 100000
/-- a FRAME anew -/
def upf {γ : Type} (g : Nat → γ) (k : Nat) (v : γ) : Nat → γ := fun i => if i = k then v else g i
theorem upf_s {γ : Type} {g : Nat → γ} {k : Nat} {v : γ} : upf g k v k = v := if_pos rfl
theorem upf_n {γ : Type} {g : Nat → γ} {k i : Nat} {v : γ} (h : i ≠ k) : upf g k v i = g i := if_neg h
section
variable {N p j a ar f e B P0 : Nat} {m w w2 u : MS} {z v x : Int}
theorem cnM_q {l : Nat} (h : l ≠ 13) : (cnM m p).1 (pq p l) = m.1 (pq p l) := by
  unfold cnM
  rw [wi_1 (fun c => pq_n (by omega) c.symm), wi_1 (pq_inj h), wi_1 (fun c => pq_n (by omega) c.symm)]
theorem cnM_1 {l : Nat} (h0 : l < 2000) (h1 : l ≠ 1106) (h2 : l ≠ 946) : (cnM m p).1 l = m.1 l := by
  unfold cnM
  rw [wi_1 h2, wi_1 (pq_n h0), wi_1 h1]
theorem cnM_13 : (cnM m p).1 (pq p 13) = I (F m (pq p 13) + 1) := by
  unfold cnM
  rw [wi_1 (fun c => pq_n (by omega) c.symm)]
  exact wi_s1
theorem cnM_06 : (cnM m p).1 1106 = I (F m 1106 + 1) := by
  unfold cnM
  rw [wi_1 (by omega), wi_1 (pq_n (by omega))]
  exact wi_s1
/-- one CALL more has been counted, there, here -/
def cbM (m : MS) : MS := wi (wi m 946 (F m 946 + 1)) 1106 (F m 1106 + 1)
def cbW (w : MS) : MS := wi (wi w 119 (F w 119 + 1)) 165 (F w 165 + 1)
theorem GGm_cn : GGm p (cbM m) (cnM m p) := by
  have q : ∀ l, l ≠ pq p 13 → (cnM m p).1 l = (cbM m).1 l := fun l h2 => by
    unfold cnM cbM
    by_cases c : l = 946
    · subst c
      rw [wi_s1, wi_1 (by omega), wi_s1]
    · by_cases c6 : l = 1106
      · subst c6
        rw [wi_1 c, wi_1 h2, wi_s1, wi_s1]
      · rw [wi_1 c, wi_1 h2, wi_1 c6, wi_1 c6, wi_1 c]
  exact ⟨fun d hd l hl => ⟨q _ (fun c => hd (pq_e hl (by omega) c).1), rfl, rfl, rfl⟩, ⟨rfl, q 22 (pq_n (by omega)), rfl, rfl⟩, q 955 (pq_n (by omega)), rfl, q 956 (pq_n (by omega)), fun _ _ => rfl, fun k hk => q k (pq_n (by omega))⟩
/-- a CALL may begin, there -/
theorem begins_e {t1 : Int32} {ln0 : Int32} (hlt : F m 1106 < F m 1107) (h21 : F m (pq p 21) = ((j + 1 : Nat) : Int)) (ht : t1 = 1 ∨ (t1 = 0 ∧ j + 1 < 60)) : hm_Ma_begins N m p t1 ln0 = some (cnM m p, 1) := by
  unfold hm_Ma_begins hb_Ma_begins_0
  have r6 := F_r m 1106
  have r7 := F_r m 1107
  have c0 : decide (m.1 1106 < m.1 1107) = true := decide_eq_true (by
    rw [I_F (k := 1106), I_F (k := 1107), I_lt r6.1 r6.2 r7.1 r7.2]
    exact hlt)
  have i1 : ∀ u : MS, ∀ k, u.1 k + 1 = I (F u k + 1) := fun u k => by rw [I_F (k := k), lit1, I_add]
  have e57 : hb_Ma_begins_57 N () m p = some (cnM m p, 1) := by
    unfold hb_Ma_begins_57
    rw [i1 m 1106, wi_e, lt_e]
    have e13 : F (wi m 1106 (F m 1106 + 1)) (pq p 13) = F m (pq p 13) := wi_ne (fun c => pq_n (by omega) c.symm)
    rw [i1 _ (pq p 13), e13, wi_e, lt_e]
    have e46 : F (wi (wi m 1106 (F m 1106 + 1)) (pq p 13) (F m (pq p 13) + 1)) 946 = F m 946 := by rw [wi_ne (pq_n (by omega)), wi_ne (by omega)]
    rw [i1 _ 946, e46, wi_e, lt_e]
    rfl
  rw [c0, br_t]
  rcases ht with rfl | ⟨rfl, ht⟩
  · rw [show decide ((1 : Int32) = 0) = false from rfl, br_f]
    exact e57
  · rw [show decide ((0 : Int32) = 0) = true from rfl, br_t, I_F' h21, show decide (I ((j + 1 : Nat) : Int) < 60) = true from decide_eq_true (by rw [show (60 : Int32) = I 60 from rfl, I_lt (by omega) (by omega) (by omega) (by omega)]; omega), br_t]
    exact e57
/-- there -/
theorem callN_m (hlt : F m 1106 < F m 1107) (hpc : F m 1105 = ((a : Nat) : Int)) (ha : a + 3 < 24000) (h21 : F m (pq p 21) = ((j + 1 : Nat) : Int)) (hj : j + 1 < 60) (h24 : F m (pq p 24) = ((B : Nat) : Int)) (h26 : F m (pq p 26) = ((P0 + ar : Nat) : Int)) (c2 : A m 23 (a + 2) = ((ar : Nat) : Int)) (hf : f < 666) (h442 : ((f : Nat) : Int) < F m 442) (h29 : A m 29 f = ((e : Nat) : Int)) : hm_Ma_call N m p (I ((f : Nat) : Int)) 0 = some (wi (opS (s30 (cnM m p) p (5 * j + 4) (I ((a + 4 : Nat) : Int))) p (j + 1) B P0 (I ((f : Nat) : Int)) (I ((e : Nat) : Int))) 1105 ((e : Nat) : Int), ()) := by
  unfold hm_Ma_call hb_Ma_call_0 hb_Ma_call_70
  have r42 := F_r m 442
  have g5 : F (cnM m p) 1105 = ((a : Nat) : Int) := (congrArg Int32.toInt (cnM_1 (by omega) (by omega) (by omega))).trans hpc
  have g21 : F (cnM m p) (pq p 21) = ((j + 1 : Nat) : Int) := (congrArg Int32.toInt (cnM_q (by omega))).trans h21
  have g24 : F (cnM m p) (pq p 24) = ((B : Nat) : Int) := (congrArg Int32.toInt (cnM_q (by omega))).trans h24
  have g26 : F (cnM m p) (pq p 26) = ((P0 + ar : Nat) : Int) := (congrArg Int32.toInt (cnM_q (by omega))).trans h26
  have g42 : F (cnM m p) 442 = F m 442 := congrArg Int32.toInt (cnM_1 (by omega) (by omega) (by omega))
  have g23 : A (cnM m p) 23 (a + 2) = ((ar : Nat) : Int) := c2
  have g29 : A (cnM m p) 29 f = ((e : Nat) : Int) := h29
  rw [I_F' hpc, show I ((a : Nat) : Int) + 3 = I ((a + 3 : Nat) : Int) from addN, Co_e (k := a + 3) rfl ha, bnd_so, begins_e hlt h21 (Or.inr ⟨rfl, hj⟩), bnd_so, show decide ((1 : Int32) = 0) = false from rfl, br_f, d_lt0 (by omega), br_f, I_F (k := 442), g42, decI r42.1 r42.2 (by omega) (by omega), decide_eq_false (by omega), br_f, (I_inb (by omega) (by omega)).mpr ⟨by omega, by omega⟩, ck_t, I_F' g5, show I ((a : Nat) : Int) + 2 = I ((a + 2 : Nat) : Int) from addN, Co_e (k := a + 2) rfl (by omega), bnd_so, g23, tnI (n := f) rfl (by omega), I_A' g29, I_F' g5, show I ((a : Nat) : Int) + 4 = I ((a + 4 : Nat) : Int) from addN]
  unfold hm_Ma_enter hb_Ma_enter_0 hb_Ma_enter_37
  rw [show decide ((0 : Int32) = 0) = true from rfl, br_t, setPlace_e (j := j) g21 (by omega), bnd_so, open_e (m := s30 (cnM m p) p (5 * j + 4) (I ((a + 4 : Nat) : Int))) (j := j + 1) (B := B) (P0 := P0) (ar := ar) g21 hj g24 g26, bnd_so, wi_e, lt_e, bnd_so]
end
