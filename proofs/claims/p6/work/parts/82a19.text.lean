def TXT (u w : MS) (k : Int) : Prop := FR [144] [] [143] [] u w ∧ F u 144 ≤ F w 144 ∧ F w 144 ≤ F u 144 + k
theorem TXT.tr {u v w : MS} {a b c : Int} (x : TXT u v a) (y : TXT v w b) (h : a + b ≤ c) : TXT u w c := ⟨FR.tr x.1 y.1, by have := x.2.1; have := y.2.1; omega, by have := x.2.2; have := y.2.2; omega⟩
theorem lit100 : (100 : Int32) = I 100 := rfl
theorem sign_ok {N : Nat} {u : MS} {c : Int32} (h1 : 0 ≤ F u 144) (h2 : F u 144 ≤ 1000000) : OK (fun w _ => TXT u w 1 ∧ F w 144 = F u 144 + 1) (fm_M_sign N u c) := by
  unfold fm_M_sign fb_M_sign_0 fb_M_sign_20
  rw [I_F (w := u), lit100, decI (by omega) (by omega) (by omega) (by omega)]
  by_cases e : 100 ≤ F u 144
  · rw [decide_eq_true e, br_tq, lt_e, lit1q, I_add, wi_e]
    have ef : F (wi u 144 (F u 144 + 1)) 144 = F u 144 + 1 := by rw [F_wi (by omega) (by omega), if_pos rfl]
    exact ok_some.mpr ⟨⟨FR.wi FR.rf (by decide), by omega, by omega⟩, ef⟩
  · rw [decide_eq_false e, br_fq, inb_at (k := 143) (n := 100) rfl h1 (by omega) (by decide), ck_t, lt_e, I_tn (by omega) (by omega)]
    generalize hv : vp_nar .byte (c.toInt8.toInt32) = v
    rw [I_of v, wa_e, lt_e, show (wa u 143 (F u 144).toNat v.toInt).1 144 = I (F u 144) from I_F, lit1q, I_add, wi_e]
    have ef : F (wi (wa u 143 (F u 144).toNat v.toInt) 144 (F u 144 + 1)) 144 = F u 144 + 1 := by rw [F_wi (by omega) (by omega), if_pos rfl]
    exact ok_some.mpr ⟨⟨FR.wi (FR.wa FR.rf (by decide)) (by decide), by omega, by omega⟩, ef⟩
def pw (k : Nat) : Int64 := Int64.ofNat (10 ^ k)
theorem pw_f : ∀ k, k < 11 → pw k * 10 = pw (k + 1) ∧ (k ≠ 0 → pw k / 10 = pw (k - 1)) ∧ ¬ pw k = 0 ∧ decide (lg_cmp (pw k) 0 ≤ 0) = false := by decide +kernel
theorem pw_0 : pw 0 / 10 = 0 ∧ decide (lg_cmp 0 0 ≤ 0) = true := by decide +kernel
theorem pw_10 {x : Int64} (h : x.toInt ≤ 2147483648) : 0 < lg_cmp (pw 10) x := by
  unfold lg_cmp
  have : (pw 10).toInt = 10000000000 := by decide +kernel
  rw [if_pos (by show x < pw 10; rw [Int64.lt_iff_toInt_lt]; omega)]
  decide
theorem dg2 {N : Nat} {x : Int64} : ∀ (m k : Nat) (u : MS), k < 11 → k + 1 < m → 0 ≤ F u 144 → F u 144 + k ≤ 100000 → OK (fun w _ => TXT u w (k + 1)) ((gg_M_digits N m).2 u x (pw k)) := by
  intro m
  induction m with
  | zero => intro k u _ z; omega
  | succ m ih =>
    intro k u hk hm h1 h2
    obtain ⟨-, p2, p3, p4⟩ := pw_f k hk
    show OK _ (fb_M_digits_48 N (gg_M_digits N m) u x (pw k))
    unfold fb_M_digits_48
    rw [p4, br_fq, decide_eq_true p3, ck_t, show (decide (¬ (10 : Nat) = 0)) = true from rfl, ck_t]
    refine ok_bnd.mpr (ok_mono (sign_ok h1 (by omega)) (fun w _ hw => ?_))
    rw [ck_t]
    have := hw.2
    cases k with
    | zero =>
      rw [pw_0.1]
      cases m with
      | zero => omega
      | succ m =>
        show OK _ (fb_M_digits_48 N (gg_M_digits N m) w x 0)
        unfold fb_M_digits_48
        rw [pw_0.2, br_tq]
        exact ok_some.mpr hw.1
    | succ k =>
      rw [p2 (by omega)]
      exact ok_mono (ih k w (by omega) (by omega) (by omega) (by omega)) (fun w2 _ q => TXT.tr (c := ((k + 1 : Nat) : Int) + 1) hw.1 q (by omega))
theorem dg1 {N : Nat} {x : Int64} {v : Int32} (hx : x.toInt ≤ 2147483648) : ∀ (m k : Nat) (u : MS), k < 10 → (10 - k) + 20 < m → 0 ≤ F u 144 → F u 144 ≤ 90000 → OK (fun w _ => TXT u w 12) ((gg_M_digits N m).1 u v x (pw k)) := by
  intro m
  induction m with
  | zero => intro k u _ z; omega
  | succ m ih =>
    intro k u hk hm h1 h2
    obtain ⟨p1, -⟩ := pw_f k (by omega)
    show OK _ (fb_M_digits_16 N (gg_M_digits N m) u v x (pw k))
    unfold fb_M_digits_16
    rw [p1]
    have down : OK (fun w _ => TXT u w 12) (br (decide (0 ≤ v)) ((gg_M_digits N m).2 u x (pw k)) (bnd (fm_M_sign N u 45) (fun u2 _ => (gg_M_digits N m).2 u2 x (pw k)))) := by
      refine ok_br.mpr ⟨fun _ => ok_mono (dg2 m k u (by omega) (by omega) h1 (by omega)) (fun w _ q => ⟨q.1, q.2.1, by have := q.2.2; omega⟩), fun _ => ok_bnd.mpr (ok_mono (sign_ok h1 (by omega)) (fun w _ hw => ?_))⟩
      have := hw.2
      exact ok_mono (dg2 m k w (by omega) (by omega) (by omega) (by omega)) (fun w2 _ q => TXT.tr (c := 12) hw.1 q (by omega))
    refine ok_br.mpr ⟨fun _ => down, fun h0 => ?_⟩
    by_cases e : k = 9
    · subst e
      exact absurd (pw_10 hx) (of_decide_eq_false h0)
    · exact ih (k + 1) u (by omega) (by omega) h1 h2
theorem digits_ok {N : Nat} {u : MS} {v : Int32} (h1 : 0 ≤ F u 144) (h2 : F u 144 ≤ 90000) (hN : 100 ≤ N) : OK (fun w _ => TXT u w 12) (fm_M_digits N u v) := by
  have hv := ti_rng v
  unfold fm_M_digits fb_M_digits_0 fb_M_digits_12
  rw [show (1 : Int64) = pw 0 from rfl]
  refine ok_br.mpr ⟨fun _ => dg1 ?_ N 0 u (by omega) (by omega) h1 h2, fun _ => dg1 ?_ N 0 u (by omega) (by omega) h1 h2⟩
  · rw [Int32.toInt_toInt64]; omega
  · rw [Int64.toInt_neg, Int32.toInt_toInt64, Int.bmod_eq_of_le] <;> omega
