def wst (k : Nat) : Nat := [0, 6, 14, 20, 25, 31, 35, 39, 43, 46, 50, 53, 60, 68, 72, 77].getD k 0
def wln (k : Nat) : Nat := [5, 7, 5, 4, 5, 3, 3, 3, 2, 3, 2, 6, 7, 3, 4].getD k 0
def WTB (w : MS) : Prop := ∀ k, k < 15 → A w 0 (wst k) = ((wln k : Nat) : Int)
theorem wst_f : ∀ k, k < 15 → wst (k + 1) = wst k + wln k + 1 ∧ wst (k + 1) ≤ 77 ∧ wln k ≤ 7 := by decide
section
variable {Q : MS → Unit → Prop} {u v : MS} {N fr len : Nat}
theorem firstA_ok (hN : 200000 ≤ N) (fb : FAB u) (h0 : A u 13 0 = 0) : OK (fun v _ => FAI u v 22) (fm_M_allFirstAtoms N u) := by
  unfold fm_M_allFirstAtoms fb_M_allFirstAtoms_0
  refine ok_lt.mpr (ok_lt.mpr (ok_lt.mpr ?_))
  show OK _ (gg_M_allFirstAtoms N N (wi (wi (wi u 14 0) 17 0) 20 0) (I (faS 0)))
  refine first_loop hN fb h0 22 0 _ N (by omega) (by omega) ⟨FR.wi (FR.wi (FR.wi FR.rf (by decide)) (by decide)) (by decide), rfl, rfl, rfl, fun i hi => ?_, fun k hk => by omega⟩
  obtain rfl : i = 0 := by omega
  exact h0
def WDQ (u : MS) (len : Nat) (v : MS) (r : Int32) : Prop := v = u ∧ (r = -1 ∨ ∃ k : Nat, k < 15 ∧ r = I k ∧ len = wln k)
theorem wd_inner (hf : fr + len ≤ 4000) (wt : WTB u) {k : Nat} (hk : k < 15) {m0 : Nat} (hO : ∀ m, m0 ≤ m → OK (WDQ u len) ((gg_M_wordAt N m).1 u (I fr) (I len) (I (wst (k + 1))) (I ((k + 1 : Nat) : Int)))) : (∀ (i m : Nat), i ≤ len → m0 + 1 ≤ m → OK (WDQ u len) ((gg_M_wordAt N m).2 u (I fr) (I len) (I (wst k)) (I k) 0 (I i))) ∧ (len = wln k → ∀ (d i m : Nat), i + d = len → m0 + d + 2 ≤ m → OK (WDQ u len) ((gg_M_wordAt N m).2 u (I fr) (I len) (I (wst k)) (I k) 1 (I i))) := by
  have pf := wst_f k hk
  have t := wt k hk
  have es : (I ((wst k : Nat) : Int)).toNatClampNeg = wst k := by rw [I_tn (by omega) (by omega)]; omega
  have e2 : I (k : Int) + 1 = I ((k + 1 : Nat) : Int) := by rw [lit1q, I_add]; rfl
  have f81 : ∀ (s : Int32) (m : Nat), m0 ≤ m → (s = 0 ∨ (s = 1 ∧ len = wln k)) → OK (WDQ u len) (fb_M_wordAt_81 N (gg_M_wordAt N m) u (I fr) (I len) (I (wst k)) (I k) s) := fun s m hm hs => by
    unfold fb_M_wordAt_81
    rcases hs with hs | ⟨hs, h2⟩
    · rw [hs, br00, es]
      refine k_in (k := 0) (n := 77) rfl (by decide) (by omega) (ok_lt.mpr ?_)
      have e1 : I (wst k : Int) + (u.2.2.1 0 (wst k) + 1) = I ((wst (k + 1) : Nat) : Int) := by
        rw [I_A' t, lit1q, I_add, I_add]; congr 1; omega
      rw [e1, e2]; exact hO m hm
    · rw [hs, br10]; exact ok_some.mpr ⟨rfl, Or.inr ⟨k, hk, rfl, h2⟩⟩
  have c0 : ∀ (i m : Nat), i ≤ len → m0 + 1 ≤ m → OK (WDQ u len) ((gg_M_wordAt N m).2 u (I fr) (I len) (I (wst k)) (I k) 0 (I i)) := fun i m hi hm => by
    obtain ⟨m', rfl⟩ : ∃ m', m = m' + 1 := ⟨m - 1, by omega⟩
    show OK _ (fb_M_wordAt_34 N (gg_M_wordAt N m') u (I fr) (I len) (I (wst k)) (I k) 0 (I i))
    unfold fb_M_wordAt_34
    rw [br00]
    exact ok_br.mpr ⟨fun _ => f81 0 m' (by omega) (Or.inl rfl), fun _ => f81 0 m' (by omega) (Or.inl rfl)⟩
  refine ⟨c0, fun hl d => ?_⟩
  induction d with
  | zero =>
    intro i m hi hm
    obtain ⟨m', rfl⟩ : ∃ m', m = m' + 1 := ⟨m - 1, by omega⟩
    show OK _ (fb_M_wordAt_34 N (gg_M_wordAt N m') u (I fr) (I len) (I (wst k)) (I k) 1 (I i))
    unfold fb_M_wordAt_34
    exact k_le (x := (len : Int)) (y := (i : Int)) ⟨by omega, by omega⟩ ⟨by omega, by omega⟩ (fun _ => f81 1 m' (by omega) (Or.inr ⟨rfl, hl⟩)) (fun y => by omega)
  | succ d ih =>
    intro i m hi hm
    obtain ⟨m', rfl⟩ : ∃ m', m = m' + 1 := ⟨m - 1, by omega⟩
    show OK _ (fb_M_wordAt_34 N (gg_M_wordAt N m') u (I fr) (I len) (I (wst k)) (I k) 1 (I i))
    unfold fb_M_wordAt_34 fb_M_wordAt_73
    rw [br10]
    have e3 : I (wst k : Int) + 1 + I (i : Int) = I ((wst k : Int) + 1 + i) := by rw [lit1q, I_add, I_add]
    have e4 : I (fr : Int) + I (i : Int) = I ((fr : Int) + i) := I_add
    have e5 : I (i : Int) + 1 = I ((i + 1 : Nat) : Int) := by rw [lit1q, I_add]; rfl
    rw [e3, e4, e5]
    refine k_le (x := (len : Int)) (y := (i : Int)) ⟨by omega, by omega⟩ ⟨by omega, by omega⟩ (fun y => by omega) (fun _ => ?_)
    exact k_in (k := 0) (n := 77) rfl (by decide) (by omega) (k_in (k := 4) (n := 4000) rfl (by decide) (by omega) (ok_br.mpr ⟨fun _ => ih (i + 1) m' (by omega) (by omega), fun _ => c0 (i + 1) m' (by omega) (by omega)⟩))
theorem wd_outer (hf : fr + len ≤ 4000) (wt : WTB u) : ∀ (d k : Nat), k + d = 15 → ∀ m, 20 * d + 1 ≤ m → OK (WDQ u len) ((gg_M_wordAt N m).1 u (I fr) (I len) (I (wst k)) (I k)) := by
  intro d
  induction d with
  | zero =>
    intro k hk m hm
    obtain ⟨m', rfl⟩ : ∃ m', m = m' + 1 := ⟨m - 1, by omega⟩
    obtain rfl : k = 15 := by omega
    show OK _ (fb_M_wordAt_5 N (gg_M_wordAt N m') u (I fr) (I len) (I (wst 15)) (I (15 : Nat)))
    unfold fb_M_wordAt_5
    exact ok_some.mpr ⟨rfl, Or.inl rfl⟩
  | succ d ih =>
    intro k hk m hm
    obtain ⟨m', rfl⟩ : ∃ m', m = m' + 1 := ⟨m - 1, by omega⟩
    have hk3 : k < 15 := by omega
    have pf := wst_f k hk3
    have t := wt k hk3
    show OK _ (fb_M_wordAt_5 N (gg_M_wordAt N m') u (I fr) (I len) (I (wst k)) (I k))
    unfold fb_M_wordAt_5 fb_M_wordAt_29
    have e0 : Int32.ofNat (ln 0) = I 77 := rfl
    have es : (I ((wst k : Nat) : Int)).toNatClampNeg = wst k := by rw [I_tn (by omega) (by omega)]; omega
    rw [e0, es, I_A' t]
    refine k_le (x := 77) (y := (wst k : Int)) ⟨by decide, by decide⟩ ⟨by omega, by omega⟩ (fun y => by omega) (fun _ => ?_)
    refine k_in (k := 0) (n := 77) rfl (by decide) (by omega) ?_
    have inn := wd_inner (N := N) hf wt hk3 (m0 := 20 * d + 1) (fun m hm => ih (k + 1) (by omega) m hm)
    refine k_eq (x := (wln k : Int)) (y := (len : Int)) ⟨by omega, by omega⟩ ⟨by omega, by omega⟩ (fun z => ?_) (fun _ => inn.1 0 m' (by omega) (by omega))
    exact inn.2 (by omega) len 0 m' (by omega) (by omega)
theorem wordAt_ok (hN : 1000 ≤ N) (hf : fr + len ≤ 4000) (wt : WTB u) : OK (WDQ u len) (fm_M_wordAt N u (I fr) (I len)) := by
  unfold fm_M_wordAt fb_M_wordAt_0
  exact wd_outer hf wt 15 0 rfl N (by omega)
def tkn (u : MS) (s y : Int) : MS := wi (wa (wa (wa u 6 (F u 9).toNat s) 7 (F u 9).toNat y) 8 (F u 9).toNat (F u 11)) 9 (F u 9 + 1)
theorem k_token {α : Type} {Q : MS → α → Prop} {f : MS → Unit → Option (MS × α)} {c d : Int32} {s y : Int} (hc : vp_nar .byte (c.toInt8.toInt32) = I s) (hd : d = I y) (h9 : 0 ≤ F u 9 ∧ F u 9 ≤ 4001) (a : OK Q (f (tkn u s y) ())) : OK Q (bnd (fm_M_token N u c d) f) := by
  unfold fm_M_token fb_M_token_0
  have e1 : inb (u.1 9) (ln 6) = true := by rw [I_F (k := 9)]; exact inb_at (k := 6) (n := 4002) rfl (by omega) (by omega) (by decide)
  have e2 : inb (u.1 9) (ln 7) = true := by rw [I_F (k := 9)]; exact inb_at (k := 7) (n := 4002) rfl (by omega) (by omega) (by decide)
  have e3 : inb (u.1 9) (ln 8) = true := by rw [I_F (k := 9)]; exact inb_at (k := 8) (n := 4002) rfl (by omega) (by omega) (by decide)
  rw [hc, hd, e1, ck_t, tn_F, wa_e]
  show OK Q (bnd (ck (inb (u.1 9) (ln 7)) _) f)
  rw [e2, ck_t]
  show OK Q (bnd (ck (inb (u.1 9) (ln 8)) _) f)
  rw [e3, ck_t]
  have e4 : (wa (wa (wa u 6 (F u 9).toNat s) 7 (F u 9).toNat y) 8 (F u 9).toNat (F u 11)).1 9 + 1 = I (F u 9 + 1) := by rw [I_F (k := 9), F_wa, F_wa, F_wa, lit1q, I_add]
  have e5 : (wa (wa u 6 (F u 9).toNat s) 7 (F u 9).toNat y).1 11 = I (F u 11) := by rw [I_F (k := 11), F_wa, F_wa]
  have goal : OK Q (bnd (lt (upA (wa (wa u 6 (F u 9).toNat s) 7 (F u 9).toNat y) 8 (upd ((wa (wa u 6 (F u 9).toNat s) 7 (F u 9).toNat y).2.2.1 8) (F u 9).toNat ((wa (wa u 6 (F u 9).toNat s) 7 (F u 9).toNat y).1 11))) (fun w3 => lt (upI w3 9 ((w3.1 9) + 1)) (fun w4 => some (w4, ())))) f) := by
    rw [e5, wa_e]
    show OK Q (bnd (lt (upI (wa (wa (wa u 6 (F u 9).toNat s) 7 (F u 9).toNat y) 8 (F u 9).toNat (F u 11)) 9 ((wa (wa (wa u 6 (F u 9).toNat s) 7 (F u 9).toNat y) 8 (F u 9).toNat (F u 11)).1 9 + 1)) (fun w4 => some (w4, ()))) f)
    rw [e4, wi_e]
    exact a
  exact goal
end
