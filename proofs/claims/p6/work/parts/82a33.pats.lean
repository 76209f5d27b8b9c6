def chi (pE : Nat → Nat) (q : Nat) : Nat → Nat
  | 0 => q
  | k + 1 => pE (chi pE q k)
def CHN (w : MS) (pE : Nat → Nat) (q m e : Nat) : Prop := chi pE q m = e ∧ (∀ k, k < m → chi pE q k < e) ∧ ∀ k, k + 1 < m → A w 37 (chi pE q k) = ((chi pE q (k + 1) : Nat) : Int)
def PW (w : MS) (pM pE : Nat → Nat) (PN SN L q : Nat) : Prop :=
  q < pE q ∧ pE q ≤ PN ∧ 0 ≤ A w 33 q ∧ A w 33 q ≤ 6 ∧
  (A w 33 q = 0 ∨ A w 33 q = 3 → pM (q + 1) = pM q ∧ pE q = q + 1) ∧
  (A w 33 q = 1 → pM (q + 1) = pM q + 1 ∧ pE q = q + 1) ∧
  (A w 33 q = 2 → pM (q + 1) = pM q ∧ pE q = q + 1 ∧ ((0 ≤ A w 35 q ∧ A w 35 q < pM q) ∨ (A w 35 q ≤ -2 ∧ -2 - A w 35 q < L))) ∧
  (A w 33 q = 4 → pM (q + 1) = pM q ∧ pE q = q + 1 ∧ 0 ≤ A w 35 q ∧ A w 35 q < SN) ∧
  (A w 33 q = 5 → pM (q + 1) = pM q ∧ ∃ m : Nat, A w 35 q = m ∧ m ≤ 8 ∧ CHN w pE (q + 1) m (pE q) ∧ ((m = 0 ∧ A w 36 q = -1) ∨ (0 < m ∧ A w 36 q = ((q + 1 : Nat) : Int) ∧ A w 37 (chi pE (q + 1) (m - 1)) = -1))) ∧
  (A w 33 q = 6 → pM (q + 1) = pM q ∧ ∃ m : Nat, A w 35 q = m ∧ m ≤ 8 ∧ (A w 38 q = 0 ∨ 0 < m) ∧ CHN w pE (q + 1) (if A w 38 q = 0 then m else m + 1) (pE q) ∧ (m = 0 ∨ A w 36 q = ((q + 1 : Nat) : Int)))
def STR (w : MS) (SN : Nat) : Prop := SN ≤ 2001 ∧ ∀ s, s < SN → 0 ≤ A w 19 s ∧ A w 19 s ≤ A w 19 (s + 1) ∧ A w 19 (s + 1) ≤ 4002
section
variable {Fv : Int64 → Int64 → Prop} {P : Int64 → Prop} {w w2 : MS} {PR N p n opM bnM bxM SN : Nat} {ow kd : Nat → Nat}
theorem is_loop {s : Nat} (i : MEI Fv P PR w p n ow kd opM bnM bxM) (hs : STR w SN) (h : s < SN) : ∀ (m k : Nat) (x : Int64), GT n ow kd P x → (k : Int) ≤ A w 19 (s + 1) → (A w 19 (s + 1)).toNat - k < m → OK (fun w2 r => w2 = w ∧ (r = I 0 ∨ r = I 1)) (gg_M_isString N m w (I s) x (I k)) := by
  have x4 := MEI_p i
  obtain ⟨s1, s2⟩ := hs
  obtain ⟨b1, b2, b3⟩ := s2 s h
  have g := i.2.2.2.2.2.2.1
  have x3 := i.2.2.2.2.2.2.2.1
  have me := i.2.2.1
  intro m
  induction m with
  | zero => intro k x _ _ z; exact absurd z (Nat.not_lt_zero _)
  | succ m ih =>
    intro k x gx hk hm
    have rx := so_r x
    show OK _ (fb_M_isString_11 N (gg_M_isString N m) w (I s) x (I k))
    unfold fb_M_isString_11 fb_M_isString_102 fb_M_isString_62
    rw [lit1q, I_add, inb_at (k := 19) (n := 2002) rfl (by omega) (by omega) (by decide), ck_t, I_tn (by omega) (by omega), show ((s : Int) + 1).toNat = s + 1 from by omega, I_A (k := 19), decI (by omega) (by omega) (by omega) (by omega), sortOf_e, bnd_so, show (6 : Int32) = I 6 from rfl, show (7 : Int32) = I 7 from rfl]
    by_cases e : A w 19 (s + 1) ≤ k
    · rw [decide_eq_true e, br_tq]
      exact ok_br.mpr ⟨fun _ => ok_ck.mpr ⟨rfl, ok_some.mpr ⟨rfl, Or.inr rfl⟩⟩, fun _ => ok_ck.mpr ⟨rfl, ok_some.mpr ⟨rfl, Or.inl rfl⟩⟩⟩
    rw [decide_eq_false e, br_fq, bnd_so, decE rx.1 rx.2 (by omega) (by omega)]
    by_cases e7 : so x = 7
    · have hx : isH x := Or.inr (Or.inr e7)
      obtain ⟨bk, pt⟩ := HP_bk g hx gx
      have bb : blk (hp w p) x = 2 := by unfold blk; rw [e7]; rfl
      have pp : prt x = 0 := by unfold prt; rw [e7]; rfl
      have bn := bk.2.2.2.1
      have vx : va x = (vn x : Int) := by have := bk.1; unfold vn; omega
      rw [decide_eq_true e7, br_tq, valueOf_e, bnd_so, I_F' me, vx, cell_e (by omega) (by omega), bnd_so, inb_at (k := 18) (n := 4002) rfl (by omega) (by omega) (by decide), ck_t, lit0q, I_A (k := 18), term_e, bnd_so]
      refine ok_br.mpr ⟨fun _ => ?_, fun _ => ok_ck.mpr ⟨rfl, ok_some.mpr ⟨rfl, Or.inl rfl⟩⟩⟩
      rw [I_F' me, valueOf_e, bnd_so, vx, I_add, show (vn x : Int) + 1 = ((vn x + 1 : Nat) : Int) from by omega, cell_e (by omega) (by omega), bnd_so, I_add]
      exact ih (k + 1) _ (pt 1 (by omega) (by omega)) (by omega) (by omega)
    · rw [decide_eq_false e7, br_fq]
      exact ok_ck.mpr ⟨rfl, ok_some.mpr ⟨rfl, Or.inl rfl⟩⟩
theorem isString_ok {s : Nat} {x : Int64} (i : MEI Fv P PR w p n ow kd opM bnM bxM) (hs : STR w SN) (h : s < SN) (gx : GT n ow kd P x) (hN : 5000 ≤ N) : OK (fun w2 r => w2 = w ∧ (r = I 0 ∨ r = I 1)) (fm_M_isString N w (I s) x) := by
  obtain ⟨b1, b2, b3⟩ := hs.2 s h
  have := hs.1
  unfold fm_M_isString fb_M_isString_0
  rw [inb_at (k := 19) (n := 2002) rfl (by omega) (by omega) (by decide), ck_t, I_tn (by omega) (by omega), Int.toNat_natCast, I_A' (show A w 19 s = (((A w 19 s).toNat : Nat) : Int) by omega)]
  exact is_loop i hs h N _ x gx (by omega) (by omega)
def FRA (w : MS) (p fr rn rh : Nat) : Prop := A w 95 p = ((fr : Nat) : Int) ∧ 1 ≤ fr ∧ fr ≤ 60 ∧ A w 99 (60 * p + (fr - 1)) = ((rn : Nat) : Int) ∧ A w 101 (60 * p + (fr - 1)) = ((rh : Nat) : Int)
theorem frame0_e {fr rn rh : Nat} (i : MEI Fv P PR w p n ow kd opM bnM bxM) (hf : FRA w p fr rn rh) : fm_M_frame0 N w = some (w, I ((60 * p + (fr - 1) : Nat) : Int)) := by
  have x4 := MEI_p i
  obtain ⟨f1, f2, f3, -⟩ := hf
  unfold fm_M_frame0 fb_M_frame0_0
  rw [I_F' i.2.2.1, inb_at (k := 95) (n := 24) rfl (by omega) (by omega) (by decide), ck_t, I_tn (by omega) (by omega), Int.toNat_natCast, I_A' f1, show (60 : Int32) = I 60 from rfl, I_mul, I_add, lit1q, I_sub, show (p : Int) * 60 + (fr : Int) - 1 = ((60 * p + (fr - 1) : Nat) : Int) from by omega]
theorem nameAt_ok {fr rn rh m : Nat} {c : Int} (i : MEI Fv P PR w p n ow kd opM bnM bxM) (hf : FRA w p fr rn rh) (hb : bnM = rn + rh + m) (hc : (0 ≤ c ∧ c < m) ∨ (c ≤ -2 ∧ -2 - c < rh)) (hc2 : -100000 ≤ c) : OK (fun w2 r => w2 = w ∧ GT n ow kd P r) (fm_M_nameAt N w (I c)) := by
  have x4 := MEI_p i
  obtain ⟨f1, f2, f3, f4, f5⟩ := id hf
  have x6 := i.2.2.2.2.2.2.2.2.2.2.1
  have x9 := i.2.2.2.2.2.2.2.2.2.2.2.2.2.1
  unfold fm_M_nameAt fb_M_nameAt_0 fb_M_nameAt_43
  rw [frame0_e i hf, bnd_so, inb_at (k := 99) (n := 1440) rfl (by omega) (by omega) (by decide), ck_t, lit0q, decI (by omega) (by omega) (by omega) (by omega), I_tn (x := ((60 * p + (fr - 1) : Nat) : Int)) (by omega) (by omega), Int.toNat_natCast, I_A' f4, I_F' i.2.2.1, show (2500 : Int32) = I 2500 from rfl, I_mul, I_add, show isK 93 5 = true from by decide, ck_t, ck_t]
  by_cases e : 0 ≤ c
  · rw [decide_eq_true e, br_tq, inb_at (k := 101) (n := 1440) rfl (by omega) (by omega) (by decide), ck_t, I_A' f5, I_add, I_add, inb_at (k := 93) (n := 60000) rfl (by omega) (by omega) (by decide), ck_t, I_tn (by omega) (by omega)]
    refine ok_some.mpr ⟨rfl, ?_⟩
    have := x9 (rn + (rh + c.toNat)) (by omega)
    rw [show ((p : Int) * 2500 + (rn : Int) + ((rh : Int) + c)).toNat = 2500 * p + (rn + (rh + c.toNat)) from by omega]
    exact this
  · rw [decide_eq_false e, br_fq, show (-2 : Int32) = I (-2) from rfl, I_sub, I_add, inb_at (k := 93) (n := 60000) rfl (by omega) (by omega) (by decide), ck_t, I_tn (by omega) (by omega)]
    refine ok_some.mpr ⟨rfl, ?_⟩
    have := x9 (rn + (-2 - c).toNat) (by omega)
    rw [show ((p : Int) * 2500 + (rn : Int) + (-2 - c)).toNat = 2500 * p + (rn + (-2 - c).toNat) from by omega]
    exact this
end
