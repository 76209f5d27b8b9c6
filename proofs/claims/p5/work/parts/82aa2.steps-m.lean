section
def IS (u : MS) (s : Int) : Prop := A u 6 (F u 69).toNat = 6 ∧ A u 7 (F u 69).toNat = s
def IW (u : MS) (s : Int) : Prop := A u 6 (F u 69).toNat = 3 ∧ A u 7 (F u 69).toNat = s
def TSO (u : MS) : Int := A u 6 (F u 69).toNat
def RG (x : Int) : Prop := -2147483648 ≤ x ∧ x < 2147483648
section
variable {α β : Type} {Q : MS → α → Prop} {u v w : MS} {N : Nat} {s t x y : Int}
theorem k_in {k n : Nat} {x : Int} {y : Option (MS × α)} (hk : ln k = n) (hn : n < 2147483648) (h : 0 ≤ x ∧ x < n) (q : OK Q y) : OK Q (ck (inb (I x) (ln k)) y) := ok_ck.mpr ⟨inb_at hk h.1 h.2 hn, q⟩
theorem k_eq {x y : Int} {p q : Option (MS × α)} (h1 : RG x) (h2 : RG y) (a : x = y → OK Q p) (b : x ≠ y → OK Q q) : OK Q (br (decide (I x = I y)) p q) := by
  rw [decE h1.1 h1.2 h2.1 h2.2]
  exact ok_br.mpr ⟨fun z => a (of_decide_eq_true z), fun z => b (of_decide_eq_false z)⟩
theorem k_le {x y : Int} {p q : Option (MS × α)} (h1 : RG x) (h2 : RG y) (a : x ≤ y → OK Q p) (b : y < x → OK Q q) : OK Q (br (decide (I x ≤ I y)) p q) := by
  rw [decI h1.1 h1.2 h2.1 h2.2]
  exact ok_br.mpr ⟨fun z => a (of_decide_eq_true z), fun z => b (by have := of_decide_eq_false z; omega)⟩
theorem k_lt {x y : Int} {p q : Option (MS × α)} (h1 : RG x) (h2 : RG y) (a : x < y → OK Q p) (b : y ≤ x → OK Q q) : OK Q (br (decide (I x < I y)) p q) := by
  rw [decL h1.1 h1.2 h2.1 h2.2]
  exact ok_br.mpr ⟨fun z => a (of_decide_eq_true z), fun z => b (by have := of_decide_eq_false z; omega)⟩
theorem FRG1 (u : MS) (k : Nat) : RG (F u k) := F_r u k
theorem ARG1 (u : MS) (k i : Nat) : RG (A u k i) := A_r u k i
theorem k_F {k : Nat} {y : Int} {c : Int32} {p q : Option (MS × α)} (hc : c = I y) (h2 : RG y) (a : F u k = y → OK Q p) (b : F u k ≠ y → OK Q q) : OK Q (br (decide (u.1 k = c)) p q) := by
  rw [I_F, hc]
  exact k_eq (FRG1 u k) h2 a b
theorem k_A {k i : Nat} {y : Int} {c : Int32} {p q : Option (MS × α)} (hc : c = I y) (h2 : RG y) (a : A u k i = y → OK Q p) (b : A u k i ≠ y → OK Q q) : OK Q (br (decide (u.2.2.1 k i = c)) p q) := by
  rw [I_A, hc]
  exact k_eq (ARG1 u k i) h2 a b
theorem k_at {k j n : Nat} {y : Option (MS × α)} (hk : ln k = n) (hn : n < 2147483648) (h : 0 ≤ F u j ∧ F u j < n) (q : OK Q y) : OK Q (ck (inb (u.1 j) (ln k)) y) := by
  rw [I_F]
  exact k_in hk hn h q
theorem tn_F {k : Nat} : (u.1 k).toNatClampNeg = (F u k).toNat := rfl
theorem br10 {p q : α} : br (decide ((1 : Int32) = 0)) p q = q := rfl
theorem br00 {p q : α} : br (decide ((0 : Int32) = 0)) p q = p := rfl
theorem isSign_1 (hp : 0 ≤ F u 69 ∧ F u 69 ≤ 4001) (hs : RG s) (h : IS u s) : fm_M_isSign N u (I s) = some (u, 1) := by
  unfold fm_M_isSign fb_M_isSign_0 fb_M_isSign_32
  rw [I_F (k := 69), inb_at (k := 6) (n := 4002) rfl (by omega) (by omega) (by decide), inb_at (k := 7) (n := 4002) rfl (by omega) (by omega) (by decide), ck_t, ck_t, I_tn (by omega) (by omega), I_A (k := 6), I_A (k := 7), h.1, h.2]
  rw [show decide (I 6 = (6 : Int32)) = true from rfl, br_tq, decide_eq_true rfl, br_tq]
  rfl
theorem isSign_0 (hp : 0 ≤ F u 69 ∧ F u 69 ≤ 4001) (hs : RG s) (h : ¬ IS u s) : fm_M_isSign N u (I s) = some (u, 0) := by
  unfold fm_M_isSign fb_M_isSign_0 fb_M_isSign_31 fb_M_isSign_32
  rw [I_F (k := 69), inb_at (k := 6) (n := 4002) rfl (by omega) (by omega) (by decide), inb_at (k := 7) (n := 4002) rfl (by omega) (by omega) (by decide), ck_t, ck_t, I_tn (by omega) (by omega), I_A (k := 6), I_A (k := 7), show (6 : Int32) = I 6 from rfl, decE (A_r u 6 _).1 (A_r u 6 _).2 (by omega) (by omega), decE (A_r u 7 _).1 (A_r u 7 _).2 hs.1 hs.2]
  by_cases e : A u 6 (F u 69).toNat = 6
  · rw [decide_eq_true e, br_tq, decide_eq_false (fun z => h ⟨e, z⟩), br_fq]; rfl
  · rw [decide_eq_false e, br_fq]; rfl
theorem isWord_1 (hp : 0 ≤ F u 69 ∧ F u 69 ≤ 4001) (hs : RG s) (h : IW u s) : fm_M_isWord N u (I s) = some (u, 1) := by
  unfold fm_M_isWord fb_M_isWord_0 fb_M_isWord_31
  rw [I_F (k := 69), inb_at (k := 6) (n := 4002) rfl (by omega) (by omega) (by decide), inb_at (k := 7) (n := 4002) rfl (by omega) (by omega) (by decide), ck_t, ck_t, I_tn (by omega) (by omega), I_A (k := 6), I_A (k := 7), h.1, h.2]
  rw [show decide (I 3 = (3 : Int32)) = true from rfl, br_tq, decide_eq_true rfl, br_tq]
  rfl
theorem isWord_0 (hp : 0 ≤ F u 69 ∧ F u 69 ≤ 4001) (hs : RG s) (h : ¬ IW u s) : fm_M_isWord N u (I s) = some (u, 0) := by
  unfold fm_M_isWord fb_M_isWord_0 fb_M_isWord_30 fb_M_isWord_31
  rw [I_F (k := 69), inb_at (k := 6) (n := 4002) rfl (by omega) (by omega) (by decide), inb_at (k := 7) (n := 4002) rfl (by omega) (by omega) (by decide), ck_t, ck_t, I_tn (by omega) (by omega), I_A (k := 6), I_A (k := 7), show (3 : Int32) = I 3 from rfl, decE (A_r u 6 _).1 (A_r u 6 _).2 (by omega) (by omega), decE (A_r u 7 _).1 (A_r u 7 _).2 hs.1 hs.2]
  by_cases e : A u 6 (F u 69).toNat = 3
  · rw [decide_eq_true e, br_tq, decide_eq_false (fun z => h ⟨e, z⟩), br_fq]; rfl
  · rw [decide_eq_false e, br_fq]; rfl
theorem k_isSign {c : Int32} {f g : MS → Int32 → Option (MS × α)} (hc : c = I s) (hs : RG s) (hp : 0 ≤ F u 69 ∧ F u 69 ≤ 4001) (a : IS u s → OK Q (g u 1)) (b : ¬ IS u s → OK Q (f u 0)) : OK Q (bnd (fm_M_isSign N u c) (fun u1 r1 => br (decide (r1 = 0)) (f u1 r1) (g u1 r1))) := by
  rw [hc]
  by_cases e : IS u s
  · rw [isSign_1 hp hs e, bnd_so, br10]; exact a e
  · rw [isSign_0 hp hs e, bnd_so, br00]; exact b e
theorem k_isWord {c : Int32} {f g : MS → Int32 → Option (MS × α)} (hc : c = I s) (hs : RG s) (hp : 0 ≤ F u 69 ∧ F u 69 ≤ 4001) (a : IW u s → OK Q (g u 1)) (b : ¬ IW u s → OK Q (f u 0)) : OK Q (bnd (fm_M_isWord N u c) (fun u1 r1 => br (decide (r1 = 0)) (f u1 r1) (g u1 r1))) := by
  rw [hc]
  by_cases e : IW u s
  · rw [isWord_1 hp hs e, bnd_so, br10]; exact a e
  · rw [isWord_0 hp hs e, bnd_so, br00]; exact b e
def nx1 (u : MS) : MS := wi u 69 (F u 69 + 1)
theorem nx1_e : upI u 69 ((u.1 69) + 1) = nx1 u := by unfold nx1; rw [I_F (k := 69), lit1q, I_add]; rfl
theorem takeSign_1 (hp : 0 ≤ F u 69 ∧ F u 69 ≤ 4001) (hs : RG s) (hf : F u 67 = 0) (h : IS u s) : fm_M_takeSign N u (I s) = some (nx1 u, 1) := by
  unfold fm_M_takeSign fb_M_takeSign_0
  rw [I_F' hf, show decide (I 0 = (0 : Int32)) = true from rfl, br_tq, isSign_1 hp hs h, bnd_so, br10, nx1_e]
  rfl
theorem takeSign_0 (hp : 0 ≤ F u 69 ∧ F u 69 ≤ 4001) (hs : RG s) (h : F u 67 ≠ 0 ∨ ¬ IS u s) : fm_M_takeSign N u (I s) = some (u, 0) := by
  unfold fm_M_takeSign fb_M_takeSign_0 fb_M_takeSign_15
  rw [I_F (k := 67), lit0q, decE (F_r u 67).1 (F_r u 67).2 (by omega) (by omega)]
  by_cases e : F u 67 = 0
  · rw [decide_eq_true e, br_tq, isSign_0 hp hs (h.resolve_left (fun z => z e)), bnd_so]; rfl
  · rw [decide_eq_false e, br_fq]; rfl
theorem takeWord_1 (hp : 0 ≤ F u 69 ∧ F u 69 ≤ 4001) (hs : RG s) (hf : F u 67 = 0) (h : IW u s) : fm_M_takeWord N u (I s) = some (nx1 u, 1) := by
  unfold fm_M_takeWord fb_M_takeWord_0
  rw [I_F' hf, show decide (I 0 = (0 : Int32)) = true from rfl, br_tq, isWord_1 hp hs h, bnd_so, br10, nx1_e]
  rfl
theorem takeWord_0 (hp : 0 ≤ F u 69 ∧ F u 69 ≤ 4001) (hs : RG s) (h : F u 67 ≠ 0 ∨ ¬ IW u s) : fm_M_takeWord N u (I s) = some (u, 0) := by
  unfold fm_M_takeWord fb_M_takeWord_0 fb_M_takeWord_15
  rw [I_F (k := 67), lit0q, decE (F_r u 67).1 (F_r u 67).2 (by omega) (by omega)]
  by_cases e : F u 67 = 0
  · rw [decide_eq_true e, br_tq, isWord_0 hp hs (h.resolve_left (fun z => z e)), bnd_so]; rfl
  · rw [decide_eq_false e, br_fq]; rfl
theorem k_takeSign {c : Int32} {f : MS → Int32 → Option (MS × α)} (hc : c = I s) (hs : RG s) (hp : 0 ≤ F u 69 ∧ F u 69 ≤ 4001) (a : F u 67 = 0 → IS u s → OK Q (f (nx1 u) 1)) (b : F u 67 ≠ 0 ∨ ¬ IS u s → OK Q (f u 0)) : OK Q (bnd (fm_M_takeSign N u c) f) := by
  rw [hc]
  by_cases e : F u 67 = 0 ∧ IS u s
  · rw [takeSign_1 hp hs e.1 e.2, bnd_so]; exact a e.1 e.2
  · have e2 : F u 67 ≠ 0 ∨ ¬ IS u s := by
      by_cases z : F u 67 = 0
      · exact Or.inr (fun y => e ⟨z, y⟩)
      · exact Or.inl z
    rw [takeSign_0 hp hs e2, bnd_so]; exact b e2
theorem k_takeWord {c : Int32} {f : MS → Int32 → Option (MS × α)} (hc : c = I s) (hs : RG s) (hp : 0 ≤ F u 69 ∧ F u 69 ≤ 4001) (a : F u 67 = 0 → IW u s → OK Q (f (nx1 u) 1)) (b : F u 67 ≠ 0 ∨ ¬ IW u s → OK Q (f u 0)) : OK Q (bnd (fm_M_takeWord N u c) f) := by
  rw [hc]
  by_cases e : F u 67 = 0 ∧ IW u s
  · rw [takeWord_1 hp hs e.1 e.2, bnd_so]; exact a e.1 e.2
  · have e2 : F u 67 ≠ 0 ∨ ¬ IW u s := by
      by_cases z : F u 67 = 0
      · exact Or.inr (fun y => e ⟨z, y⟩)
      · exact Or.inl z
    rw [takeWord_0 hp hs e2, bnd_so]; exact b e2
theorem k_wrong {c : Int32} {f : MS → Unit → Option (MS × α)} (hc : c = I s) (hs : RG s) (h0 : s ≠ 0) (hp : 0 ≤ F u 69 ∧ F u 69 ≤ 4001) (a : ∀ v, FR [67, 68] [] [] [] u v → F v 67 ≠ 0 → OK Q (f v ())) : OK Q (bnd (fm_M_wrong N u c) f) := by
  rw [hc]
  unfold fm_M_wrong fb_M_wrong_0 fb_M_wrong_27 fb_M_wrong_43
  rw [I_F (k := 67), lit0q, decE (F_r u 67).1 (F_r u 67).2 (by omega) (by omega)]
  by_cases e : F u 67 = 0
  · rw [decide_eq_true e, br_tq, I_F (k := 69), inb_at (k := 6) (n := 4002) rfl (by omega) (by omega) (by decide), ck_t]
    refine ok_bnd.mpr (ok_br.mpr ⟨fun _ => ?_, fun _ => ?_⟩)
    · refine ok_lt.mpr ?_
      rw [show (1 : Int32) = I 1 from rfl, wi_e, show (wi u 67 1).1 69 = u.1 69 from rfl, I_F (k := 69)]
      refine ok_ck.mpr ⟨inb_at (k := 8) (n := 4002) rfl (by omega) (by omega) (by decide), ok_lt.mpr (ok_some.mpr ?_)⟩
      rw [I_of ((wi u 67 1).2.2.1 8 _), wi_e]
      refine a _ (FR.wi (FR.wi FR.rf (by decide)) (by decide)) ?_
      rw [F_wi (ti_rng _).1 (ti_rng _).2, if_neg (by decide), F_wi (by omega) (by omega), if_pos rfl]
      decide
    · refine ok_lt.mpr ?_
      rw [wi_e, show (wi u 67 s).1 69 = u.1 69 from rfl, I_F (k := 69)]
      refine ok_ck.mpr ⟨inb_at (k := 8) (n := 4002) rfl (by omega) (by omega) (by decide), ok_lt.mpr (ok_some.mpr ?_)⟩
      rw [I_of ((wi u 67 s).2.2.1 8 _), wi_e]
      refine a _ (FR.wi (FR.wi FR.rf (by decide)) (by decide)) ?_
      rw [F_wi (ti_rng _).1 (ti_rng _).2, if_neg (by decide), F_wi hs.1 hs.2, if_pos rfl]
      exact h0
  · rw [decide_eq_false e, br_fq, bnd_so]
    exact a u FR.rf e
theorem k_needSign {c : Int32} {f : MS → Unit → Option (MS × α)} (hc : c = I s) (hs : RG s) (hp : 0 ≤ F u 69 ∧ F u 69 ≤ 4001) (a : F u 67 = 0 → IS u s → OK Q (f (nx1 u) ())) (b : ∀ v, FR [67, 68] [] [] [] u v → F v 67 ≠ 0 → OK Q (f v ())) : OK Q (bnd (fm_M_needSign N u c) f) := by
  refine ok_bnd.mpr ?_
  unfold fm_M_needSign fb_M_needSign_0 fb_M_needSign_13
  refine k_takeSign hc hs hp (fun h1 h2 => ?_) (fun h => ?_)
  · rw [br10]; exact ok_some.mpr (a h1 h2)
  · rw [br00]
    exact k_wrong (s := 2) rfl ⟨by decide, by decide⟩ (by decide) hp (fun v h1 h2 => ok_some.mpr (b v h1 h2))
theorem k_needWord {c : Int32} {f : MS → Unit → Option (MS × α)} (hc : c = I s) (hs : RG s) (hp : 0 ≤ F u 69 ∧ F u 69 ≤ 4001) (a : F u 67 = 0 → IW u s → OK Q (f (nx1 u) ())) (b : ∀ v, FR [67, 68] [] [] [] u v → F v 67 ≠ 0 → OK Q (f v ())) : OK Q (bnd (fm_M_needWord N u c) f) := by
  refine ok_bnd.mpr ?_
  unfold fm_M_needWord fb_M_needWord_0 fb_M_needWord_13
  refine k_takeWord hc hs hp (fun h1 h2 => ?_) (fun h => ?_)
  · rw [br10]; exact ok_some.mpr (a h1 h2)
  · rw [br00]
    exact k_wrong (s := 2) rfl ⟨by decide, by decide⟩ (by decide) hp (fun v h1 h2 => ok_some.mpr (b v h1 h2))
theorem k_rule {c d : Int32} {f : MS → Unit → Option (MS × α)} (hc : c = I s) (hs : RG s) (h0 : s ≠ 0) (hd : d = I t) (ht : 0 ≤ t ∧ t < 4002) (h71 : 0 ≤ F u 71 ∧ F u 71 < 4002) (a : ∀ v, FR [71, 72] [] [] [] u v → F v 72 ≠ 0 → 0 ≤ F v 71 ∧ F v 71 < 4002 → OK Q (f v ())) : OK Q (bnd (fm_M_rule N u c d) f) := by
  rw [hc, hd]
  unfold fm_M_rule fb_M_rule_0 fb_M_rule_31 fb_M_rule_41
  have y : OK (fun u r => OK Q (f u r)) (lt (upI u 72 (I s)) (fun w1 => lt (upI w1 71 (I t)) (fun w2 => some (w2, ())))) := by
    refine ok_lt.mpr (ok_lt.mpr (ok_some.mpr ?_))
    refine a _ (FR.wi (FR.wi FR.rf (by decide)) (by decide)) ?_ ?_
    · show F (wi (wi u 72 s) 71 t) 72 ≠ 0
      rw [F_wi (by omega) (by omega), if_neg (by decide), F_wi hs.1 hs.2, if_pos rfl]; exact h0
    · show 0 ≤ F (wi (wi u 72 s) 71 t) 71 ∧ F (wi (wi u 72 s) 71 t) 71 < 4002
      rw [F_wi (by omega) (by omega), if_pos rfl]; exact ht
  refine ok_bnd.mpr (k_F (y := 0) rfl ⟨by decide, by decide⟩ (fun _ => y) (fun h => ok_br.mpr ⟨fun _ => y, fun _ => ok_br.mpr ⟨fun _ => ok_br.mpr ⟨fun _ => ok_some.mpr (a u FR.rf h h71), fun _ => y⟩, fun _ => ok_some.mpr (a u FR.rf h h71)⟩⟩))
def op1 (u : MS) : MS := wi u 70 (F u 70 + 1)
theorem op1_e : upI u 70 ((u.1 70) + 1) = op1 u := by unfold op1; rw [I_F (k := 70), lit1q, I_add]; rfl
def clo1 (u : MS) : MS := wi u 70 (F u 70 - 1)
theorem clo1_e : upI u 70 ((u.1 70) - 1) = clo1 u := by unfold clo1; rw [I_F (k := 70), lit1q, I_sub]; rfl
theorem k_opens {f : MS → Unit → Option (MS × α)} (hp : 0 ≤ F u 69 ∧ F u 69 ≤ 4001) (a : F u 70 < 25 → OK Q (f (op1 u) ())) (b : ∀ v, 25 ≤ F u 70 → FR [67, 68] [] [] [] u v → F v 67 ≠ 0 → OK Q (f (op1 v) ())) : OK Q (bnd (fm_M_opens N u) f) := by
  refine ok_bnd.mpr ?_
  unfold fm_M_opens fb_M_opens_0 fb_M_opens_14
  rw [op1_e, I_F (k := 70), show (25 : Int32) = I 25 from rfl]
  refine k_lt (FRG1 u 70) ⟨by decide, by decide⟩ (fun h => ?_) (fun h => ?_)
  · exact ok_lt.mpr (ok_some.mpr (a h))
  · exact k_wrong (s := 3) rfl ⟨by decide, by decide⟩ (by decide) hp (fun v h1 h2 => by rw [op1_e]; exact ok_lt.mpr (ok_some.mpr (b v h h1 h2)))
end
end
section
def PfI : List Nat := [32, 39, 46, 56, 58, 65, 66, 67, 68, 69, 70, 71, 72, 73, 75, 77, 83, 84]
def PfA : List Nat := [23, 24, 25, 26, 27, 28, 29, 30, 31, 33, 35, 36, 37, 38, 40, 41, 42, 43, 44, 45, 53, 54, 55, 57, 59, 60, 61, 62, 63, 64, 74, 76, 78, 79, 80, 81, 82]
def nu (u0 : MS) (i : Nat) : Nat := if i = 0 then 1 else if A u0 6 (i - 1) = 1 ∨ A u0 6 (i - 1) = 2 ∨ A u0 6 (i - 1) = 3 ∨ A u0 6 (i - 1) = 4 then 0 else 1
theorem nu_le (u0 : MS) (i : Nat) : nu u0 i ≤ 1 := by
  unfold nu
  split
  · exact Nat.le_refl _
  · split <;> omega
def TKW (u0 : MS) (TN SN : Nat) (bw : Nat → Nat) : Prop :=
  (TN ≤ 4000 ∧ (A u0 6 TN = 0 ∨ A u0 6 TN = 7)) ∧
  (∀ i, i < TN → 1 ≤ A u0 6 i ∧ A u0 6 i ≤ 7 ∧ (A u0 6 i = 1 → 0 ≤ A u0 7 i ∧ A u0 7 i < F u0 14) ∧ (A u0 6 i = 2 → 0 ≤ A u0 7 i ∧ A u0 7 i < F u0 17) ∧ (A u0 6 i = 3 → 0 ≤ A u0 7 i ∧ A u0 7 i ≤ 14) ∧ (A u0 6 i = 5 → 0 ≤ A u0 7 i ∧ A u0 7 i < SN)) ∧
  (0 ≤ F u0 17 ∧ F u0 17 ≤ 1342 ∧ ∀ k : Nat, (k : Int) < F u0 17 → 0 ≤ A u0 16 k ∧ A u0 16 k ≤ 4900) ∧
  (∀ i, i < TN → bw i + 1 ≤ bw (i + 1) ∧ (A u0 6 i = 3 → A u0 7 i = 6 ∨ A u0 7 i = 7 → bw i + 3 ≤ bw (i + 1)) ∧ (A u0 6 i = 6 → A u0 7 i = 10 → bw i + 2 ≤ bw (i + 1)) ∧ (A u0 6 i = 5 → bw i + 2 ≤ bw (i + 1)) ∧ (A u0 6 i = 3 → A u0 7 i = 6 → bw i + 4 ≤ bw (i + 1) + nu u0 i)) ∧ bw TN ≤ 4000
def SCP (nm : Int) (σ : Nat) (u : MS) : Prop := ∀ s, s ≤ σ → (0 ≤ A u 60 s ∧ A u 60 s ≤ A u 64 s ∧ 0 ≤ A u 63 s ∧ A u 63 s ≤ 60 ∧ A u 64 s ≤ 1400) ∧
  (∀ i : Nat, (i : Int) < A u 60 s → 0 ≤ A u 59 (1400 * s + i) ∧ A u 59 (1400 * s + i) < nm ∧ ∀ j, j < i → A u 59 (1400 * s + j) ≠ A u 59 (1400 * s + i)) ∧
  (s = 0 → A u 63 s = 0) ∧ ∀ i : Nat, (i : Int) < A u 63 s → 0 < s → NCO (A u 62 (1400 * s + i)) (A u 60 (s - 1)).toNat (A u 63 (s - 1)).toNat
def K44 (u : MS) : Prop := ∀ i, 0 ≤ A u 44 i ∧ A u 44 i < 4002
def NGD (u0 : MS) (u : MS) : Prop := ∀ i : Nat, (i : Int) < F u 32 → 0 ≤ A u 24 i ∧ A u 24 i < 4002 ∧ (A u 23 i = 12 → 0 ≤ A u 25 i ∧ A u 25 i < F u0 14)
def ST (u0 : MS) (σ : Nat) (p o n q c f h s w g : Int) (u : MS) : Prop :=
  FR PfI [] PfA [34] u0 u ∧ (F u 69 = p ∧ F u 70 = o ∧ F u 32 = n ∧ F u 39 = q ∧ F u 46 = c ∧ F u 56 = f ∧ F u 58 = h ∧ F u 75 = 8 * s ∧ F u 77 = 54 * s ∧ F u 83 = w ∧ F u 73 = g ∧ F u 65 = σ) ∧
  ((0 ≤ F u 71 ∧ F u 71 < 4002) ∧ (g = 0 ∨ g = 1) ∧ (F u 66 = 0 ∨ F u 66 = 1)) ∧ SCP (F u0 17) σ u ∧ K44 u ∧ NGD u0 u
def FSM (u0 : MS) (TN σ : Nat) (d : Int) (u : MS) : Prop :=
  FR PfI [] PfA [34] u0 u ∧ F u 67 ≠ 0 ∧ (0 ≤ F u 69 ∧ F u 69 ≤ TN + 1 ∧ 0 ≤ F u 71 ∧ F u 71 < 4002) ∧ F u 65 = σ ∧ (0 ≤ F u 32 ∧ F u 32 ≤ 12000 + d) ∧ (0 ≤ F u 58 ∧ F u 58 + 60 * σ ≤ 23400) ∧ (∀ s, s ≤ σ → 0 ≤ A u 63 s ∧ A u 63 s ≤ 60) ∧ K44 u
def NM (TN : Nat) (bw : Nat → Nat) (k j l : Int) (σ : Nat) (p o n q c f h s w : Int) : Prop :=
  (0 ≤ p ∧ p ≤ TN ∧ TN ≤ 4000) ∧ (0 ≤ o ∧ o ≤ 25) ∧ (0 ≤ n ∧ n ≤ 3 * p) ∧ (0 ≤ q ∧ 2 * q ≤ p) ∧ (0 ≤ c ∧ 3 * c ≤ p + 3 * o + k) ∧ (0 ≤ f ∧ f ≤ c) ∧ (0 ≤ h ∧ 11 * h ≤ 60 * bw p.toNat) ∧ (σ + j ≤ o) ∧ (0 ≤ s ∧ s + l ≤ o) ∧ (0 ≤ w ∧ 2 * w ≤ p + 2 * o) ∧ bw p.toNat ≤ 4000
def KPR (σ : Nat) (u v : MS) : Prop :=
  FR PfI [] PfA [34] u v ∧
  ((∀ (r i : Nat), r ∈ [23, 24, 25, 26, 27, 28, 29, 30, 31] → (i : Int) < F u 32 → A v r i = A u r i) ∧ (∀ (r i : Nat), r ∈ [33, 35, 36, 37, 38] → (i : Int) < F u 39 → A v r i = A u r i) ∧ (∀ (r i : Nat), r ∈ [40, 41, 42, 43, 45] → (i : Int) < F u 46 → A v r i = A u r i) ∧ (∀ (r i : Nat), r ∈ [53, 54, 55] → (i : Int) < F u 56 → A v r i = A u r i) ∧ (∀ i : Nat, (i : Int) < F u 58 → A v 57 i = A u 57 i)) ∧
  ((∀ (s i : Nat), s ≤ σ → (i : Int) < A u 60 s → A v 59 (1400 * s + i) = A u 59 (1400 * s + i)) ∧ (∀ (r s i : Nat), r ∈ [61, 62] → s ≤ σ → (i : Int) < A u 63 s → A v r (1400 * s + i) = A u r (1400 * s + i)) ∧ (∀ s, s < σ → A v 60 s = A u 60 s) ∧ (∀ s, s ≤ σ → A u 60 s ≤ A v 60 s ∧ A u 63 s ≤ A v 63 s ∧ A u 64 s ≤ A v 64 s)) ∧
  ((∀ i : Nat, (i : Int) < F u 75 → A v 74 i = A u 74 i) ∧ (∀ i : Nat, (i : Int) < F u 77 → A v 76 i = A u 76 i) ∧ (∀ (r i : Nat), r ∈ [79, 80, 81, 82] → (i : Int) < F u 83 → A v r i = A u r i)) ∧
  (F u 32 ≤ F v 32 ∧ F u 39 ≤ F v 39 ∧ F u 46 ≤ F v 46 ∧ F u 56 ≤ F v 56 ∧ F u 58 ≤ F v 58 ∧ F u 75 ≤ F v 75 ∧ F u 77 ≤ F v 77 ∧ F u 83 ≤ F v 83) ∧ (F v 72 = 0 → F u 72 = 0) ∧ (F v 66 = 0 → F u 66 = 0)
def DLT (bw : Nat → Nat) (x y : Int) (b : Nat) (p n q c f h p2 n2 q2 c2 f2 h2 : Int) : Prop :=
  p + y ≤ p2 ∧ n ≤ n2 ∧ n2 - n + x ≤ 3 * (p2 - p) ∧ q ≤ q2 ∧ 2 * (q2 - q) ≤ p2 - p ∧ c ≤ c2 ∧ 3 * (c2 - c) + y ≤ p2 - p ∧ f ≤ f2 ∧ f2 - f ≤ c2 - c ∧ h ≤ h2 ∧ 11 * (h2 - h) + 60 * (b : Int) ≤ 60 * ((bw p2.toNat : Int) - bw p.toNat)
section
variable {u0 u v w : MS} {TN SN σ : Nat} {bw : Nat → Nat} {p o n q c f h s wt g k j l d : Int}
theorem bw_le (t : TKW u0 TN SN bw) {i : Nat} : ∀ m, i + m ≤ TN → bw i + m ≤ bw (i + m) := by
  intro m
  induction m with
  | zero => intro _; exact Nat.le_refl _
  | succ m ih =>
    intro hm
    have h1 := ih (by omega)
    have h2 := (t.2.2.2.1 (i + m) (by omega)).1
    have h3 : i + (m + 1) = i + m + 1 := by omega
    rw [h3]
    omega
theorem bw_mono (t : TKW u0 TN SN bw) {i m : Nat} (h1 : i ≤ m) (h2 : m ≤ TN) : bw i + (m - i) ≤ bw m := by
  have := bw_le t (i := i) (m - i) (by omega)
  rwa [show i + (m - i) = m from by omega] at this
theorem bw_top (t : TKW u0 TN SN bw) {i : Nat} (h : i ≤ TN) : bw i ≤ 4000 := by
  have := bw_mono t h (Nat.le_refl TN)
  have := t.2.2.2.2
  omega
theorem KPR_rf : KPR σ u u := ⟨FR.rf, ⟨fun _ _ _ _ => rfl, fun _ _ _ _ => rfl, fun _ _ _ _ => rfl, fun _ _ _ _ => rfl, fun _ _ => rfl⟩, ⟨fun _ _ _ _ => rfl, fun _ _ _ _ _ _ => rfl, fun _ _ => rfl, fun _ _ => ⟨Int.le_refl _, Int.le_refl _, Int.le_refl _⟩⟩, ⟨fun _ _ => rfl, fun _ _ => rfl, fun _ _ _ _ => rfl⟩, ⟨Int.le_refl _, Int.le_refl _, Int.le_refl _, Int.le_refl _, Int.le_refl _, Int.le_refl _, Int.le_refl _, Int.le_refl _⟩, id, id⟩
theorem KPR_tr (a : KPR σ u v) (b : KPR σ v w) : KPR σ u w := by
  obtain ⟨a0, ⟨a1, a2, a3, a4, a5⟩, ⟨a6, a7, a8, a9⟩, ⟨a10, a11, a12⟩, ⟨a13, a14, a15, a16, a17, a18, a19, a20⟩, a21, a22⟩ := a
  obtain ⟨b0, ⟨b1, b2, b3, b4, b5⟩, ⟨b6, b7, b8, b9⟩, ⟨b10, b11, b12⟩, ⟨b13, b14, b15, b16, b17, b18, b19, b20⟩, b21, b22⟩ := b
  refine ⟨FR.tr a0 b0, ⟨fun r i h1 h2 => (b1 r i h1 (by omega)).trans (a1 r i h1 h2), fun r i h1 h2 => (b2 r i h1 (by omega)).trans (a2 r i h1 h2), fun r i h1 h2 => (b3 r i h1 (by omega)).trans (a3 r i h1 h2), fun r i h1 h2 => (b4 r i h1 (by omega)).trans (a4 r i h1 h2), fun i h2 => (b5 i (by omega)).trans (a5 i h2)⟩, ⟨fun s i h1 h2 => (b6 s i h1 (by have := a9 s h1; omega)).trans (a6 s i h1 h2), fun r s i h0 h1 h2 => (b7 r s i h0 h1 (by have := a9 s h1; omega)).trans (a7 r s i h0 h1 h2), fun s h1 => (b8 s h1).trans (a8 s h1), fun s h1 => ?_⟩, ⟨fun i h2 => (b10 i (by omega)).trans (a10 i h2), fun i h2 => (b11 i (by omega)).trans (a11 i h2), fun r i h1 h2 => (b12 r i h1 (by omega)).trans (a12 r i h1 h2)⟩, ⟨by omega, by omega, by omega, by omega, by omega, by omega, by omega, by omega⟩, fun z => a21 (b21 z), fun z => a22 (b22 z)⟩
  have := a9 s h1
  have := b9 s h1
  omega
theorem KPR_dn (a : KPR (σ + 1) u v) : KPR σ u v := by
  obtain ⟨a0, a1, ⟨a6, a7, a8, a9⟩, a10⟩ := a
  exact ⟨a0, a1, ⟨fun s i h1 => a6 s i (by omega), fun r s i h0 h1 => a7 r s i h0 (by omega), fun s h1 => a8 s (by omega), fun s h1 => a9 s (by omega)⟩, a10⟩
theorem KPR_fr {is : List Nat} {js : List Nat} (a : FR is [] js [34] u v) (h1 : is ⊆ [67, 68, 69, 70, 71, 73, 84]) (h2 : js ⊆ [44, 78]) : KPR σ u v := by
  have f : ∀ k, k ∉ [67, 68, 69, 70, 71, 73, 84] → F v k = F u k := fun k hk => a.F (fun z => hk (h1 z))
  have g : ∀ k i, k ∉ [44, 78] → A v k i = A u k i := fun k i hk => a.A (fun z => hk (h2 z))
  refine ⟨FR.mo a (fun k z => ?_) (fun k z => z) (fun k z => ?_) (fun k z => z), ⟨fun r i hr _ => g r i ?_, fun r i hr _ => g r i ?_, fun r i hr _ => g r i ?_, fun r i hr _ => g r i ?_, fun i _ => g 57 i (by decide)⟩, ⟨fun s i _ _ => g 59 _ (by decide), fun r s i hr _ _ => g r _ ?_, fun s _ => g 60 s (by decide), fun s _ => ?_⟩, ⟨fun i _ => g 74 i (by decide), fun i _ => g 76 i (by decide), fun r i hr _ => g r i ?_⟩, ?_, ?_, ?_⟩
  · have hk := h1 z
    have : ∀ k, k ∈ [67, 68, 69, 70, 71, 73, 84] → k ∈ PfI := by decide
    exact this k hk
  · have hk := h2 z
    have : ∀ k, k ∈ [44, 78] → k ∈ PfA := by decide
    exact this k hk
  · have : ∀ r, r ∈ [23, 24, 25, 26, 27, 28, 29, 30, 31] → r ∉ [44, 78] := by decide
    exact this r hr
  · have : ∀ r, r ∈ [33, 35, 36, 37, 38] → r ∉ [44, 78] := by decide
    exact this r hr
  · have : ∀ r, r ∈ [40, 41, 42, 43, 45] → r ∉ [44, 78] := by decide
    exact this r hr
  · have : ∀ r, r ∈ [53, 54, 55] → r ∉ [44, 78] := by decide
    exact this r hr
  · have : ∀ r, r ∈ [61, 62] → r ∉ [44, 78] := by decide
    exact this r hr
  · rw [g 60 s (by decide), g 63 s (by decide), g 64 s (by decide)]
    exact ⟨Int.le_refl _, Int.le_refl _, Int.le_refl _⟩
  · have : ∀ r, r ∈ [79, 80, 81, 82] → r ∉ [44, 78] := by decide
    exact this r hr
  · rw [f 32 (by decide), f 39 (by decide), f 46 (by decide), f 56 (by decide), f 58 (by decide), f 75 (by decide), f 77 (by decide), f 83 (by decide)]
    exact ⟨Int.le_refl _, Int.le_refl _, Int.le_refl _, Int.le_refl _, Int.le_refl _, Int.le_refl _, Int.le_refl _, Int.le_refl _⟩
  · rw [f 72 (by decide)]; exact id
  · rw [f 66 (by decide)]; exact id
theorem SCP_fr {is ls as js : List Nat} {nm : Int} (h : SCP nm σ u) (a : FR is ls as js u v) (h1 : ∀ k, k ∈ as → k ∉ [59, 60, 62, 63, 64]) : SCP nm σ v := by
  intro s hs
  have g : ∀ k i, k ∈ [59, 60, 62, 63, 64] → A v k i = A u k i := fun k i hk => a.A (fun z => h1 k z hk)
  obtain ⟨q1, q2, q3, q4⟩ := h s hs
  rw [g 60 s (by decide), g 63 s (by decide), g 64 s (by decide), g 60 (s - 1) (by decide), g 63 (s - 1) (by decide)]
  exact ⟨q1, fun i hi => by rw [g 59 _ (by decide)]; exact ⟨(q2 i hi).1, (q2 i hi).2.1, fun j hj => by rw [g 59 _ (by decide)]; exact (q2 i hi).2.2 j hj⟩, q3, fun i hi => by rw [g 62 _ (by decide)]; exact q4 i hi⟩
end
end
section
theorem nar_short {t : Int} (h : 0 ≤ t ∧ t < 32768) : vp_nar .short ((I t).toInt16.toInt32) = I t := by
  have e : (I t).toInt16.toInt32 = I t := by
    apply Int32.toInt_inj.mp
    rw [Int16.toInt_toInt32, Int32.toInt_toInt16, I_ti (by omega) (by omega)]
    exact Int.bmod_eq_of_le (by omega) (by omega)
  show ((I t).toInt16.toInt32).toInt16.toInt32 = I t
  rw [e, e]
def NDW (u v : MS) (k t : Int) : Prop := FR [32] [] [23, 24, 25, 26, 27, 28, 29, 30, 31] [] u v ∧ F v 32 = F u 32 + 1 ∧ A v 23 (F u 32).toNat = k ∧ A v 24 (F u 32).toNat = t ∧ ∀ r i, i ≠ (F u 32).toNat → A v r i = A u r i
def NDV (u v : MS) (k t : Int) : Prop := NDW u v k t ∧ A v 25 (F u 32).toNat = -1 ∧ A v 26 (F u 32).toNat = -1 ∧ A v 27 (F u 32).toNat = -1 ∧ A v 28 (F u 32).toNat = -1 ∧ A v 29 (F u 32).toNat = -1 ∧ A v 30 (F u 32).toNat = 0
def PTV (u v : MS) (k : Int) : Prop := FR [39] [] [33, 35, 36, 37, 38] [34] u v ∧ F v 39 = F u 39 + 1 ∧ (A v 33 (F u 39).toNat = k ∧ A v 35 (F u 39).toNat = 0 ∧ A v 36 (F u 39).toNat = -1 ∧ A v 37 (F u 39).toNat = -1 ∧ A v 38 (F u 39).toNat = 0) ∧ ∀ r i, i ≠ (F u 39).toNat → A v r i = A u r i
section
variable {α : Type} {Q : MS → α → Prop} {u v w : MS} {N : Nat} {s t x y k : Int}
theorem wa_ne {r i r2 i2 : Nat} (h : i2 ≠ i) : A (wa u r i x) r2 i2 = A u r2 i2 := by
  unfold A wa upA upd
  by_cases e : r2 = r
  · subst e; simp only [if_true, if_neg h]
  · simp only [if_neg e]
theorem wa_rne {r i r2 i2 : Nat} (h : r2 ≠ r) : A (wa u r i x) r2 i2 = A u r2 i2 := by
  unfold A wa upA
  simp only [if_neg h]
theorem wa_eq {r i : Nat} (h : RG x) : A (wa u r i x) r i = x := by
  rw [A_wa h.1 h.2, if_pos rfl, if_pos rfl]
theorem wi_ne {a b : Nat} (h : b ≠ a) : F (wi u a x) b = F u b := by
  unfold F wi upI
  simp only [if_neg h]
theorem wi_eq {a : Nat} (h : RG x) : F (wi u a x) a = x := by
  rw [F_wi h.1 h.2, if_pos rfl]
theorem wi_raw {a : Nat} : (wi u a x).1 a = I x := by unfold wi upI; simp
theorem k_node {c d : Int32} {f : MS → Int32 → Option (MS × α)} (hc : vp_nar .byte (c.toInt8.toInt32) = I k) (hk : 0 ≤ k ∧ k ≤ 31) (hd : d = I t) (ht : 0 ≤ t ∧ t < 4002) (h32 : 0 ≤ F u 32 ∧ F u 32 < 16000) (a : ∀ v, NDV u v k t → OK Q (f v (I (F u 32)))) : OK Q (bnd (fm_M_node N u c d) f) := by
  rw [hd]
  unfold fm_M_node fb_M_node_0
  simp only [lt_e]
  have e : ∀ (v : MS), v.1 = u.1 → v.1 32 = I (F u 32) := fun v h => by rw [h]; exact I_F
  have ib : ∀ k, ln k = 16000 → inb (I (F u 32)) (ln k) = true := fun k hk => inb_at hk h32.1 h32.2 (by decide)
  have tn : (I (F u 32)).toNatClampNeg = (F u 32).toNat := I_tn (by omega) (by omega)
  rw [hc, nar_short (by omega), nar0, show (-1 : Int32) = I (-1) from rfl, I_F (k := 32), tn, ib 23 rfl, ck_t, wa_e]
  refine ok_bnd.mpr ?_
  rw [e (wa u 23 (F u 32).toNat k) rfl, tn, ib 24 rfl, ck_t, wa_e, e (wa (wa u 23 (F u 32).toNat k) 24 (F u 32).toNat t) rfl, tn, ib 25 rfl, ck_t, wa_e]
  generalize h3 : wa (wa (wa u 23 (F u 32).toNat k) 24 (F u 32).toNat t) 25 (F u 32).toNat (-1) = v3
  rw [e v3 (by rw [← h3]; rfl), tn, ib 26 rfl, ck_t, wa_e]
  generalize h4 : wa v3 26 (F u 32).toNat (-1) = v4
  rw [e v4 (by rw [← h4, ← h3]; rfl), tn, ib 27 rfl, ck_t, wa_e]
  generalize h5 : wa v4 27 (F u 32).toNat (-1) = v5
  rw [e v5 (by rw [← h5, ← h4, ← h3]; rfl), tn, ib 28 rfl, ck_t, wa_e]
  generalize h6 : wa v5 28 (F u 32).toNat (-1) = v6
  rw [e v6 (by rw [← h6, ← h5, ← h4, ← h3]; rfl), tn, ib 29 rfl, ck_t, wa_e]
  generalize h7 : wa v6 29 (F u 32).toNat (-1) = v7
  rw [e v7 (by rw [← h7, ← h6, ← h5, ← h4, ← h3]; rfl), tn, ib 30 rfl, ck_t, wa_e]
  generalize h8 : wa v7 30 (F u 32).toNat 0 = v8
  have e8 : v8.1 = u.1 := by rw [← h8, ← h7, ← h6, ← h5, ← h4, ← h3]; rfl
  rw [e v8 e8, lit1q, I_add, wi_e, wi_raw, I_sub, show F u 32 + 1 - 1 = F u 32 from by omega]
  refine ok_some.mpr (a _ ⟨⟨?_, wi_eq ⟨by omega, by omega⟩, ?_, ?_, fun r i hi => ?_⟩, ?_, ?_, ?_, ?_, ?_, ?_⟩)
  · rw [← h8, ← h7, ← h6, ← h5, ← h4, ← h3]
    exact FR.wi (FR.wa (FR.wa (FR.wa (FR.wa (FR.wa (FR.wa (FR.wa (FR.wa FR.rf (by decide)) (by decide)) (by decide)) (by decide)) (by decide)) (by decide)) (by decide)) (by decide)) (by decide)
  · rw [A_wi, ← h8, wa_rne (by decide), ← h7, wa_rne (by decide), ← h6, wa_rne (by decide), ← h5, wa_rne (by decide), ← h4, wa_rne (by decide), ← h3, wa_rne (by decide), wa_rne (by decide), wa_eq ⟨by omega, by omega⟩]
  · rw [A_wi, ← h8, wa_rne (by decide), ← h7, wa_rne (by decide), ← h6, wa_rne (by decide), ← h5, wa_rne (by decide), ← h4, wa_rne (by decide), ← h3, wa_rne (by decide), wa_eq ⟨by omega, by omega⟩]
  · rw [A_wi, ← h8, wa_ne hi, ← h7, wa_ne hi, ← h6, wa_ne hi, ← h5, wa_ne hi, ← h4, wa_ne hi, ← h3, wa_ne hi, wa_ne hi, wa_ne hi]
  · rw [A_wi, ← h8, wa_rne (by decide), ← h7, wa_rne (by decide), ← h6, wa_rne (by decide), ← h5, wa_rne (by decide), ← h4, wa_rne (by decide), ← h3, wa_eq ⟨by decide, by decide⟩]
  · rw [A_wi, ← h8, wa_rne (by decide), ← h7, wa_rne (by decide), ← h6, wa_rne (by decide), ← h5, wa_rne (by decide), ← h4, wa_eq ⟨by decide, by decide⟩]
  · rw [A_wi, ← h8, wa_rne (by decide), ← h7, wa_rne (by decide), ← h6, wa_rne (by decide), ← h5, wa_eq ⟨by decide, by decide⟩]
  · rw [A_wi, ← h8, wa_rne (by decide), ← h7, wa_rne (by decide), ← h6, wa_eq ⟨by decide, by decide⟩]
  · rw [A_wi, ← h8, wa_rne (by decide), ← h7, wa_eq ⟨by decide, by decide⟩]
  · rw [A_wi, ← h8, wa_eq ⟨by decide, by decide⟩]
theorem k_pattern {c : Int32} {f : MS → Int32 → Option (MS × α)} (hc : vp_nar .byte (c.toInt8.toInt32) = I k) (hk : 0 ≤ k ∧ k ≤ 31) (h39 : 0 ≤ F u 39 ∧ F u 39 < 5000) (a : ∀ v, PTV u v k → OK Q (f v (I (F u 39)))) : OK Q (bnd (fm_M_pattern N u c) f) := by
  unfold fm_M_pattern fb_M_pattern_0
  simp only [lt_e]
  have e : ∀ (v : MS), v.1 = u.1 → v.1 39 = I (F u 39) := fun v h => by rw [h]; exact I_F
  have ib : ∀ k, ln k = 5000 → inb (I (F u 39)) (ln k) = true := fun k hk => inb_at hk h39.1 h39.2 (by decide)
  have tn : (I (F u 39)).toNatClampNeg = (F u 39).toNat := I_tn (by omega) (by omega)
  rw [hc, nar0, show (-1 : Int32) = I (-1) from rfl, I_F (k := 39), tn, ib 33 rfl, ck_t, wa_e]
  refine ok_bnd.mpr ?_
  rw [e (wa u 33 (F u 39).toNat k) rfl, tn, ib 34 rfl, ck_t, wj_e]
  generalize h3 : wj (wa u 33 (F u 39).toNat k) 34 (F u 39).toNat 0 = v3
  rw [e v3 (by rw [← h3]; rfl), tn, ib 35 rfl, ck_t, lit0q, wa_e]
  generalize h4 : wa v3 35 (F u 39).toNat 0 = v4
  rw [e v4 (by rw [← h4, ← h3]; rfl), tn, ib 36 rfl, ck_t, wa_e]
  generalize h5 : wa v4 36 (F u 39).toNat (-1) = v5
  rw [e v5 (by rw [← h5, ← h4, ← h3]; rfl), tn, ib 37 rfl, ck_t, wa_e]
  generalize h6 : wa v5 37 (F u 39).toNat (-1) = v6
  rw [e v6 (by rw [← h6, ← h5, ← h4, ← h3]; rfl), tn, ib 38 rfl, ck_t, wa_e]
  generalize h8 : wa v6 38 (F u 39).toNat 0 = v8
  have e8 : v8.1 = u.1 := by rw [← h8, ← h6, ← h5, ← h4, ← h3]; rfl
  rw [e v8 e8, lit1q, I_add, wi_e, wi_raw, I_sub, show F u 39 + 1 - 1 = F u 39 from by omega]
  refine ok_some.mpr (a _ ⟨?_, wi_eq ⟨by omega, by omega⟩, ⟨?_, ?_, ?_, ?_, ?_⟩, fun r i hi => ?_⟩)
  · rw [← h8, ← h6, ← h5, ← h4, ← h3]
    exact FR.wi (FR.wa (FR.wa (FR.wa (FR.wa (FR.wj (FR.wa FR.rf (by decide)) (by decide)) (by decide)) (by decide)) (by decide)) (by decide)) (by decide)
  · rw [A_wi, ← h8, wa_rne (by decide), ← h6, wa_rne (by decide), ← h5, wa_rne (by decide), ← h4, wa_rne (by decide), ← h3, A_wj, wa_eq ⟨by omega, by omega⟩]
  · rw [A_wi, ← h8, wa_rne (by decide), ← h6, wa_rne (by decide), ← h5, wa_rne (by decide), ← h4, wa_eq ⟨by decide, by decide⟩]
  · rw [A_wi, ← h8, wa_rne (by decide), ← h6, wa_rne (by decide), ← h5, wa_eq ⟨by decide, by decide⟩]
  · rw [A_wi, ← h8, wa_rne (by decide), ← h6, wa_eq ⟨by decide, by decide⟩]
  · rw [A_wi, ← h8, wa_eq ⟨by decide, by decide⟩]
  · rw [A_wi, ← h8, wa_ne hi, ← h6, wa_ne hi, ← h5, wa_ne hi, ← h4, wa_ne hi, ← h3, A_wj, wa_ne hi]
theorem NDW_wa {r : Nat} (h : NDW u v k t) (hr : r ∈ [25, 26, 27, 28, 29, 30, 31]) : NDW u (wa v r (F u 32).toNat x) k t := by
  obtain ⟨h1, h2, h3, h4, h5⟩ := h
  have a1 : ∀ r, r ∈ [25, 26, 27, 28, 29, 30, 31] → r ∈ [23, 24, 25, 26, 27, 28, 29, 30, 31] ∧ 23 ≠ r ∧ 24 ≠ r := by decide
  obtain ⟨b1, b2, b3⟩ := a1 r hr
  exact ⟨FR.wa h1 b1, h2, by rw [wa_rne b2]; exact h3, by rw [wa_rne b3]; exact h4, fun r2 i hi => by rw [wa_ne hi]; exact h5 r2 i hi⟩
end
end
section
section
variable {u0 u v w : MS} {TN SN σ : Nat} {bw : Nat → Nat} {p o n q c f h s wt g k t d x : Int} {is as js : List Nat} {r i : Nat}
theorem FRP (a : FR is [] as js u v) (h1 : ∀ k, k ∈ is → k ∈ PfI) (h2 : ∀ k, k ∈ as → k ∈ PfA) (h3 : ∀ k, k ∈ js → k ∈ [34]) : FR PfI [] PfA [34] u v := FR.mo a h1 (fun _ z => z) h2 h3
theorem K44_fr (hk : K44 u) (a : FR is [] as js u v) (h : 44 ∉ as) : K44 v := fun i => by rw [a.A h]; exact hk i
theorem NGD_fr (hk : NGD u0 u) (a : FR is [] as js u v) (h1 : 32 ∉ is) (h2 : 23 ∉ as ∧ 24 ∉ as ∧ 25 ∉ as) : NGD u0 v := fun i hi => by
  rw [a.A h2.1, a.A h2.2.1, a.A h2.2.2]
  rw [a.F h1] at hi
  exact hk i hi
theorem ST_67 (hs : ST u0 σ p o n q c f h s wt g u) (a : FR [67, 68] [] [] [] u v) : ST u0 σ p o n q c f h s wt g v := by
  obtain ⟨h1, ⟨e1, e2, e3, e4, e5, e6, e7, e8, e9, e10, e11, e12⟩, ⟨h3, h4, h5⟩, h6, h7, h8⟩ := hs
  refine ⟨FR.tr h1 (FRP a (by decide) (by decide) (by decide)), ⟨?_, ?_, ?_, ?_, ?_, ?_, ?_, ?_, ?_, ?_, ?_, ?_⟩, ⟨?_, h4, ?_⟩, SCP_fr h6 a (by decide), K44_fr h7 a (by decide), NGD_fr h8 a (by decide) (by decide)⟩
  all_goals rw [a.F (by decide)]; assumption
theorem ST_rule (hs : ST u0 σ p o n q c f h s wt g u) (a : FR [71, 72] [] [] [] u v) (h71 : 0 ≤ F v 71 ∧ F v 71 < 4002) : ST u0 σ p o n q c f h s wt g v := by
  obtain ⟨h1, ⟨e1, e2, e3, e4, e5, e6, e7, e8, e9, e10, e11, e12⟩, ⟨h3, h4, h5⟩, h6, h7, h8⟩ := hs
  refine ⟨FR.tr h1 (FRP a (by decide) (by decide) (by decide)), ⟨?_, ?_, ?_, ?_, ?_, ?_, ?_, ?_, ?_, ?_, ?_, ?_⟩, ⟨h71, h4, ?_⟩, SCP_fr h6 a (by decide), K44_fr h7 a (by decide), NGD_fr h8 a (by decide) (by decide)⟩
  all_goals rw [a.F (by decide)]; assumption
theorem ST_69 (hs : ST u0 σ p o n q c f h s wt g u) (hx : RG x) : ST u0 σ x o n q c f h s wt g (wi u 69 x) := by
  obtain ⟨h1, ⟨e1, e2, e3, e4, e5, e6, e7, e8, e9, e10, e11, e12⟩, ⟨h3, h4, h5⟩, h6, h7, h8⟩ := hs
  have a : FR [69] [] [] [] u (wi u 69 x) := FR.wi FR.rf (by decide)
  refine ⟨FR.wi h1 (by decide), ⟨wi_eq hx, ?_, ?_, ?_, ?_, ?_, ?_, ?_, ?_, ?_, ?_, ?_⟩, ⟨?_, h4, ?_⟩, SCP_fr h6 a (by decide), K44_fr h7 a (by decide), NGD_fr h8 a (by decide) (by decide)⟩
  all_goals rw [wi_ne (by decide)]; assumption
theorem ST_70 (hs : ST u0 σ p o n q c f h s wt g u) (hx : RG x) : ST u0 σ p x n q c f h s wt g (wi u 70 x) := by
  obtain ⟨h1, ⟨e1, e2, e3, e4, e5, e6, e7, e8, e9, e10, e11, e12⟩, ⟨h3, h4, h5⟩, h6, h7, h8⟩ := hs
  have a : FR [70] [] [] [] u (wi u 70 x) := FR.wi FR.rf (by decide)
  refine ⟨FR.wi h1 (by decide), ⟨?_, wi_eq hx, ?_, ?_, ?_, ?_, ?_, ?_, ?_, ?_, ?_, ?_⟩, ⟨?_, h4, ?_⟩, SCP_fr h6 a (by decide), K44_fr h7 a (by decide), NGD_fr h8 a (by decide) (by decide)⟩
  all_goals rw [wi_ne (by decide)]; assumption
theorem ST_73 (hs : ST u0 σ p o n q c f h s wt g u) (hx : x = 0 ∨ x = 1) : ST u0 σ p o n q c f h s wt x (wi u 73 x) := by
  obtain ⟨h1, ⟨e1, e2, e3, e4, e5, e6, e7, e8, e9, e10, e11, e12⟩, ⟨h3, h4, h5⟩, h6, h7, h8⟩ := hs
  have a : FR [73] [] [] [] u (wi u 73 x) := FR.wi FR.rf (by decide)
  refine ⟨FR.wi h1 (by decide), ⟨?_, ?_, ?_, ?_, ?_, ?_, ?_, ?_, ?_, ?_, wi_eq ⟨by omega, by omega⟩, ?_⟩, ⟨?_, hx, ?_⟩, SCP_fr h6 a (by decide), K44_fr h7 a (by decide), NGD_fr h8 a (by decide) (by decide)⟩
  all_goals rw [wi_ne (by decide)]; assumption
theorem ST_84 (hs : ST u0 σ p o n q c f h s wt g u) : ST u0 σ p o n q c f h s wt g (wi u 84 x) := by
  obtain ⟨h1, ⟨e1, e2, e3, e4, e5, e6, e7, e8, e9, e10, e11, e12⟩, ⟨h3, h4, h5⟩, h6, h7, h8⟩ := hs
  have a : FR [84] [] [] [] u (wi u 84 x) := FR.wi FR.rf (by decide)
  refine ⟨FR.wi h1 (by decide), ⟨?_, ?_, ?_, ?_, ?_, ?_, ?_, ?_, ?_, ?_, ?_, ?_⟩, ⟨?_, h4, ?_⟩, SCP_fr h6 a (by decide), K44_fr h7 a (by decide), NGD_fr h8 a (by decide) (by decide)⟩
  all_goals rw [wi_ne (by decide)]; assumption
theorem ST_83 (hs : ST u0 σ p o n q c f h s wt g u) (hx : RG x) : ST u0 σ p o n q c f h s x g (wi u 83 x) := by
  obtain ⟨h1, ⟨e1, e2, e3, e4, e5, e6, e7, e8, e9, e10, e11, e12⟩, ⟨h3, h4, h5⟩, h6, h7, h8⟩ := hs
  have a : FR [83] [] [] [] u (wi u 83 x) := FR.wi FR.rf (by decide)
  refine ⟨FR.wi h1 (by decide), ⟨?_, ?_, ?_, ?_, ?_, ?_, ?_, ?_, ?_, wi_eq hx, ?_, ?_⟩, ⟨?_, h4, ?_⟩, SCP_fr h6 a (by decide), K44_fr h7 a (by decide), NGD_fr h8 a (by decide) (by decide)⟩
  all_goals rw [wi_ne (by decide)]; assumption
theorem ST_46 (hs : ST u0 σ p o n q c f h s wt g u) (hx : RG x) : ST u0 σ p o n q x f h s wt g (wi u 46 x) := by
  obtain ⟨h1, ⟨e1, e2, e3, e4, e5, e6, e7, e8, e9, e10, e11, e12⟩, ⟨h3, h4, h5⟩, h6, h7, h8⟩ := hs
  have a : FR [46] [] [] [] u (wi u 46 x) := FR.wi FR.rf (by decide)
  refine ⟨FR.wi h1 (by decide), ⟨?_, ?_, ?_, ?_, wi_eq hx, ?_, ?_, ?_, ?_, ?_, ?_, ?_⟩, ⟨?_, h4, ?_⟩, SCP_fr h6 a (by decide), K44_fr h7 a (by decide), NGD_fr h8 a (by decide) (by decide)⟩
  all_goals rw [wi_ne (by decide)]; assumption
theorem ST_56 (hs : ST u0 σ p o n q c f h s wt g u) (hx : RG x) : ST u0 σ p o n q c x h s wt g (wi u 56 x) := by
  obtain ⟨h1, ⟨e1, e2, e3, e4, e5, e6, e7, e8, e9, e10, e11, e12⟩, ⟨h3, h4, h5⟩, h6, h7, h8⟩ := hs
  have a : FR [56] [] [] [] u (wi u 56 x) := FR.wi FR.rf (by decide)
  refine ⟨FR.wi h1 (by decide), ⟨?_, ?_, ?_, ?_, ?_, wi_eq hx, ?_, ?_, ?_, ?_, ?_, ?_⟩, ⟨?_, h4, ?_⟩, SCP_fr h6 a (by decide), K44_fr h7 a (by decide), NGD_fr h8 a (by decide) (by decide)⟩
  all_goals rw [wi_ne (by decide)]; assumption
theorem ST_58 (hs : ST u0 σ p o n q c f h s wt g u) (hx : RG x) : ST u0 σ p o n q c f x s wt g (wi u 58 x) := by
  obtain ⟨h1, ⟨e1, e2, e3, e4, e5, e6, e7, e8, e9, e10, e11, e12⟩, ⟨h3, h4, h5⟩, h6, h7, h8⟩ := hs
  have a : FR [58] [] [] [] u (wi u 58 x) := FR.wi FR.rf (by decide)
  refine ⟨FR.wi h1 (by decide), ⟨?_, ?_, ?_, ?_, ?_, ?_, wi_eq hx, ?_, ?_, ?_, ?_, ?_⟩, ⟨?_, h4, ?_⟩, SCP_fr h6 a (by decide), K44_fr h7 a (by decide), NGD_fr h8 a (by decide) (by decide)⟩
  all_goals rw [wi_ne (by decide)]; assumption
theorem ST_nx (hs : ST u0 σ p o n q c f h s wt g u) (hp : 0 ≤ p ∧ p ≤ 4001) : ST u0 σ (p + 1) o n q c f h s wt g (nx1 u) := by
  unfold nx1
  rw [hs.2.1.1]
  exact ST_69 hs ⟨by omega, by omega⟩
theorem ST_op (hs : ST u0 σ p o n q c f h s wt g u) (ho : 0 ≤ o ∧ o ≤ 100) : ST u0 σ p (o + 1) n q c f h s wt g (op1 u) := by
  unfold op1
  rw [hs.2.1.2.1]
  exact ST_70 hs ⟨by omega, by omega⟩
theorem ST_cl (hs : ST u0 σ p o n q c f h s wt g u) (ho : 0 ≤ o ∧ o ≤ 100) : ST u0 σ p (o - 1) n q c f h s wt g (clo1 u) := by
  unfold clo1
  rw [hs.2.1.2.1]
  exact ST_70 hs ⟨by omega, by omega⟩
theorem ST_wa (hs : ST u0 σ p o n q c f h s wt g u) (hr : r ∈ [26, 27, 28, 29, 30, 31, 33, 35, 36, 37, 38, 40, 41, 42, 43, 45, 53, 54, 55, 57, 61, 74, 76, 78, 79, 80, 81, 82]) : ST u0 σ p o n q c f h s wt g (wa u r i x) := by
  obtain ⟨h1, e, h2, h6, h7, h8⟩ := hs
  have a : FR [] [] [r] [] u (wa u r i x) := FR.wa FR.rf (List.mem_singleton.mpr rfl)
  have b : ∀ r, r ∈ [26, 27, 28, 29, 30, 31, 33, 35, 36, 37, 38, 40, 41, 42, 43, 45, 53, 54, 55, 57, 61, 74, 76, 78, 79, 80, 81, 82] → r ∈ PfA ∧ r ∉ [59, 60, 62, 63, 64] ∧ r ≠ 44 ∧ r ≠ 23 ∧ r ≠ 24 ∧ r ≠ 25 := by decide
  obtain ⟨b1, b2, b3, b4, b5, b6⟩ := b r hr
  exact ⟨FR.wa h1 b1, e, h2, SCP_fr h6 a (fun k hk => by rw [List.mem_singleton.mp hk]; exact b2), K44_fr h7 a (fun z => b3 (List.mem_singleton.mp z).symm), NGD_fr h8 a (by decide) ⟨fun z => b4 (List.mem_singleton.mp z).symm, fun z => b5 (List.mem_singleton.mp z).symm, fun z => b6 (List.mem_singleton.mp z).symm⟩⟩
theorem ST_wa44 (hs : ST u0 σ p o n q c f h s wt g u) (hx : 0 ≤ x ∧ x < 4002) : ST u0 σ p o n q c f h s wt g (wa u 44 i x) := by
  obtain ⟨h1, e, h2, h6, h7, h8⟩ := hs
  have a : FR [] [] [44] [] u (wa u 44 i x) := FR.wa FR.rf (by decide)
  refine ⟨FR.wa h1 (by decide), e, h2, SCP_fr h6 a (by decide), fun j => ?_, NGD_fr h8 a (by decide) (by decide)⟩
  rw [A_wa (by omega) (by omega), if_pos rfl]
  by_cases z : j = i
  · rw [if_pos z]; exact hx
  · rw [if_neg z]; exact h7 j
theorem ST_wa25 (hs : ST u0 σ p o n q c f h s wt g u) (hx : A u 23 i ≠ 12) : ST u0 σ p o n q c f h s wt g (wa u 25 i x) := by
  obtain ⟨h1, e, h2, h6, h7, h8⟩ := hs
  have a : FR [] [] [25] [] u (wa u 25 i x) := FR.wa FR.rf (by decide)
  refine ⟨FR.wa h1 (by decide), e, h2, SCP_fr h6 a (by decide), K44_fr h7 a (by decide), fun j hj => ?_⟩
  rw [wa_rne (by decide), wa_rne (by decide)]
  obtain ⟨y1, y2, y3⟩ := h8 j hj
  refine ⟨y1, y2, fun z => ?_⟩
  rw [wa_ne (fun e => hx (by rw [← e]; exact z))]
  exact y3 z
theorem ST_nd (hs : ST u0 σ p o n q c f h s wt g u) (a : NDW u v k t) (ht : 0 ≤ t ∧ t < 4002) (hn : 0 ≤ n) (h12 : k = 12 → 0 ≤ A v 25 n.toNat ∧ A v 25 n.toNat < F u0 14) : ST u0 σ p o (n + 1) q c f h s wt g v := by
  obtain ⟨h1, ⟨e1, e2, e3, e4, e5, e6, e7, e8, e9, e10, e11, e12⟩, ⟨h3, h4, h5⟩, h6, h7, h8⟩ := hs
  obtain ⟨a1, a2, a3, a4, a5⟩ := a
  rw [e3] at a2 a3 a4 a5
  refine ⟨FR.tr h1 (FRP a1 (by decide) (by decide) (by decide)), ⟨?_, ?_, a2, ?_, ?_, ?_, ?_, ?_, ?_, ?_, ?_, ?_⟩, ⟨?_, h4, ?_⟩, SCP_fr h6 a1 (by decide), K44_fr h7 a1 (by decide), fun i hi => ?_⟩
  all_goals try (rw [a1.F (by decide)]; assumption)
  by_cases z : i = n.toNat
  · rw [z, a3, a4]; exact ⟨ht.1, ht.2, h12⟩
  · rw [a5 _ _ z, a5 _ _ z, a5 _ _ z]; exact h8 i (by omega)
theorem ST_pt (hs : ST u0 σ p o n q c f h s wt g u) (a : PTV u v k) : ST u0 σ p o n (q + 1) c f h s wt g v := by
  obtain ⟨h1, ⟨e1, e2, e3, e4, e5, e6, e7, e8, e9, e10, e11, e12⟩, ⟨h3, h4, h5⟩, h6, h7, h8⟩ := hs
  obtain ⟨a1, a2, a3, a5⟩ := a
  rw [e4] at a2 a3 a5
  refine ⟨FR.tr h1 (FRP a1 (by decide) (by decide) (by decide)), ⟨?_, ?_, ?_, a2, ?_, ?_, ?_, ?_, ?_, ?_, ?_, ?_⟩, ⟨?_, h4, ?_⟩, SCP_fr h6 a1 (by decide), K44_fr h7 a1 (by decide), NGD_fr h8 a1 (by decide) (by decide)⟩
  all_goals (rw [a1.F (by decide)]; assumption)
theorem FSM_fr (hs : FSM u0 TN σ d u) (a : FR is [] as js u v) (h1 : ∀ k, k ∈ is → k ∈ [39, 46, 56, 66, 67, 68, 70, 72, 73, 75, 77, 83, 84]) (h2 : ∀ k, k ∈ as → k ∈ PfA ∧ k ≠ 63 ∧ k ≠ 44) (h3 : ∀ k, k ∈ js → k ∈ [34]) (h4 : F v 67 ≠ 0) : FSM u0 TN σ d v := by
  obtain ⟨g1, g2, g3, g4, g5, g6, g7, g8⟩ := hs
  have ni : ∀ k, k ∉ [39, 46, 56, 66, 67, 68, 70, 72, 73, 75, 77, 83, 84] → F v k = F u k := fun k hk => a.F (fun z => hk (h1 k z))
  have pi : ∀ k, k ∈ [39, 46, 56, 66, 67, 68, 70, 72, 73, 75, 77, 83, 84] → k ∈ PfI := by decide
  refine ⟨FR.tr g1 (FRP a (fun k z => pi k (h1 k z)) (fun k z => (h2 k z).1) h3), h4, ?_, ?_, ?_, ?_, fun s hs => ?_, K44_fr g8 a (fun z => (h2 44 z).2.2 rfl)⟩
  · rw [ni 69 (by decide), ni 71 (by decide)]; exact g3
  · rw [ni 65 (by decide)]; exact g4
  · rw [ni 32 (by decide)]; exact g5
  · rw [ni 58 (by decide)]; exact g6
  · rw [a.A (fun z => (h2 63 z).2.1 rfl)]; exact g7 s hs
theorem FSM_nd (hs : FSM u0 TN σ d u) (a : NDW u v k t) : FSM u0 TN σ (d + 1) v := by
  obtain ⟨g1, g2, g3, g4, g5, g6, g7, g8⟩ := hs
  obtain ⟨a1, a2, -⟩ := a
  refine ⟨FR.tr g1 (FRP a1 (by decide) (by decide) (by decide)), ?_, ?_, ?_, by omega, ?_, fun s hs => ?_, K44_fr g8 a1 (by decide)⟩
  · rw [a1.F (by decide)]; exact g2
  · rw [a1.F (k := 69) (by decide), a1.F (k := 71) (by decide)]; exact g3
  · rw [a1.F (by decide)]; exact g4
  · rw [a1.F (by decide)]; exact g6
  · rw [a1.A (by decide)]; exact g7 s hs
theorem FSM_69 (hs : FSM u0 TN σ d u) (hx : 0 ≤ x ∧ x ≤ TN + 1) (hT : TN ≤ 4000) : FSM u0 TN σ d (wi u 69 x) := by
  obtain ⟨g1, g2, g3, g4, g5, g6, g7, g8⟩ := hs
  refine ⟨FR.wi g1 (by decide), ?_, ?_, ?_, ?_, ?_, g7, g8⟩
  · rw [wi_ne (by decide)]; exact g2
  · rw [wi_eq ⟨by omega, by omega⟩, wi_ne (by decide)]; exact ⟨hx.1, hx.2, g3.2.2⟩
  · rw [wi_ne (by decide)]; exact g4
  · rw [wi_ne (by decide)]; exact g5
  · rw [wi_ne (by decide)]; exact g6
theorem FSM_mo {d2 : Int} (hs : FSM u0 TN σ d u) (hd : d ≤ d2) : FSM u0 TN σ d2 u := by
  obtain ⟨g1, g2, g3, g4, g5, g6⟩ := hs
  exact ⟨g1, g2, g3, g4, ⟨g5.1, by omega⟩, g6⟩
theorem FSM_of (hs : ST u0 σ p o n q c f h s wt g u) (h1 : 0 ≤ p ∧ p ≤ TN + 1) (h2 : 0 ≤ n ∧ n ≤ 12000 + d) (h3 : 0 ≤ h ∧ h + 60 * σ ≤ 23400) (h4 : F u 67 ≠ 0) : FSM u0 TN σ d u := by
  obtain ⟨g1, ⟨e1, e2, e3, e4, e5, e6, e7, e8, e9, e10, e11, e12⟩, g3, g6, g7, g8⟩ := hs
  refine ⟨g1, h4, by rw [e1]; exact ⟨h1.1, h1.2, g3.1⟩, e12, by rw [e3]; exact h2, by rw [e7]; exact h3, fun s hs => ?_, g7⟩
  have := (g6 s hs).1
  omega
theorem KPR_w0 (a : KPR σ u v) {b : Nat} (h : b ∈ [67, 68, 69, 70, 71, 73, 84]) : KPR σ u (wi v b x) := KPR_tr a (KPR_fr (is := [b]) (js := []) (FR.wi FR.rf (List.mem_singleton.mpr rfl)) (fun z hz => by rw [List.mem_singleton.mp hz]; exact h) (fun z hz => by cases hz))
theorem KPR_67 (a : KPR σ u v) (b : FR [67, 68] [] [] [] v w) : KPR σ u w := KPR_tr a (KPR_fr (FR.mo b (fun _ z => z) (fun _ z => z) (fun _ z => z) (fun _ z => by cases z)) (by decide) (by decide))
theorem KPR_rule (a : KPR σ u v) (b : FR [71, 72] [] [] [] v w) (h : F w 72 ≠ 0) : KPR σ u w := by
  refine KPR_tr a ?_
  have g : ∀ r i, A w r i = A v r i := fun r i => b.A (by intro z; cases z)
  refine ⟨FRP b (by decide) (by decide) (by decide), ⟨fun r i _ _ => g r i, fun r i _ _ => g r i, fun r i _ _ => g r i, fun r i _ _ => g r i, fun i _ => g 57 i⟩, ⟨fun s i _ _ => g 59 _, fun r s i _ _ _ => g r _, fun s _ => g 60 s, fun s _ => ?_⟩, ⟨fun i _ => g 74 i, fun i _ => g 76 i, fun r i _ _ => g r i⟩, ?_, fun z => absurd z h, ?_⟩
  · rw [g, g, g]; exact ⟨Int.le_refl _, Int.le_refl _, Int.le_refl _⟩
  · rw [b.F (by decide), b.F (by decide), b.F (by decide), b.F (by decide), b.F (by decide), b.F (by decide), b.F (by decide), b.F (by decide)]
    exact ⟨Int.le_refl _, Int.le_refl _, Int.le_refl _, Int.le_refl _, Int.le_refl _, Int.le_refl _, Int.le_refl _, Int.le_refl _⟩
  · rw [b.F (by decide)]; exact id
theorem KPR_wi (a : KPR σ u v) {b : Nat} (h : b ∈ [32, 39, 46, 56, 58, 75, 77, 83]) (hx : F u b ≤ x) (hr : RG x) : KPR σ u (wi v b x) := by
  obtain ⟨a0, a1, a2, a3, ⟨a13, a14, a15, a16, a17, a18, a19, a20⟩, a21, a22⟩ := a
  have pb : ∀ b, b ∈ [32, 39, 46, 56, 58, 75, 77, 83] → b ∈ PfI ∧ b ≠ 72 ∧ b ≠ 66 := by decide
  obtain ⟨p1, p2, p3⟩ := pb b h
  have st : ∀ k, F u k ≤ F v k → F u k ≤ F (wi v b x) k := fun k hk => by
    by_cases z : k = b
    · rw [z, wi_eq hr]; exact hx
    · rw [wi_ne z]; exact hk
  refine ⟨FR.wi a0 p1, a1, a2, a3, ⟨st _ a13, st _ a14, st _ a15, st _ a16, st _ a17, st _ a18, st _ a19, st _ a20⟩, ?_, ?_⟩
  · rw [wi_ne (fun e => p2 e.symm)]; exact a21
  · rw [wi_ne (fun e => p3 e.symm)]; exact a22
theorem KPR_wa (a : KPR σ u v) (hr : r ∈ [23, 24, 25, 26, 27, 28, 29, 30, 31, 33, 35, 36, 37, 38, 40, 41, 42, 43, 44, 45, 53, 54, 55, 57, 74, 76, 78, 79, 80, 81, 82]) (hi : (r ∈ [23, 24, 25, 26, 27, 28, 29, 30, 31] → F u 32 ≤ i) ∧ (r ∈ [33, 35, 36, 37, 38] → F u 39 ≤ i) ∧ (r ∈ [40, 41, 42, 43, 45] → F u 46 ≤ i) ∧ (r ∈ [53, 54, 55] → F u 56 ≤ i) ∧ (r = 57 → F u 58 ≤ i) ∧ (r = 74 → F u 75 ≤ i) ∧ (r = 76 → F u 77 ≤ i) ∧ (r ∈ [79, 80, 81, 82] → F u 83 ≤ i)) : KPR σ u (wa v r i x) := by
  obtain ⟨a0, ⟨a1, a2, a3, a4, a5⟩, ⟨a6, a7, a8, a9⟩, ⟨a10, a11, a12⟩, a13⟩ := a
  obtain ⟨i1, i2, i3, i4, i5, i6, i7, i8⟩ := hi
  have pb : ∀ b, b ∈ [23, 24, 25, 26, 27, 28, 29, 30, 31, 33, 35, 36, 37, 38, 40, 41, 42, 43, 44, 45, 53, 54, 55, 57, 74, 76, 78, 79, 80, 81, 82] → b ∈ PfA ∧ 59 ≠ b ∧ 60 ≠ b ∧ 61 ≠ b ∧ 62 ≠ b ∧ 63 ≠ b ∧ 64 ≠ b := by decide
  obtain ⟨p1, p2, p3, p4, p5, p6, p7⟩ := pb r hr
  have g : ∀ r2 j, (r2 = r → j ≠ i) → A v r2 j = A u r2 j → A (wa v r i x) r2 j = A u r2 j := fun r2 j h1 h2 => by
    by_cases z : r2 = r
    · rw [wa_ne (h1 z)]; exact h2
    · rw [wa_rne z]; exact h2
  refine ⟨FR.wa a0 p1, ⟨fun r2 j h1 h2 => g r2 j (fun e => ?_) (a1 r2 j h1 h2), fun r2 j h1 h2 => g r2 j (fun e => ?_) (a2 r2 j h1 h2), fun r2 j h1 h2 => g r2 j (fun e => ?_) (a3 r2 j h1 h2), fun r2 j h1 h2 => g r2 j (fun e => ?_) (a4 r2 j h1 h2), fun j h2 => g 57 j (fun e => ?_) (a5 j h2)⟩, ⟨fun s j h1 h2 => by rw [wa_rne p2]; exact a6 s j h1 h2, fun r2 s j h0 h1 h2 => ?_, fun s h1 => by rw [wa_rne p3]; exact a8 s h1, fun s h1 => by rw [wa_rne p3, wa_rne p6, wa_rne p7]; exact a9 s h1⟩, ⟨fun j h2 => g 74 j (fun e => ?_) (a10 j h2), fun j h2 => g 76 j (fun e => ?_) (a11 j h2), fun r2 j h1 h2 => g r2 j (fun e => ?_) (a12 r2 j h1 h2)⟩, a13⟩
  · have := i1 (by rw [← e]; exact h1); omega
  · have := i2 (by rw [← e]; exact h1); omega
  · have := i3 (by rw [← e]; exact h1); omega
  · have := i4 (by rw [← e]; exact h1); omega
  · have := i5 e.symm; omega
  · have : r2 ≠ r := fun e => by
      rw [e] at h0
      rcases List.mem_cons.mp h0 with z | z
      · exact p4 z.symm
      · exact p5 (List.mem_singleton.mp z).symm
    rw [wa_rne this]; exact a7 r2 s j h0 h1 h2
  · have := i6 e.symm; omega
  · have := i7 e.symm; omega
  · have := i8 (by rw [← e]; exact h1); omega
theorem KPR_wn (a : KPR σ u v) (hr : r ∈ [23, 24, 25, 26, 27, 28, 29, 30, 31]) (hi : F u 32 ≤ i) : KPR σ u (wa v r i x) := by
  have : ∀ r, r ∈ [23, 24, 25, 26, 27, 28, 29, 30, 31] → r ∈ [23, 24, 25, 26, 27, 28, 29, 30, 31, 33, 35, 36, 37, 38, 40, 41, 42, 43, 44, 45, 53, 54, 55, 57, 74, 76, 78, 79, 80, 81, 82] ∧ r ∉ [33, 35, 36, 37, 38] ∧ r ∉ [40, 41, 42, 43, 45] ∧ r ∉ [53, 54, 55] ∧ r ≠ 57 ∧ r ≠ 74 ∧ r ≠ 76 ∧ r ∉ [79, 80, 81, 82] := by decide
  obtain ⟨b1, b2, b3, b4, b5, b6, b7, b8⟩ := this r hr
  exact KPR_wa a b1 ⟨fun _ => hi, fun z => absurd z b2, fun z => absurd z b3, fun z => absurd z b4, fun z => absurd z b5, fun z => absurd z b6, fun z => absurd z b7, fun z => absurd z b8⟩
theorem KPR_nd (a : KPR σ u v) (b : NDW v w k t) (h : 0 ≤ F v 32) : KPR σ u w := by
  obtain ⟨b1, b2, b3, b4, b5⟩ := b
  refine KPR_tr a ?_
  have g : ∀ (r i : Nat), (i : Int) < F v 32 → A w r i = A v r i := fun r i hi => b5 r i (by omega)
  have g2 : ∀ r i, r ∉ [23, 24, 25, 26, 27, 28, 29, 30, 31] → A w r i = A v r i := fun r i hr => b1.A hr
  have m2 : ∀ r, r ∈ [33, 35, 36, 37, 38] → r ∉ [23, 24, 25, 26, 27, 28, 29, 30, 31] := by decide
  have m3 : ∀ r, r ∈ [40, 41, 42, 43, 45] → r ∉ [23, 24, 25, 26, 27, 28, 29, 30, 31] := by decide
  have m4 : ∀ r, r ∈ [53, 54, 55] → r ∉ [23, 24, 25, 26, 27, 28, 29, 30, 31] := by decide
  have m5 : ∀ r, r ∈ [61, 62] → r ∉ [23, 24, 25, 26, 27, 28, 29, 30, 31] := by decide
  have m6 : ∀ r, r ∈ [79, 80, 81, 82] → r ∉ [23, 24, 25, 26, 27, 28, 29, 30, 31] := by decide
  refine ⟨FRP b1 (by decide) (by decide) (by decide), ⟨fun r i _ h2 => g r i h2, fun r i h1 _ => g2 r i (m2 r h1), fun r i h1 _ => g2 r i (m3 r h1), fun r i h1 _ => g2 r i (m4 r h1), fun i _ => g2 57 i (by decide)⟩, ⟨fun s i _ _ => g2 59 _ (by decide), fun r s i h0 _ _ => g2 r _ (m5 r h0), fun s _ => g2 60 s (by decide), fun s _ => ?_⟩, ⟨fun i _ => g2 74 i (by decide), fun i _ => g2 76 i (by decide), fun r i h1 _ => g2 r i (m6 r h1)⟩, ⟨by omega, ?_, ?_, ?_, ?_, ?_, ?_, ?_⟩, ?_, ?_⟩
  · rw [g2 60 s (by decide), g2 63 s (by decide), g2 64 s (by decide)]; exact ⟨Int.le_refl _, Int.le_refl _, Int.le_refl _⟩
  all_goals rw [b1.F (by decide)]
  all_goals first | exact Int.le_refl _ | exact id
theorem KPR_pt (a : KPR σ u v) (b : PTV v w k) (h : 0 ≤ F v 39) : KPR σ u w := by
  obtain ⟨b1, b2, b3, b5⟩ := b
  refine KPR_tr a ?_
  have g : ∀ (r i : Nat), (i : Int) < F v 39 → A w r i = A v r i := fun r i hi => b5 r i (by omega)
  have g2 : ∀ r i, r ∉ [33, 35, 36, 37, 38] → A w r i = A v r i := fun r i hr => b1.A hr
  have m2 : ∀ r, r ∈ [23, 24, 25, 26, 27, 28, 29, 30, 31] → r ∉ [33, 35, 36, 37, 38] := by decide
  have m3 : ∀ r, r ∈ [40, 41, 42, 43, 45] → r ∉ [33, 35, 36, 37, 38] := by decide
  have m4 : ∀ r, r ∈ [53, 54, 55] → r ∉ [33, 35, 36, 37, 38] := by decide
  have m5 : ∀ r, r ∈ [61, 62] → r ∉ [33, 35, 36, 37, 38] := by decide
  have m6 : ∀ r, r ∈ [79, 80, 81, 82] → r ∉ [33, 35, 36, 37, 38] := by decide
  refine ⟨FRP b1 (by decide) (by decide) (by decide), ⟨fun r i h1 _ => g2 r i (m2 r h1), fun r i _ h2 => g r i h2, fun r i h1 _ => g2 r i (m3 r h1), fun r i h1 _ => g2 r i (m4 r h1), fun i _ => g2 57 i (by decide)⟩, ⟨fun s i _ _ => g2 59 _ (by decide), fun r s i h0 _ _ => g2 r _ (m5 r h0), fun s _ => g2 60 s (by decide), fun s _ => ?_⟩, ⟨fun i _ => g2 74 i (by decide), fun i _ => g2 76 i (by decide), fun r i h1 _ => g2 r i (m6 r h1)⟩, ⟨?_, by omega, ?_, ?_, ?_, ?_, ?_, ?_⟩, ?_, ?_⟩
  · rw [g2 60 s (by decide), g2 63 s (by decide), g2 64 s (by decide)]; exact ⟨Int.le_refl _, Int.le_refl _, Int.le_refl _⟩
  all_goals rw [b1.F (by decide)]
  all_goals first | exact Int.le_refl _ | exact id
end
end
section
theorem pigeon : ∀ (n m : Nat) (f : Nat → Nat), (∀ i, i < m → f i < n) → (∀ i j, j < i → i < m → f j ≠ f i) → m ≤ n := by
  intro n
  induction n with
  | zero =>
    intro m f h1 _
    rcases Nat.eq_zero_or_pos m with z | z
    · omega
    · exact absurd (h1 0 z) (Nat.not_lt_zero _)
  | succ n ih =>
    intro m f h1 h2
    by_cases e : ∃ i, i < m ∧ f i = n
    · obtain ⟨i0, e1, e2⟩ := e
      have := ih (m - 1) (fun i => if i < i0 then f i else f (i + 1)) (fun i hi => ?_) (fun i j hj hi => ?_)
      · omega
      · by_cases z : i < i0
        · simp only [if_pos z]
          have := h1 i (by omega)
          have := h2 i0 i z e1
          omega
        · simp only [if_neg z]
          have := h1 (i + 1) (by omega)
          have := h2 (i + 1) i0 (by omega) (by omega)
          omega
      · by_cases z : i < i0
        · simp only [if_pos z, if_pos (Nat.lt_trans hj z)]
          exact h2 i j hj (by omega)
        · by_cases y : j < i0
          · simp only [if_neg z, if_pos y]
            exact h2 (i + 1) j (by omega) (by omega)
          · simp only [if_neg z, if_neg y]
            exact h2 (i + 1) (j + 1) (by omega) (by omega)
    · refine Nat.le_succ_of_le (ih m f (fun i hi => ?_) h2)
      have := h1 i hi
      have : f i ≠ n := fun z => e ⟨i, hi, z⟩
      omega
section
variable {α : Type} {Q : MS → α → Prop} {u0 u v w : MS} {N σ : Nat} {s t x y k nm : Int}
theorem SCP_many (h : SCP nm σ u) {i : Nat} (hi : i ≤ σ) : A u 60 i ≤ nm ∨ nm < 0 := by
  obtain ⟨h1, h2, -⟩ := h i hi
  by_cases e : nm < 0
  · exact Or.inr e
  have := pigeon nm.toNat (A u 60 i).toNat (fun j => (A u 59 (1400 * i + j)).toNat) (fun j hj => by have := h2 j (by omega); omega) (fun a b hb ha => by
    have h3 := h2 a (by omega)
    have h4 := h2 b (by omega)
    have h5 := h3.2.2 b hb
    omega)
  exact Or.inl (by omega)
theorem KPR_sc (a : FR [66] [] [59, 60, 61, 62, 63, 64] [] u v) (h59 : ∀ (s i : Nat), s ≤ σ → (i : Int) < A u 60 s → A v 59 (1400 * s + i) = A u 59 (1400 * s + i)) (h61 : ∀ (r s i : Nat), r ∈ [61, 62] → s ≤ σ → (i : Int) < A u 63 s → A v r (1400 * s + i) = A u r (1400 * s + i)) (h60 : ∀ s, s < σ → A v 60 s = A u 60 s) (hg : ∀ s, s ≤ σ → A u 60 s ≤ A v 60 s ∧ A u 63 s ≤ A v 63 s ∧ A u 64 s ≤ A v 64 s) (h66 : F v 66 = 0 → F u 66 = 0) : KPR σ u v := by
  have g2 : ∀ r i, r ∉ [59, 60, 61, 62, 63, 64] → A v r i = A u r i := fun r i hr => a.A hr
  have m1 : ∀ r, r ∈ [23, 24, 25, 26, 27, 28, 29, 30, 31] → r ∉ [59, 60, 61, 62, 63, 64] := by decide
  have m2 : ∀ r, r ∈ [33, 35, 36, 37, 38] → r ∉ [59, 60, 61, 62, 63, 64] := by decide
  have m3 : ∀ r, r ∈ [40, 41, 42, 43, 45] → r ∉ [59, 60, 61, 62, 63, 64] := by decide
  have m4 : ∀ r, r ∈ [53, 54, 55] → r ∉ [59, 60, 61, 62, 63, 64] := by decide
  have m6 : ∀ r, r ∈ [79, 80, 81, 82] → r ∉ [59, 60, 61, 62, 63, 64] := by decide
  refine ⟨FRP a (by decide) (by decide) (by decide), ⟨fun r i h1 _ => g2 r i (m1 r h1), fun r i h1 _ => g2 r i (m2 r h1), fun r i h1 _ => g2 r i (m3 r h1), fun r i h1 _ => g2 r i (m4 r h1), fun i _ => g2 57 i (by decide)⟩, ⟨h59, h61, h60, hg⟩, ⟨fun i _ => g2 74 i (by decide), fun i _ => g2 76 i (by decide), fun r i h1 _ => g2 r i (m6 r h1)⟩, ⟨?_, ?_, ?_, ?_, ?_, ?_, ?_, ?_⟩, ?_, h66⟩
  all_goals rw [a.F (by decide)]
  all_goals first | exact Int.le_refl _ | exact id
def BIN (u : MS) (i : Nat) (x r : Int) : Prop := (r = -1 ∧ ∀ j : Nat, (j : Int) < A u 60 i → A u 59 (1400 * i + j) ≠ x) ∨ (0 ≤ r ∧ r < A u 60 i ∧ A u 59 (1400 * i + r.toNat) = x)
theorem boundIn_loop {i : Nat} (hi : i ≤ 26) (hm : A u 60 i ≤ 1342) (hx : RG x) : ∀ (m j : Nat), (∀ t, t < j → A u 59 (1400 * i + t) ≠ x) → 1400 - j < m → (j : Int) ≤ 1342 → OK (fun v r => v = u ∧ ∃ r', r = I r' ∧ BIN u i x r') (gg_M_boundIn N m u (I i) (I x) (I j)) := by
  intro m
  induction m with
  | zero => intro j _ z _; exact absurd z (Nat.not_lt_zero _)
  | succ m ih =>
    intro j h1 h2 h3
    show OK _ (fb_M_boundIn_2 N (gg_M_boundIn N m) u (I i) (I x) (I j))
    unfold fb_M_boundIn_2
    refine k_in (k := 60) (n := 27) rfl (by decide) (by omega) ?_
    rw [I_tn (x := (i : Int)) (by omega) (by omega), Int.toNat_natCast, I_A (k := 60)]
    refine k_le (ARG1 u 60 i) ⟨by omega, by omega⟩ (fun e => ?_) (fun e => ?_)
    · exact ok_some.mpr ⟨rfl, -1, rfl, Or.inl ⟨rfl, fun t ht => h1 t (by omega)⟩⟩
    · rw [show (1400 : Int32) = I 1400 from rfl, I_mul, I_add]
      refine k_in (k := 59) (n := 37800) rfl (by decide) (by omega) ?_
      rw [I_tn (by omega) (by omega), show (1400 * (i : Int) + j).toNat = 1400 * i + j from by omega, I_A (k := 59)]
      refine k_eq (ARG1 u 59 _) hx (fun e2 => ?_) (fun e2 => ?_)
      · exact ok_some.mpr ⟨rfl, j, rfl, Or.inr ⟨by omega, e, by rw [Int.toNat_natCast]; exact e2⟩⟩
      · rw [lit1q, I_add, show (j : Int) + 1 = ((j + 1 : Nat) : Int) from by omega]
        exact ih (j + 1) (fun t ht => if z : t = j then by rw [z]; exact e2 else h1 t (by omega)) (by omega) (by omega)
theorem boundIn_ok {i : Nat} (hi : i ≤ 26) (hm : A u 60 i ≤ 1342) (hx : RG x) (hN : 5000 ≤ N) : OK (fun v r => v = u ∧ ∃ r', r = I r' ∧ BIN u i x r') (fm_M_boundIn N u (I i) (I x)) := by
  unfold fm_M_boundIn fb_M_boundIn_0
  exact boundIn_loop hi hm hx N 0 (fun t ht => absurd ht (Nat.not_lt_zero _)) (by omega) (by omega)
def FND (nm : Int) (σ : Nat) (u v : MS) (i : Nat) (x r : Int) : Prop := FR [] [] [61, 62, 63] [] u v ∧ KPR σ u v ∧ SCP nm σ v ∧ ((r = -1 ∧ ∀ j : Nat, (j : Int) < A u 60 i → A u 59 (1400 * i + j) ≠ x) ∨ NCO r (A v 60 i).toNat (A v 63 i).toNat)
theorem FND_rf {i : Nat} {r : Int} (h : SCP nm σ u) (hr : (r = -1 ∧ ∀ j : Nat, (j : Int) < A u 60 i → A u 59 (1400 * i + j) ≠ x) ∨ NCO r (A u 60 i).toNat (A u 63 i).toNat) : FND nm σ u u i x r := ⟨FR.rf, KPR_rf, h, hr⟩
theorem found_loop {S : SG_M_found} {i : Nat} (hi : i ≤ σ ∧ σ ≤ 26) (hs : SCP nm σ u) (hx : RG x) (hb : ∀ j : Nat, (j : Int) < A u 60 i → A u 59 (1400 * i + j) ≠ x) (hS : 0 < i → OK (fun v r => ∃ r', r = I r' ∧ FND nm σ u v (i - 1) x r') (S u (I ((i - 1 : Nat) : Int)) (I x))) : ∀ (m j : Nat), 60 - j < m → (j : Int) ≤ 60 → OK (fun v r => ∃ r', r = I r' ∧ FND nm σ u v i x r') (gg_M_found N S m u (I i) (I x) (I j)) := by
  intro m
  induction m with
  | zero => intro j z _; exact absurd z (Nat.not_lt_zero _)
  | succ m ih =>
    intro j h2 h3
    obtain ⟨⟨s1, s2, s3, s4⟩, s5, s6, s7⟩ := hs i hi.1
    show OK _ (fb_M_found_17 N S (gg_M_found N S m) u (I i) (I x) (I j))
    unfold fb_M_found_17
    refine k_in (k := 63) (n := 27) rfl (by decide) (by omega) ?_
    rw [I_tn (x := (i : Int)) (by omega) (by omega), Int.toNat_natCast, I_A (w := u) (k := 63)]
    refine k_le (ARG1 u 63 i) ⟨by omega, by omega⟩ (fun e => ?_) (fun e => ?_)
    · rw [lit0q]
      refine k_eq ⟨by omega, by omega⟩ ⟨by decide, by decide⟩ (fun e2 => ?_) (fun e2 => ?_)
      · exact ok_some.mpr ⟨-1, rfl, FND_rf hs (Or.inl ⟨rfl, hb⟩)⟩
      · rw [show (-1 : Int32) = I (-1) from rfl, lit1q, I_sub, show (i : Int) - 1 = ((i - 1 : Nat) : Int) from by omega]
        refine ok_bnd.mpr (ok_mono (hS (by omega)) (fun v r hv => ?_))
        obtain ⟨r', hr, f1, f2, f3, f4⟩ := hv
        have rr : RG r' ∧ (r' ≠ -1 → NCO r' (A v 60 (i - 1)).toNat (A v 63 (i - 1)).toNat) := by
          rcases f4 with ⟨z, -⟩ | z
          · exact ⟨by rw [z]; exact ⟨by decide, by decide⟩, fun y => absurd z y⟩
          · have := (f3 (i - 1) (by omega)).1
            have h6 : A v 60 (i - 1) < 2147483648 := (A_r v 60 _).2
            refine ⟨?_, fun _ => z⟩
            unfold NCO at z
            exact ⟨by omega, by omega⟩
        rw [hr]
        have g59 : ∀ j, A v 59 j = A u 59 j := fun j => f1.A (by decide)
        have g60 : ∀ j, A v 60 j = A u 60 j := fun j => f1.A (by decide)
        refine k_eq rr.1 ⟨by decide, by decide⟩ (fun e3 => ?_) (fun e3 => ?_)
        · exact ok_some.mpr ⟨-1, rfl, f1, f2, f3, Or.inl ⟨rfl, hb⟩⟩
        · obtain ⟨⟨t1, t2, t3, t4⟩, t5, t6, t7⟩ := f3 i hi.1
          refine k_in (k := 63) (n := 27) rfl (by decide) (by omega) ?_
          rw [I_A (w := v) (k := 63), show (60 : Int32) = I 60 from rfl]
          refine k_lt (ARG1 v 63 i) ⟨by decide, by decide⟩ (fun e4 => ?_) (fun e4 => ?_)
          · refine k_in (k := 63) (n := 27) rfl (by decide) (by omega) ?_
            obtain ⟨m0, hm0⟩ : ∃ m0 : Nat, A v 63 i = m0 := ⟨(A v 63 i).toNat, by omega⟩
            have he : (I (1400 * (i : Int) + m0)).toNatClampNeg = 1400 * i + m0 := by rw [I_tn (by omega) (by omega)]; omega
            rw [show (1400 : Int32) = I 1400 from rfl, I_mul, hm0, I_add, he]
            refine k_in (k := 61) (n := 37800) rfl (by decide) (by omega) ?_
            refine ok_lt.mpr ?_
            rw [wa_e]
            refine k_in (k := 63) (n := 27) rfl (by decide) (by omega) ?_
            rw [show (wa v 61 (1400 * i + m0) x).2.2.1 63 i = v.2.2.1 63 i from rfl, I_A' hm0, I_add, he]
            refine k_in (k := 62) (n := 37800) rfl (by decide) (by omega) (ok_lt.mpr ?_)
            rw [wa_e]
            refine k_in (k := 63) (n := 27) rfl (by decide) (by omega) (k_in (k := 63) (n := 27) rfl (by decide) (by omega) (ok_lt.mpr ?_))
            rw [show (wa (wa v 61 (1400 * i + m0) x) 62 (1400 * i + m0) r').2.2.1 63 i = v.2.2.1 63 i from rfl, I_A' hm0, I_add, wa_e]
            refine k_in (k := 63) (n := 27) rfl (by decide) (by omega) (ok_some.mpr ⟨-1 - ((m0 : Int) + 1), ?_, ?_⟩)
            · rw [I_A' (wa_eq ⟨by omega, by omega⟩), I_sub]
            have a63 : ∀ j, A (wa (wa (wa v 61 (1400 * i + m0) x) 62 (1400 * i + m0) r') 63 i ((m0 : Int) + 1)) 63 j = if j = i then (m0 : Int) + 1 else A v 63 j := fun j => by
              rw [A_wa (by omega) (by omega), if_pos rfl]; rfl
            have a62 : ∀ j, A (wa (wa (wa v 61 (1400 * i + m0) x) 62 (1400 * i + m0) r') 63 i ((m0 : Int) + 1)) 62 j = if j = 1400 * i + m0 then r' else A v 62 j := fun j => by
              rw [wa_rne (by decide), A_wa rr.1.1 rr.1.2, if_pos rfl]; rfl
            have a61 : ∀ j, j ≠ 1400 * i + m0 → A (wa (wa (wa v 61 (1400 * i + m0) x) 62 (1400 * i + m0) r') 63 i ((m0 : Int) + 1)) 61 j = A v 61 j := fun j hj => by
              rw [wa_rne (by decide), wa_rne (by decide), wa_ne hj]
            have a59 : ∀ r j, r ∉ [61, 62, 63] → A (wa (wa (wa v 61 (1400 * i + m0) x) 62 (1400 * i + m0) r') 63 i ((m0 : Int) + 1)) r j = A v r j := fun r j hr => by
              rw [wa_rne (fun z => hr (by rw [z]; decide)), wa_rne (fun z => hr (by rw [z]; decide)), wa_rne (fun z => hr (by rw [z]; decide))]
            have fr : FR [] [] [61, 62, 63] [] v (wa (wa (wa v 61 (1400 * i + m0) x) 62 (1400 * i + m0) r') 63 i ((m0 : Int) + 1)) := FR.wa (FR.wa (FR.wa FR.rf (by decide)) (by decide)) (by decide)
            generalize wa (wa (wa v 61 (1400 * i + m0) x) 62 (1400 * i + m0) r') 63 i ((m0 : Int) + 1) = w at *
            refine ⟨FR.tr f1 fr, KPR_tr f2 (KPR_sc (FR.mo fr (by decide) (by decide) (by decide) (by decide)) (fun s j _ _ => a59 59 _ (by decide)) (fun r s j hr hs2 hj => ?_) (fun s _ => a59 60 s (by decide)) (fun s hs2 => ?_) (fun z => by rw [← fr.F (by decide)]; exact z)), fun s hs2 => ?_, Or.inr (Or.inr ?_)⟩
            · have hn : 1400 * s + j ≠ 1400 * i + m0 := fun z => by
                have := (f3 s hs2).1
                have : s = i ∧ j = m0 := by omega
                rw [this.1, this.2, hm0] at hj
                omega
              rcases List.mem_cons.mp hr with z | z
              · rw [z]; exact a61 _ hn
              · rw [List.mem_singleton.mp z, a62, if_neg hn]
            · rw [a59 60 s (by decide), a59 64 s (by decide), a63]
              refine ⟨Int.le_refl _, ?_, Int.le_refl _⟩
              by_cases z : s = i
              · rw [if_pos z, z]; omega
              · rw [if_neg z]; exact Int.le_refl _
            · obtain ⟨⟨v1, v2, v3, v4⟩, v5, v6, v7⟩ := f3 s hs2
              rw [a59 60 s (by decide), a59 60 (s - 1) (by decide), a59 64 s (by decide), a63 s, a63 (s - 1)]
              refine ⟨?_, fun j hj => by rw [a59 59 _ (by decide)]; exact ⟨(v5 j hj).1, (v5 j hj).2.1, fun b hb => by rw [a59 59 _ (by decide)]; exact (v5 j hj).2.2 b hb⟩, fun z => ?_, fun j hj hs3 => ?_⟩
              · by_cases z : s = i
                · rw [if_pos z]; omega
                · rw [if_neg z]; omega
              · rw [if_neg (by omega)]; exact v6 z
              · have mono : ∀ y : Int, NCO y (A v 60 (s - 1)).toNat (A v 63 (s - 1)).toNat → NCO y (A v 60 (s - 1)).toNat (if s - 1 = i then (m0 : Int) + 1 else A v 63 (s - 1)).toNat := fun y hy => by
                  refine hy.imp id (fun z => ?_)
                  by_cases z2 : s - 1 = i
                  · rw [if_pos z2]; rw [z2, hm0] at z; omega
                  · rw [if_neg z2]; exact z
                by_cases z : s = i
                · rw [if_pos z] at hj
                  rw [a62]
                  by_cases z3 : j = m0
                  · rw [if_pos (by omega)]
                    exact mono _ (by rw [z]; exact rr.2 e3)
                  · rw [if_neg (by omega)]
                    exact mono _ (v7 j (by rw [z, hm0]; omega) hs3)
                · rw [if_neg z] at hj
                  have : j < 60 := by omega
                  rw [a62, if_neg (by omega)]
                  exact mono _ (v7 j hj hs3)
            · rw [a63, if_pos rfl]; omega
          · refine ok_some.mpr ⟨-2, rfl, f1, f2, f3, Or.inr (Or.inr ?_)⟩
            omega
    · rw [show (1400 : Int32) = I 1400 from rfl, I_mul, I_add]
      refine k_in (k := 61) (n := 37800) rfl (by decide) (by omega) ?_
      rw [I_A (w := u) (k := 61)]
      refine k_eq (ARG1 u 61 _) hx (fun e2 => ?_) (fun e2 => ?_)
      · refine ok_some.mpr ⟨-2 - j, by rw [show (-2 : Int32) = I (-2) from rfl, I_sub], FND_rf hs (Or.inr (Or.inr ?_))⟩
        omega
      · rw [lit1q, I_add, show (j : Int) + 1 = ((j + 1 : Nat) : Int) from by omega]
        exact ih (j + 1) (by omega) (by omega)
theorem found_ok (hN : 5000 ≤ N) (hm : nm ≤ 1342) (hm0 : 0 ≤ nm) (hx : RG x) : ∀ (d i : Nat), i < d → i ≤ σ ∧ σ ≤ 26 → SCP nm σ u → OK (fun v r => ∃ r', r = I r' ∧ FND nm σ u v i x r') (rc_M_found N d u (I i) (I x)) := by
  intro d
  induction d with
  | zero => intro i h; exact absurd h (Nat.not_lt_zero _)
  | succ d ih =>
    intro i h1 h2 hs
    show OK _ (fm_M_found N (rc_M_found N d) u (I i) (I x))
    unfold fm_M_found fb_M_found_0
    have hmany := SCP_many hs h2.1
    refine ok_bnd.mpr (ok_mono (boundIn_ok (by omega) (by omega) hx hN) (fun v r hv => ?_))
    obtain ⟨rfl, r', hr, hb⟩ := hv
    rw [hr, show (-1 : Int32) = I (-1) from rfl]
    have s1 := (hs i h2.1).1
    have rr : RG r' := by unfold BIN at hb; exact ⟨by omega, by omega⟩
    refine k_eq rr ⟨by decide, by decide⟩ (fun e => ?_) (fun e => ?_)
    · rw [lit0q]
      refine found_loop h2 hs hx ?_ (fun z => ih (i - 1) (by omega) (by omega) hs) N 0 (by omega) (by omega)
      rcases hb with hb | hb
      · exact hb.2
      · omega
    · refine ok_some.mpr ⟨r', rfl, FND_rf hs (Or.inr (Or.inl ?_))⟩
      unfold BIN at hb
      omega
end
end
section
section
variable {α : Type} {Q : MS → α → Prop} {u0 u v w : MS} {N σ TN SN : Nat} {bw : Nat → Nat} {p o n q c f h s wt g t x y k nm m : Int}
def BND (nm : Int) (σ : Nat) (u v : MS) : Prop := FR [66] [] [59, 60, 64] [] u v ∧ KPR σ u v ∧ SCP nm σ v ∧ A v 60 σ = A u 60 σ + 1 ∧ (F v 66 = 0 → A v 60 σ ≤ 40) ∧ (F v 66 = F u 66 ∨ F v 66 = 1)
theorem isK64 : isK 64 4 = true := by decide
theorem isK35 : isK 35 4 = true := by decide
theorem bind_ok (hs : SCP nm σ u) (h65 : F u 65 = σ) (hσ : σ ≤ 26) (hnm : nm ≤ 1342) (hx : 0 ≤ x ∧ x < nm) (hb : ∀ j : Nat, (j : Int) < A u 60 σ → A u 59 (1400 * σ + j) ≠ x) : OK (fun v r => r = I (A u 60 σ) ∧ BND nm σ u v) (fm_M_bind N u (I x)) := by
  have sm := SCP_many hs (Nat.le_refl σ)
  obtain ⟨⟨s1, s2, s3, s4⟩, s5, s6, s7⟩ := hs σ (Nat.le_refl σ)
  have s8 : A u 64 σ < 2147483648 := (A_r u 64 _).2
  obtain ⟨m0, hm0⟩ : ∃ m0 : Nat, A u 60 σ = m0 := ⟨(A u 60 σ).toNat, by omega⟩
  unfold fm_M_bind fb_M_bind_0 fb_M_bind_87 fb_M_bind_107
  simp only [lt_e]
  rw [I_F' h65]
  have e65 : ∀ v : MS, v.1 = u.1 → v.1 65 = I σ := fun v hv => by rw [hv]; exact I_F' h65
  have ts : (I (σ : Int)).toNatClampNeg = σ := by rw [I_tn (by omega) (by omega)]; omega
  have ti : (I (1400 * (σ : Int) + m0)).toNatClampNeg = 1400 * σ + m0 := by rw [I_tn (by omega) (by omega)]; omega
  refine k_in (k := 60) (n := 27) rfl (by decide) (by omega) ?_
  rw [ts, show (1400 : Int32) = I 1400 from rfl, I_mul, I_A' hm0, I_add, ti]
  refine k_in (k := 59) (n := 37800) rfl (by decide) (by omega) ?_
  rw [wa_e]
  rw [e65 (wa u 59 (1400 * σ + m0) x) rfl, ts]
  refine k_in (k := 60) (n := 27) rfl (by decide) (by omega) (k_in (k := 60) (n := 27) rfl (by decide) (by omega) ?_)
  rw [show (wa u 59 (1400 * σ + m0) x).2.2.1 60 σ = u.2.2.1 60 σ from rfl, I_A' hm0, lit1q, I_add, wa_e]
  have q60 : A (wa (wa u 59 (1400 * σ + m0) x) 60 σ ((m0 : Int) + 1)) 60 σ = (m0 : Int) + 1 := wa_eq ⟨by omega, by omega⟩
  have q64 : A (wa (wa u 59 (1400 * σ + m0) x) 60 σ ((m0 : Int) + 1)) 64 σ = A u 64 σ := rfl
  have q65 : (wa (wa u 59 (1400 * σ + m0) x) 60 σ ((m0 : Int) + 1)).1 65 = I σ := e65 _ rfl
  have fr1 : FR [66] [] [59, 60, 64] [] u (wa (wa u 59 (1400 * σ + m0) x) 60 σ ((m0 : Int) + 1)) := FR.wa (FR.wa FR.rf (by decide)) (by decide)
  have q59 : ∀ j, A (wa (wa u 59 (1400 * σ + m0) x) 60 σ ((m0 : Int) + 1)) 59 j = if j = 1400 * σ + m0 then x else A u 59 j := fun j => by rw [wa_rne (by decide), A_wa (by omega) (by omega), if_pos rfl]
  have q60' : ∀ j, A (wa (wa u 59 (1400 * σ + m0) x) 60 σ ((m0 : Int) + 1)) 60 j = if j = σ then (m0 : Int) + 1 else A u 60 j := fun j => by rw [A_wa (by omega) (by omega), if_pos rfl, wa_rne (by decide)]
  have qr : ∀ r j, r ∉ [59, 60] → A (wa (wa u 59 (1400 * σ + m0) x) 60 σ ((m0 : Int) + 1)) r j = A u r j := fun r j hr => by rw [wa_rne (fun z => hr (by rw [z]; decide)), wa_rne (fun z => hr (by rw [z]; decide))]
  have q66 : ∀ k, F (wa (wa u 59 (1400 * σ + m0) x) 60 σ ((m0 : Int) + 1)) k = F u k := fun k => rfl
  generalize wa (wa u 59 (1400 * σ + m0) x) 60 σ ((m0 : Int) + 1) = w4 at *
  rw [q65, ts]
  refine k_in (k := 60) (n := 27) rfl (by decide) (by omega) (k_in (k := 64) (n := 27) rfl (by decide) (by omega) ?_)
  rw [I_A' q60, I_A' q64, isK64, ck_t, ck_t]
  have fin : ∀ z : Int, A u 64 σ ≤ z → (m0 : Int) + 1 ≤ z → z ≤ 1400 → OK (fun v r => r = I (m0 : Int) ∧ BND nm σ u v) (ck (inb (I (σ : Int)) (ln 64)) (ck (inb ((wa w4 64 σ z).1 65) (ln 64)) (br (decide ((wa w4 64 σ z).2.2.1 64 ((wa w4 64 σ z).1 65).toNatClampNeg ≤ 40)) (ck (inb ((wa w4 64 σ z).1 65) (ln 60)) (some (wa w4 64 σ z, (wa w4 64 σ z).2.2.1 60 ((wa w4 64 σ z).1 65).toNatClampNeg - I 1))) (ck (inb ((upI (wa w4 64 σ z) 66 (I 1)).1 65) (ln 60)) (some (upI (wa w4 64 σ z) 66 (I 1), (upI (wa w4 64 σ z) 66 (I 1)).2.2.1 60 ((upI (wa w4 64 σ z) 66 (I 1)).1 65).toNatClampNeg - I 1)))))) := fun z z1 z2 z3 => by
    have r64 : ∀ j, A (wa w4 64 σ z) 64 j = if j = σ then z else A u 64 j := fun j => by rw [A_wa (by omega) (by omega), if_pos rfl, qr 64 j (by decide)]
    have rr : ∀ r j, r ≠ 64 → A (wa w4 64 σ z) r j = A w4 r j := fun r j hr => wa_rne hr
    have r65 : (wa w4 64 σ z).1 65 = I σ := q65
    have sc : SCP nm σ (wa w4 64 σ z) := by
      intro i hi
      obtain ⟨⟨v1, v2, v3, v4⟩, v5, v6, v7⟩ := hs i hi
      have y60 : ∀ j, A (wa w4 64 σ z) 60 j = if j = σ then (m0 : Int) + 1 else A u 60 j := fun j => by rw [rr 60 j (by decide), q60']
      have y59 : ∀ j, A (wa w4 64 σ z) 59 j = if j = 1400 * σ + m0 then x else A u 59 j := fun j => by rw [rr 59 j (by decide), q59]
      have y63 : ∀ j, A (wa w4 64 σ z) 63 j = A u 63 j := fun j => by rw [rr 63 j (by decide), qr 63 j (by decide)]
      have y62 : ∀ j, A (wa w4 64 σ z) 62 j = A u 62 j := fun j => by rw [rr 62 j (by decide), qr 62 j (by decide)]
      have im := SCP_many hs hi
      rw [y60 i, y63 i, r64 i]
      refine ⟨?_, fun j hj => ?_, v6, fun j hj hi0 => ?_⟩
      · by_cases e : i = σ
        · rw [if_pos e, if_pos e]; omega
        · rw [if_neg e, if_neg e]; exact ⟨v1, v2, v3, v4⟩
      · by_cases e : i = σ
        · rw [if_pos e] at hj
          rw [y59, e]
          by_cases e2 : j = m0
          · rw [if_pos (by omega)]
            refine ⟨hx.1, hx.2, fun b hb2 => ?_⟩
            rw [y59, if_neg (by omega)]
            exact hb b (by omega)
          · rw [if_neg (by omega)]
            have := s5 j (by omega)
            refine ⟨this.1, this.2.1, fun b hb2 => ?_⟩
            rw [y59, if_neg (by omega)]
            exact this.2.2 b hb2
        · rw [if_neg e] at hj
          rw [y59, if_neg (by omega)]
          refine ⟨(v5 j hj).1, (v5 j hj).2.1, fun b hb2 => ?_⟩
          rw [y59, if_neg (by omega)]
          exact (v5 j hj).2.2 b hb2
      · rw [y62, y60, y63, if_neg (by omega)]
        exact v7 j hj hi0
    have kp : KPR σ u (wa w4 64 σ z) := by
      refine KPR_sc (FR.mo (FR.wa fr1 (by decide)) (by decide) (by decide) (by decide) (by decide)) (fun i j hi hj => ?_) (fun r i j hr _ _ => ?_) (fun i hi => ?_) (fun i hi => ?_) (fun z => by rw [← q66]; exact z)
      · rw [rr 59 _ (by decide), q59, if_neg]
        intro e
        have im := SCP_many hs hi
        have i1 := (hs i hi).1
        have : i = σ ∧ j = m0 := by omega
        rw [this.1, this.2, hm0] at hj
        omega
      · have : ∀ r, r ∈ [61, 62] → r ≠ 64 ∧ r ∉ [59, 60] := by decide
        rw [rr r _ (this r hr).1, qr r _ (this r hr).2]
      · rw [rr 60 _ (by decide), q60', if_neg (by omega)]
      · rw [rr 60 _ (by decide), q60', rr 63 _ (by decide), qr 63 _ (by decide), r64]
        by_cases e : i = σ
        · rw [if_pos e, if_pos e, e, hm0]; omega
        · rw [if_neg e, if_neg e]; exact ⟨Int.le_refl _, Int.le_refl _, Int.le_refl _⟩
    have fr : FR [66] [] [59, 60, 64] [] u (wa w4 64 σ z) := FR.wa fr1 (by decide)
    have a60 : A (wa w4 64 σ z) 60 σ = (m0 : Int) + 1 := by rw [rr 60 _ (by decide)]; exact q60
    have a64 : A (wa w4 64 σ z) 64 σ = z := by rw [r64, if_pos rfl]
    have f66 : F (wa w4 64 σ z) 66 = F u 66 := q66 66
    generalize wa w4 64 σ z = w5 at *
    refine k_in (k := 64) (n := 27) rfl (by decide) (by omega) ?_
    rw [r65, ts, I_A' a64]
    refine k_in (k := 64) (n := 27) rfl (by decide) (by omega) ?_
    rw [show (40 : Int32) = I 40 from rfl]
    refine k_le ⟨by omega, by omega⟩ ⟨by decide, by decide⟩ (fun e => ?_) (fun e => ?_)
    · refine k_in (k := 60) (n := 27) rfl (by decide) (by omega) (ok_some.mpr ⟨?_, fr, kp, sc, by rw [hm0]; exact a60, fun _ => by omega, Or.inl f66⟩)
      rw [I_A' a60, I_sub, show (m0 : Int) + 1 - 1 = m0 from by omega]
    · rw [show upI w5 66 (I 1) = wi w5 66 1 from rfl, show (wi w5 66 1).1 65 = w5.1 65 from rfl, r65, ts, show (wi w5 66 1).2.2.1 60 σ = w5.2.2.1 60 σ from rfl]
      have f1 : F (wi w5 66 1) 66 = 1 := wi_eq ⟨by decide, by decide⟩
      have fw : FR [66] [] [] [] w5 (wi w5 66 1) := FR.wi FR.rf (by decide)
      refine k_in (k := 60) (n := 27) rfl (by decide) (by omega) (ok_some.mpr ⟨?_, FR.wi fr (by decide), KPR_tr kp (KPR_sc (FR.mo fw (by decide) (by decide) (by decide) (by decide)) (fun _ _ _ _ => rfl) (fun _ _ _ _ _ _ => rfl) (fun _ _ => rfl) (fun _ _ => ⟨Int.le_refl _, Int.le_refl _, Int.le_refl _⟩) (fun z => by omega)), SCP_fr sc fw (by decide), by rw [hm0]; exact a60, fun z => by omega, Or.inr f1⟩)
      rw [I_A' a60, I_sub, show (m0 : Int) + 1 - 1 = m0 from by omega]
  rw [hm0]
  refine k_le ⟨by omega, by omega⟩ (ARG1 u 64 σ) (fun e => ?_) (fun e => ?_)
  · refine k_in (k := 64) (n := 27) rfl (by decide) (by omega) ?_
    rw [wa_e]
    exact fin (A u 64 σ) (Int.le_refl _) e (hs σ (Nat.le_refl σ)).1.2.2.2.2
  · refine k_in (k := 60) (n := 27) rfl (by decide) (by omega) ?_
    rw [wa_e]
    exact fin ((m0 : Int) + 1) (by omega) (Int.le_refl _) (by omega)
end
end
section
section
variable {α : Type} {Q : MS → α → Prop} {u0 u v w : MS} {N σ TN SN : Nat} {bw : Nat → Nat} {p o n q c f h s wt g t x y k nm m d : Int}
theorem ST_A (hs : ST u0 σ p o n q c f h s wt g u) {r i : Nat} (hr : r ∉ PfA) : A u r i = A u0 r i := hs.1.A hr
theorem ST_F (hs : ST u0 σ p o n q c f h s wt g u) {r : Nat} (hr : r ∉ PfI) : F u r = F u0 r := hs.1.F hr
theorem ST_IS (hs : ST u0 σ p o n q c f h s wt g u) (a : IS u x) : A u0 6 p.toNat = 6 ∧ A u0 7 p.toNat = x := by
  unfold IS at a
  rw [hs.2.1.1, ST_A hs (by decide), ST_A hs (by decide)] at a
  exact a
theorem ST_IW (hs : ST u0 σ p o n q c f h s wt g u) (a : IW u x) : A u0 6 p.toNat = 3 ∧ A u0 7 p.toNat = x := by
  unfold IW at a
  rw [hs.2.1.1, ST_A hs (by decide), ST_A hs (by decide)] at a
  exact a
theorem tok_lt (t : TKW u0 TN SN bw) (hp : 0 ≤ p ∧ p ≤ TN) (h : ¬ (A u0 6 p.toNat = 0 ∨ A u0 6 p.toNat = 7)) : p < TN := by
  have := t.1.2
  by_cases e : p = TN
  · rw [e, Int.toNat_natCast] at h; exact absurd this h
  · omega
theorem underscore_ok {i : Nat} (hi : i < 4002) (h7 : 0 ≤ A u 7 i ∧ A u 7 i ≤ 1342) (h16 : 0 ≤ A u 16 (A u 7 i).toNat ∧ A u 16 (A u 7 i).toNat ≤ 4900) : OK (fun v r => v = u ∧ (r = 0 ∨ r = 1)) (fm_M_isUnderscore N u (I i)) := by
  unfold fm_M_isUnderscore fb_M_isUnderscore_0 fb_M_isUnderscore_46 fb_M_isUnderscore_47
  refine k_in (k := 7) (n := 4002) rfl (by decide) (by omega) ?_
  rw [I_tn (x := (i : Int)) (by omega) (by omega), Int.toNat_natCast, I_A (k := 7), lit1q, I_add]
  refine k_in (k := 16) (n := 2200) rfl (by decide) (by omega) (k_in (k := 16) (n := 2200) rfl (by decide) (by omega) ?_)
  rw [I_tn (x := A u 7 i) (by omega) (by omega), I_A (k := 16) (i := (A u 7 i).toNat)]
  have e1 : OK (fun v r => v = u ∧ (r = (0 : Int32) ∨ r = I 1)) (ck (isb 0) (some (u, 0))) := ok_ck.mpr ⟨rfl, ok_some.mpr ⟨rfl, Or.inl rfl⟩⟩
  have e2 : OK (fun v r => v = u ∧ (r = (0 : Int32) ∨ r = I 1)) (ck (isb (I 1)) (some (u, I 1))) := ok_ck.mpr ⟨rfl, ok_some.mpr ⟨rfl, Or.inr rfl⟩⟩
  refine ok_br.mpr ⟨fun _ => ?_, fun _ => e1⟩
  refine k_in (k := 16) (n := 2200) rfl (by decide) (by omega) (k_in (k := 15) (n := 5000) rfl (by decide) (by omega) (ok_br.mpr ⟨fun _ => e2, fun _ => e1⟩))
def UNB (σ : Nat) (u v : MS) (m : Int) : Prop := ∃ v1, NDV u v1 18 (F u 69) ∧ v = wa (wa v1 25 (F u 32).toNat m) 60 σ m
theorem k_unbind {b : Int32} {f : MS → Unit → Option (MS × α)} (hb : b = I m) (hm : RG m) (h65 : F u 65 = σ) (hσ : σ ≤ 26) (h69 : 0 ≤ F u 69 ∧ F u 69 < 4002) (h32 : 0 ≤ F u 32 ∧ F u 32 < 16000) (a1 : A u 60 σ ≤ m → OK Q (f u ())) (a2 : m < A u 60 σ → ∀ v, UNB σ u v m → OK Q (f v ())) : OK Q (bnd (fm_M_unbind N u b) f) := by
  refine ok_bnd.mpr ?_
  unfold fm_M_unbind fb_M_unbind_0 fb_M_unbind_41
  have ts : (I (σ : Int)).toNatClampNeg = σ := by rw [I_tn (by omega) (by omega)]; omega
  rw [I_F' h65, hb, ts, I_A (k := 60)]
  refine k_in (k := 60) (n := 27) rfl (by decide) (by omega) (k_le (ARG1 u 60 σ) hm (fun e => ok_some.mpr (a1 e)) (fun e => ?_))
  refine k_node (k := 18) (t := F u 69) rfl (by decide) I_F h69 h32 (fun v1 hv => ?_)
  refine k_in (k := 25) (n := 16000) rfl (by decide) (by omega) (ok_lt.mpr ?_)
  have e65 : v1.1 65 = I σ := by rw [hv.1.1.1 65 (by decide)]; exact I_F' h65
  rw [I_tn (by omega) (by omega), wa_e, show (wa v1 25 (F u 32).toNat m).1 65 = v1.1 65 from rfl, e65, ts]
  refine k_in (k := 60) (n := 27) rfl (by decide) (by omega) (ok_lt.mpr (ok_some.mpr ?_))
  rw [wa_e]
  exact a2 e _ ⟨v1, hv, rfl⟩
theorem ST_60 (hs : ST u0 σ p o n q c f h s wt g u) (hx : 0 ≤ x ∧ x ≤ A u 60 σ) : ST u0 σ p o n q c f h s wt g (wa u 60 σ x) := by
  obtain ⟨h1, e, h2, h6, h7, h8⟩ := hs
  have rg : RG x := by have := (A_r u 60 σ).2; exact ⟨by omega, by omega⟩
  have a : FR [] [] [60] [] u (wa u 60 σ x) := FR.wa FR.rf (by decide)
  refine ⟨FR.wa h1 (by decide), e, h2, fun i hi => ?_, K44_fr h7 a (by decide), NGD_fr h8 a (by decide) (by decide)⟩
  obtain ⟨⟨v1, v2, v3, v4⟩, v5, v6, v7⟩ := h6 i hi
  have y60 : ∀ j, A (wa u 60 σ x) 60 j = if j = σ then x else A u 60 j := fun j => by rw [A_wa rg.1 rg.2, if_pos rfl]
  have yr : ∀ r j, r ≠ 60 → A (wa u 60 σ x) r j = A u r j := fun r j hr => wa_rne hr
  rw [y60 i, yr 63 i (by decide), yr 64 i (by decide), yr 63 (i - 1) (by decide)]
  refine ⟨?_, fun j hj => ?_, v6, fun j hj hi0 => ?_⟩
  · by_cases e : i = σ
    · rw [if_pos e]
      rw [e] at v1 v2 v3 v4 ⊢
      omega
    · rw [if_neg e]; exact ⟨v1, v2, v3, v4⟩
  · have hj2 : (j : Int) < A u 60 i := by
      by_cases e : i = σ
      · rw [if_pos e] at hj; rw [e]; omega
      · rw [if_neg e] at hj; exact hj
    rw [yr 59 _ (by decide)]
    exact ⟨(v5 j hj2).1, (v5 j hj2).2.1, fun b hb => by rw [yr 59 _ (by decide)]; exact (v5 j hj2).2.2 b hb⟩
  · rw [yr 62 _ (by decide), y60, if_neg (by omega)]
    exact v7 j hj hi0
theorem KPR_60 (a : KPR σ u v) (hx : A u 60 σ ≤ x) (hr : RG x) : KPR σ u (wa v 60 σ x) := by
  obtain ⟨a0, ⟨a1, a2, a3, a4, a5⟩, ⟨a6, a7, a8, a9⟩, ⟨a10, a11, a12⟩, a13⟩ := a
  have yr : ∀ r j, r ≠ 60 → A (wa v 60 σ x) r j = A v r j := fun r j hr => wa_rne hr
  have y60 : ∀ j, A (wa v 60 σ x) 60 j = if j = σ then x else A v 60 j := fun j => by rw [A_wa hr.1 hr.2, if_pos rfl]
  have m1 : ∀ r, r ∈ [23, 24, 25, 26, 27, 28, 29, 30, 31] → r ≠ 60 := by decide
  have m2 : ∀ r, r ∈ [33, 35, 36, 37, 38] → r ≠ 60 := by decide
  have m3 : ∀ r, r ∈ [40, 41, 42, 43, 45] → r ≠ 60 := by decide
  have m4 : ∀ r, r ∈ [53, 54, 55] → r ≠ 60 := by decide
  have m5 : ∀ r, r ∈ [61, 62] → r ≠ 60 := by decide
  have m6 : ∀ r, r ∈ [79, 80, 81, 82] → r ≠ 60 := by decide
  refine ⟨FR.wa a0 (by decide), ⟨fun r i h1 h2 => by rw [yr r i (m1 r h1)]; exact a1 r i h1 h2, fun r i h1 h2 => by rw [yr r i (m2 r h1)]; exact a2 r i h1 h2, fun r i h1 h2 => by rw [yr r i (m3 r h1)]; exact a3 r i h1 h2, fun r i h1 h2 => by rw [yr r i (m4 r h1)]; exact a4 r i h1 h2, fun i h2 => by rw [yr 57 i (by decide)]; exact a5 i h2⟩, ⟨fun s i h1 h2 => by rw [yr 59 _ (by decide)]; exact a6 s i h1 h2, fun r s i h0 h1 h2 => by rw [yr r _ (m5 r h0)]; exact a7 r s i h0 h1 h2, fun s h1 => ?_, fun s h1 => ?_⟩, ⟨fun i h2 => by rw [yr 74 i (by decide)]; exact a10 i h2, fun i h2 => by rw [yr 76 i (by decide)]; exact a11 i h2, fun r i h1 h2 => by rw [yr r i (m6 r h1)]; exact a12 r i h1 h2⟩, a13⟩
  · rw [y60, if_neg (by omega)]; exact a8 s h1
  · rw [y60, yr 63 s (by decide), yr 64 s (by decide)]
    have := a9 s h1
    by_cases e : s = σ
    · rw [if_pos e]; rw [e] at this ⊢; exact ⟨hx, this.2⟩
    · rw [if_neg e]; exact this
theorem ST_unb (hs : ST u0 σ p o n q c f h s wt g u) (a : UNB σ u v m) (hp : 0 ≤ p ∧ p < 4002) (hn : 0 ≤ n) (hm : 0 ≤ m ∧ m < A u 60 σ) : ST u0 σ p o (n + 1) q c f h s wt g v := by
  obtain ⟨v1, hv, rfl⟩ := a
  have e : F u 69 = p := hs.2.1.1
  have e2 : F u 32 = n := hs.2.1.2.2.1
  rw [e] at hv
  have nw := NDW_wa (x := m) hv.1 (show 25 ∈ [25, 26, 27, 28, 29, 30, 31] by decide)
  refine ST_60 (ST_nd hs nw hp hn (fun z => by omega)) ⟨hm.1, ?_⟩
  rw [nw.1.A (by decide)]
  omega
theorem KPR_unb (a : KPR σ u v) (b : UNB σ v w m) (h : 0 ≤ F v 32) (hm : A u 60 σ ≤ m) (hr : RG m) : KPR σ u w := by
  obtain ⟨v1, hv, rfl⟩ := b
  have := a.2.2.2.2.1.1
  exact KPR_60 (KPR_wn (KPR_nd a hv.1 h) (by decide) (by omega)) hm hr
theorem FSM_wa {r i : Nat} (hs : FSM u0 TN σ d u) (h : r ∈ PfA ∧ r ≠ 63 ∧ r ≠ 44) : FSM u0 TN σ d (wa u r i x) := FSM_fr (is := []) (as := [r]) (js := []) hs (FR.wa FR.rf (List.mem_singleton.mpr rfl)) (fun k z => by cases z) (fun k z => by rw [List.mem_singleton.mp z]; exact h) (fun k z => by cases z) hs.2.1
theorem FSM_wi {b : Nat} (hs : FSM u0 TN σ d u) (h : b ∈ [39, 46, 56, 66, 70, 72, 73, 75, 77, 83, 84]) : FSM u0 TN σ d (wi u b x) := by
  have pb : ∀ b, b ∈ [39, 46, 56, 66, 70, 72, 73, 75, 77, 83, 84] → b ∈ [39, 46, 56, 66, 67, 68, 70, 72, 73, 75, 77, 83, 84] ∧ 67 ≠ b := by decide
  refine FSM_fr (is := [b]) (as := []) (js := []) hs (FR.wi FR.rf (List.mem_singleton.mpr rfl)) (fun k z => by rw [List.mem_singleton.mp z]; exact (pb b h).1) (fun k z => by cases z) (fun k z => by cases z) ?_
  rw [wi_ne (pb b h).2]; exact hs.2.1
theorem FSM_67 (hs : FSM u0 TN σ d u) (a : FR [67, 68] [] [] [] u v) (h : F v 67 ≠ 0) : FSM u0 TN σ d v := FSM_fr hs a (by decide) (by decide) (by decide) h
theorem FSM_rule (hs : FSM u0 TN σ d u) (a : FR [71, 72] [] [] [] u v) (h71 : 0 ≤ F v 71 ∧ F v 71 < 4002) : FSM u0 TN σ d v := by
  obtain ⟨g1, g2, g3, g4, g5, g6, g7, g8⟩ := hs
  refine ⟨FR.tr g1 (FRP a (by decide) (by decide) (by decide)), by rw [a.F (by decide)]; exact g2, ?_, by rw [a.F (by decide)]; exact g4, by rw [a.F (by decide)]; exact g5, by rw [a.F (by decide)]; exact g6, fun s hs => by rw [a.A (by decide)]; exact g7 s hs, K44_fr g8 a (by decide)⟩
  rw [a.F (k := 69) (by decide)]
  exact ⟨g3.1, g3.2.1, h71⟩
theorem FSM_unb (hs : FSM u0 TN σ d u) (a : UNB σ u v m) : FSM u0 TN σ (d + 1) v := by
  obtain ⟨v1, hv, rfl⟩ := a
  exact FSM_wa (FSM_wa (FSM_nd hs hv.1) (by decide)) (by decide)
theorem ST_sc {v : MS} (hs : ST u0 σ p o n q c f h s wt g u) (a : FR [66] [] [59, 60, 61, 62, 63, 64] [] u v) (b : SCP (F u0 17) σ v) (h66 : F v 66 = F u 66 ∨ F v 66 = 1) : ST u0 σ p o n q c f h s wt g v := by
  obtain ⟨h1, ⟨e1, e2, e3, e4, e5, e6, e7, e8, e9, e10, e11, e12⟩, ⟨h3, h4, h5⟩, h6, h7, h8⟩ := hs
  refine ⟨FR.tr h1 (FRP a (by decide) (by decide) (by decide)), ⟨?_, ?_, ?_, ?_, ?_, ?_, ?_, ?_, ?_, ?_, ?_, ?_⟩, ⟨?_, h4, by omega⟩, b, K44_fr h7 a (by decide), NGD_fr h8 a (by decide) (by decide)⟩
  all_goals rw [a.F (by decide)]; assumption
def NPK (σ : Nat) (u v : MS) (i : Nat) : Prop := (A v 36 i = -1 ∧ A v 37 i = -1 ∧ A v 38 i = 0) ∧ ((A v 33 i = 0 ∧ A v 60 σ = A u 60 σ) ∨ (A v 33 i = 1 ∧ A v 60 σ = A u 60 σ + 1 ∧ (F v 66 = 0 → A v 60 σ ≤ 40)) ∨ (A v 33 i = 2 ∧ A v 60 σ = A u 60 σ ∧ NCO (A v 35 i) (A u 60 σ).toNat (A v 63 σ).toNat))
theorem namePattern_ok {b : Int32} (tk : TKW u0 TN SN bw) (hN : 5000 ≤ N) (hs : ST u0 σ p o n q c f h s wt g u) (hσ : σ ≤ 26) (hp : 0 ≤ p ∧ p < TN) (h2 : A u0 6 p.toNat = 2) (hq : 0 ≤ q ∧ q < 5000) : OK (fun v r => r = I q ∧ ST u0 σ (p + 1) o n (q + 1) c f h s wt g v ∧ KPR σ u v ∧ F v 67 = F u 67 ∧ NPK σ u v q.toNat) (fm_M_namePattern N u b) := by
  obtain ⟨⟨k1, k2⟩, k3, ⟨k4, k5, k6⟩, -⟩ := tk
  obtain ⟨pn, rfl⟩ : ∃ pn : Nat, p = pn := ⟨p.toNat, by omega⟩
  have tp : ((pn : Nat) : Int).toNat = pn := Int.toNat_natCast pn
  rw [tp] at h2
  have kv := (k3 pn (by omega)).2.2.2.1 h2
  have e69 : F u 69 = (pn : Int) := hs.2.1.1
  have e65 : F u 65 = σ := hs.2.1.2.2.2.2.2.2.2.2.2.2.2
  have e39 : F u 39 = q := hs.2.1.2.2.2.1
  have a7 : A u 7 pn = A u0 7 pn := ST_A hs (by decide)
  have a16 := k6 (A u0 7 pn).toNat (by omega)
  unfold fm_M_namePattern fb_M_namePattern_0
  rw [I_F' e69]
  refine ok_bnd.mpr (ok_mono (underscore_ok (by omega) (by omega) (by rw [a7, ST_A hs (by decide)]; exact a16)) (fun u1 r1 hv => ?_))
  obtain ⟨rfl, hr1⟩ := hv
  have last : ∀ (v : MS) (i : Nat), ST u0 σ (pn : Int) o n (q + 1) c f h s wt g v → KPR σ u1 v → F v 67 = F u1 67 → NPK σ u1 v i → i = q.toNat → OK (fun v r => r = I q ∧ ST u0 σ ((pn : Int) + 1) o n (q + 1) c f h s wt g v ∧ KPR σ u1 v ∧ F v 67 = F u1 67 ∧ NPK σ u1 v q.toNat) (fb_M_namePattern_105 N () v (I q)) := fun v i h1 h2 h3 h4 h5 => by
    subst h5
    unfold fb_M_namePattern_105
    refine ok_lt.mpr ?_
    rw [nx1_e]
    exact ok_some.mpr ⟨rfl, ST_nx h1 (by omega), KPR_w0 h2 (by decide), (wi_ne (by decide)).trans h3, h4⟩
  have c104 : ∀ (v w : MS) (y : Int), RG y → ST u0 σ (pn : Int) o n (q + 1) c f h s wt g w → KPR σ u1 w → F w 67 = F u1 67 → NPK σ u1 (wa w 35 q.toNat y) q.toNat → OK (fun v r => r = I q ∧ ST u0 σ ((pn : Int) + 1) o n (q + 1) c f h s wt g v ∧ KPR σ u1 v ∧ F v 67 = F u1 67 ∧ NPK σ u1 v q.toNat) (fb_M_namePattern_104 N () w (I q) 35 (I q) (I y)) := fun v w y hy h1 h2 h3 h4 => by
    unfold fb_M_namePattern_104
    rw [isK35, ck_t]
    refine k_in (k := 35) (n := 5000) rfl (by decide) (by omega) (ok_lt.mpr ?_)
    rw [I_tn (by omega) (by omega), wa_e]
    have : ∀ r, r ∈ [35] → r ∉ [23, 24, 25, 26, 27, 28, 29, 30, 31] ∧ r ∉ [40, 41, 42, 43, 45] ∧ r ∉ [53, 54, 55] ∧ r ∉ [79, 80, 81, 82] := by decide
    have t5 := this 35 (by decide)
    exact last _ q.toNat (ST_wa h1 (by decide)) (KPR_wa h2 (by decide) ⟨fun z => absurd z t5.1, fun _ => by omega, fun z => absurd z t5.2.1, fun z => absurd z t5.2.2.1, fun z => by omega, fun z => by omega, fun z => by omega, fun z => absurd z t5.2.2.2⟩) h3 h4 rfl
  rcases hr1 with z | z
  · rw [z, br00]
    have main : ∀ (v : MS) (r' : Int), ST u0 σ (pn : Int) o n q c f h s wt g v → KPR σ u1 v → F v 67 = F u1 67 → (∀ j, A v 60 j = A u1 60 j) → RG r' → (r' = -1 → ∀ j : Nat, (j : Int) < A v 60 σ → A v 59 (1400 * σ + j) ≠ A u0 7 pn) → (r' ≠ -1 → NCO r' (A v 60 σ).toNat (A v 63 σ).toNat) → OK (fun v r => r = I q ∧ ST u0 σ ((pn : Int) + 1) o n (q + 1) c f h s wt g v ∧ KPR σ u1 v ∧ F v 67 = F u1 67 ∧ NPK σ u1 v q.toNat) (fb_M_namePattern_61 N () v (I r')) := fun v r' h1 h2 h3 h60 hr hn hy => by
      have e39v : F v 39 = q := h1.2.1.2.2.2.1
      unfold fb_M_namePattern_61 fb_M_namePattern_73
      rw [show (-1 : Int32) = I (-1) from rfl]
      refine k_eq hr ⟨by decide, by decide⟩ (fun e => ?_) (fun e => ?_)
      · refine k_pattern (k := 1) rfl (by decide) (by omega) (fun w hw => ?_)
        have sw := ST_pt h1 hw
        have kw := KPR_pt h2 hw (by omega)
        obtain ⟨w1, w2, w3, w4⟩ := id hw
        refine k_eq hr ⟨by decide, by decide⟩ (fun _ => ?_) (fun z => absurd e z)
        have e69w : F w 69 = (pn : Int) := sw.2.1.1
        rw [I_F' e69w]
        refine k_in (k := 7) (n := 4002) rfl (by decide) (by omega) ?_
        rw [I_tn (by omega) (by omega), tp, I_A' (show A w 7 pn = A u0 7 pn from ST_A sw (by decide)), e39v]
        refine ok_bnd.mpr (ok_mono (bind_ok (nm := F u0 17) sw.2.2.2.1 sw.2.1.2.2.2.2.2.2.2.2.2.2.2 hσ k5 kv (fun j hj => ?_)) (fun w5 r5 h5 => ?_))
        · rw [w1.A (by decide)] at hj ⊢; exact hn e j hj
        · obtain ⟨hr5, b1, b2, b3, b4, b5, b6⟩ := h5
          rw [hr5]
          have hi : ∀ r, r ∉ [59, 60, 64] → A w5 r q.toNat = A w r q.toNat := fun r hr => b1.A hr
          refine c104 v w5 _ (ARG1 w 60 σ) (ST_sc sw (FR.mo b1 (by decide) (by decide) (by decide) (by decide)) b3 b6) (KPR_tr kw b2) ?_ ?_
          · rw [b1.F (by decide), w1.F (by decide)]; exact h3
          · rw [e39v] at w3
            refine ⟨⟨?_, ?_, ?_⟩, Or.inr (Or.inl ⟨?_, ?_, ?_⟩)⟩
            · rw [wa_rne (by decide), hi 36 (by decide)]; exact w3.2.2.1
            · rw [wa_rne (by decide), hi 37 (by decide)]; exact w3.2.2.2.1
            · rw [wa_rne (by decide), hi 38 (by decide)]; exact w3.2.2.2.2
            · rw [wa_rne (by decide), hi 33 (by decide)]; exact w3.1
            · rw [wa_rne (by decide), b4, w1.A (by decide), h60]
            · rw [wa_rne (by decide)]; exact b5
      · refine k_pattern (k := 2) rfl (by decide) (by omega) (fun w hw => ?_)
        have sw := ST_pt h1 hw
        have kw := KPR_pt h2 hw (by omega)
        obtain ⟨w1, w2, w3, w4⟩ := id hw
        rw [e39v] at w3
        rw [e39v]
        refine k_eq hr ⟨by decide, by decide⟩ (fun z => absurd z e) (fun _ => ?_)
        refine c104 v w _ hr sw kw ((w1.F (by decide)).trans h3) ⟨⟨?_, ?_, ?_⟩, Or.inr (Or.inr ⟨?_, ?_, ?_⟩)⟩
        · rw [wa_rne (by decide)]; exact w3.2.2.1
        · rw [wa_rne (by decide)]; exact w3.2.2.2.1
        · rw [wa_rne (by decide)]; exact w3.2.2.2.2
        · rw [wa_rne (by decide)]; exact w3.1
        · rw [wa_rne (by decide), w1.A (by decide), h60]
        · rw [wa_eq hr, wa_rne (by decide), w1.A (by decide), ← h60]; exact hy e
    have kin : ∀ (y : Option (MS × Int32)) (P : MS → Int32 → Prop), OK P y → OK P (ck (inb (u1.1 69) (ln 7)) y) := fun y P hy => by
      rw [I_F' e69]
      exact k_in (k := 7) (n := 4002) rfl (by decide) (by omega) hy
    have tv : u1.2.2.1 7 (u1.1 69).toNatClampNeg = I (A u0 7 pn) := by
      rw [I_F' e69, I_tn (by omega) (by omega), tp]; exact I_A' a7
    have rx : RG (A u0 7 pn) := ARG1 u0 7 pn
    have mm := SCP_many hs.2.2.2.1 (Nat.le_refl σ)
    refine ok_br.mpr ⟨fun _ => kin _ _ ?_, fun _ => kin _ _ ?_⟩
    · rw [tv, I_F' e65]
      refine ok_bnd.mpr (ok_mono (found_ok (nm := F u0 17) hN k5 k4 rx 30 σ (by omega) (by omega) hs.2.2.2.1) (fun v r hv => ?_))
      obtain ⟨r', hr, f1, f2, f3, f4⟩ := hv
      rw [hr]
      have g59 : ∀ j, A v 59 j = A u1 59 j := fun j => f1.A (by decide)
      have g60 : ∀ j, A v 60 j = A u1 60 j := fun j => f1.A (by decide)
      have rr : RG r' := by
        rcases f4 with ⟨z, -⟩ | z
        · rw [z]; exact ⟨by decide, by decide⟩
        · have := (f3 σ (Nat.le_refl σ)).1
          have h6 : A v 60 σ < 2147483648 := (A_r v 60 _).2
          unfold NCO at z
          exact ⟨by omega, by omega⟩
      refine main v r' (ST_sc hs (FR.mo f1 (by decide) (by decide) (by decide) (by decide)) f3 (Or.inl (f1.F (by decide)))) f2 (f1.F (by decide)) g60 rr (fun e j hj => ?_) (fun e => ?_)
      · rw [g60] at hj
        rw [g59]
        rcases f4 with ⟨-, z⟩ | z
        · exact z j hj
        · unfold NCO at z; omega
      · rcases f4 with ⟨z, -⟩ | z
        · exact absurd z e
        · exact z
    · rw [tv, I_F' e65]
      refine ok_bnd.mpr (ok_mono (boundIn_ok (by omega) (by omega) rx hN) (fun v r hv => ?_))
      obtain ⟨rfl, r', hr, hb⟩ := hv
      rw [hr]
      have s1 := (hs.2.2.2.1 σ (Nat.le_refl σ)).1
      have rr : RG r' := by unfold BIN at hb; exact ⟨by omega, by omega⟩
      refine main v r' hs KPR_rf rfl (fun _ => rfl) rr (fun e j hj => ?_) (fun e => ?_)
      · rcases hb with hb | hb
        · exact hb.2 j hj
        · omega
      · rcases hb with hb | hb
        · exact absurd hb.1 e
        · exact Or.inl (by omega)
  · rw [z, br10]
    refine k_pattern (k := 0) rfl (by decide) (by omega) (fun w hw => ?_)
    obtain ⟨w1, w2, w3, w4⟩ := id hw
    rw [e39] at w3
    rw [e39]
    exact last w q.toNat (ST_pt hs hw) (KPR_pt KPR_rf hw (by omega)) (w1.F (by decide)) ⟨w3.2.2, Or.inl ⟨w3.1, w1.A (by decide)⟩⟩ rfl
end
end
section
section
variable {w w2 : MS} {pM pE pM2 pE2 e mm : Nat → Nat} {PN PN2 SN L L2 k a b m m2 j q : Nat}
theorem chi_in {s t d : Nat} (h : CHN w pE s d t) (hx : ∀ x, s ≤ x → x < t → x < pE x) : ∀ i, i < d → s ≤ chi pE s i ∧ chi pE s i < t := by
  intro i
  induction i with
  | zero => intro h0; exact ⟨Nat.le_refl _, h.2.1 0 h0⟩
  | succ i ih =>
    intro h0
    have h1 := ih (by omega)
    have h2 := h.2.1 (i + 1) h0
    have h3 := hx _ h1.1 h1.2
    refine ⟨?_, h2⟩
    show s ≤ pE (chi pE s i)
    omega
theorem chi_cg {s t d : Nat} (hi : ∀ i, i < d → s ≤ chi pE s i ∧ chi pE s i < t) (ee : ∀ x, s ≤ x → x < t → pE2 x = pE x) : ∀ i, i ≤ d → chi pE2 s i = chi pE s i := by
  intro i
  induction i with
  | zero => intro _; rfl
  | succ i ih =>
    intro h0
    have h1 := hi i (by omega)
    show pE2 (chi pE2 s i) = pE (chi pE s i)
    rw [ih (by omega)]
    exact ee _ h1.1 h1.2
theorem CHN_cg {s t d : Nat} (h : CHN w pE s d t) (hx : ∀ x, s ≤ x → x < t → x < pE x) (ee : ∀ x, s ≤ x → x < t → pE2 x = pE x) (e37 : ∀ x, s ≤ x → x < t → A w2 37 x = A w 37 x) : CHN w2 pE2 s d t := by
  have hi := chi_in h hx
  have hc := chi_cg hi ee
  refine ⟨by rw [hc d (Nat.le_refl _)]; exact h.1, fun i h1 => by rw [hc i (by omega)]; exact h.2.1 i h1, fun i h1 => ?_⟩
  rw [hc i (by omega), hc (i + 1) (by omega), e37 _ (hi i (by omega)).1 (hi i (by omega)).2]
  exact h.2.2 i h1
theorem PW_cg (h : PW w pM pE PN SN L k) (hx : ∀ x, k < x → x < pE k → x < pE x) (ee : ∀ x, k ≤ x → x < pE k → pE2 x = pE x) (eM : ∀ x, k ≤ x → x ≤ pE k → pM2 x = pM x) (er : ∀ r, r ∈ [33, 35, 36, 38] → A w2 r k = A w r k) (e37 : ∀ x, k < x → x < pE k → A w2 37 x = A w 37 x) (hp : PN ≤ PN2) (hl : L ≤ L2) : PW w2 pM2 pE2 PN2 SN L2 k := by
  obtain ⟨h1, h2, h3, h4, h5, h6, h7, h8, h9, h10⟩ := h
  have k1 := ee k (Nat.le_refl _) h1
  have k2 := eM k (Nat.le_refl _) (by omega)
  have k3 := eM (k + 1) (by omega) (by omega)
  unfold PW
  rw [er 33 (by decide), er 35 (by decide), er 36 (by decide), er 38 (by decide), k1, k2, k3]
  have cg : ∀ d, CHN w pE (k + 1) d (pE k) → CHN w2 pE2 (k + 1) d (pE k) := fun d hd => CHN_cg hd (fun x x1 x2 => hx x (by omega) x2) (fun x x1 x2 => ee x (by omega) x2) (fun x x1 x2 => e37 x (by omega) x2)
  refine ⟨h1, by omega, h3, h4, h5, h6, fun z => ⟨(h7 z).1, (h7 z).2.1, (h7 z).2.2.imp id (fun y => by omega)⟩, h8, fun z => ?_, fun z => ?_⟩
  · obtain ⟨z1, d, z2, z3, z4, z5⟩ := h9 z
    refine ⟨z1, d, z2, z3, cg d z4, ?_⟩
    rcases z5 with z5 | ⟨z6, z7, z8⟩
    · exact Or.inl z5
    · have hi := chi_in z4 (fun x x1 x2 => hx x (by omega) x2)
      have h0 := hi (d - 1) (by omega)
      rw [chi_cg hi (fun x x1 x2 => ee x (by omega) x2) (d - 1) (by omega), e37 _ (by omega) h0.2]
      exact Or.inr ⟨z6, z7, z8⟩
  · obtain ⟨z1, d, z2, z3, z4, z5, z6⟩ := h10 z
    exact ⟨z1, d, z2, z3, z4, cg _ z5, z6⟩
def PTT (w : MS) (SN a b m m2 L : Nat) : Prop := ∃ pM pE : Nat → Nat, pE a = b ∧ a < b ∧ pM a = m ∧ pM b = m2 ∧ (∀ k, a ≤ k → k ≤ b → pM k ≤ m2) ∧ ∀ k, a ≤ k → k < b → PW w pM pE b SN L k
theorem PTT_lt (h : PTT w SN a b m m2 L) : a < b ∧ m ≤ m2 := by
  obtain ⟨pM, pE, h1, h2, h3, h4, h5, h6⟩ := h
  exact ⟨h2, by rw [← h3]; exact h5 a (Nat.le_refl _) (by omega)⟩
theorem PTT_ag (h : PTT w SN a b m m2 L) (er : ∀ r i, r ∈ [33, 35, 36, 38] → a ≤ i → i < b → A w2 r i = A w r i) (e37 : ∀ i, a < i → i < b → A w2 37 i = A w 37 i) (hl : L ≤ L2) : PTT w2 SN a b m m2 L2 := by
  obtain ⟨pM, pE, h1, h2, h3, h4, h5, h6⟩ := h
  refine ⟨pM, pE, h1, h2, h3, h4, h5, fun k k1 k2 => ?_⟩
  have p := h6 k k1 k2
  have pb := p.2.1
  exact PW_cg p (fun x x1 x2 => (h6 x (by omega) (by omega)).1) (fun _ _ _ => rfl) (fun _ _ _ => rfl) (fun r hr => er r k hr k1 k2) (fun x x1 x2 => e37 x (by omega) (by omega)) (Nat.le_refl _) hl
def JND (w : MS) (SN j : Nat) (e mm : Nat → Nat) (L : Nat) : Prop := ∃ pM pE : Nat → Nat, (∀ i, i < j → pE (e i) = e (i + 1)) ∧ (∀ i, i ≤ j → pM (e i) = mm i) ∧ (∀ k, e 0 ≤ k → k ≤ e j → pM k ≤ mm j) ∧ ∀ k, e 0 ≤ k → k < e j → PW w pM pE (e j) SN L k
theorem JND_le (h : ∀ i, i < j → PTT w SN (e i) (e (i + 1)) (mm i) (mm (i + 1)) L) : ∀ i, i ≤ j → e 0 ≤ e i ∧ mm 0 ≤ mm i := by
  intro i
  induction i with
  | zero => intro _; exact ⟨Nat.le_refl _, Nat.le_refl _⟩
  | succ i ih =>
    intro hi
    have := ih (by omega)
    have := PTT_lt (h i (by omega))
    omega
theorem JND_of : ∀ j, (∀ i, i < j → PTT w SN (e i) (e (i + 1)) (mm i) (mm (i + 1)) L) → JND w SN j e mm L := by
  intro j
  induction j with
  | zero =>
    intro _
    exact ⟨fun _ => mm 0, id, fun i hi => by omega, fun i hi => by rw [show i = 0 by omega], fun k _ _ => Nat.le_refl _, fun k h1 h2 => by omega⟩
  | succ j ih =>
    intro h
    obtain ⟨pM, pE, a1, a2, a3, a4⟩ := ih (fun i hi => h i (by omega))
    obtain ⟨qM, qE, b1, b2, b3, b4, b5, b6⟩ := h j (by omega)
    have hm := (PTT_lt (h j (by omega))).2
    have h0 := (JND_le (j := j) (fun i (hi : i < j) => h i (by omega)) j (Nat.le_refl _)).1
    have lt1 : ∀ d i, i + d < j → e i < e (i + d + 1) := by
      intro d
      induction d with
      | zero => intro i hi; exact (PTT_lt (h i (by omega))).1
      | succ d ihd =>
        intro i hi
        have h1 := ihd i (by omega)
        have h2 := (PTT_lt (h (i + d + 1) (by omega))).1
        rw [show i + (d + 1) + 1 = i + d + 1 + 1 from by omega]
        omega
    have lt2 : ∀ i, i < j → e i < e j := fun i hi => by
      have := lt1 (j - i - 1) i (by omega)
      rwa [show i + (j - i - 1) + 1 = j from by omega] at this
    refine ⟨fun k => if k < e j then pM k else qM k, fun k => if k < e j then pE k else qE k, fun i hi => ?_, fun i hi => ?_, fun k h1 h2 => ?_, fun k h1 h2 => ?_⟩
    · by_cases z : i = j
      · subst z; simp only [if_neg (Nat.lt_irrefl _)]; exact b1
      · simp only [if_pos (lt2 i (by omega))]; exact a1 i (by omega)
    · by_cases z : i = j + 1
      · subst z; simp only [if_neg (show ¬ e (j + 1) < e j by omega)]; exact b4
      · by_cases z2 : i = j
        · subst z2; simp only [if_neg (Nat.lt_irrefl _)]; exact b3
        · simp only [if_pos (lt2 i (by omega))]; exact a2 i (by omega)
    · by_cases z : k < e j
      · simp only [if_pos z]; have := a3 k h1 (by omega); omega
      · simp only [if_neg z]; exact b5 k (by omega) h2
    · by_cases z : k < e j
      · have p := a4 k h1 z
        have pb := p.2.1
        refine PW_cg p (fun x x1 x2 => (a4 x (by omega) (by omega)).1) (fun x x1 x2 => by simp only [if_pos (show x < e j by omega)]) (fun x x1 x2 => ?_) (fun r _ => rfl) (fun x _ _ => rfl) (by omega) (Nat.le_refl _)
        by_cases y : x < e j
        · simp only [if_pos y]
        · obtain rfl : x = e j := by omega
          simp only [if_neg (Nat.lt_irrefl _)]
          rw [b3, a2 j (Nat.le_refl _)]
      · have p := b6 k (by omega) h2
        exact PW_cg p (fun x x1 x2 => (b6 x (by omega) (by have := p.2.1; omega)).1) (fun x x1 x2 => by simp only [if_neg (show ¬ x < e j by omega)]) (fun x x1 x2 => by simp only [if_neg (show ¬ x < e j by omega)]) (fun r _ => rfl) (fun x _ _ => rfl) (Nat.le_refl _) (Nat.le_refl _)
theorem chi_e (h : ∀ i, i < j → pE (e i) = e (i + 1)) : ∀ i, i ≤ j → chi pE (e 0) i = e i := by
  intro i
  induction i with
  | zero => intro _; rfl
  | succ i ih =>
    intro hi
    show pE (chi pE (e 0) i) = _
    rw [ih (by omega)]
    exact h i (by omega)
def LNK (w : MS) (j : Nat) (e : Nat → Nat) : Prop := (∀ i, i + 1 < j → A w 37 (e i) = ((e (i + 1) : Nat) : Int)) ∧ (0 < j → A w 37 (e (j - 1)) = -1)
theorem PTT_e (h : ∀ i, i < j → PTT w SN (e i) (e (i + 1)) (mm i) (mm (i + 1)) L) : ∀ i, i < j → e i < e j := by
  intro i hi
  have := JND_le (e := fun t => e (i + t)) (mm := fun t => mm (i + t)) (j := j - i) (L := L) (SN := SN) (w := w) (fun t ht => h (i + t) (by omega)) (j - i) (Nat.le_refl _)
  have h1 := PTT_lt (h i hi)
  have h2 := JND_le (e := fun t => e (i + 1 + t)) (mm := fun t => mm (i + 1 + t)) (j := j - i - 1) (L := L) (SN := SN) (w := w) (fun t ht => h (i + 1 + t) (by omega)) (j - i - 1) (Nat.le_refl _)
  have h3 : i + 1 + (j - i - 1) = j := by omega
  simp only [h3, Nat.add_zero] at h2
  omega
theorem CHN_e (h : ∀ i, i < j → PTT w SN (e i) (e (i + 1)) (mm i) (mm (i + 1)) L) (l : LNK w j e) (hE : ∀ i, i < j → pE (e i) = e (i + 1)) : CHN w pE (e 0) j (e j) := by
  have c := chi_e hE
  exact ⟨c j (Nat.le_refl _), fun i hi => by rw [c i (by omega)]; exact PTT_e h i hi, fun i hi => by rw [c i (by omega), c (i + 1) (by omega)]; exact l.1 i hi⟩
theorem PTT_row (h : ∀ i, i < j → PTT w SN (e i) (e (i + 1)) (mm i) (mm (i + 1)) L) (l : LNK w j e) (h0 : e 0 = q + 1) (hk : (A w 33 q = 5 ∧ A w 35 q = j ∧ j ≤ 8 ∧ (j = 0 → A w 36 q = -1)) ∨ (A w 33 q = 6 ∧ A w 38 q = 0 ∧ A w 35 q = j ∧ j ≤ 8) ∨ (A w 33 q = 6 ∧ A w 38 q ≠ 0 ∧ 2 ≤ j ∧ A w 35 q = ((j - 1 : Nat) : Int) ∧ j ≤ 9)) (h36 : 0 < j → A w 36 q = ((q + 1 : Nat) : Int)) : PTT w SN q (e j) (mm 0) (mm j) L := by
  obtain ⟨pM, pE, a1, a2, a3, a4⟩ := JND_of j h
  have hl := JND_le h j (Nat.le_refl _)
  have c0 := CHN_e h l a1
  rw [h0] at c0
  have hx : ∀ x, q + 1 ≤ x → x < e j → x < pE x := fun x x1 x2 => (a4 x (by omega) x2).1
  have c1 : CHN w (fun k => if k = q then e j else pE k) (q + 1) j (e j) := CHN_cg c0 hx (fun x x1 x2 => by simp only [if_neg (show x ≠ q by omega)]) (fun _ _ _ => rfl)
  have ch : ∀ i, i ≤ j → chi (fun k => if k = q then e j else pE k) (q + 1) i = e i := fun i hi => by
    rw [chi_cg (chi_in c0 hx) (fun x x1 x2 => by simp only [if_neg (show x ≠ q by omega)]) i hi, ← h0]
    exact chi_e a1 i hi
  refine ⟨fun k => if k = q then mm 0 else pM k, fun k => if k = q then e j else pE k, by simp only [if_true], by omega, by simp only [if_true], ?_, fun k k1 k2 => ?_, fun k k1 k2 => ?_⟩
  · simp only [if_neg (show e j ≠ q by omega)]; exact a2 j (Nat.le_refl _)
  · by_cases z : k = q
    · simp only [if_pos z]; omega
    · simp only [if_neg z]; exact a3 k (by omega) k2
  · by_cases z : k = q
    · subst z
      have pm : (if k + 1 = k then mm 0 else pM (k + 1)) = mm 0 := by rw [if_neg (by omega), ← h0]; exact a2 0 (Nat.zero_le _)
      refine ⟨by simp only [if_true]; omega, by simp only [if_true]; exact Nat.le_refl _, by omega, by omega, fun y => by omega, fun y => by omega, fun y => by omega, fun y => by omega, fun y => ⟨by simp only [if_true]; exact pm, ?_⟩, fun y => ⟨by simp only [if_true]; exact pm, ?_⟩⟩
      · rcases hk with hk | hk | hk
        · refine ⟨j, hk.2.1, hk.2.2.1, by simp only [if_true]; exact c1, ?_⟩
          rcases Nat.eq_zero_or_pos j with z | z
          · exact Or.inl ⟨z, hk.2.2.2 z⟩
          · exact Or.inr ⟨z, h36 z, by rw [ch (j - 1) (by omega)]; exact l.2 z⟩
        · omega
        · omega
      · rcases hk with hk | hk | hk
        · omega
        · refine ⟨j, hk.2.2.1, hk.2.2.2, Or.inl hk.2.1, by rw [if_pos hk.2.1]; simp only [if_true]; exact c1, ?_⟩
          rcases Nat.eq_zero_or_pos j with z | z
          · exact Or.inl z
          · exact Or.inr (h36 z)
        · refine ⟨j - 1, hk.2.2.2.1, by omega, Or.inr (by omega), by rw [if_neg hk.2.1, show j - 1 + 1 = j by omega]; simp only [if_true]; exact c1, Or.inr (h36 (by omega))⟩
    · have p := a4 k (by omega) k2
      refine PW_cg p (fun x x1 x2 => hx x (by omega) (by have := p.2.1; omega)) (fun x x1 x2 => by simp only [if_neg (show x ≠ q by omega)]) (fun x x1 x2 => by simp only [if_neg (show x ≠ q by omega)]) (fun r _ => rfl) (fun x _ _ => rfl) (Nat.le_refl _) (Nat.le_refl _)
theorem PTT_one (hk : (A w 33 q = 0 ∧ m2 = m) ∨ (A w 33 q = 3 ∧ m2 = m) ∨ (A w 33 q = 1 ∧ m2 = m + 1) ∨ (A w 33 q = 2 ∧ m2 = m ∧ NCO (A w 35 q) m L) ∨ (A w 33 q = 4 ∧ m2 = m ∧ 0 ≤ A w 35 q ∧ A w 35 q < SN)) : PTT w SN q (q + 1) m m2 L := by
  refine ⟨fun k => if k = q then m else m2, fun k => k + 1, rfl, by omega, if_pos rfl, if_neg (by omega), fun k k1 k2 => ?_, fun k k1 k2 => ?_⟩
  · by_cases z : k = q
    · simp only [if_pos z]; omega
    · simp only [if_neg z]; exact Nat.le_refl _
  · obtain rfl : k = q := by omega
    obtain ⟨pM, hM⟩ : ∃ pM : Nat → Nat, pM = fun i => if i = k then m else m2 := ⟨_, rfl⟩
    have e1 : pM k = m := by rw [hM]; exact if_pos rfl
    have e2 : pM (k + 1) = m2 := by rw [hM]; exact if_neg (by omega)
    rw [← hM]
    clear hM
    unfold PW
    rw [e1, e2]
    rcases hk with hk | hk | hk | hk | hk
    · exact ⟨by omega, Nat.le_refl _, by omega, by omega, fun y => ⟨hk.2, rfl⟩, fun y => by omega, fun y => by omega, fun y => by omega, fun y => by omega, fun y => by omega⟩
    · exact ⟨by omega, Nat.le_refl _, by omega, by omega, fun y => ⟨hk.2, rfl⟩, fun y => by omega, fun y => by omega, fun y => by omega, fun y => by omega, fun y => by omega⟩
    · exact ⟨by omega, Nat.le_refl _, by omega, by omega, fun y => by omega, fun y => ⟨hk.2, rfl⟩, fun y => by omega, fun y => by omega, fun y => by omega, fun y => by omega⟩
    · exact ⟨by omega, Nat.le_refl _, by omega, by omega, fun y => by omega, fun y => by omega, fun y => ⟨hk.2.1, rfl, hk.2.2⟩, fun y => by omega, fun y => by omega, fun y => by omega⟩
    · exact ⟨by omega, Nat.le_refl _, by omega, by omega, fun y => by omega, fun y => by omega, fun y => by omega, fun y => ⟨hk.2.1, rfl, hk.2.2⟩, fun y => by omega, fun y => by omega⟩
def brk (u0 : MS) (i : Nat) : Int := if A u0 6 i = 6 then (if A u0 7 i = 0 ∨ A u0 7 i = 2 ∨ A u0 7 i = 4 then 1 else if A u0 7 i = 1 ∨ A u0 7 i = 3 ∨ A u0 7 i = 5 then -1 else 0) else 0
def bsum (u0 : MS) : Nat → Int
  | 0 => 0
  | n + 1 => bsum u0 n + brk u0 n
def PEND (u0 : MS) (a b : Nat) : Prop := (A u0 6 a ≠ 6 ∧ b = a + 1) ∨ (A u0 6 a = 6 ∧ A u0 7 a = 19 ∧ b = a + 2 ∧ brk u0 (a + 1) = 0) ∨ (brk u0 a = 1 ∧ a < b ∧ bsum u0 b = bsum u0 a ∧ ∀ i, a < i → i < b → bsum u0 a < bsum u0 i)
theorem brk_6 {u0 : MS} (h : brk u0 a = 1) : A u0 6 a = 6 ∧ A u0 7 a ≠ 19 := by
  unfold brk at h
  by_cases e : A u0 6 a = 6
  · rw [if_pos e] at h
    refine ⟨e, fun z => ?_⟩
    rw [z] at h
    simp at h
  · rw [if_neg e] at h; omega
theorem PEND_eq {u0 : MS} {b2 : Nat} (h : PEND u0 a b) (h2 : PEND u0 a b2) : b = b2 := by
  rcases h with h | h | h
  · rcases h2 with h2 | h2 | h2
    · omega
    · omega
    · exact absurd (brk_6 h2.1).1 h.1
  · rcases h2 with h2 | h2 | h2
    · exact absurd h.1 h2.1
    · omega
    · exact absurd h.2.1 (brk_6 h2.1).2
  · rcases h2 with h2 | h2 | h2
    · exact absurd (brk_6 h.1).1 h2.1
    · exact absurd h2.2.1 (brk_6 h.1).2
    · rcases Nat.lt_trichotomy b b2 with z | z | z
      · have := h2.2.2.2 b h.2.1 z; omega
      · exact z
      · have := h.2.2.2 b2 h2.2.1 z; omega
theorem PEND_b {u0 : MS} (h : PEND u0 a b) : a < b ∧ bsum u0 b = bsum u0 a ∧ ∀ i, a ≤ i → i ≤ b → bsum u0 a ≤ bsum u0 i := by
  rcases h with h | h | h
  · have e : bsum u0 (a + 1) = bsum u0 a := by show bsum u0 a + brk u0 a = _; unfold brk; rw [if_neg h.1]; omega
    refine ⟨by omega, by rw [h.2]; exact e, fun i h1 h2 => ?_⟩
    rcases Nat.lt_or_eq_of_le h1 with z | z
    · obtain rfl : i = a + 1 := by omega
      omega
    · rw [z]; exact Int.le_refl _
  · have e : bsum u0 (a + 1) = bsum u0 a := by show bsum u0 a + brk u0 a = _; unfold brk; rw [if_pos h.1, h.2.1]; simp
    have e2 : bsum u0 (a + 2) = bsum u0 a := by show bsum u0 (a + 1) + brk u0 (a + 1) = _; rw [h.2.2.2]; omega
    refine ⟨by omega, by rw [h.2.2.1]; exact e2, fun i h1 h2 => ?_⟩
    rcases Nat.lt_or_eq_of_le h1 with z | z
    · rcases Nat.lt_or_ge i (a + 2) with y | y
      · obtain rfl : i = a + 1 := by omega
        omega
      · obtain rfl : i = a + 2 := by omega
        omega
    · rw [z]; exact Int.le_refl _
  · refine ⟨h.2.1, h.2.2.1, fun i h1 h2 => ?_⟩
    rcases Nat.lt_or_eq_of_le h1 with z | z
    · rcases Nat.lt_or_eq_of_le h2 with y | y
      · have := h.2.2.2 i z y; omega
      · rw [y, h.2.2.1]; exact Int.le_refl _
    · rw [z]; exact Int.le_refl _
def BIN2 (u0 : MS) (a b : Nat) : Prop := brk u0 a = 1 ∧ a < b ∧ bsum u0 b = bsum u0 a + 1 ∧ ∀ i, a < i → i ≤ b → bsum u0 a < bsum u0 i
theorem BIN2_0 {u0 : MS} (h : brk u0 a = 1) : BIN2 u0 a (a + 1) := by
  have e : bsum u0 (a + 1) = bsum u0 a + 1 := by show bsum u0 a + brk u0 a = _; rw [h]
  refine ⟨h, by omega, e, fun i h1 h2 => ?_⟩
  obtain rfl : i = a + 1 := by omega
  omega
theorem BIN2_p {u0 : MS} {c : Nat} (h : BIN2 u0 a b) (p : PEND u0 b c) : BIN2 u0 a c := by
  obtain ⟨h1, h2, h3, h4⟩ := h
  obtain ⟨p1, p2, p3⟩ := PEND_b p
  refine ⟨h1, by omega, by omega, fun i i1 i2 => ?_⟩
  rcases Nat.lt_or_ge i b with z | z
  · exact h4 i i1 (by omega)
  · have := p3 i z i2; omega
theorem BIN2_s {u0 : MS} (h : BIN2 u0 a b) (p : brk u0 b = 0) : BIN2 u0 a (b + 1) := by
  obtain ⟨h1, h2, h3, h4⟩ := h
  have e : bsum u0 (b + 1) = bsum u0 b := by show bsum u0 b + brk u0 b = _; rw [p]; omega
  refine ⟨h1, by omega, by omega, fun i i1 i2 => ?_⟩
  rcases Nat.lt_or_ge b i with z | z
  · obtain rfl : i = b + 1 := by omega
    omega
  · exact h4 i i1 z
theorem BIN2_c {u0 : MS} (h : BIN2 u0 a b) (p : brk u0 b = -1) : PEND u0 a (b + 1) := by
  obtain ⟨h1, h2, h3, h4⟩ := h
  have e : bsum u0 (b + 1) = bsum u0 b - 1 := by show bsum u0 b + brk u0 b = _; rw [p]; omega
  exact Or.inr (Or.inr ⟨h1, by omega, by omega, fun i i1 i2 => h4 i i1 (by omega)⟩)
end
end
