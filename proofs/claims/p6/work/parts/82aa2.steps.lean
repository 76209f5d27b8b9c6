def IS (u : MS) (s : Int) : Prop := A u 6 (F u 69).toNat = 6 ∧ A u 7 (F u 69).toNat = s
def IW (u : MS) (s : Int) : Prop := A u 6 (F u 69).toNat = 3 ∧ A u 7 (F u 69).toNat = s
def TSO (u : MS) : Int := A u 6 (F u 69).toNat
def RG (x : Int) : Prop := -2147483648 ≤ x ∧ x < 2147483648
section
variable {α β : Type} {Q : MS → α → Prop} {u v w : MS} {N : Nat} {s t x y : Int}
theorem k_in {k n : Nat} {x : Int} {y : Option (MS × α)} (hk : ln k = n) (hn : n < 2147483648) (h : 0 ≤ x ∧ x < n) (q : OK Q y) : OK Q (ck (inb (I x) (ln k)) y) := ok_ck.mpr ⟨inb_at hk h.1 h.2 hn, q⟩
theorem k_eq {x y : Int} {p q : Option (MS × α)} (h1 : RG x) (h2 : RG y) (a : x = y → OK Q p) (b : x ≠ y → OK Q q) : OK Q (br (decide (I x = I y)) p q) := by
  rw [decE h1.1 h1.2 h2.1 h2.2]
  exact ok_br.mpr ⟨fun z => a (of_decide_eq_true z), fun z => b (of_decide_eq_false z)⟩
theorem k_le {x y : Int} {p q : Option (MS × α)} (h1 : RG x) (h2 : RG y) (a : x ≤ y → OK Q p) (b : y < x → OK Q q) : OK Q (br (decide (I x ≤ I y)) p q) := by
  rw [decI h1.1 h1.2 h2.1 h2.2]
  exact ok_br.mpr ⟨fun z => a (of_decide_eq_true z), fun z => b (by have := of_decide_eq_false z; omega)⟩
theorem k_lt {x y : Int} {p q : Option (MS × α)} (h1 : RG x) (h2 : RG y) (a : x < y → OK Q p) (b : y ≤ x → OK Q q) : OK Q (br (decide (I x < I y)) p q) := by
  rw [decL h1.1 h1.2 h2.1 h2.2]
  exact ok_br.mpr ⟨fun z => a (of_decide_eq_true z), fun z => b (by have := of_decide_eq_false z; omega)⟩
theorem FRG1 (u : MS) (k : Nat) : RG (F u k) := F_r u k
theorem ARG1 (u : MS) (k i : Nat) : RG (A u k i) := A_r u k i
theorem k_F {k : Nat} {y : Int} {c : Int32} {p q : Option (MS × α)} (hc : c = I y) (h2 : RG y) (a : F u k = y → OK Q p) (b : F u k ≠ y → OK Q q) : OK Q (br (decide (u.1 k = c)) p q) := by
  rw [I_F, hc]
  exact k_eq (FRG1 u k) h2 a b
theorem k_A {k i : Nat} {y : Int} {c : Int32} {p q : Option (MS × α)} (hc : c = I y) (h2 : RG y) (a : A u k i = y → OK Q p) (b : A u k i ≠ y → OK Q q) : OK Q (br (decide (u.2.2.1 k i = c)) p q) := by
  rw [I_A, hc]
  exact k_eq (ARG1 u k i) h2 a b
theorem k_at {k j n : Nat} {y : Option (MS × α)} (hk : ln k = n) (hn : n < 2147483648) (h : 0 ≤ F u j ∧ F u j < n) (q : OK Q y) : OK Q (ck (inb (u.1 j) (ln k)) y) := by
  rw [I_F]
  exact k_in hk hn h q
theorem tn_F {k : Nat} : (u.1 k).toNatClampNeg = (F u k).toNat := rfl
theorem br10 {p q : α} : br (decide ((1 : Int32) = 0)) p q = q := rfl
theorem br00 {p q : α} : br (decide ((0 : Int32) = 0)) p q = p := rfl
theorem isSign_1 (hp : 0 ≤ F u 69 ∧ F u 69 ≤ 4001) (hs : RG s) (h : IS u s) : fm_M_isSign N u (I s) = some (u, 1) := by
  unfold fm_M_isSign fb_M_isSign_0 fb_M_isSign_32
  rw [I_F (k := 69), inb_at (k := 6) (n := 4002) rfl (by omega) (by omega) (by decide), inb_at (k := 7) (n := 4002) rfl (by omega) (by omega) (by decide), ck_t, ck_t, I_tn (by omega) (by omega), I_A (k := 6), I_A (k := 7), h.1, h.2]
  rw [show decide (I 6 = (6 : Int32)) = true from rfl, br_tq, decide_eq_true rfl, br_tq]
  rfl
theorem isSign_0 (hp : 0 ≤ F u 69 ∧ F u 69 ≤ 4001) (hs : RG s) (h : ¬ IS u s) : fm_M_isSign N u (I s) = some (u, 0) := by
  unfold fm_M_isSign fb_M_isSign_0 fb_M_isSign_31 fb_M_isSign_32
  rw [I_F (k := 69), inb_at (k := 6) (n := 4002) rfl (by omega) (by omega) (by decide), inb_at (k := 7) (n := 4002) rfl (by omega) (by omega) (by decide), ck_t, ck_t, I_tn (by omega) (by omega), I_A (k := 6), I_A (k := 7), show (6 : Int32) = I 6 from rfl, decE (A_r u 6 _).1 (A_r u 6 _).2 (by omega) (by omega), decE (A_r u 7 _).1 (A_r u 7 _).2 hs.1 hs.2]
  by_cases e : A u 6 (F u 69).toNat = 6
  · rw [decide_eq_true e, br_tq, decide_eq_false (fun z => h ⟨e, z⟩), br_fq]; rfl
  · rw [decide_eq_false e, br_fq]; rfl
theorem isWord_1 (hp : 0 ≤ F u 69 ∧ F u 69 ≤ 4001) (hs : RG s) (h : IW u s) : fm_M_isWord N u (I s) = some (u, 1) := by
  unfold fm_M_isWord fb_M_isWord_0 fb_M_isWord_31
  rw [I_F (k := 69), inb_at (k := 6) (n := 4002) rfl (by omega) (by omega) (by decide), inb_at (k := 7) (n := 4002) rfl (by omega) (by omega) (by decide), ck_t, ck_t, I_tn (by omega) (by omega), I_A (k := 6), I_A (k := 7), h.1, h.2]
  rw [show decide (I 3 = (3 : Int32)) = true from rfl, br_tq, decide_eq_true rfl, br_tq]
  rfl
theorem isWord_0 (hp : 0 ≤ F u 69 ∧ F u 69 ≤ 4001) (hs : RG s) (h : ¬ IW u s) : fm_M_isWord N u (I s) = some (u, 0) := by
  unfold fm_M_isWord fb_M_isWord_0 fb_M_isWord_30 fb_M_isWord_31
  rw [I_F (k := 69), inb_at (k := 6) (n := 4002) rfl (by omega) (by omega) (by decide), inb_at (k := 7) (n := 4002) rfl (by omega) (by omega) (by decide), ck_t, ck_t, I_tn (by omega) (by omega), I_A (k := 6), I_A (k := 7), show (3 : Int32) = I 3 from rfl, decE (A_r u 6 _).1 (A_r u 6 _).2 (by omega) (by omega), decE (A_r u 7 _).1 (A_r u 7 _).2 hs.1 hs.2]
  by_cases e : A u 6 (F u 69).toNat = 3
  · rw [decide_eq_true e, br_tq, decide_eq_false (fun z => h ⟨e, z⟩), br_fq]; rfl
  · rw [decide_eq_false e, br_fq]; rfl
theorem k_isSign {c : Int32} {f g : MS → Int32 → Option (MS × α)} (hc : c = I s) (hs : RG s) (hp : 0 ≤ F u 69 ∧ F u 69 ≤ 4001) (a : IS u s → OK Q (g u 1)) (b : ¬ IS u s → OK Q (f u 0)) : OK Q (bnd (fm_M_isSign N u c) (fun u1 r1 => br (decide (r1 = 0)) (f u1 r1) (g u1 r1))) := by
  rw [hc]
  by_cases e : IS u s
  · rw [isSign_1 hp hs e, bnd_so, br10]; exact a e
  · rw [isSign_0 hp hs e, bnd_so, br00]; exact b e
theorem k_isWord {c : Int32} {f g : MS → Int32 → Option (MS × α)} (hc : c = I s) (hs : RG s) (hp : 0 ≤ F u 69 ∧ F u 69 ≤ 4001) (a : IW u s → OK Q (g u 1)) (b : ¬ IW u s → OK Q (f u 0)) : OK Q (bnd (fm_M_isWord N u c) (fun u1 r1 => br (decide (r1 = 0)) (f u1 r1) (g u1 r1))) := by
  rw [hc]
  by_cases e : IW u s
  · rw [isWord_1 hp hs e, bnd_so, br10]; exact a e
  · rw [isWord_0 hp hs e, bnd_so, br00]; exact b e
def nx1 (u : MS) : MS := wi u 69 (F u 69 + 1)
theorem nx1_e : upI u 69 ((u.1 69) + 1) = nx1 u := by unfold nx1; rw [I_F (k := 69), lit1q, I_add]; rfl
theorem takeSign_1 (hp : 0 ≤ F u 69 ∧ F u 69 ≤ 4001) (hs : RG s) (hf : F u 67 = 0) (h : IS u s) : fm_M_takeSign N u (I s) = some (nx1 u, 1) := by
  unfold fm_M_takeSign fb_M_takeSign_0
  rw [I_F' hf, show decide (I 0 = (0 : Int32)) = true from rfl, br_tq, isSign_1 hp hs h, bnd_so, br10, nx1_e]
  rfl
theorem takeSign_0 (hp : 0 ≤ F u 69 ∧ F u 69 ≤ 4001) (hs : RG s) (h : F u 67 ≠ 0 ∨ ¬ IS u s) : fm_M_takeSign N u (I s) = some (u, 0) := by
  unfold fm_M_takeSign fb_M_takeSign_0 fb_M_takeSign_15
  rw [I_F (k := 67), lit0q, decE (F_r u 67).1 (F_r u 67).2 (by omega) (by omega)]
  by_cases e : F u 67 = 0
  · rw [decide_eq_true e, br_tq, isSign_0 hp hs (h.resolve_left (fun z => z e)), bnd_so]; rfl
  · rw [decide_eq_false e, br_fq]; rfl
theorem takeWord_1 (hp : 0 ≤ F u 69 ∧ F u 69 ≤ 4001) (hs : RG s) (hf : F u 67 = 0) (h : IW u s) : fm_M_takeWord N u (I s) = some (nx1 u, 1) := by
  unfold fm_M_takeWord fb_M_takeWord_0
  rw [I_F' hf, show decide (I 0 = (0 : Int32)) = true from rfl, br_tq, isWord_1 hp hs h, bnd_so, br10, nx1_e]
  rfl
theorem takeWord_0 (hp : 0 ≤ F u 69 ∧ F u 69 ≤ 4001) (hs : RG s) (h : F u 67 ≠ 0 ∨ ¬ IW u s) : fm_M_takeWord N u (I s) = some (u, 0) := by
  unfold fm_M_takeWord fb_M_takeWord_0 fb_M_takeWord_15
  rw [I_F (k := 67), lit0q, decE (F_r u 67).1 (F_r u 67).2 (by omega) (by omega)]
  by_cases e : F u 67 = 0
  · rw [decide_eq_true e, br_tq, isWord_0 hp hs (h.resolve_left (fun z => z e)), bnd_so]; rfl
  · rw [decide_eq_false e, br_fq]; rfl
theorem k_takeSign {c : Int32} {f : MS → Int32 → Option (MS × α)} (hc : c = I s) (hs : RG s) (hp : 0 ≤ F u 69 ∧ F u 69 ≤ 4001) (a : F u 67 = 0 → IS u s → OK Q (f (nx1 u) 1)) (b : F u 67 ≠ 0 ∨ ¬ IS u s → OK Q (f u 0)) : OK Q (bnd (fm_M_takeSign N u c) f) := by
  rw [hc]
  by_cases e : F u 67 = 0 ∧ IS u s
  · rw [takeSign_1 hp hs e.1 e.2, bnd_so]; exact a e.1 e.2
  · have e2 : F u 67 ≠ 0 ∨ ¬ IS u s := by
      by_cases z : F u 67 = 0
      · exact Or.inr (fun y => e ⟨z, y⟩)
      · exact Or.inl z
    rw [takeSign_0 hp hs e2, bnd_so]; exact b e2
theorem k_takeWord {c : Int32} {f : MS → Int32 → Option (MS × α)} (hc : c = I s) (hs : RG s) (hp : 0 ≤ F u 69 ∧ F u 69 ≤ 4001) (a : F u 67 = 0 → IW u s → OK Q (f (nx1 u) 1)) (b : F u 67 ≠ 0 ∨ ¬ IW u s → OK Q (f u 0)) : OK Q (bnd (fm_M_takeWord N u c) f) := by
  rw [hc]
  by_cases e : F u 67 = 0 ∧ IW u s
  · rw [takeWord_1 hp hs e.1 e.2, bnd_so]; exact a e.1 e.2
  · have e2 : F u 67 ≠ 0 ∨ ¬ IW u s := by
      by_cases z : F u 67 = 0
      · exact Or.inr (fun y => e ⟨z, y⟩)
      · exact Or.inl z
    rw [takeWord_0 hp hs e2, bnd_so]; exact b e2
theorem k_wrong {c : Int32} {f : MS → Unit → Option (MS × α)} (hc : c = I s) (hs : RG s) (h0 : s ≠ 0) (hp : 0 ≤ F u 69 ∧ F u 69 ≤ 4001) (a : ∀ v, FR [67, 68] [] [] [] u v → F v 67 ≠ 0 → OK Q (f v ())) : OK Q (bnd (fm_M_wrong N u c) f) := by
  rw [hc]
  unfold fm_M_wrong fb_M_wrong_0 fb_M_wrong_27 fb_M_wrong_43
  rw [I_F (k := 67), lit0q, decE (F_r u 67).1 (F_r u 67).2 (by omega) (by omega)]
  by_cases e : F u 67 = 0
  · rw [decide_eq_true e, br_tq, I_F (k := 69), inb_at (k := 6) (n := 4002) rfl (by omega) (by omega) (by decide), ck_t]
    refine ok_bnd.mpr (ok_br.mpr ⟨fun _ => ?_, fun _ => ?_⟩)
    · refine ok_lt.mpr ?_
      rw [show (1 : Int32) = I 1 from rfl, wi_e, show (wi u 67 1).1 69 = u.1 69 from rfl, I_F (k := 69)]
      refine ok_ck.mpr ⟨inb_at (k := 8) (n := 4002) rfl (by omega) (by omega) (by decide), ok_lt.mpr (ok_some.mpr ?_)⟩
      rw [I_of ((wi u 67 1).2.2.1 8 _), wi_e]
      refine a _ (FR.wi (FR.wi FR.rf (by decide)) (by decide)) ?_
      rw [F_wi (ti_rng _).1 (ti_rng _).2, if_neg (by decide), F_wi (by omega) (by omega), if_pos rfl]
      decide
    · refine ok_lt.mpr ?_
      rw [wi_e, show (wi u 67 s).1 69 = u.1 69 from rfl, I_F (k := 69)]
      refine ok_ck.mpr ⟨inb_at (k := 8) (n := 4002) rfl (by omega) (by omega) (by decide), ok_lt.mpr (ok_some.mpr ?_)⟩
      rw [I_of ((wi u 67 s).2.2.1 8 _), wi_e]
      refine a _ (FR.wi (FR.wi FR.rf (by decide)) (by decide)) ?_
      rw [F_wi (ti_rng _).1 (ti_rng _).2, if_neg (by decide), F_wi hs.1 hs.2, if_pos rfl]
      exact h0
  · rw [decide_eq_false e, br_fq, bnd_so]
    exact a u FR.rf e
theorem k_needSign {c : Int32} {f : MS → Unit → Option (MS × α)} (hc : c = I s) (hs : RG s) (hp : 0 ≤ F u 69 ∧ F u 69 ≤ 4001) (a : F u 67 = 0 → IS u s → OK Q (f (nx1 u) ())) (b : ∀ v, FR [67, 68] [] [] [] u v → F v 67 ≠ 0 → OK Q (f v ())) : OK Q (bnd (fm_M_needSign N u c) f) := by
  refine ok_bnd.mpr ?_
  unfold fm_M_needSign fb_M_needSign_0 fb_M_needSign_13
  refine k_takeSign hc hs hp (fun h1 h2 => ?_) (fun h => ?_)
  · rw [br10]; exact ok_some.mpr (a h1 h2)
  · rw [br00]
    exact k_wrong (s := 2) rfl ⟨by decide, by decide⟩ (by decide) hp (fun v h1 h2 => ok_some.mpr (b v h1 h2))
theorem k_needWord {c : Int32} {f : MS → Unit → Option (MS × α)} (hc : c = I s) (hs : RG s) (hp : 0 ≤ F u 69 ∧ F u 69 ≤ 4001) (a : F u 67 = 0 → IW u s → OK Q (f (nx1 u) ())) (b : ∀ v, FR [67, 68] [] [] [] u v → F v 67 ≠ 0 → OK Q (f v ())) : OK Q (bnd (fm_M_needWord N u c) f) := by
  refine ok_bnd.mpr ?_
  unfold fm_M_needWord fb_M_needWord_0 fb_M_needWord_13
  refine k_takeWord hc hs hp (fun h1 h2 => ?_) (fun h => ?_)
  · rw [br10]; exact ok_some.mpr (a h1 h2)
  · rw [br00]
    exact k_wrong (s := 2) rfl ⟨by decide, by decide⟩ (by decide) hp (fun v h1 h2 => ok_some.mpr (b v h1 h2))
theorem k_rule {c d : Int32} {f : MS → Unit → Option (MS × α)} (hc : c = I s) (hs : RG s) (h0 : s ≠ 0) (hd : d = I t) (ht : 0 ≤ t ∧ t < 4002) (h71 : 0 ≤ F u 71 ∧ F u 71 < 4002) (a : ∀ v, FR [71, 72] [] [] [] u v → F v 72 ≠ 0 → 0 ≤ F v 71 ∧ F v 71 < 4002 → OK Q (f v ())) : OK Q (bnd (fm_M_rule N u c d) f) := by
  rw [hc, hd]
  unfold fm_M_rule fb_M_rule_0 fb_M_rule_31 fb_M_rule_41
  have y : OK (fun u r => OK Q (f u r)) (lt (upI u 72 (I s)) (fun w1 => lt (upI w1 71 (I t)) (fun w2 => some (w2, ())))) := by
    refine ok_lt.mpr (ok_lt.mpr (ok_some.mpr ?_))
    refine a _ (FR.wi (FR.wi FR.rf (by decide)) (by decide)) ?_ ?_
    · show F (wi (wi u 72 s) 71 t) 72 ≠ 0
      rw [F_wi (by omega) (by omega), if_neg (by decide), F_wi hs.1 hs.2, if_pos rfl]; exact h0
    · show 0 ≤ F (wi (wi u 72 s) 71 t) 71 ∧ F (wi (wi u 72 s) 71 t) 71 < 4002
      rw [F_wi (by omega) (by omega), if_pos rfl]; exact ht
  refine ok_bnd.mpr (k_F (y := 0) rfl ⟨by decide, by decide⟩ (fun _ => y) (fun h => ok_br.mpr ⟨fun _ => y, fun _ => ok_br.mpr ⟨fun _ => ok_br.mpr ⟨fun _ => ok_some.mpr (a u FR.rf h h71), fun _ => y⟩, fun _ => ok_some.mpr (a u FR.rf h h71)⟩⟩))
def op1 (u : MS) : MS := wi u 70 (F u 70 + 1)
theorem op1_e : upI u 70 ((u.1 70) + 1) = op1 u := by unfold op1; rw [I_F (k := 70), lit1q, I_add]; rfl
def clo1 (u : MS) : MS := wi u 70 (F u 70 - 1)
theorem clo1_e : upI u 70 ((u.1 70) - 1) = clo1 u := by unfold clo1; rw [I_F (k := 70), lit1q, I_sub]; rfl
theorem k_opens {f : MS → Unit → Option (MS × α)} (hp : 0 ≤ F u 69 ∧ F u 69 ≤ 4001) (a : F u 70 < 25 → OK Q (f (op1 u) ())) (b : ∀ v, 25 ≤ F u 70 → FR [67, 68] [] [] [] u v → F v 67 ≠ 0 → OK Q (f (op1 v) ())) : OK Q (bnd (fm_M_opens N u) f) := by
  refine ok_bnd.mpr ?_
  unfold fm_M_opens fb_M_opens_0 fb_M_opens_14
  rw [op1_e, I_F (k := 70), show (25 : Int32) = I 25 from rfl]
  refine k_lt (FRG1 u 70) ⟨by decide, by decide⟩ (fun h => ?_) (fun h => ?_)
  · exact ok_lt.mpr (ok_some.mpr (a h))
  · exact k_wrong (s := 3) rfl ⟨by decide, by decide⟩ (by decide) hp (fun v h1 h2 => by rw [op1_e]; exact ok_lt.mpr (ok_some.mpr (b v h h1 h2)))
end
