/-! a run is set up, both sides -/
set_option maxRecDepth 100000
/-- the world is empty, there -/
def clS (m : MS) : MS := wi (wi (wi (wi (wi (wi (wi (wi (wi m 942 0) 943 0) 944 0) 945 0) 946 0) 950 0) 953 0) 955 0) 956 0
/-- the world is empty, here -/
def bgW (w : MS) : MS := wi (wi (wi (wi (wi (wi (wi (wi (wi (wi w 3 0) 87 1) 118 0) 119 0) 120 0) 121 0) 125 0) 128 0) 149 0) 150 0
/-- the first one, here -/
def bgX (w : MS) (f : Nat) : MS := wa (wa (npS (bgW w) 0) 96 0 ((f : Nat) : Int)) 170 0 (-1)
/-- what begin leaves, there -/
def BGm (m m2 : MS) (f : Nat) : Prop := (∃ e : Nat, A m 29 f = ((e : Nat) : Int) ∧ NWm 0 e 0 ((f : Nat) : Int) [] m2) ∧ F m2 (pq 0 4) = 0 ∧ (∀ k, k < 940 → m2.1 k = m.1 k) ∧ (∀ K, K < 100 → m2.2.2.1 K = m.2.2.1 K) ∧ (F m2 942 = 1 ∧ m2.1 943 = I 1 ∧ m2.1 944 = I 0 ∧ m2.1 945 = I 0 ∧ m2.1 946 = I 0) ∧ (m2.1 950 = I 0 ∧ m2.1 953 = I 0 ∧ F m2 955 = 0 ∧ F m2 956 = 0)
/-- what goes together as soon as a text has been read -/
def TXz (P P' : Int64 → Prop) (m w : MS) : Prop := (FTs m w ∧ FAr m w ∧ FUs m w) ∧ CNq P P' m w ∧ (∃ fa na, ATf m w fa na) ∧ F m 442 = F w 52
/-- what begin leaves: a run, or what is wrong -/
def RHb (Fv : Int64 → Int64 → Prop) (P : Int64 → Prop) (Fv' : Int64 → Int64 → Prop) (AN : Nat) (m w m2 : MS) (z : Unit ⊕ Nat) (w2 : MS) (_ : Unit) : Prop := (∃ f : Nat, z = Sum.inl () ∧ w2 = bgX w f ∧ BGm m m2 f ∧ FQs WTr 1 Fv P Fv' (PWs AN) m2 w2 ∧ TBz m2 w2 ∧ F w2 3 = 0) ∨ ∃ k : Nat, z = Sum.inr k ∧ k ≤ 2 ∧ m2 = m ∧ w2 = wi w 3 (((k : Nat) : Int) + 1)
section
variable {T : TYc} {Fv Fv' : Int64 → Int64 → Prop} {P : Int64 → Prop} {AN : Nat} {TT : TY} {CC : CY} {pM pE : Nat → Nat} {ND CN PN SN UN FN N PR f : Nat} {m w m2 : MS} {x : Int}
theorem born_nn (h : F m 942 < 24) : PK (fun _ r => r ≠ none) (hm_Wl_born N m) := by
  have r := F_r m 942
  have k43 : ∀ u, PK (fun _ r => r ≠ none) (hb_Wl_born_43 N () u) := fun u => by
    unfold hb_Wl_born_43
    refine pk_ck (fun _ => ?_)
    cases h : rf (u.2.2.1 1948 (u.1 942).toNatClampNeg) with
    | none => exact fun _ _ e => by cases e
    | some j =>
      rw [bo_s]
      exact pk_bnd (fun v _ _ => pk_lt (pk_some (fun c => by cases c)))
  unfold hm_Wl_born hb_Wl_born_0
  rw [show decide (m.1 942 < 24) = true from decide_eq_true (by
    rw [I_F (k := 942), show (24 : Int32) = I 24 from rfl, I_lt r.1 r.2 (by omega) (by omega)]
    exact h), br_t]
  exact pk_ck (fun _ => pk_br (fun _ => k43 _) (fun _ => k43 _))
theorem isF_e (hx : -2147483648 ≤ x ∧ x < 2147483648) : hm_H_isFunction N m (I x) = some (m, if F m 10 ≠ 0 ∧ 0 ≤ x ∧ x < F m 442 then 1 else 0) := by
  have r10 := F_r m 10
  have r442 := F_r m 442
  unfold hm_H_isFunction hb_H_isFunction_0 hb_H_isFunction_26 hb_H_isFunction_27
  rw [isb0, isb1, ck_t, ck_t]
  have e0 : decide (m.1 10 = 0) = decide (F m 10 = 0) := by
    rw [I_F (k := 10), lit0, decE r10.1 r10.2 (by omega) (by omega)]
  have e1 : decide (I x < 0) = decide (x < 0) := by
    rw [lit0, decL hx.1 hx.2 (by omega) (by omega)]
  rw [e0, e1, I_F (k := 442), decI r442.1 r442.2 hx.1 hx.2]
  by_cases c : F m 10 = 0
  · rw [decide_eq_true c, br_t, if_neg (fun z => z.1 c)]
  · rw [decide_eq_false c, br_f]
    by_cases c2 : x < 0
    · rw [decide_eq_true c2, br_t, if_neg (by omega)]
    · rw [decide_eq_false c2, br_f]
      by_cases c3 : F m 442 ≤ x
      · rw [decide_eq_true c3, br_t, if_neg (by omega)]
      · rw [decide_eq_false c3, br_f, if_pos ⟨c, by omega, by omega⟩]
theorem clS_v : (clS m).1 943 = I 0 ∧ (clS m).1 944 = I 0 ∧ (clS m).1 945 = I 0 ∧ (clS m).1 946 = I 0 ∧ (clS m).1 950 = I 0 ∧ (clS m).1 953 = I 0 ∧ (clS m).1 955 = I 0 ∧ (clS m).1 956 = I 0 ∧ F (clS m) 942 = 0 := by
  unfold clS
  refine ⟨?_, ?_, ?_, ?_, ?_, ?_, ?_, ?_, ?_⟩
  · rw [wi_1 (by omega), wi_1 (by omega), wi_1 (by omega), wi_1 (by omega), wi_1 (by omega), wi_1 (by omega), wi_1 (by omega), wi_s1]
  · rw [wi_1 (by omega), wi_1 (by omega), wi_1 (by omega), wi_1 (by omega), wi_1 (by omega), wi_1 (by omega), wi_s1]
  · rw [wi_1 (by omega), wi_1 (by omega), wi_1 (by omega), wi_1 (by omega), wi_1 (by omega), wi_s1]
  · rw [wi_1 (by omega), wi_1 (by omega), wi_1 (by omega), wi_1 (by omega), wi_s1]
  · rw [wi_1 (by omega), wi_1 (by omega), wi_1 (by omega), wi_s1]
  · rw [wi_1 (by omega), wi_1 (by omega), wi_s1]
  · rw [wi_1 (by omega), wi_s1]
  · rw [wi_s1]
  · rw [wi_ne (by omega), wi_ne (by omega), wi_ne (by omega), wi_ne (by omega), wi_ne (by omega), wi_ne (by omega), wi_ne (by omega), wi_ne (by omega), wi_sm (by omega) (by omega)]
/-- begin, there -/
theorem bg_m (W : WRD T Fv P PR m) (h10 : F m 10 ≠ 0) (hf : ((f : Nat) : Int) < F m 442) (h25 : A m 25 f = 0) : PK (fun m2 z => z = Sum.inl () ∧ BGm m m2 f) (hm_H_begin N m (I ((f : Nat) : Int))) := by
  have c442 := W.2.2.2.1.1
  obtain ⟨a, e, ea, ee, et⟩ := W.2.2.2.1.2.1 f hf
  have he : e < 24000 := (W.2.2.1 _ _ _ _ _ _ et).1.2
  have r10 := F_r m 10
  have e10 : decide (m.1 10 = 0) = false := decide_eq_false (fun z => h10 (by
    have := congrArg Int32.toInt z
    exact this))
  unfold hm_H_begin hb_H_begin_0 hb_H_begin_102
  rw [e10, br_f, isF_e ⟨by omega, by omega⟩, bnd_so, if_pos ⟨h10, by omega, hf⟩, show decide ((1 : Int32) = 0) = false from rfl, br_f]
  refine pk_ck (fun _ => ?_)
  rw [tnI (n := f) rfl (by omega), I_A' h25, show decide (I 0 = 0) = true from rfl, br_t]
  have ec : hm_Wl_clearAll N m = some (clS m, ()) := rfl
  obtain ⟨W1, f1⟩ := pk_ok (clearAll_ok (N := N) W) _ _ ec
  rw [ec, bnd_so, lt_e, show upI (clS m) 943 1 = wi (clS m) 943 1 from rfl]
  have f2 : FC 0 [943] [] [] [] [] [] [] (clS m) (wi (clS m) 943 1) := FC.wi_g FC.rf (by omega) (by simp)
  have W2 : WRD T Fv P 0 (wi (clS m) 943 1) := WRD_g W1 f2 (DWc_g0 W1.1 f2 (by simp) (by simp)) (by simp) (by simp)
  obtain ⟨-, v4, v5, v6, v0, v3, v55, v56, v42⟩ := clS_v (m := m)
  have g1 : ∀ k, k ≠ 943 → (wi (clS m) 943 1).1 k = (clS m).1 k := fun k h => wi_1 h
  have g43 : (wi (clS m) 943 1).1 943 = I 1 := wi_s1
  have q42 : F (wi (clS m) 943 1) 942 = 0 := by
    rw [wi_ne (by omega)]
    exact v42
  generalize wi (clS m) 943 1 = mC at *
  refine pk_bnd (pk_mo (pk_and (pk_and (pk_ok (bornc_ok (N := N) W2.1 W2.2.2.2.2.2)) born_v) (born_nn (by omega))) (fun m0 r h => ?_))
  obtain ⟨⟨h1, h2⟩, h3⟩ := h
  rcases h1 with ⟨rfl, -⟩ | ⟨rfl, hP, d0, f0, al0, z0, p0⟩
  · exact absurd rfl h3
  have bv := h2 0 rfl
  rw [show decide ((some 0 : Option Nat) = none) = false from rfl, br_f, bo_s]
  refine pk_ck (fun _ => ?_)
  have e29 : m0.2.2.1 29 f = I ((e : Nat) : Int) := by
    rw [f0.2.2.1 29 (by omega) (by simp), f2.2.2.1 29 (by omega) (by simp), f1.2.2.1 29 (by omega) (by simp)]
    exact I_A' ee
  rw [e29, show (0 : Int32) = I ((0 : Nat) : Int) from rfl, open_e (j := 0) (B := 0) (P0 := 0) (ar := 0) (z0 21 (by simp)) (by omega) (z0 24 (by simp)) (z0 26 (by simp)), bnd_so]
  have z24 : F (opS m0 0 0 0 0 (I ((f : Nat) : Int)) (I ((e : Nat) : Int))) (pq 0 24) = ((0 : Nat) : Int) := (congrArg Int32.toInt (opS_1 (pq_inj (by omega)))).trans (z0 24 (by simp))
  have oI : ∀ k, k < 2000 → k ≠ 942 → (opS m0 0 0 0 0 (I ((f : Nat) : Int)) (I ((e : Nat) : Int))).1 k = mC.1 k := fun k h1 h2 => (opS_1 (pq_n h1)).trans (f0.1 k h1 (by simpa using h2))
  refine pk_some ⟨rfl, ⟨e, ee, nw_m (fn := I ((f : Nat) : Int)) z0 bv FR.rf FC.rf (I_ti (by omega) (by omega)) (by omega) z24 (fun i x h => by simp at h)⟩, ?_, fun k hk => ?_, fun K hK => ?_, ⟨?_, ?_, ?_, ?_, ?_⟩, ?_, ?_, ?_, ?_⟩
  · exact (congrArg Int32.toInt (opS_1 (pq_inj (by omega)))).trans (z0 4 (by simp))
  · rw [oI k (by omega) (by omega), g1 k (by omega)]
    exact f1.1 k (by omega) (by simp; omega)
  · rw [opS_A (pq_n (by omega)), f0.2.2.1 K (by omega) (by simp; omega), f2.2.2.1 K (by omega) (by simp)]
    exact f1.2.2.1 K (by omega) (by simp)
  · rw [show F (opS m0 0 0 0 0 (I ((f : Nat) : Int)) (I ((e : Nat) : Int))) 942 = F m0 942 from congrArg Int32.toInt (opS_1 (pq_n (by omega))), d0.1.1.1]
    rfl
  · rw [oI 943 (by omega) (by omega)]
    exact g43
  · rw [oI 944 (by omega) (by omega), g1 944 (by omega)]
    exact v4
  · rw [oI 945 (by omega) (by omega), g1 945 (by omega)]
    exact v5
  · rw [oI 946 (by omega) (by omega), g1 946 (by omega)]
    exact v6
  · rw [oI 950 (by omega) (by omega), g1 950 (by omega)]
    exact v0
  · rw [oI 953 (by omega) (by omega), g1 953 (by omega)]
    exact v3
  · show ((opS m0 0 0 0 0 (I ((f : Nat) : Int)) (I ((e : Nat) : Int))).1 955).toInt = 0
    rw [oI 955 (by omega) (by omega), g1 955 (by omega), v55]
    rfl
  · show ((opS m0 0 0 0 0 (I ((f : Nat) : Int)) (I ((e : Nat) : Int))).1 956).toInt = 0
    rw [oI 956 (by omega) (by omega), g1 956 (by omega), v56]
    rfl
/-- begin, here -/
theorem bg_w (n86 : F w 86 ≠ 0) (h52 : ((f : Nat) : Int) < F w 52) (hf : f < 1000) (h48 : A w 48 f = 0) : fm_M_begin N w (I ((f : Nat) : Int)) = some (bgX w f, ()) := by
  have r52 := F_r w 52
  have e86 : decide (w.1 86 = 0) = false := decide_eq_false (fun z => n86 (by
    have := congrArg Int32.toInt z
    exact this))
  unfold fm_M_begin fb_M_begin_0
  rw [e86, br_f, d_lt0 (by omega), br_f, I_F (k := 52), show decide (I ((f : Nat) : Int) < I (F w 52)) = true from decide_eq_true (by rw [I_lt (by omega) (by omega) r52.1 r52.2]; exact h52), br_t, inb_at (k := 48) (n := 1000) rfl (by omega) (by omega) (by decide), ck_t, tnI (n := f) rfl (by omega), I_A' h48, show decide (I 0 ≤ 0) = true from rfl, br_t]
  unfold fb_M_begin_42
  rw [lt_e, show upI w 3 0 = wi w 3 0 from rfl, show decide ((wi w 3 0).1 3 = 0) = true from rfl, br_t, lt_e, lt_e, lt_e, lt_e, lt_e, lt_e, lt_e, lt_e, lt_e]
  have st : upI (upI (upI (upI (upI (upI (upI (upI (upI (wi w 3 0) 87 1) 118 0) 119 0) 120 0) 121 0) 125 0) 128 0) 149 0) 150 0 = bgW w := rfl
  have e118 : F (bgW w) 118 = ((0 : Nat) : Int) := by
    unfold bgW
    rw [wi_ne (by omega), wi_ne (by omega), wi_ne (by omega), wi_ne (by omega), wi_ne (by omega), wi_ne (by omega), wi_ne (by omega), wi_sm (by omega) (by omega)]
    rfl
  rw [st, newProcess_e e118 (by omega), bnd_so, show (0 : Int32).toNatClampNeg = 0 from rfl, show inb (0 : Int32) (ln 96) = true from by decide, ck_t, lt_e, wa_e, show inb (0 : Int32) (ln 170) = true from by decide, ck_t, lt_e, show (-1 : Int32) = I (-1) from rfl, wa_e]
  rfl
theorem badb {v : Int32} (h : x = 1 ∨ x = 2 ∨ x = 3) : fb_M_begin_42 N () w v (I x) = some (wi w 3 x, ()) := by
  unfold fb_M_begin_42
  rw [wi_e, lt_e, wi_s1, show decide (I x = 0) = false from decide_eq_false (fun z => by
    rw [lit0, I_eq (by omega) (by omega) (by omega) (by omega)] at z
    omega), br_f]
theorem bgW_fr : FR [3, 87, 118, 119, 120, 121, 125, 128, 149, 150] [] [] [] w (bgW w) := by
  unfold bgW
  exact FR.wi (FR.wi (FR.wi (FR.wi (FR.wi (FR.wi (FR.wi (FR.wi (FR.wi (FR.wi FR.rf (by decide)) (by decide)) (by decide)) (by decide)) (by decide)) (by decide)) (by decide)) (by decide)) (by decide)) (by decide)
theorem bgW_v : F (bgW w) 3 = 0 ∧ F (bgW w) 87 = 1 ∧ (bgW w).1 119 = I 0 ∧ (bgW w).1 120 = I 0 ∧ (bgW w).1 121 = I 0 ∧ (bgW w).1 125 = I 0 ∧ (bgW w).1 128 = I 0 ∧ (bgW w).1 149 = I 0 ∧ (bgW w).1 150 = I 0 := by
  unfold bgW
  refine ⟨?_, ?_, ?_, ?_, ?_, ?_, ?_, ?_, ?_⟩
  · rw [wi_ne (by omega), wi_ne (by omega), wi_ne (by omega), wi_ne (by omega), wi_ne (by omega), wi_ne (by omega), wi_ne (by omega), wi_ne (by omega), wi_ne (by omega), wi_sm (by omega) (by omega)]
  · rw [wi_ne (by omega), wi_ne (by omega), wi_ne (by omega), wi_ne (by omega), wi_ne (by omega), wi_ne (by omega), wi_ne (by omega), wi_ne (by omega), wi_sm (by omega) (by omega)]
  · rw [wi_1 (by omega), wi_1 (by omega), wi_1 (by omega), wi_1 (by omega), wi_1 (by omega), wi_1 (by omega), wi_s1]
  · rw [wi_1 (by omega), wi_1 (by omega), wi_1 (by omega), wi_1 (by omega), wi_1 (by omega), wi_s1]
  · rw [wi_1 (by omega), wi_1 (by omega), wi_1 (by omega), wi_1 (by omega), wi_s1]
  · rw [wi_1 (by omega), wi_1 (by omega), wi_1 (by omega), wi_s1]
  · rw [wi_1 (by omega), wi_1 (by omega), wi_s1]
  · rw [wi_1 (by omega), wi_s1]
  · rw [wi_s1]
theorem wi_87 {y : Int} : bgX (wi w 87 y) f = bgX w f := by
  have e : bgW (wi w 87 y) = bgW w := by
    unfold bgW
    have : wi (wi (wi w 87 y) 3 0) 87 1 = wi (wi w 3 0) 87 1 := by
      unfold wi upI
      refine Prod.ext (funext fun k => ?_) rfl
      by_cases c : k = 87
      · simp [c]
      · simp [c]
    rw [this]
  unfold bgX
  rw [e]
end
