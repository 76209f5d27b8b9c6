set_option maxRecDepth 100000
def TBK (w v x : MS) (L : Nat) : Prop := (x.1 32 = w.1 32 ∧ x.1 72 = w.1 72 ∧ (x.1 66 = 0 ↔ w.1 66 = 0)) ∧ (∀ k, k ∉ [32, 39, 46, 56, 58, 66, 71, 72] → x.1 k = v.1 k) ∧ (∀ k, k ≠ 60 → k ≠ 63 → x.2.2.1 k = v.2.2.1 k) ∧ (∀ i, i < L → x.2.2.1 60 i = w.2.2.1 60 i ∧ x.2.2.1 63 i = w.2.2.1 63 i) ∧ ∀ i, L ≤ i → x.2.2.1 60 i = v.2.2.1 60 i ∧ x.2.2.1 63 i = v.2.2.1 63 i
def rst : SCT → SCT → SCT
  | e :: t, e2 :: t2 => (e.1, e.2.1, e2.2.2) :: rst t t2
  | _, _ => []
section
variable {w v u s x x1 : MS} {N a b L k X p p2 : Nat} {y : Int32} {sc sc2 t t2 : SCT} {e e2 : List Nat × List Nat × Nat} {Nk K W : Nat → Nat}
theorem I_mn {c : Nat} (h : c ≤ a) {z : Int32} (hz : z = I (c : Nat)) : I (a : Nat) - z = I ((a - c : Nat) : Int) := by
  rw [hz, I_sub]; congr 1; omega
theorem tb_lp (h65 : s.1 65 = I ((L : Nat) : Int)) (hL : L ≤ 26) (h77 : s.1 77 = I ((b + 54 : Nat) : Int)) (hb : b ≤ 3246) : ∀ (M i : Nat) (r : MS), i ≤ L + 1 → r.1 = s.1 → (∀ k, k ≠ 60 → k ≠ 63 → r.2.2.1 k = s.2.2.1 k) → (∀ j, j < i → r.2.2.1 60 j = s.2.2.1 76 (b + 2 * j) ∧ r.2.2.1 63 j = s.2.2.1 76 (b + 2 * j + 1)) → (∀ j, i ≤ j → r.2.2.1 60 j = s.2.2.1 60 j ∧ r.2.2.1 63 j = s.2.2.1 63 j) → PK (fun v (_ : Unit) => v.1 = s.1 ∧ (∀ k, k ≠ 60 → k ≠ 63 → v.2.2.1 k = s.2.2.1 k) ∧ (∀ j, j < L + 1 → v.2.2.1 60 j = s.2.2.1 76 (b + 2 * j) ∧ v.2.2.1 63 j = s.2.2.1 76 (b + 2 * j + 1)) ∧ ∀ j, L + 1 ≤ j → v.2.2.1 60 j = s.2.2.1 60 j ∧ v.2.2.1 63 j = s.2.2.1 63 j) (gg_M_takeBack N M r (I (i : Nat)))
  | 0, _, _, _, _, _, _, _ => pk_none
  | M + 1, i, r, hi, e1, e2, e3, e4 => by
    show PK _ (fb_M_takeBack_115 N (gg_M_takeBack N M) r (I (i : Nat)))
    unfold fb_M_takeBack_115
    rw [e1, h65, h77, decide_eq_decide.mpr (I_lt (x := (L : Nat)) (y := (i : Nat)) (by omega) (by omega) (by omega) (by omega))]
    by_cases z : L < i
    · rw [decide_eq_true (by omega), br_tq]
      exact pk_some ⟨e1, e2, fun j hj => e3 j (by omega), fun j hj => e4 j (by omega)⟩
    · rw [decide_eq_false (by omega), br_fq]
      have d1 : I ((b + 54 : Nat) : Int) - 54 = I (b : Nat) := (I_mn (a := b + 54) (c := 54) (by omega) rfl).trans (by congr 2)
      have d2 : (2 : Int32) * I (i : Nat) = I ((2 * i : Nat) : Int) := by rw [show (2 : Int32) = I 2 from rfl, I_mul]; congr 1
      have d3 : I (b : Nat) + I ((2 * i : Nat) : Int) = I ((b + 2 * i : Nat) : Int) := by rw [I_add]; congr 1
      rw [d1, d2, d3, tnI (n := b + 2 * i) rfl (by omega), tnI (n := i) rfl (by omega)]
      refine pk_ck (fun _ => pk_ck (fun _ => pk_lt ?_))
      have f1 : ∀ g, (upA r 60 g).1 77 = I ((b + 54 : Nat) : Int) := fun _ => by show r.1 77 = _; rw [e1]; exact h77
      rw [f1, d1, d3, i_suc, tnI (n := b + 2 * i + 1) rfl (by omega)]
      refine pk_ck (fun _ => pk_ck (fun _ => pk_lt ?_))
      rw [i_suc]
      refine tb_lp h65 hL h77 hb M (i + 1) _ (by omega) e1 (fun k k1 k2 => ?_) (fun j hj => ?_) (fun j hj => ?_)
      · rw [upA_no k2, upA_no k1]; exact e2 k k1 k2
      · rw [upA_at, upA_no (j := 60) (by decide), upA_at]
        by_cases y : j = i
        · subst y
          rw [upd_at, upd_at, upA_no (by decide), e2 76 (by decide) (by decide)]
          exact ⟨rfl, rfl⟩
        · rw [upd_no y, upd_no y, upA_no (by decide)]
          exact e3 j (by omega)
      · rw [upA_at, upA_no (j := 60) (by decide), upA_at, upd_no (by omega), upd_no (by omega), upA_no (by decide)]
        exact e4 j (by omega)
theorem tb_p (h65 : v.1 65 = I ((L : Nat) : Int)) (hL : L ≤ 26) (h75 : v.1 75 = I ((a + 8 : Nat) : Int)) (ha : a + 8 ≤ 400) (h77 : v.1 77 = I ((b + 54 : Nat) : Int)) (hb : b ≤ 3246) (hs : SVC w v a b (L + 1)) : PK (fun x (_ : Unit) => TBK w v x (L + 1)) (fm_M_takeBack N v) := by
  show PK _ (fb_M_takeBack_0 N (gg_M_takeBack N N) v)
  unfold fb_M_takeBack_0
  have d1 : v.1 75 - 8 = I (a : Nat) := by rw [h75]; exact (I_mn (a := a + 8) (c := 8) (by omega) rfl).trans (by congr 2)
  rw [d1]
  have ia : ∀ (c : Nat) (z : Int32), z = I (c : Nat) → c < 100 → (I (a : Nat) + z).toNatClampNeg = a + c := fun c z hz hc => I_pl (by omega) hz
  rw [tnI (n := a) rfl (by omega), ia 1 1 rfl (by decide), ia 2 2 rfl (by decide), ia 3 3 rfl (by decide), ia 4 4 rfl (by decide), ia 5 5 rfl (by decide), ia 6 6 rfl (by decide), ia 7 7 rfl (by decide)]
  refine pk_ck (fun _ => pk_lt (pk_ck (fun _ => pk_lt (pk_ck (fun _ => pk_lt (pk_ck (fun _ => pk_lt (pk_ck (fun _ => pk_lt (pk_ck (fun _ => pk_lt (pk_ck (fun _ => pk_lt (pk_ck (fun _ => ?_)))))))))))))))
  generalize hw10 : upI _ 72 _ = w10
  have r10 : w10.2.2.1 = v.2.2.1 := by rw [← hw10]; rfl
  have i10 : ∀ k, k ∉ [32, 39, 46, 56, 58, 71, 72] → w10.1 k = v.1 k := fun k hk => by
    simp only [List.mem_cons, List.not_mem_nil, or_false] at hk
    rw [← hw10, upI_ne (by omega), upI_ne (by omega), upI_ne (by omega), upI_ne (by omega), upI_ne (by omega), upI_ne (by omega), upI_ne (by omega)]
  have n32 : w10.1 32 = w.1 32 := by
    rw [← hw10, upI_ne (by decide), upI_ne (by decide), upI_ne (by decide), upI_ne (by decide), upI_ne (by decide), upI_ne (by decide), upI_at]
    exact hs.1
  have n72 : w10.1 72 = w.1 72 := by
    rw [← hw10, upI_at]
    exact hs.2.1
  clear hw10
  rw [r10, hs.2.2.1]
  have fin : ∀ t1 : Int32, (t1 = 0 ↔ w.1 66 = 0) → PK (fun x (_ : Unit) => TBK w v x (L + 1)) (fb_M_takeBack_110 N (gg_M_takeBack N N) w10 t1) := fun t1 ht => by
    unfold fb_M_takeBack_110
    refine pk_ck (fun _ => pk_lt ?_)
    have i11 : ∀ k, k ≠ 66 → (upI w10 66 t1).1 k = w10.1 k := fun k hk => upI_ne hk
    refine pk_mo (tb_lp (s := upI w10 66 t1) (L := L) (b := b) (by rw [i11 65 (by decide), i10 65 (by decide)]; exact h65) hL (by rw [i11 77 (by decide), i10 77 (by decide)]; exact h77) hb N 0 (upI w10 66 t1) (Nat.zero_le _) rfl (fun _ _ _ => rfl) (fun j hj => absurd hj (by omega)) (fun _ _ => ⟨rfl, rfl⟩)) (fun x _ q => ?_)
    obtain ⟨q1, q2, q3, q4⟩ := q
    have rr : (upI w10 66 t1).2.2.1 = v.2.2.1 := r10
    refine ⟨⟨by rw [q1, i11 32 (by decide)]; exact n32, by rw [q1, i11 72 (by decide)]; exact n72, by rw [q1, upI_at]; exact ht⟩, fun k hk => ?_, fun k k1 k2 => by rw [q2 k k1 k2, rr], fun i hi => ?_, fun i hi => ?_⟩
    · simp only [List.mem_cons, List.not_mem_nil, or_false] at hk
      rw [q1, i11 k (by omega)]
      exact i10 k (by simp only [List.mem_cons, List.not_mem_nil, or_false]; omega)
    · have := q3 i hi
      rw [rr] at this
      exact ⟨this.1.trans (hs.2.2.2 i hi).1, this.2.trans (hs.2.2.2 i hi).2⟩
    · have := q4 i hi
      rw [rr] at this
      exact this
  by_cases z : w.1 66 = 0
  · rw [if_pos z, show decide ((0 : Int32) = 1) = false from rfl, br_fq]
    exact fin 0 ⟨fun _ => z, fun _ => rfl⟩
  · rw [if_neg z, show decide ((1 : Int32) = 1) = true from rfl, br_tq]
    exact fin 1 ⟨fun y => absurd y (by decide), fun y => absurd y z⟩
theorem pre_get {a b : List Nat} {i y : Nat} (h : a <+: b) (e : a[i]? = some y) : b[i]? = some y := by
  obtain ⟨c, rfl⟩ := h
  rw [List.getElem?_append_left]
  · exact e
  · exact (List.getElem?_eq_some_iff.mp e).1
theorem rst_len : ∀ {a b : SCT}, a.length = b.length → (rst a b).length = a.length
  | [], [], _ => rfl
  | e :: t, e2 :: t2, h => by
    show (rst t t2).length + 1 = t.length + 1
    rw [rst_len (by simpa using h)]
  | [], _ :: _, h => by cases h
  | _ :: _, [], h => by cases h
theorem rst_BD : ∀ {a b : SCT}, BDs a b → rst a b = a
  | [], [], _ => rfl
  | e :: t, e2 :: t2, h => by
    show (e.1, e.2.1, e2.2.2) :: rst t t2 = e :: t
    rw [rst_BD h.2, h.1.2]
  | [], _ :: _, h => h.elim
  | _ :: _, [], h => h.elim
theorem RNl_tb : ∀ {a b : SCT}, RNl w a → RNl v b → HDs Nk K W p p2 a b → (∀ i, i < a.length → x.2.2.1 60 i = w.2.2.1 60 i ∧ x.2.2.1 63 i = w.2.2.1 63 i) → x.2.2.1 59 = v.2.2.1 59 → x.2.2.1 61 = v.2.2.1 61 → x.2.2.1 64 = v.2.2.1 64 → (BDs a b ∨ ∃ X, SCX a b X) → RNl x (rst a b)
  | [], [], _, _, _, _, _, _, _, _ => trivial
  | e :: t, e2 :: t2, ha, hb, hd, h1, h2, h3, h4, hx => by
    have ln : t2.length = t.length := HDs_len hd.2
    have nm : e.1 <+: e2.1 ∧ BDs t t2 := by
      rcases hx with hx | ⟨X, hx⟩
      · exact ⟨by rw [hx.1.1]; exact List.prefix_refl _, hx.2⟩
      · exact ⟨hx.1, hx.2.2⟩
    have hl : (rst t t2).length = t.length := rst_len ln.symm
    refine ⟨?_, RNl_tb ha.2 hb.2 hd.2 (fun i hi => h1 i (by show i < t.length + 1; omega)) h2 h3 h4 (Or.inl nm.2)⟩
    rw [hl]
    obtain ⟨a1, a2, a3, a4, a5⟩ := ha.1
    obtain ⟨b1, b2, b3, b4, b5⟩ := hb.1
    rw [ln] at b2 b4 b5
    obtain ⟨c1, c2⟩ := h1 t.length (by show t.length < t.length + 1; omega)
    refine ⟨by rw [c1]; exact a1, fun k y hy => ?_, by rw [c2]; exact a3, fun k y hy => ?_, by rw [h4]; exact b5⟩
    · rw [h2]; exact b2 k y (pre_get nm.1 hy)
    · rw [h3]; exact b4 k y (pre_get hd.1.2.2 hy)
  | [], _ :: _, _, _, h, _, _, _, _, _ => h.elim
  | _ :: _, [], _, _, h, _, _, _, _, _ => h.elim
theorem SOK_m (h : SOK (e :: t)) (hm : k ≤ 1400) : SOK ((e.1, e.2.1, max e.2.2 k) :: t) := by
  obtain ⟨⟨h1, h2, h3, h4, h5, h6, h7⟩, h8⟩ := h
  exact ⟨⟨h1, h2, h3, by show e.1.length ≤ max e.2.2 k; omega, by show max e.2.2 k ≤ 1400; omega, h6, h7⟩, h8⟩
theorem RNs_tb (ha : RNs w (e :: t)) (hb : RNs v sc2) (hx : SCX (e :: t) sc2 X) (hX : X ≤ 1400) (hd : HDs Nk K W p p2 (e :: t) sc2) (ht : TBK w v x (t.length + 1)) (h65 : v.1 65 = w.1 65) : RNs x ((e.1, e.2.1, max e.2.2 X) :: t) := by
  cases sc2 with
  | nil => exact hx.elim
  | cons e2 t2 =>
    have r := RNl_tb (x := x) ha.2.2.1 hb.2.2.1 hd (fun i hi => ht.2.2.2.1 i hi) (ht.2.2.1 59 (by decide) (by decide)) (ht.2.2.1 61 (by decide) (by decide)) (ht.2.2.1 64 (by decide) (by decide)) (Or.inr ⟨X, hx⟩)
    have e1 : rst (e :: t) (e2 :: t2) = (e.1, e.2.1, max e.2.2 X) :: t := by
      show (e.1, e.2.1, e2.2.2) :: rst t t2 = _
      rw [rst_BD hx.2.2, hx.2.1]
    rw [e1] at r
    refine ⟨?_, ha.2.1, r, SOK_m ha.2.2.2 hX⟩
    rw [ht.2.1 65 (by decide), h65]
    exact ha.1
end
