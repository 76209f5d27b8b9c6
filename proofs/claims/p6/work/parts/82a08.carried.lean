def rp (t : Int64) (x : Int) : Int64 := (t &&& (-4294967296)) ||| (I x).toInt64
theorem nonneg_msb {x : Int} (h1 : 0 ≤ x) (h2 : x < 2147483648) : (I x).toBitVec.msb = false := by
  rw [BitVec.msb_eq_toInt]
  have : (I x).toBitVec.toInt = x := I_ti (by omega) h2
  rw [this]
  exact decide_eq_false (by omega)
theorem rp_bv (t : Int64) (x : Int) : (rp t x).toBitVec = (t.toBitVec &&& 18446744069414584320#64) ||| ((I x).toBitVec.signExtend 64) := by
  unfold rp
  rw [Int64.toBitVec_or, Int64.toBitVec_and]
  rfl
theorem so_rp {t : Int64} {x : Int} (h1 : 0 ≤ x) (h2 : x < 2147483648) : so (rp t x) = so t := by
  unfold so
  congr 1
  apply Int32.toBitVec_inj.mp
  rw [so_bv, so_bv, rp_bv]
  ext i hi
  rw [BitVec.getElem_setWidth, BitVec.getElem_setWidth, BitVec.getLsbD_sshiftRight, BitVec.getLsbD_sshiftRight]
  have a1 : decide (64 ≤ i) = false := decide_eq_false (by omega)
  have a2 : 32 + i < 64 := by omega
  rw [a1, if_pos a2, if_pos a2, BitVec.getLsbD_or, BitVec.getLsbD_and, BitVec.getLsbD_signExtend, nonneg_msb h1 h2]
  have a3 : (18446744069414584320#64).getLsbD (32 + i) = true := by
    have : ∀ j, j < 32 → (18446744069414584320#64).getLsbD (32 + j) = true := by decide
    exact this i hi
  rw [a3]
  simp
theorem va_rp {t : Int64} {x : Int} (h1 : 0 ≤ x) (h2 : x < 2147483648) : va (rp t x) = x := by
  have e : (rp t x).toInt32 = I x := by
    apply Int32.toBitVec_inj.mp
    show (rp t x).toBitVec.signExtend 32 = _
    rw [BitVec.signExtend_eq_setWidth_of_le _ (by decide), rp_bv]
    ext i hi
    rw [BitVec.getElem_setWidth, BitVec.getLsbD_or, BitVec.getLsbD_and]
    have a3 : (18446744069414584320#64).getLsbD i = false := by
      have : ∀ j, j < 32 → (18446744069414584320#64).getLsbD j = false := by decide
      exact this i hi
    rw [a3]
    simp [hi, show i < 64 by omega, BitVec.getElem_signExtend]
  unfold va
  rw [e, I_ti (by omega) h2]
def bs (h : Nat → Int64) (kd : Nat → Nat) (k : Nat) : Nat := blk h (mk (kd k) k)
def pk (kd : Nat → Nat) (k : Nat) : Nat := prt (mk (kd k) k)
theorem bs_eq {h : Nat → Int64} {kd : Nat → Nat} {t : Int64} (e : (kd (vn t) : Int) = so t) (hv : vn t < 1000) : bs h kd (vn t) = blk h t ∧ pk kd (vn t) = prt t := by
  have hr := so_r t
  have e1 : so (mk (kd (vn t)) (vn t)) = so t := by rw [so_mk (by omega) (by omega), e]
  have e2 : vn (mk (kd (vn t)) (vn t)) = vn t := by show (va _).toNat = _; rw [va_mk (by omega) (by omega)]; omega
  unfold bs pk blk prt
  rw [e1, e2]
  exact ⟨rfl, rfl⟩
def fw (w : MS) (y : Int64) : Int64 := rp y (A w 135 (vn y))
def GC (h : Nat → Int64) (n : Nat) (ow kd : Nat → Nat) (w : MS) (U C sc : Nat) (ow2 kd2 ks : Nat → Nat) : Prop :=
  (F w 136 = U ∧ F w 138 = C ∧ C ≤ U ∧ sc ≤ U) ∧
  (∀ k, k < 500 → A w 135 k = -1 ∨ (0 ≤ A w 135 k ∧ k < n ∧ ow k = k ∧ (kd k = 3 ∨ kd k = 5 ∨ kd k = 7))) ∧
  (∀ k, k < 500 → A w 135 k ≠ -1 → (A w 135 k).toNat + bs h kd k ≤ U ∧ kd2 (A w 135 k).toNat = kd k ∧ ∀ j, j < bs h kd k → ow2 ((A w 135 k).toNat + j) = (A w 135 k).toNat) ∧
  (U ≤ cnt (fun k => k < 500 ∧ A w 135 k ≠ -1) ow n) ∧
  (∀ i, i < C → ks i < 500 ∧ A w 135 (ks i) ≠ -1 ∧ so (w.2.2.2 137 i) = kd (ks i) ∧ va (w.2.2.2 137 i) = A w 135 (ks i) ∧ (i + 1 < C → A w 135 (ks (i + 1)) = A w 135 (ks i) + bs h kd (ks i)) ∧ (i + 1 = C → (U : Int) = A w 135 (ks i) + bs h kd (ks i))) ∧
  ((C = 0 → U = 0) ∧ (0 < C → A w 135 (ks 0) = 0)) ∧
  (∀ k, k < 500 → A w 135 k ≠ -1 → ∃ i, i < C ∧ ks i = k) ∧
  (∀ k, k < 500 → A w 135 k ≠ -1 → ∀ j, j < bs h kd k → ((A w 135 k).toNat + j < sc ∧ pk kd k ≤ j ∧ isH (h (k + j)) → A w 135 (vn (h (k + j))) ≠ -1 ∧ w.2.2.2 134 ((A w 135 k).toNat + j) = fw w (h (k + j))) ∧ (¬ ((A w 135 k).toNat + j < sc ∧ pk kd k ≤ j ∧ isH (h (k + j))) → w.2.2.2 134 ((A w 135 k).toNat + j) = h (k + j)))
section
variable {h : Nat → Int64} {n p N U C sc : Nat} {ow kd ow2 kd2 ks : Nat → Nat} {Fv : Int64 → Int64 → Prop} {P : Int64 → Prop} {w : MS} {t : Int64}
theorem GC_add {w2 : MS} {k : Nat} (g : HP h n ow kd Fv P) (hn : n ≤ 500) (c : GC h n ow kd w U C sc ow2 kd2 ks) (hk : k < n) (ho : ow k = k) (hkd : kd k = 3 ∨ kd k = 5 ∨ kd k = 7) (hm : A w 135 k = -1)
    (f1 : F w2 136 = U + bs h kd k) (f2 : F w2 138 = C + 1) (f3 : A w2 135 k = U) (f4 : ∀ i, i < 500 → i ≠ k → A w2 135 i = A w 135 i) (f5 : so (w2.2.2.2 137 C) = kd k ∧ va (w2.2.2.2 137 C) = U) (f6 : ∀ i, i < C → w2.2.2.2 137 i = w.2.2.2 137 i) (f7 : ∀ j, j < bs h kd k → w2.2.2.2 134 (U + j) = h (k + j)) (f8 : ∀ i, i < U → w2.2.2.2 134 i = w.2.2.2 134 i) :
    U + bs h kd k ≤ n ∧ GC h n ow kd w2 (U + bs h kd k) (C + 1) sc (fun i => if U ≤ i then U else ow2 i) (fun i => if i = U then kd k else kd2 i) (fun i => if i = C then k else ks i) := by
  obtain ⟨⟨c1, c2, c3, c4⟩, c5, c6, c7, c8, ⟨c9, c10⟩, c11, c12⟩ := c
  have ex : so (mk (kd k) k) = kd k := so_mk (by omega) (by omega)
  have ev : vn (mk (kd k) k) = k := by show (va _).toNat = _; rw [va_mk (by omega) (by omega)]; omega
  have hx : isH (mk (kd k) k) := by unfold isH; rw [ex]; omega
  have gx : GT n ow kd P (mk (kd k) k) := Or.inr ⟨hx, by rw [va_mk (by omega) (by omega)]; omega, by rw [ev]; exact hk, by rw [ev]; exact ho, by rw [ev, ex]⟩
  have bk := (HP_bk g hx gx).1
  have b4 : k + bs h kd k ≤ n := by have := bk.2.2.2.1; rw [ev] at this; exact this
  have b6 : ∀ j, j < bs h kd k → ow (k + j) = k := by have := bk.2.2.2.2.2; rw [ev] at this; exact this
  have bp : 0 < bs h kd k := blk_pos hx
  have kn : ∀ i, i < 500 → A w 135 i ≠ -1 → i ≠ k := fun i _ z e => z (e ▸ hm)
  have cU : U + bs h kd k ≤ cnt (fun i => i < 500 ∧ A w2 135 i ≠ -1) ow n := by
    have := cnt_add (S := fun i => i < 500 ∧ A w 135 i ≠ -1) (S2 := fun i => i < 500 ∧ A w2 135 i ≠ -1) (ow := ow) (k := k) (b := bs h kd k) b6 (fun z => z.2 hm) (fun i => by
      by_cases e : i = k
      · subst e
        exact ⟨fun _ => Or.inr rfl, fun _ => ⟨by omega, by rw [f3]; omega⟩⟩
      · constructor
        · rintro ⟨a, b⟩; exact Or.inl ⟨a, by rw [f4 i a e] at b; exact b⟩
        · rintro (⟨a, b⟩ | b)
          · exact ⟨a, by rw [f4 i a e]; exact b⟩
          · exact absurd b e) n b4
    omega
  have hle : U + bs h kd k ≤ n := Nat.le_trans cU (cnt_le n)
  refine ⟨hle, ⟨by rw [f1]; omega, by rw [f2]; omega, by omega, by omega⟩, ?_, ?_, cU, ?_, ⟨fun z => by omega, fun _ => ?_⟩, ?_, ?_⟩
  · intro i hi
    by_cases e : i = k
    · subst e; right; exact ⟨by omega, hk, ho, hkd⟩
    · rw [f4 i hi e]; exact c5 i hi
  · intro i hi hne
    by_cases e : i = k
    · subst e
      rw [f3]
      refine ⟨by omega, by simp, fun j hj => ?_⟩
      simp
    · rw [f4 i hi e] at hne ⊢
      obtain ⟨d1, d2, d3⟩ := c6 i hi hne
      have q1 : 0 < bs h kd i := by
        rcases c5 i hi with z | ⟨-, z2, z3, z4⟩
        · exact absurd z hne
        · have y1 : so (mk (kd i) i) = kd i := so_mk (by omega) (by omega)
          exact blk_pos (by unfold isH; rw [y1]; omega)
      refine ⟨by omega, ?_, fun j hj => ?_⟩
      · simp only [if_neg (show ¬ (A w 135 i).toNat = U by omega)]; exact d2
      · simp only [if_neg (show ¬ U ≤ (A w 135 i).toNat + j by omega)]; exact d3 j hj
  · intro i hi
    by_cases e : i = C
    · subst e
      simp only [if_true]
      exact ⟨by omega, by rw [f3]; omega, f5.1, by rw [f5.2, f3], fun z => by omega, fun _ => by rw [f3]; omega⟩
    · have hi2 : i < C := by omega
      obtain ⟨d1, d2, d3, d4, d5, d6⟩ := c8 i hi2
      simp only [if_neg e]
      have nk := kn _ d1 d2
      refine ⟨d1, by rw [f4 _ d1 nk]; exact d2, by rw [f6 i hi2]; exact d3, by rw [f6 i hi2, f4 _ d1 nk]; exact d4, fun z => ?_, fun z => by omega⟩
      by_cases e2 : i + 1 = C
      · simp only [if_pos e2]; rw [f3, f4 _ d1 nk]; exact d6 e2
      · simp only [if_neg e2]
        obtain ⟨y1, y2, -⟩ := c8 (i + 1) (by omega)
        rw [f4 _ y1 (kn _ y1 y2), f4 _ d1 nk]; exact d5 (by omega)
  · by_cases e : C = 0
    · subst e; simp only [if_true]; rw [f3]; have := c9 rfl; omega
    · simp only [if_neg (show ¬ 0 = C by omega)]
      obtain ⟨d1, d2, -⟩ := c8 0 (by omega)
      rw [f4 _ d1 (kn _ d1 d2)]; exact c10 (by omega)
  · intro i hi hne
    by_cases e : i = k
    · subst e; exact ⟨C, by omega, by simp⟩
    · rw [f4 i hi e] at hne
      obtain ⟨q, q1, q2⟩ := c11 i hi hne
      exact ⟨q, by omega, by simp only [if_neg (show ¬ q = C by omega)]; exact q2⟩
  · intro i hi hne j hj
    by_cases e : i = k
    · subst e
      rw [f3, Int.toNat_natCast]
      exact ⟨fun z => by omega, fun _ => f7 j hj⟩
    · rw [f4 i hi e] at hne ⊢
      have d1 := (c6 i hi hne).1
      rw [f8 _ (by omega)]
      obtain ⟨y1, y2⟩ := c12 i hi hne j hj
      refine ⟨fun z => ?_, y2⟩
      obtain ⟨x1, x2⟩ := y1 z
      have v5 : vn (h (i + j)) < 500 := by
        rcases c5 i hi with q | ⟨-, q2, q3, q4⟩
        · exact absurd q hne
        · have y1 : so (mk (kd i) i) = kd i := so_mk (by omega) (by omega)
          have y2 : vn (mk (kd i) i) = i := by show (va _).toNat = _; rw [va_mk (by omega) (by omega)]; omega
          have y3 : isH (mk (kd i) i) := by unfold isH; rw [y1]; omega
          have y4 : GT n ow kd P (mk (kd i) i) := Or.inr ⟨y3, by rw [va_mk (by omega) (by omega)]; omega, by rw [y2]; exact q2, by rw [y2]; exact q3, by rw [y2, y1]⟩
          have y5 := (HP_bk g y3 y4).2 j z.2.1 hj
          rw [y2] at y5
          rcases y5 with ⟨r1, -⟩ | ⟨-, -, r3, -⟩
          · exact absurd z.2.2 r1
          · omega
      have ne : vn (h (i + j)) ≠ k := fun z2 => x1 (by rw [z2]; exact hm)
      refine ⟨by rw [f4 _ v5 ne]; exact x1, ?_⟩
      rw [x2]
      unfold fw
      rw [f4 _ v5 ne]
end
