set_option maxRecDepth 100000
theorem t_bits (t : Int64) : t.toBitVec = ((t.toBitVec.sshiftRight 32).setWidth 32 : BitVec 32) ++ (t.toBitVec.setWidth 32 : BitVec 32) := by
  ext i hi
  rw [BitVec.getElem_append]
  by_cases e : i < 32
  · rw [dif_pos e, BitVec.getElem_setWidth]
    exact (BitVec.getLsbD_eq_getElem hi).symm
  · rw [dif_neg e, BitVec.getElem_setWidth, BitVec.getLsbD_sshiftRight]
    have hi2 : i < 64 := hi
    have a1 : decide (64 ≤ i - 32) = false := decide_eq_false (by omega)
    rw [a1, if_pos (show 32 + (i - 32) < 64 by omega), show 32 + (i - 32) = i by omega]
    simp
    exact (BitVec.getLsbD_eq_getElem hi).symm
theorem t_ext {x y : Int64} (h1 : so x = so y) (h2 : va x = va y) : x = y := by
  have e1 := Int32.toInt_inj.mp h1
  have e2 := Int32.toInt_inj.mp h2
  have f1 : (x.toBitVec.sshiftRight 32).setWidth 32 = (y.toBitVec.sshiftRight 32).setWidth 32 := by rw [← so_bv, ← so_bv, e1]
  have f2 : x.toBitVec.setWidth 32 = y.toBitVec.setWidth 32 := by
    have e3 : x.toInt32.toBitVec = y.toInt32.toBitVec := by rw [e2]
    have g1 : ∀ z : Int64, z.toInt32.toBitVec = z.toBitVec.setWidth 32 := fun z => by
      show z.toBitVec.signExtend 32 = _
      rw [BitVec.signExtend_eq_setWidth_of_le _ (by decide)]
    rw [← g1, ← g1, e3]
  apply Int64.toBitVec_inj.mp
  rw [t_bits x, t_bits y, f1, f2]
section
variable {h d e : Nat → Int64} {n N b s0 U i : Nat} {ow kd bs : Nat → Nat} {Fv : Int64 → Int64 → Prop} {P : Int64 → Prop} {u v w : MS} {t x y : Int64} {src : Nat → Int64}
theorem CPc_grow {d2 : Nat → Int64} (c : CPc h n ow kd P d s0 U i src bs) (hi : i ≤ U) (hx : isH x) (gx : GT n ow kd P x) (e1 : ∀ j, j < blk h x → d2 (U + j) = h (vn x + j)) (e3 : ∀ k, s0 ≤ k → k < U → d2 k = d k) :
    CPc h n ow kd P d2 s0 (U + blk h x) i (fun k => if k = U then x else src k) (fun k => if U ≤ k then U else bs k) := by
  have hb := blk_pos (h := h) hx
  obtain ⟨c1, c2, c3⟩ := c
  have hxo : ∀ k, s0 ≤ k → k < U → xcO h (fun k => if k = U then x else src k) (fun k => if U ≤ k then U else bs k) k = xcO h src bs k := by
    intro k k1 k2
    unfold xcO
    have := (c2 k k1 k2).2.1
    simp only [if_neg (show ¬ U ≤ k by omega), if_neg (show ¬ bs k = U by omega)]
  have hxn : ∀ k, U ≤ k → xcO h (fun k => if k = U then x else src k) (fun k => if U ≤ k then U else bs k) k = h (vn x + (k - U)) := by
    intro k k1
    unfold xcO
    simp only [if_pos k1, if_true]
  refine ⟨by omega, fun k k1 k2 => ?_, fun k k1 k2 => ?_⟩
  · by_cases e : k < U
    · obtain ⟨a1, a2, a3, a4, a5, a6, a7, a8⟩ := c2 k k1 e
      simp only [if_neg (show ¬ U ≤ k by omega), if_neg (show ¬ U ≤ bs k by omega), if_neg (show ¬ bs k = U by omega)]
      refine ⟨a1, a2, a3, a4, a5, a6, by omega, fun j hj => ?_⟩
      rw [if_neg (by omega)]; exact a8 j hj
    · simp only [if_pos (show U ≤ k by omega), if_pos (Nat.le_refl U), if_true]
      exact ⟨c1, by omega, trivial, hx, gx, by omega, Nat.le_refl _, fun j hj => if_pos (by omega)⟩
  · by_cases e : k < U
    · rw [hxo k k1 e, e3 k k1 e]
      obtain ⟨q1, q2⟩ := c3 k k1 e
      refine ⟨q1, fun z => ⟨(q2 z).1, fun z2 => ?_⟩⟩
      obtain ⟨r1, b, r2, r3, r4, r5, r6⟩ := (q2 z).2 z2
      exact ⟨r1, b, r2, r3, by omega, by simp only [if_neg (show ¬ U ≤ b by omega)]; exact r5, by simp only [if_neg (show ¬ b = U by omega)]; exact r6⟩
    · rw [hxn k (by omega)]
      have := e1 (k - U) (by omega)
      rw [show U + (k - U) = k by omega] at this
      exact ⟨fun _ => this, fun _ => ⟨fun _ => this, fun z => by omega⟩⟩
theorem CPc_ptr {d2 : Nat → Int64} (c : CPc h n ow kd P d s0 U i src bs) (h1 : s0 ≤ i) (h2 : i < U) (hx : isH (d i)) {b : Nat} (hb1 : s0 ≤ b) (hb2 : b < U) (hb3 : bs b = b) (hb4 : src b = d i) (e2 : so (d2 i) = so (d i) ∧ va (d2 i) = ((b : Nat) : Int)) (e3 : ∀ k, s0 ≤ k → k < U → k ≠ i → d2 k = d k) : CPc h n ow kd P d2 s0 U (i + 1) src bs := by
  have hxe := CPc_at c h1 h2 hx
  obtain ⟨c1, c2, c3⟩ := c
  refine ⟨c1, c2, fun k k1 k2 => ?_⟩
  by_cases ei : k = i
  · subst ei
    rw [← hxe]
    exact ⟨fun z => absurd hx z, fun _ => ⟨fun z => by omega, fun _ => ⟨e2.1, b, e2.2, hb1, hb2, hb3, hb4⟩⟩⟩
  · rw [e3 k k1 k2 ei]
    exact ⟨(c3 k k1 k2).1, fun z => ⟨fun z2 => ((c3 k k1 k2).2 z).1 (by omega), fun z2 => ((c3 k k1 k2).2 z).2 (by omega)⟩⟩
def FWD (h : Nat → Int64) (n : Nat) (e : Nat → Int64) (U : Nat) (src : Nat → Int64) (bs : Nat → Nat) : Prop := (∀ b, b < U → bs b = b → so (e (vn (src b))) = 9 ∧ va (e (vn (src b))) = ((b : Nat) : Int)) ∧ ∀ c, c < n → (∀ b, b < U → bs b = b → vn (src b) ≠ c) → e c = h c
def MVD_c (U : Nat) (src : Nat → Int64) (bs : Nat → Nat) (k : Nat) : Prop := ∃ b, b < U ∧ bs b = b ∧ vn (src b) = k
def CNT (ow : Nat → Nat) (n U : Nat) (src : Nat → Int64) (bs : Nat → Nat) : Prop := ∃ S : Nat → Prop, ∃ _ : DecidablePred S, (∀ k, S k ↔ MVD_c U src bs k) ∧ U ≤ cnt S ow n
theorem no_mark (g : HPc h n ow kd Fv P) (hF : FVc Fv) (hP : ∀ t, P t → PT u t) (hx : isH x) (gx : GT n ow kd P x) : so (h (vn x)) ≠ 9 := by
  obtain ⟨b1, b2⟩ := HP_bkc g hx gx
  rcases hx with z | z | z
  · have := hF.1 _ _ (b1.2.2.1 z).2; omega
  · have := (b1.2.1 z).2; omega
  · have hb : blk h x = 2 := by unfold blk; rw [if_pos z]
    have hp : prt x = 0 := by unfold prt; rw [if_pos z]
    have := GT_so hP (b2 0 (by omega) (by omega))
    rw [Nat.add_zero] at this
    omega
theorem fwd_yes (g : HPc h n ow kd Fv P) (hF : FVc Fv) (hP : ∀ t, P t → PT u t) (f : FWD h n e U src bs) (c : CPc h n ow kd P d 0 U i src bs) (hx : isH x) (gx : GT n ow kd P x) (hm : so (e (vn x)) = 9) : ∃ b, b < U ∧ bs b = b ∧ src b = x ∧ va (e (vn x)) = ((b : Nat) : Int) := by
  have hn : vn x < n := by
    rcases gx with z | z
    · exact absurd hx z.1
    · exact z.2.2.1
  have : ¬ ∀ b, b < U → bs b = b → vn (src b) ≠ vn x := by
    intro z
    have := f.2 (vn x) hn z
    rw [this] at hm
    exact no_mark g hF hP hx gx hm
  have ⟨b, hb⟩ : ∃ b, b < U ∧ bs b = b ∧ vn (src b) = vn x := by
    by_cases e : ∃ b, b < U ∧ bs b = b ∧ vn (src b) = vn x
    · exact e
    · exact absurd (fun b b1 b2 b3 => e ⟨b, b1, b2, b3⟩) this
  obtain ⟨b1, b2, b3⟩ := hb
  refine ⟨b, b1, b2, ?_, ?_⟩
  · obtain ⟨a1, a2, a3, a4, a5, -⟩ := c.2.1 b (Nat.zero_le _) b1
    rw [b2] at a4 a5
    have kk : so (src b) = so x := by
      rcases gx with z | z
      · exact absurd hx z.1
      · rcases a5 with y | y
        · exact absurd a4 y.1
        · rw [← y.2.2.2.2, ← z.2.2.2.2, b3]
    have v1 : 0 ≤ va (src b) := by
      rcases a5 with y | y
      · exact absurd a4 y.1
      · exact y.2.1
    have v2 : 0 ≤ va x := by
      rcases gx with y | y
      · exact absurd hx y.1
      · exact y.2.1
    refine t_ext kk ?_
    rw [vn_e v1, vn_e v2, b3]
  · rw [← b3]; exact (f.1 b b1 b2).2
theorem fwd_no (g : HPc h n ow kd Fv P) (f : FWD h n e U src bs) (c : CPc h n ow kd P d 0 U i src bs) (hx : isH x) (gx : GT n ow kd P x) (hm : so (e (vn x)) ≠ 9) : (∀ j, j < blk h x → e (vn x + j) = h (vn x + j)) ∧ ¬ MVD_c U src bs (vn x) := by
  have hno : ¬ MVD_c U src bs (vn x) := by
    rintro ⟨b, b1, b2, b3⟩
    have := (f.1 b b1 b2).1
    rw [b3] at this
    exact hm this
  refine ⟨fun j hj => ?_, hno⟩
  obtain ⟨k1, -⟩ := HP_bkc g hx gx
  have hbl := k1.2.2.2.1
  refine f.2 _ (by omega) (fun b b1 b2 b3 => ?_)
  obtain ⟨a1, a2, a3, a4, a5, -⟩ := c.2.1 b (Nat.zero_le _) b1
  rw [b2] at a4 a5
  have o1 := k1.2.2.2.2.2 j hj
  have o2 : ow (vn (src b)) = vn (src b) := by
    rcases a5 with y | y
    · exact absurd a4 y.1
    · exact y.2.2.2.1
  rw [b3, o1] at o2
  exact hno ⟨b, b1, b2, by omega⟩
theorem CNT_add (g : HPc h n ow kd Fv P) (k : CNT ow n U src bs) (hx : isH x) (gx : GT n ow kd P x) (hno : ¬ MVD_c U src bs (vn x)) (hbs : ∀ b, b < U → bs b ≤ b) : CNT ow n (U + blk h x) (fun k => if k = U then x else src k) (fun k => if U ≤ k then U else bs k) ∧ U + blk h x ≤ n := by
  obtain ⟨S, dS, s1, s2⟩ := k
  obtain ⟨k1, -⟩ := HP_bkc g hx gx
  have hbl := k1.2.2.2.1
  have hb := blk_pos (h := h) hx
  have dS2 : DecidablePred (fun k => S k ∨ k = vn x) := fun k => by
    have := dS k
    exact inferInstanceAs (Decidable (S k ∨ k = vn x))
  have ca := @cnt_add S (fun k => S k ∨ k = vn x) dS dS2 ow (vn x) (blk h x) k1.2.2.2.2.2 (fun z => hno ((s1 _).mp z)) (fun i => Iff.rfl) n (by omega)
  have cl := @cnt_le (fun k => S k ∨ k = vn x) dS2 ow n
  refine ⟨⟨fun k => S k ∨ k = vn x, dS2, fun k => ⟨fun z => ?_, fun z => ?_⟩, by omega⟩, by omega⟩
  · rcases z with z | z
    · obtain ⟨b, b1, b2, b3⟩ := (s1 k).mp z
      exact ⟨b, by omega, by simp only [if_neg (show ¬ U ≤ b by omega)]; exact b2, by simp only [if_neg (show ¬ b = U by omega)]; exact b3⟩
    · exact ⟨U, by omega, by simp, by simp [z]⟩
  · obtain ⟨b, b1, b2, b3⟩ := z
    by_cases e : U ≤ b
    · simp only [if_pos e] at b2
      subst b2
      simp only [if_true] at b3
      exact Or.inr b3.symm
    · simp only [if_neg e] at b2
      simp only [if_neg (show ¬ b = U by omega)] at b3
      exact Or.inl ((s1 k).mpr ⟨b, by omega, b2, b3⟩)
theorem FWD_add {e2 : Nat → Int64} (f : FWD h n e U src bs) (hno : ¬ MVD_c U src bs (vn x)) (h1 : so (e2 (vn x)) = 9 ∧ va (e2 (vn x)) = ((U : Nat) : Int)) (h2 : ∀ k, k ≠ vn x → e2 k = e k) {m : Nat} (hm : 0 < m) (hU : ∀ b, b < U + m → (if U ≤ b then U else bs b) = b → b ≤ U) : FWD h n e2 (U + m) (fun k => if k = U then x else src k) (fun k => if U ≤ k then U else bs k) := by
  refine ⟨fun b b1 b2 => ?_, fun c c1 c2 => ?_⟩
  · by_cases e3 : U ≤ b
    · simp only [if_pos e3] at b2
      subst b2
      simp only [if_true]
      exact h1
    · simp only [if_neg e3] at b2
      simp only [if_neg (show ¬ b = U by omega)]
      rw [h2 _ (fun z => hno ⟨b, by omega, b2, z⟩)]
      exact f.1 b (by omega) b2
  · have hcx : c ≠ vn x := by
      have := c2 U (by omega) (by simp)
      simp only [if_true] at this
      exact fun z => this z.symm
    rw [h2 c hcx]
    refine f.2 c c1 (fun b b1 b2 b3 => ?_)
    have := c2 b (by omega) (by simp only [if_neg (show ¬ U ≤ b by omega)]; exact b2)
    simp only [if_neg (show ¬ b = U by omega)] at this
    exact this b3
def RTO (U : Nat) (src : Nat → Int64) (bs : Nat → Nat) (o r : Int64) : Prop := (¬ isH o ∧ r = o) ∨ (isH o ∧ so r = so o ∧ ∃ b, va r = ((b : Nat) : Int) ∧ b < U ∧ bs b = b ∧ src b = o)
theorem RTO_add {o r : Int64} {m : Nat} (hr : RTO U src bs o r) : RTO (U + m) (fun k => if k = U then x else src k) (fun k => if U ≤ k then U else bs k) o r := by
  rcases hr with z | ⟨z1, z5, b, z2, z3, z4, z6⟩
  · exact Or.inl z
  · exact Or.inr ⟨z1, z5, b, z2, by omega, by simp only [if_neg (show ¬ U ≤ b by omega)]; exact z4, by simp only [if_neg (show ¬ b = U by omega)]; exact z6⟩
theorem RTO_sz {o r : Int64} {owd kdd : Nat → Nat} (g : HPc h n ow kd Fv P) (hF : FVc Fv) (c : CPc h n ow kd P d 0 U U src bs) (hr : RTO U src bs o r) {f s : Nat} (z : SZc h n ow kd Fv P f o s) : SZc d U (owN 0 owd bs) (kdN 0 kdd src) Fv P f r s := by
  rcases hr with ⟨z1, rfl⟩ | ⟨z1, z5, b, z2, z3, z4, z6⟩
  · cases f with
    | zero => exact z.elim
    | succ f =>
      rcases z with y | y
      · exact Or.inl y
      · exact absurd y.1 z1
  · exact (CPc_sz (owd := owd) (kdd := kdd) g hF c f b r s (Nat.zero_le _) z3 z4 (by rw [z6]; exact z5) z2 (by rw [z6]; exact z)).2.2
theorem RTO_tl {o r : Int64} (c : CPc h n ow kd P d 0 U U src bs) (hr : RTO U src bs o r) : ∀ k, (∀ j, j < k → so (tlc h o j) = 7) → RTO U src bs (tlc h o k) (tlc d r k)
  | 0, _ => hr
  | k + 1, hk => by
    have e7 := hk k (by omega)
    rcases RTO_tl c hr k (fun j hj => hk j (by omega)) with ⟨z, -⟩ | ⟨z1, z5, b, z2, z3, z4, z6⟩
    · exact absurd (Or.inr (Or.inr e7)) z
    · show RTO U src bs (h (vn (tlc h o k) + 1)) (d (vn (tlc d r k) + 1))
      have hv : vn (tlc d r k) = b := by unfold vn; rw [z2]; exact Int.toNat_natCast b
      obtain ⟨c1, c2, c3⟩ := c
      obtain ⟨a1, a2, a3, a4, a5, a6, a7, a8⟩ := c2 b (by omega) z3
      rw [z4, z6] at a4 a5 a6 a7 a8
      have bk : blk h (tlc h o k) = 2 := by unfold blk; rw [if_pos e7]
      rw [bk] at a6 a7 a8
      have hbs := a8 1 (by omega)
      have hxe : xcO h src bs (b + 1) = h (vn (tlc h o k) + 1) := by unfold xcO; rw [hbs, z6, show b + 1 - b = 1 by omega]
      obtain ⟨q1, q2⟩ := c3 (b + 1) (by omega) (by omega)
      rw [hxe] at q1 q2
      rw [hv]
      by_cases hx : isH (h (vn (tlc h o k) + 1))
      · obtain ⟨r1, b2, r2, r3, r4, r5, r6⟩ := (q2 hx).2 (by omega)
        exact Or.inr ⟨hx, r1, b2, r2, r4, r5, r6⟩
      · exact Or.inl ⟨hx, q1 hx⟩
theorem RTO_so {o r : Int64} (hr : RTO U src bs o r) : so r = so o := by
  rcases hr with ⟨-, rfl⟩ | ⟨-, z, -⟩
  · rfl
  · exact z
theorem HP_0 {owd kdd : Nat → Nat} : HPc d 0 owd kdd Fv P := by
  intro t ht gt
  rcases gt with z | z
  · exact absurd ht z.1
  · have := z.2.2.1; omega
end
