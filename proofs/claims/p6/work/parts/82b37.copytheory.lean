set_option maxRecDepth 100000
def xcO (h : Nat → Int64) (src : Nat → Int64) (bs : Nat → Nat) (c : Nat) : Int64 := h (vn (src (bs c)) + (c - bs c))
def CPc (h : Nat → Int64) (n : Nat) (ow kd : Nat → Nat) (P : Int64 → Prop) (d : Nat → Int64) (s0 U i : Nat) (src : Nat → Int64) (bs : Nat → Nat) : Prop :=
  s0 ≤ U ∧ (∀ c, s0 ≤ c → c < U → s0 ≤ bs c ∧ bs c ≤ c ∧ bs (bs c) = bs c ∧ isH (src (bs c)) ∧ GT n ow kd P (src (bs c)) ∧ c < bs c + blk h (src (bs c)) ∧ bs c + blk h (src (bs c)) ≤ U ∧ ∀ j, j < blk h (src (bs c)) → bs (bs c + j) = bs c) ∧
  ∀ c, s0 ≤ c → c < U → (¬ isH (xcO h src bs c) → d c = xcO h src bs c) ∧ (isH (xcO h src bs c) → (i ≤ c → d c = xcO h src bs c) ∧ (c < i → so (d c) = so (xcO h src bs c) ∧ ∃ b, va (d c) = ((b : Nat) : Int) ∧ s0 ≤ b ∧ b < U ∧ bs b = b ∧ src b = xcO h src bs c))
section
variable {h d : Nat → Int64} {n N b s0 U i : Nat} {ow kd bs : Nat → Nat} {Fv : Int64 → Int64 → Prop} {P : Int64 → Prop} {u v w : MS} {t x y : Int64} {src : Nat → Int64}
theorem BK_agree {h2 : Nat → Int64} (e : ∀ i, i < n → h2 i = h i) (z : isH t) (k : BKc h n ow kd Fv t) : BKc h2 n ow kd Fv t ∧ blk h2 t = blk h t := by
  have hb := blk_pos (h := h) z
  obtain ⟨k1, k2, k3, k4, k5, k6⟩ := k
  have e0 : h2 (vn t) = h (vn t) := e _ (by omega)
  have e1 : so t = 3 → h2 (vn t + 1) = h (vn t + 1) := fun z3 => e _ (by
    have : blk h t = 2 + vn (h (vn t + 1)) := by unfold blk; rw [if_neg (by omega), if_neg (by omega), if_pos z3]
    omega)
  have eb : blk h2 t = blk h t := by
    unfold blk
    rw [e0]
    by_cases z3 : so t = 3
    · rw [e1 z3]
    · rw [if_neg z3, if_neg z3]
  refine ⟨⟨k1, fun y => by rw [e0]; exact k2 y, fun y => by rw [e0, e1 y]; exact k3 y, by rw [eb]; exact k4, k5, by rw [eb]; exact k6⟩, eb⟩
theorem CPc_next (c : CPc h n ow kd P d s0 U i src bs) (h1 : s0 ≤ i) (h2 : i < U) (hx : ¬ isH (d i)) : CPc h n ow kd P d s0 U (i + 1) src bs := by
  obtain ⟨c1, c2, c3⟩ := c
  refine ⟨c1, c2, fun c a1 a2 => ⟨(c3 c a1 a2).1, fun z => ⟨fun a3 => ((c3 c a1 a2).2 z).1 (by omega), fun a3 => ?_⟩⟩⟩
  by_cases e : c = i
  · subst e
    have := ((c3 c a1 a2).2 z).1 (Nat.le_refl _)
    rw [this] at hx
    exact absurd z hx
  · exact ((c3 c a1 a2).2 z).2 (by omega)
theorem CPc_at (c : CPc h n ow kd P d s0 U i src bs) (h1 : s0 ≤ i) (h2 : i < U) (hx : isH (d i)) : d i = xcO h src bs i := by
  obtain ⟨c1, c2, c3⟩ := c
  by_cases z : isH (xcO h src bs i)
  · exact ((c3 i h1 h2).2 z).1 (Nat.le_refl _)
  · exact (c3 i h1 h2).1 z
theorem xcO_gt (g : HPc h n ow kd Fv P) (hF : FVc Fv) (c : CPc h n ow kd P d s0 U i src bs) {k : Nat} (h1 : s0 ≤ k) (h2 : k < U) (z : isH (xcO h src bs k)) : GT n ow kd P (xcO h src bs k) := by
  obtain ⟨c1, c2, c3⟩ := c
  obtain ⟨a1, a2, a3, a4, a5, a6, a7, a8⟩ := c2 k h1 h2
  obtain ⟨b1, b2⟩ := HP_bkc g a4 a5
  have hp : prt (src (bs k)) ≤ k - bs k := by
    by_cases e : prt (src (bs k)) ≤ k - bs k
    · exact e
    · exact absurd z (head_nh b1 a4 hF.1 (by omega))
  exact b2 _ hp (by omega)
theorem CPc_add {d2 : Nat → Int64} (g : HPc h n ow kd Fv P) (hF : FVc Fv) (c : CPc h n ow kd P d s0 U i src bs) (h1 : s0 ≤ i) (h2 : i < U) (hx : isH (d i)) (e1 : ∀ j, j < blk h (d i) → d2 (U + j) = h (vn (d i) + j)) (e2 : so (d2 i) = so (d i) ∧ va (d2 i) = ((U : Nat) : Int)) (e3 : ∀ k, s0 ≤ k → k < U → k ≠ i → d2 k = d k) :
    CPc h n ow kd P d2 s0 (U + blk h (d i)) (i + 1) (fun k => if k = U then d i else src k) (fun k => if U ≤ k then U else bs k) := by
  have hxe := CPc_at c h1 h2 hx
  have gx : GT n ow kd P (d i) := by rw [hxe]; exact xcO_gt g hF c h1 h2 (by rw [← hxe]; exact hx)
  have hb := blk_pos (h := h) hx
  obtain ⟨c1, c2, c3⟩ := c
  have hxo : ∀ k, s0 ≤ k → k < U → xcO h (fun k => if k = U then d i else src k) (fun k => if U ≤ k then U else bs k) k = xcO h src bs k := by
    intro k k1 k2
    unfold xcO
    have := (c2 k k1 k2).2.1
    simp only [if_neg (show ¬ U ≤ k by omega), if_neg (show ¬ bs k = U by omega)]
  have hxn : ∀ k, U ≤ k → xcO h (fun k => if k = U then d i else src k) (fun k => if U ≤ k then U else bs k) k = h (vn (d i) + (k - U)) := by
    intro k k1
    unfold xcO
    simp only [if_pos k1, if_true]
  refine ⟨by omega, fun k k1 k2 => ?_, fun k k1 k2 => ?_⟩
  · by_cases e : k < U
    · obtain ⟨a1, a2, a3, a4, a5, a6, a7, a8⟩ := c2 k k1 e
      simp only [if_neg (show ¬ U ≤ k by omega), if_neg (show ¬ U ≤ bs k by omega), if_neg (show ¬ bs k = U by omega)]
      refine ⟨a1, a2, a3, a4, a5, a6, by omega, fun j hj => ?_⟩
      rw [if_neg (by omega)]; exact a8 j hj
    · simp only [if_pos (show U ≤ k by omega), if_pos (Nat.le_refl U), if_true]
      exact ⟨c1, by omega, trivial, hx, gx, by omega, Nat.le_refl _, fun j hj => if_pos (by omega)⟩
  · by_cases e : k < U
    · rw [hxo k k1 e]
      obtain ⟨q1, q2⟩ := c3 k k1 e
      by_cases ei : k = i
      · subst ei
        rw [← hxe]
        refine ⟨fun z => absurd hx z, fun _ => ⟨fun z => by omega, fun _ => ⟨e2.1, U, e2.2, c1, by omega, ?_, ?_⟩⟩⟩
        · exact if_pos (Nat.le_refl _)
        · exact if_pos rfl
      · rw [e3 k k1 e ei]
        refine ⟨q1, fun z => ⟨fun z2 => (q2 z).1 (by omega), fun z2 => ?_⟩⟩
        obtain ⟨r1, b, r2, r3, r4, r5, r6⟩ := (q2 z).2 (by omega)
        exact ⟨r1, b, r2, r3, by omega, by simp only [if_neg (show ¬ U ≤ b by omega)]; exact r5, by simp only [if_neg (show ¬ b = U by omega)]; exact r6⟩
    · rw [hxn k (by omega)]
      have := e1 (k - U) (by omega)
      rw [show U + (k - U) = k by omega] at this
      exact ⟨fun _ => this, fun _ => ⟨fun _ => this, fun z => by omega⟩⟩
theorem CPc_root (hx : isH t) (gx : GT n ow kd P t) (e1 : ∀ j, j < blk h t → d (s0 + j) = h (vn t + j)) : CPc h n ow kd P d s0 (s0 + blk h t) s0 (fun _ => t) (fun _ => s0) := by
  refine ⟨by omega, fun k k1 k2 => ⟨Nat.le_refl _, k1, rfl, hx, gx, by omega, Nat.le_refl _, fun _ _ => rfl⟩, fun k k1 k2 => ?_⟩
  have := e1 (k - s0) (by omega)
  rw [show s0 + (k - s0) = k by omega] at this
  have e : xcO h (fun _ => t) (fun _ => s0) k = h (vn t + (k - s0)) := rfl
  rw [e]
  exact ⟨fun _ => this, fun _ => ⟨fun _ => this, fun z => by omega⟩⟩
def owN (s0 : Nat) (owd bs : Nat → Nat) : Nat → Nat := fun k => if k < s0 then owd k else bs k
def kdN (s0 : Nat) (kdd : Nat → Nat) (src : Nat → Int64) : Nat → Nat := fun k => if k < s0 then kdd k else (so (src k)).toNat
theorem so_nat (z : isH t) : (((so t).toNat : Nat) : Int) = so t := by unfold isH at z; omega
theorem CPc_sz {owd kdd : Nat → Nat} (g : HPc h n ow kd Fv P) (hF : FVc Fv) (c : CPc h n ow kd P d s0 U U src bs) : ∀ (f : Nat) (k : Nat) (p : Int64) (s : Nat), s0 ≤ k → k < U → bs k = k → so p = so (src k) → va p = ((k : Nat) : Int) → SZc h n ow kd Fv P f (src k) s → BKc d U (owN s0 owd bs) (kdN s0 kdd src) Fv p ∧ blk d p = blk h (src k) ∧ SZc d U (owN s0 owd bs) (kdN s0 kdd src) Fv P f p s := by
  have bk : ∀ (k : Nat) (p : Int64), s0 ≤ k → k < U → bs k = k → so p = so (src k) → va p = ((k : Nat) : Int) → BKc d U (owN s0 owd bs) (kdN s0 kdd src) Fv p ∧ blk d p = blk h (src k) := by
    intro k p k1 k2 k3 p1 p2
    obtain ⟨c1, c2, c3⟩ := c
    obtain ⟨a1, a2, a3, a4, a5, a6, a7, a8⟩ := c2 k k1 k2
    rw [k3] at a4 a5 a6 a7 a8
    obtain ⟨⟨b1, b2, b3, b4, b5, b6⟩, b7⟩ := HP_bkc g a4 a5
    have hv : vn p = k := by unfold vn; rw [p2]; exact Int.toNat_natCast k
    have hc : ∀ j, j < prt (src k) → d (k + j) = h (vn (src k) + j) := by
      intro j hj
      have hp := prt_le (h := h) a4
      have hbs := a8 j (by omega)
      have hxe : xcO h src bs (k + j) = h (vn (src k) + j) := by unfold xcO; rw [hbs, show k + j - k = j by omega]
      have hn := head_nh ⟨b1, b2, b3, b4, b5, b6⟩ a4 hF.1 hj
      rw [← hxe] at hn ⊢
      exact (c3 (k + j) (by omega) (by omega)).1 hn
    have eb : blk d p = blk h (src k) := by
      unfold blk
      rw [p1, hv]
      rcases a4 with z | z | z
      · rw [if_neg (by omega), if_neg (by omega), if_pos z, if_neg (by omega), if_neg (by omega), if_pos z, hc 1 (by unfold prt; rw [if_neg (by omega), if_neg (by omega)]; omega)]
      · have := hc 0 (by unfold prt; rw [if_neg (by omega), if_pos z]; omega)
        rw [Nat.add_zero, Nat.add_zero] at this
        rw [if_neg (by omega), if_pos z, if_neg (by omega), if_pos z, this]
      · rw [if_pos z, if_pos z]
    refine ⟨⟨by omega, fun z => ?_, fun z => ?_, by rw [hv, eb]; exact a7, ?_, fun j hj => ?_⟩, eb⟩
    · rw [p1] at z
      have := hc 0 (by unfold prt; rw [if_neg (by omega), if_pos z]; omega)
      rw [Nat.add_zero, Nat.add_zero] at this
      rw [hv, this]; exact b2 z
    · rw [p1] at z
      have e0 := hc 0 (by unfold prt; rw [if_neg (by omega), if_neg (by omega)]; omega)
      have e1 := hc 1 (by unfold prt; rw [if_neg (by omega), if_neg (by omega)]; omega)
      rw [Nat.add_zero, Nat.add_zero] at e0
      rw [hv, e0, e1]; exact b3 z
    · rw [hv, p1]
      unfold kdN
      rw [if_neg (by omega)]
      exact so_nat a4
    · rw [hv]
      rw [eb] at hj
      unfold owN
      rw [if_neg (by omega)]
      exact a8 j hj
  intro f
  induction f with
  | zero => intro k p s _ _ _ _ _ z; exact z.elim
  | succ f ih =>
    intro k p s k1 k2 k3 p1 p2 z
    obtain ⟨B1, B2⟩ := bk k p k1 k2 k3 p1 p2
    refine ⟨B1, B2, ?_⟩
    have hs : isH (src k) := by have := (c.2.1 k k1 k2).2.2.2.1; rw [k3] at this; exact this
    have hH : isH p := by unfold isH; rw [p1]; exact hs
    rcases z with z | ⟨z1, z2, cc, z3, z4⟩
    · exact absurd hs z.1
    · have hpp : prt p = prt (src k) := by unfold prt; rw [p1]
      have hv : vn p = k := by unfold vn; rw [p2]; exact Int.toNat_natCast k
      refine Or.inr ⟨hH, B1, cc, fun j j1 j2 => ?_, by rw [B2, hpp]; exact z4⟩
      rw [hpp] at j1
      rw [B2] at j2
      have zj := z3 j j1 j2
      obtain ⟨a1, a2, a3, a4, a5, a6, a7, a8⟩ := c.2.1 k k1 k2
      rw [k3] at a4 a5 a6 a7 a8
      have hbs := a8 j j2
      have hxe : xcO h src bs (k + j) = h (vn (src k) + j) := by unfold xcO; rw [hbs, show k + j - k = j by omega]
      obtain ⟨q1, q2⟩ := c.2.2 (k + j) (by omega) (by omega)
      rw [hv]
      rw [hxe] at q1 q2
      by_cases hx : isH (h (vn (src k) + j))
      · obtain ⟨r1, b, r2, r3, r4, r5, r6⟩ := (q2 hx).2 (by omega)
        exact (ih b (d (k + j)) (cc j) r3 r4 r5 (by rw [r1, r6]) r2 (by rw [r6]; exact zj)).2.2
      · rw [q1 hx]
        cases f with
        | zero => exact zj.elim
        | succ f =>
          rcases zj with zj | zj
          · exact Or.inl zj
          · exact absurd zj.1 hx
theorem CPc_hp {d0 : Nat → Int64} {owd kdd : Nat → Nat} (g : HPc h n ow kd Fv P) (hF : FVc Fv) (c : CPc h n ow kd P d s0 U U src bs) (gd : HPc d0 s0 owd kdd Fv P) (e0 : ∀ k, k < s0 → d k = d0 k) : HPc d U (owN s0 owd bs) (kdN s0 kdd src) Fv P ∧ (∀ t, GT s0 owd kdd P t → GT U (owN s0 owd bs) (kdN s0 kdd src) P t) := by
  have hU := c.1
  have lift : ∀ f t s, SZc d0 s0 owd kdd Fv P f t s → SZc d U (owN s0 owd bs) (kdN s0 kdd src) Fv P f t s := fun f t s z => SZ_extc hU (fun i hi => e0 i hi) (fun i hi => if_pos hi) (fun i hi => if_pos hi) (fun _ _ q => q) (fun _ q => q) z
  refine ⟨fun t ht gt => ?_, fun t gt => ?_⟩
  · rcases gt with z | ⟨z1, z2, z3, z4, z5⟩
    · exact absurd ht z.1
    · by_cases e : vn t < s0
      · have z4' : owd (vn t) = vn t := by unfold owN at z4; rw [if_pos e] at z4; exact z4
        have z5' : (kdd (vn t) : Int) = so t := by unfold kdN at z5; rw [if_pos e] at z5; exact z5
        obtain ⟨f, s, y1, y2⟩ := gd t ht (Or.inr ⟨z1, z2, e, z4', z5'⟩)
        refine ⟨f, s, lift f t s y1, fun hs => ?_⟩
        obtain ⟨w1, w2, w3⟩ := y2 hs
        obtain ⟨f2, cc, B, -, -⟩ := SZ_blkc y1 ht
        obtain ⟨-, eb⟩ := BK_agree (h2 := d) (fun i hi => e0 i hi) ht B
        have hb4 := B.2.2.2.1
        exact ⟨w1, by rw [eb]; exact w2, by rw [e0 _ (by omega)]; exact w3⟩
      · have z4' : bs (vn t) = vn t := by unfold owN at z4; rw [if_neg e] at z4; exact z4
        have z5' : (((so (src (vn t))).toNat : Nat) : Int) = so t := by unfold kdN at z5; rw [if_neg e] at z5; exact z5
        obtain ⟨a1, a2, a3, a4, a5, a6, a7, a8⟩ := c.2.1 (vn t) (by omega) z3
        rw [z4'] at a4 a5 a6 a7 a8
        rw [so_nat a4] at z5'
        obtain ⟨f, s, y1, y2⟩ := g (src (vn t)) a4 a5
        obtain ⟨B1, B2, B3⟩ := CPc_sz (owd := owd) (kdd := kdd) g hF c f (vn t) t s (by omega) z3 z4' z5'.symm (vn_e z2) y1
        refine ⟨f, s, B3, fun hs => ?_⟩
        obtain ⟨w1, w2, w3⟩ := y2 hs
        refine ⟨by omega, by rw [B2]; exact w2, ?_⟩
        have hbs := a8 1 (by omega)
        have hxe : xcO h src bs (vn t + 1) = h (vn (src (vn t)) + 1) := by unfold xcO; rw [hbs, show vn t + 1 - vn t = 1 by omega]
        have := (c.2.2 (vn t + 1) (by omega) (by omega)).1
        rw [hxe] at this
        rw [this w3]; exact w3
  · rcases gt with z | ⟨z1, z2, z3, z4, z5⟩
    · exact Or.inl z
    · exact Or.inr ⟨z1, z2, by omega, by unfold owN; rw [if_pos z3]; exact z4, by unfold kdN; rw [if_pos z3]; exact z5⟩
end
