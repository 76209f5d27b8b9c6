/-! the order of terms, both sides -/
set_option maxRecDepth 100000
def SGN (r s : Int32) : Prop := (r < 0 ↔ s < 0) ∧ (r = 0 ↔ s = 0)
section
variable {α β : Type} {R : MS → α → MS → β → Prop} {a p q : Option (MS × α)} {b x y : Option (MS × β)} {i j i' j' : Int}
theorem l_le (hi : RG i) (hj : RG j) (h1 : i ≤ j → PP R p b) (h2 : ¬ i ≤ j → PP R q b) : PP R (br (decide (I i ≤ I j)) p q) b := by
  rw [decI hi.1 hi.2 hj.1 hj.2]
  exact l_br (fun z => h1 (of_decide_eq_true z)) (fun z => h2 (of_decide_eq_false z))
theorem l_less (hi : RG i) (hj : RG j) (h1 : i < j → PP R p b) (h2 : ¬ i < j → PP R q b) : PP R (br (decide (I i < I j)) p q) b := by
  rw [decL hi.1 hi.2 hj.1 hj.2]
  exact l_br (fun z => h1 (of_decide_eq_true z)) (fun z => h2 (of_decide_eq_false z))
theorem l_eq (hi : RG i) (hj : RG j) (h1 : i = j → PP R p b) (h2 : ¬ i = j → PP R q b) : PP R (br (decide (I i = I j)) p q) b := by
  rw [decE hi.1 hi.2 hj.1 hj.2]
  exact l_br (fun z => h1 (of_decide_eq_true z)) (fun z => h2 (of_decide_eq_false z))
theorem r_le (hi : RG i) (hj : RG j) (h1 : i ≤ j → PP R a x) (h2 : ¬ i ≤ j → PP R a y) : PP R a (br (decide (I i ≤ I j)) x y) := by
  rw [decI hi.1 hi.2 hj.1 hj.2]
  exact r_br (fun z => h1 (of_decide_eq_true z)) (fun z => h2 (of_decide_eq_false z))
theorem r_less (hi : RG i) (hj : RG j) (h1 : i < j → PP R a x) (h2 : ¬ i < j → PP R a y) : PP R a (br (decide (I i < I j)) x y) := by
  rw [decL hi.1 hi.2 hj.1 hj.2]
  exact r_br (fun z => h1 (of_decide_eq_true z)) (fun z => h2 (of_decide_eq_false z))
theorem r_eq (hi : RG i) (hj : RG j) (h1 : i = j → PP R a x) (h2 : ¬ i = j → PP R a y) : PP R a (br (decide (I i = I j)) x y) := by
  rw [decE hi.1 hi.2 hj.1 hj.2]
  exact r_br (fun z => h1 (of_decide_eq_true z)) (fun z => h2 (of_decide_eq_false z))
/-- an index is in range, as the program goes on -/
theorem l_in {n : Nat} (hi : RG i) (h : 0 ≤ i ∧ i < n → PP R p b) : PP R (ck (inb (I i) n) p) b := l_ck (fun z => h ((I_inb hi.1 hi.2).mp z))
theorem r_in {n : Nat} (hi : RG i) (h : 0 ≤ i ∧ i < n → PP R a x) : PP R a (ck (inb (I i) n) x) := r_ck (fun z => h ((I_inb hi.1 hi.2).mp z))
theorem pp_pl {Q : MS → α → Prop} (h : PP R a b) (k : PK Q a) : PP (fun m z w r => R m z w r ∧ Q m z) a b := fun m z w r e1 e2 => ⟨h m z w r e1 e2, k m z e1⟩
theorem pp_pr {Q : MS → β → Prop} (h : PP R a b) (k : PK Q b) : PP (fun m z w r => R m z w r ∧ Q w r) a b := fun m z w r e1 e2 => ⟨h m z w r e1 e2, k w r e2⟩
end
theorem rgN {n : Nat} (h : n ≤ 2000000000) : RG ((n : Nat) : Int) := ⟨by omega, by omega⟩
theorem SGN_i {a c : Int} (ha : RG a) (hc : RG c) (h1 : a < 0 ↔ c < 0) (h2 : a = 0 ↔ c = 0) : SGN (I a) (I c) := by
  unfold SGN
  rw [lit0, I_lt ha.1 ha.2 (by decide) (by decide), I_lt hc.1 hc.2 (by decide) (by decide), I_eq ha.1 ha.2 (by decide) (by decide), I_eq hc.1 hc.2 (by decide) (by decide)]
  exact ⟨h1, h2⟩
/-- how two numbers compare -/
def cmpZ (a c : Int) : Int := if a < c then -1 else if a = c then 0 else 1
theorem cmpZ_r {a c : Int} : RG (cmpZ a c) := by
  unfold cmpZ RG
  split
  · omega
  · split <;> omega
theorem cmpZ_0 {a c : Int} : cmpZ a c = 0 ↔ a = c := by
  unfold cmpZ
  split
  · omega
  · split <;> omega
theorem cmpZ_n {a c : Int} : cmpZ a c < 0 ↔ a < c := by
  unfold cmpZ
  split
  · omega
  · split <;> omega
section
variable {N : Nat} {m w u : MS}
theorem cmp_l {a c : Int64} : fm_M_compare N u a c = some (u, I (cmpZ a.toInt c.toInt)) := by
  unfold fm_M_compare fb_M_compare_0 fb_M_compare_21 lg_cmp cmpZ
  by_cases h1 : a > c
  · have g : c.toInt < a.toInt := Int64.lt_iff_toInt_lt.mp h1
    rw [if_pos h1, if_neg (by omega), if_neg (by omega)]
    rfl
  · rw [if_neg h1]
    have g : ¬ c.toInt < a.toInt := fun z => h1 (Int64.lt_iff_toInt_lt.mpr z)
    by_cases h2 : a = c
    · subst h2
      rw [if_pos rfl, if_neg (by omega), if_pos rfl]
      rfl
    · have g2 : ¬ a.toInt = c.toInt := fun z => h2 (Int64.toInt_inj.mp z)
      rw [if_neg h2, if_pos (by omega)]
      rfl
theorem cmp_i {a c : Int} (ha : RG a) (hc : RG c) : fm_M_compare N u (I a).toInt64 (I c).toInt64 = some (u, I (cmpZ a c)) := by
  rw [cmp_l, Int32.toInt_toInt64, Int32.toInt_toInt64, I_ti ha.1 ha.2, I_ti hc.1 hc.2]
theorem cmp_c {a c : Int} (ha : RG a) (hc : RG c) : hm_JI_compare N u (I a) (I c) = some (u, I (cmpZ a c)) := by
  unfold hm_JI_compare hb_JI_compare_0 hb_JI_compare_19 cmpZ
  rw [decI hc.1 hc.2 ha.1 ha.2, decE ha.1 ha.2 hc.1 hc.2]
  by_cases h : a < c
  · rw [decide_eq_false (by omega), br_f, if_pos h]
    rfl
  · rw [decide_eq_true (by omega), br_t, if_neg h]
    by_cases h2 : a = c
    · rw [decide_eq_true h2, br_t, if_pos h2]
      rfl
    · rw [decide_eq_false h2, br_f, if_neg h2]
      rfl
/-! texts of atoms -/
theorem faM {fa : Nat → Nat} {na : Nat} (h : ∀ j, j < na → fa j ≤ fa (j + 1)) : ∀ {i j : Nat}, i ≤ j → j ≤ na → fa i ≤ fa j := by
  intro i j hij hj
  induction hij with
  | refl => exact Nat.le_refl _
  | @step k hs ih =>
    have := ih (by omega)
    have := h k (by omega)
    show fa i ≤ fa (k + 1)
    omega
theorem at_pp {fa : Nat → Nat} {na x y : Nat} (hA : ATf m w fa na) (hx : x < na) (hy : y < na) : ∀ (f g k : Nat), k ≤ 5000 → PP (fun m2 r w2 s => (m2 = m ∧ w2 = w) ∧ SGN r s) (hg_Wo_order N f m 1 (I (x : Nat)) (I (y : Nat)) (I ((fa (x + 1) : Nat) - (fa x : Nat) : Int)) (I ((fa (y + 1) : Nat) - (fa y : Nat) : Int)) (I (k : Nat))) (gg_M_orderAtoms N g w (I (x : Nat)) (I (y : Nat)) (I ((fa (x + 1) : Nat) - (fa x : Nat) : Int)) (I ((fa (y + 1) : Nat) - (fa y : Nat) : Int)) (I (k : Nat))) := by
  obtain ⟨⟨-, c2, c3, c4, c5⟩, ⟨-, w2⟩, e⟩ := hA
  have x1 := c3 x hx
  have y1 := c3 y hy
  have x2 := c4 (x + 1) (by omega)
  have y2 := c4 (y + 1) (by omega)
  have x3 := faM c3 (i := x + 1) (j := na) (by omega) (Nat.le_refl _)
  have y3 := faM c3 (i := y + 1) (j := na) (by omega) (Nat.le_refl _)
  intro f
  induction f with
  | zero => intro g k _; exact pp_nl
  | succ f ih =>
    intro g k hk
    cases g with
    | zero => exact pp_nr
    | succ g =>
      show PP _ (hb_Wo_order_36 N (hg_Wo_order N f) m 1 (I (x : Nat)) (I (y : Nat)) (I ((fa (x + 1) : Nat) - (fa x : Nat) : Int)) (I ((fa (y + 1) : Nat) - (fa y : Nat) : Int)) (I (k : Nat))) (fb_M_orderAtoms_36 N (gg_M_orderAtoms N g) w (I (x : Nat)) (I (y : Nat)) (I ((fa (x + 1) : Nat) - (fa x : Nat) : Int)) (I ((fa (y + 1) : Nat) - (fa y : Nat) : Int)) (I (k : Nat)))
      have fin : PP (fun m2 r w2 s => (m2 = m ∧ w2 = w) ∧ SGN r s) (hb_Wo_order_94 N (hg_Wo_order N f) m (I ((fa (x + 1) : Nat) - (fa x : Nat) : Int)) (I ((fa (y + 1) : Nat) - (fa y : Nat) : Int))) (fb_M_orderAtoms_102 N (gg_M_orderAtoms N g) w (I ((fa (x + 1) : Nat) - (fa x : Nat) : Int)) (I ((fa (y + 1) : Nat) - (fa y : Nat) : Int))) := by
        unfold hb_Wo_order_94 fb_M_orderAtoms_102
        rw [cmp_i ⟨by omega, by omega⟩ ⟨by omega, by omega⟩, bnd_so, I_sub]
        exact pp_end ⟨⟨rfl, rfl⟩, SGN_i ⟨by omega, by omega⟩ cmpZ_r (by rw [cmpZ_n]; omega) (by rw [cmpZ_0]; omega)⟩
      unfold hb_Wo_order_36 fb_M_orderAtoms_36
      refine l_le ⟨by omega, by omega⟩ (rgN (by omega)) (fun z => ?_) (fun z => ?_)
      · rw [decI (by omega) (by omega) (by omega) (by omega), decide_eq_true z, br_t]
        exact fin
      rw [decI (x := (fa (x + 1) : Nat) - (fa x : Nat)) (by omega) (by omega) (by omega) (by omega), decide_eq_false z, br_f]
      refine l_le ⟨by omega, by omega⟩ (rgN (by omega)) (fun z2 => ?_) (fun z2 => ?_)
      · rw [decI (by omega) (by omega) (by omega) (by omega), decide_eq_true z2, br_t]
        exact fin
      rw [decI (x := (fa (y + 1) : Nat) - (fa y : Nat)) (by omega) (by omega) (by omega) (by omega), decide_eq_false z2, br_f]
      refine l_ck (fun _ => l_ck (fun _ => l_ck (fun _ => l_ck (fun _ => r_ck (fun _ => r_ck (fun _ => r_ck (fun _ => r_ck (fun _ => r_lt ?_))))))))
      rw [tnI (n := x) rfl (by omega), tnI (n := y) rfl (by omega), show (1 + 2 : Nat) = 3 from rfl, show (1 + 1 : Nat) = 2 from rfl, c2 x (by omega), c2 y (by omega), w2 x (by omega), w2 y (by omega), I_add, I_add, show ((fa x : Nat) : Int) + ((k : Nat) : Int) = ((fa x + k : Nat) : Int) by omega, show ((fa y : Nat) : Int) + ((k : Nat) : Int) = ((fa y + k : Nat) : Int) by omega, tnI (n := fa x + k) rfl (by omega), tnI (n := fa y + k) rfl (by omega), e (fa x + k) (by omega), e (fa y + k) (by omega)]
      generalize w.2.2.1 12 (fa x + k) - w.2.2.1 12 (fa y + k) = d
      by_cases hd : d = 0
      · rw [decide_eq_true hd, br_t, br_t, lit1, I_add, show ((k : Nat) : Int) + 1 = ((k + 1 : Nat) : Int) by omega]
        exact ih g (k + 1) (by omega)
      · rw [decide_eq_false hd, br_f, br_f]
        unfold fb_M_orderAtoms_95
        refine r_br (fun q => pp_end ⟨⟨rfl, rfl⟩, ?_⟩) (fun q => pp_end ⟨⟨rfl, rfl⟩, ?_⟩)
        · have q := of_decide_eq_true q
          exact ⟨⟨fun z => absurd q (Int32.not_le.mpr z), fun z => absurd z (by decide)⟩, ⟨fun z => absurd z hd, fun z => absurd z (by decide)⟩⟩
        · have q := of_decide_eq_false q
          exact ⟨⟨fun _ => by decide, fun _ => Int32.not_le.mp q⟩, ⟨fun z => absurd z hd, fun z => absurd z (by decide)⟩⟩
/-- an atom and itself -/
theorem at_same {v3 : Int32} {x : Nat} : ∀ (g : Nat) (v5 : Int32), PK (fun w2 s => w2 = w ∧ s = 0) (gg_M_orderAtoms N g w (I (x : Nat)) (I (x : Nat)) v3 v3 v5) := by
  intro g
  induction g with
  | zero => intro v5; exact pk_none
  | succ g ih =>
    intro v5
    show PK _ (fb_M_orderAtoms_36 N (gg_M_orderAtoms N g) w (I (x : Nat)) (I (x : Nat)) v3 v3 v5)
    have fin : PK (fun w2 s => w2 = w ∧ s = 0) (fb_M_orderAtoms_102 N (gg_M_orderAtoms N g) w v3 v3) := by
      unfold fb_M_orderAtoms_102
      rw [cmp_l, bnd_so]
      refine pk_some ⟨rfl, ?_⟩
      rw [cmpZ_0.mpr rfl]
      rfl
    unfold fb_M_orderAtoms_36
    refine pk_br (fun _ => fin) (fun _ => pk_br (fun _ => fin) (fun _ => pk_ck (fun _ => pk_ck (fun _ => pk_ck (fun _ => pk_ck (fun _ => pk_lt ?_))))))
    rw [Int32.sub_self, decide_eq_true rfl, br_t]
    exact ih (v5 + 1)
end
