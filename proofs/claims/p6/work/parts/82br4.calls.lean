set_option maxRecDepth 100000
def noF (w : MS) (g : Nat) (x y : Int32) : Prop := ∀ i, i < g → ¬ (w.2.2.1 47 i = x ∧ w.2.2.1 48 i = y)
def RBD (w : MS) (g : Nat) (pd : Int32 → Int32 → Nat) (x : Int32 × Int32 × Int32) : Prop := (x.2.2 = 2 ∧ noF w g x.1 x.2.1) ∨ (x.2.2 ≠ 2 ∧ ((noF w g x.1 x.2.1 ∧ pd x.1 x.2.1 = 0) ∨ (x.2.2 = 1 ∧ ¬ (noF w g x.1 x.2.1 ∧ pd x.1 x.2.1 = 2))))
def NBD (w : MS) (g : Nat) (pd : Int32 → Int32 → Nat) (i : Nat) : Prop := (w.2.2.1 23 i = 12 ∧ RBD w g pd (w.2.2.1 25 i, w.2.2.1 26 i, if w.2.2.1 27 i = 1 then 1 else 0)) ∨ (w.2.2.1 23 i = 15 ∧ RBD w g pd (w.2.2.1 25 i, w.2.2.1 26 i, 2))
def KCL (w u : MS) (j : Nat) : Prop := (∀ k, k ≠ 71 → k ≠ 72 → u.1 k = w.1 k) ∧ (∀ k, k ≠ 27 → u.2.2.1 k = w.2.2.1 k) ∧ ∀ i, j ≤ i → u.2.2.1 27 i = w.2.2.1 27 i
section
variable {α : Type} {m0 w0 m w v u m2 : MS} {N g n j k M : Nat} {x y r : Int32} {pd : Int32 → Int32 → Nat}
theorem fnof_lp (h : w.1 52 = I (g : Nat)) (hg : g ≤ 1000) : ∀ (M j : Nat), j ≤ g → (∀ i, i < j → ¬ (w.2.2.1 47 i = x ∧ w.2.2.1 48 i = y)) → PK (fun v r => v = w ∧ (r = -1 ↔ noF w g x y)) (gg_M_functionOf N M w x y (I (j : Nat)))
  | 0, _, _, _ => pk_none
  | M + 1, j, hj, hn => by
    show PK _ (fb_M_functionOf_2 N (gg_M_functionOf N M) w x y (I (j : Nat)))
    unfold fb_M_functionOf_2 fb_M_functionOf_32
    rw [h, decide_eq_decide.mpr (I_le (x := (g : Nat)) (y := (j : Nat)) (by omega) (by omega) (by omega) (by omega)), tnI (n := j) rfl (by omega), i_suc]
    by_cases z : g ≤ j
    · rw [decide_eq_true (by omega), br_tq]
      exact pk_some ⟨rfl, fun _ i hi => hn i (by omega), fun _ => rfl⟩
    · rw [decide_eq_false (by omega), br_fq]
      have nx : ¬ (w.2.2.1 47 j = x ∧ w.2.2.1 48 j = y) → PK (fun v r => v = w ∧ (r = -1 ↔ noF w g x y)) (gg_M_functionOf N M w x y (I ((j + 1 : Nat) : Int))) := fun hz => fnof_lp h hg M (j + 1) (by omega) (fun i hi => by
        by_cases e : i = j
        · rw [e]; exact hz
        · exact hn i (by omega))
      refine pk_ck (fun _ => pk_br (fun z1 => pk_ck (fun _ => pk_br (fun z2 => ?_) (fun z2 => nx (fun q => of_decide_eq_false z2 q.2)))) (fun z1 => nx (fun q => of_decide_eq_false z1 q.1)))
      refine pk_some ⟨rfl, fun e => ?_, fun e => absurd ⟨of_decide_eq_true z1, of_decide_eq_true z2⟩ (e j (by omega))⟩
      have := (I_eq (x := (j : Nat)) (y := (-1 : Int)) (by omega) (by omega) (by omega) (by omega)).mp (e.trans (show (-1 : Int32) = I (-1) from rfl))
      omega
theorem fnof_p (h : w.1 52 = I (g : Nat)) (hg : g ≤ 1000) : PK (fun v r => v = w ∧ (r = -1 ↔ noF w g x y)) (fm_M_functionOf N w x y) := fnof_lp h hg N 0 (Nat.zero_le _) (fun i hi => absurd hi (by omega))
theorem KCL_s (h : KCL w u j) : KCL w u (j + 1) := ⟨h.1, h.2.1, fun i hi => h.2.2 i (by omega)⟩
theorem KCL_27 (h : KCL w u j) : KCL w (upA u 27 (upd (u.2.2.1 27) j y)) (j + 1) := ⟨h.1, fun k hk => by rw [upA_no hk]; exact h.2.1 k hk, fun i hi => by rw [upA_at, upd_no (by omega)]; exact h.2.2 i (by omega)⟩
theorem KCL_r (h : KCL w u j) (e1 : ∀ k, k ≠ 71 → k ≠ 72 → v.1 k = u.1 k) (e2 : v.2.2.1 = u.2.2.1) : KCL w v j := ⟨fun k h1 h2 => (e1 k h1 h2).trans (h.1 k h1 h2), fun k hk => by rw [e2]; exact h.2.1 k hk, fun i hi => by rw [e2]; exact h.2.2 i hi⟩
theorem calls_lp (h52 : w.1 52 = I (g : Nat)) (hg : g ≤ 1000) (h32 : w.1 32 = I (n : Nat)) (hn : n ≤ 100000) (h67 : w.1 67 = 0) (kw : ∀ k, k ∈ [2, 12, 13] → w.2.2.1 k = w0.2.2.1 k) (hp : ∀ i, i < n → w.2.2.1 23 i = 12 → PDF N m0 w0 (w.2.2.1 25 i) (w.2.2.1 26 i) (pd (w.2.2.1 25 i) (w.2.2.1 26 i))) : ∀ (M j : Nat) (u : MS), j ≤ n → KCL w u j → PK (fun v (_ : Unit) => KCL w v n ∧ (v.1 72 = 0 ↔ u.1 72 = 0 ∧ ∀ i, j ≤ i → i < n → ¬ NBD w g pd i)) (gg_M_calls N M u (I (j : Nat)))
  | 0, _, _, _, _ => pk_none
  | M + 1, j, u, hj, hk => by
    have e52 : u.1 52 = I (g : Nat) := (hk.1 52 (by decide) (by decide)).trans h52
    have eF : ∀ {x y}, noF u g x y ↔ noF w g x y := by
      intro x y
      unfold noF
      rw [hk.2.1 47 (by decide), hk.2.1 48 (by decide)]
    show PK _ (fb_M_calls_2 N (gg_M_calls N M) u (I (j : Nat)))
    unfold fb_M_calls_2
    rw [hk.1 32 (by decide) (by decide), h32, decide_eq_decide.mpr (I_le (x := (n : Nat)) (y := (j : Nat)) (by omega) (by omega) (by omega) (by omega)), tnI (n := j) rfl (by omega), hk.2.1 23 (by decide), hk.2.1 25 (by decide), hk.2.1 26 (by decide)]
    by_cases z : n ≤ j
    · rw [decide_eq_true (by omega), br_tq]
      have : j = n := by omega
      subst this
      exact pk_some ⟨hk, fun e => ⟨e, fun i h1 h2 => absurd h1 (by omega)⟩, fun e => e.1⟩
    · rw [decide_eq_false (by omega), br_fq]
      have nx : ∀ v : MS, KCL w v (j + 1) → (v.1 72 = 0 ↔ u.1 72 = 0 ∧ ¬ NBD w g pd j) → PK (fun v (_ : Unit) => KCL w v n ∧ (v.1 72 = 0 ↔ u.1 72 = 0 ∧ ∀ i, j ≤ i → i < n → ¬ NBD w g pd i)) (fb_M_calls_191 N (gg_M_calls N M) v (I (j : Nat))) := fun v h1 h2 => by
        unfold fb_M_calls_191
        rw [i_suc]
        refine pk_mo (calls_lp h52 hg h32 hn h67 kw hp M (j + 1) v (by omega) h1) (fun v2 _ q => ⟨q.1, q.2.trans ?_⟩)
        rw [h2]
        constructor
        · rintro ⟨⟨a1, a2⟩, a3⟩
          refine ⟨a1, fun i i1 i2 => ?_⟩
          by_cases e : i = j
          · rw [e]; exact a2
          · exact a3 i (by omega) i2
        · rintro ⟨a1, a2⟩
          exact ⟨⟨a1, a2 j (Nat.le_refl _) (by omega)⟩, fun i i1 i2 => a2 i (by omega) i2⟩
      have n132 : ∀ (v : MS) (y : Int32), KCL w v j → (v.1 72 = 0 ↔ u.1 72 = 0 ∧ ¬ NBD w g pd j) → PK (fun v (_ : Unit) => KCL w v n ∧ (v.1 72 = 0 ↔ u.1 72 = 0 ∧ ∀ i, j ≤ i → i < n → ¬ NBD w g pd i)) (fb_M_calls_132 N (gg_M_calls N M) v (I (j : Nat)) 27 (I (j : Nat)) y) := fun v y h1 h2 => by
        unfold fb_M_calls_132
        rw [tnI (n := j) rfl (by omega)]
        exact pk_ck (fun _ => pk_ck (fun _ => pk_lt (nx _ (KCL_27 h1) h2)))
      have n113 : ∀ (v : MS) (a b : Int32), KCL w v j → (v.1 72 = 0 ↔ u.1 72 = 0 ∧ ¬ NBD w g pd j) → PK (fun v (_ : Unit) => KCL w v n ∧ (v.1 72 = 0 ↔ u.1 72 = 0 ∧ ∀ i, j ≤ i → i < n → ¬ NBD w g pd i)) (fb_M_calls_113 N (gg_M_calls N M) v (I (j : Nat)) a b) := fun v a b h1 h2 => by
        unfold fb_M_calls_113
        exact pk_br (fun _ => n132 v _ h1 h2) (fun _ => n132 v _ h1 h2)
      have n101 : ∀ (a b : Int32), NBD w g pd j → PK (fun v (_ : Unit) => KCL w v n ∧ (v.1 72 = 0 ↔ u.1 72 = 0 ∧ ∀ i, j ≤ i → i < n → ¬ NBD w g pd i)) (fb_M_calls_101 N (gg_M_calls N M) u (I (j : Nat)) a b) := fun a b hb => by
        unfold fb_M_calls_101
        refine pk_ck (fun _ => pk_bnd (pk_mo (rule_p (by decide)) (fun v _ q => ?_)))
        exact n113 v a b (KCL_r hk q.2.1 q.2.2) ⟨fun e => absurd e q.1, fun e => absurd hb e.2⟩
      refine pk_ck (fun _ => pk_br (fun z12 => ?_) (fun z12 => ?_))
      · have k12 : w.2.2.1 23 j = 12 := of_decide_eq_true z12
        refine pk_ck (fun _ => pk_ck (fun _ => pk_bnd (pk_mo (fnof_p e52 hg) (fun u6 r6 h6 => ?_))))
        obtain ⟨e6, h6⟩ := h6
        rw [e6, hk.2.1 25 (by decide), hk.2.1 26 (by decide)]
        rw [eF] at h6
        refine pk_ck (fun _ => pk_ck (fun _ => pk_bnd (pk_mo ((hp j (by omega) k12).1 u (fun k hk2 => by rw [hk.2.1 k (by rintro rfl; revert hk2; decide)]; exact kw k hk2)) (fun u7 r7 h7 => ?_))))
        obtain ⟨e7, h7, h8⟩ := h7
        rw [e7]
        have nb : NBD w g pd j ↔ (r6 = -1 ∧ r7 = -1) ∨ (w.2.2.1 27 j = 1 ∧ ¬ (r6 = -1 ∧ 18 ≤ r7)) := by
          rw [h6, h7, h8]
          unfold NBD RBD
          rw [k12]
          constructor
          · rintro (⟨-, q | q⟩ | ⟨q, -⟩)
            · exfalso
              have q : (if w.2.2.1 27 j = 1 then (1 : Int32) else 0) = 2 := q.1
              by_cases e : w.2.2.1 27 j = 1
              · rw [if_pos e] at q; exact absurd q (by decide)
              · rw [if_neg e] at q; exact absurd q (by decide)
            · rcases q.2 with q | q
              · exact Or.inl q
              · have q1 : (if w.2.2.1 27 j = 1 then (1 : Int32) else 0) = 1 := q.1
                refine Or.inr ⟨?_, q.2⟩
                by_cases e : w.2.2.1 27 j = 1
                · exact e
                · rw [if_neg e] at q1; exact absurd q1 (by decide)
            · exact absurd q (by decide)
          · rintro (q | q)
            · refine Or.inl ⟨rfl, Or.inr ⟨?_, Or.inl q⟩⟩
              show (if w.2.2.1 27 j = 1 then (1 : Int32) else 0) ≠ 2
              split <;> decide
            · refine Or.inl ⟨rfl, Or.inr ⟨?_, Or.inr ⟨if_pos q.1, q.2⟩⟩⟩
              show (if w.2.2.1 27 j = 1 then (1 : Int32) else 0) ≠ 2
              split <;> decide
        have n80 : ¬ (r6 = -1 ∧ r7 = -1) → PK (fun v (_ : Unit) => KCL w v n ∧ (v.1 72 = 0 ↔ u.1 72 = 0 ∧ ∀ i, j ≤ i → i < n → ¬ NBD w g pd i)) (fb_M_calls_80 N (gg_M_calls N M) u (I (j : Nat)) r6 r7) := fun hz => by
          unfold fb_M_calls_80
          rw [tnI (n := j) rfl (by omega), hk.2.2 j (Nat.le_refl _)]
          refine pk_ck (fun _ => pk_br (fun a1 => pk_br (fun a2 => pk_br (fun a3 => ?_) (fun a3 => ?_)) (fun a2 => ?_)) (fun a1 => ?_))
          · have : ¬ NBD w g pd j := by
              rw [nb]
              rintro (q | q)
              · exact hz q
              · exact q.2 ⟨of_decide_eq_true a2, of_decide_eq_true a3⟩
            exact n113 u _ _ hk ⟨fun e => ⟨e, this⟩, fun e => e.1⟩
          · exact n101 _ _ (nb.mpr (Or.inr ⟨of_decide_eq_true a1, fun q => of_decide_eq_false a3 q.2⟩))
          · exact n101 _ _ (nb.mpr (Or.inr ⟨of_decide_eq_true a1, fun q => of_decide_eq_false a2 q.1⟩))
          · have : ¬ NBD w g pd j := by
              rw [nb]
              rintro (q | q)
              · exact hz q
              · exact of_decide_eq_false a1 q.1
            exact n113 u _ _ hk ⟨fun e => ⟨e, this⟩, fun e => e.1⟩
        refine pk_br (fun b1 => pk_br (fun b2 => ?_) (fun b2 => n80 (fun q => of_decide_eq_false b2 q.2))) (fun b1 => n80 (fun q => of_decide_eq_false b1 q.1))
        refine pk_ck (fun _ => pk_bnd (pk_mo (rule_p (by decide)) (fun v _ q => ?_)))
        exact n113 v _ _ (KCL_r hk q.2.1 q.2.2) ⟨fun e => absurd e q.1, fun e => absurd (nb.mpr (Or.inl ⟨of_decide_eq_true b1, of_decide_eq_true b2⟩)) e.2⟩
      · refine pk_ck (fun _ => pk_br (fun z15 => ?_) (fun z15 => ?_))
        · have k15 : w.2.2.1 23 j = 15 := of_decide_eq_true z15
          refine pk_ck (fun _ => pk_ck (fun _ => pk_bnd (pk_mo (fnof_p e52 hg) (fun u3 r3 h3 => ?_))))
          obtain ⟨e3, h3⟩ := h3
          rw [e3]
          rw [eF] at h3
          refine pk_ck (fun _ => pk_lt (pk_ck (fun _ => ?_)))
          rw [upA_at, upd_at]
          have nb : NBD w g pd j ↔ r3 = -1 := by
            rw [h3]
            unfold NBD RBD
            rw [k15]
            constructor
            · rintro (⟨q, -⟩ | ⟨-, q | q⟩)
              · exact absurd q (by decide)
              · exact q.2
              · exact absurd rfl q.1
            · exact fun q => Or.inr ⟨rfl, Or.inl ⟨rfl, q⟩⟩
          refine pk_br (fun b1 => ?_) (fun b1 => ?_)
          · refine pk_ck (fun _ => pk_bnd (pk_mo (rule_p (by decide)) (fun v _ q => ?_)))
            exact nx v (KCL_r (KCL_27 hk) q.2.1 q.2.2) ⟨fun e => absurd e q.1, fun e => absurd (nb.mpr (of_decide_eq_true b1)) e.2⟩
          · exact nx _ (KCL_27 hk) ⟨fun e => ⟨e, fun q => of_decide_eq_false b1 (nb.mp q)⟩, fun e => e.1⟩
        · refine nx u (KCL_s hk) ⟨fun e => ⟨e, ?_⟩, fun e => e.1⟩
          unfold NBD
          rintro (q | q)
          · exact of_decide_eq_false z12 q.1
          · exact of_decide_eq_false z15 q.1
theorem calls_p (h52 : w.1 52 = I (g : Nat)) (hg : g ≤ 1000) (h32 : w.1 32 = I (n : Nat)) (hn : n ≤ 100000) (h67 : w.1 67 = 0) (kw : ∀ k, k ∈ [2, 12, 13] → w.2.2.1 k = w0.2.2.1 k) (hp : ∀ i, i < n → w.2.2.1 23 i = 12 → PDF N m0 w0 (w.2.2.1 25 i) (w.2.2.1 26 i) (pd (w.2.2.1 25 i) (w.2.2.1 26 i))) : PK (fun v (_ : Unit) => KCL w v n ∧ (v.1 72 = 0 ↔ w.1 72 = 0 ∧ ∀ x, CSY w 0 n x → ¬ RBD w g pd x)) (fm_M_calls N w) := by
  refine pk_mo (calls_lp h52 hg h32 hn h67 kw hp N 0 w (Nat.zero_le _) ⟨fun _ _ _ => rfl, fun _ _ => rfl, fun _ _ => rfl⟩) (fun v _ q => ⟨q.1, q.2.trans ?_⟩)
  constructor
  · rintro ⟨a1, a2⟩
    refine ⟨a1, fun x ⟨i, i1, i2, i3, i4⟩ hx => a2 i (Nat.zero_le _) i1.2 ?_⟩
    rcases i2 with ⟨i2, i5⟩ | ⟨i2, i5⟩
    · refine Or.inl ⟨i2, ?_⟩
      rw [i3, i4, ← i5]
      exact hx
    · refine Or.inr ⟨i2, ?_⟩
      rw [i3, i4, ← i5]
      exact hx
  · rintro ⟨a1, a2⟩
    refine ⟨a1, fun i _ i2 hb => ?_⟩
    rcases hb with ⟨b1, b2⟩ | ⟨b1, b2⟩
    · exact a2 _ ⟨i, ⟨Nat.zero_le _, i2⟩, Or.inl ⟨b1, rfl⟩, rfl, rfl⟩ b2
    · exact a2 _ ⟨i, ⟨Nat.zero_le _, i2⟩, Or.inr ⟨b1, rfl⟩, rfl, rfl⟩ b2
end
