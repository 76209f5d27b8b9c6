def MV (w : MS) (t x : Int64) : Prop := (¬ isH t → x = t) ∧ (isH t → A w 135 (vn t) ≠ -1 ∧ x = fw w t)
def RM (u w : MS) (K b d : Nat) : Prop := ∀ i, (b ≤ i ∧ i < b + d → MV w (u.2.2.2 K i) (w.2.2.2 K i)) ∧ (¬ (b ≤ i ∧ i < b + d) → w.2.2.2 K i = u.2.2.2 K i)
def RTS (u w : MS) (fd : Int64 → Int64) (R : Int64 → Prop) (K b M : Nat) : Prop := ∀ i, (b ≤ i ∧ i < b + M → w.2.2.2 K i = fd (u.2.2.2 K i) ∧ (isH (u.2.2.2 K i) → R (u.2.2.2 K i))) ∧ (¬ (b ≤ i ∧ i < b + M) → w.2.2.2 K i = u.2.2.2 K i)
def CX (u : MS) (p : Nat) (h : Nat → Int64) (n : Nat) (ow kd : Nat → Nat) (Fv : Int64 → Int64 → Prop) (P : Int64 → Prop) (opM bnM bxM : Nat) : Prop :=
  hp u p = h ∧ HP h n ow kd Fv P ∧ n ≤ 500 ∧ p < 24 ∧ (A u 92 p = opM ∧ opM ≤ 46000) ∧ (A u 94 p = bnM ∧ bnM ≤ 2500) ∧ (A u 108 p = bxM ∧ bxM ≤ 30) ∧ (∀ i, i < opM → GT n ow kd P (u.2.2.2 91 (46000 * p + i))) ∧ (∀ i, i < bnM → GT n ow kd P (u.2.2.2 93 (2500 * p + i))) ∧ (∀ i, i < bxM → GT n ow kd P (u.2.2.2 107 (30 * p + i))) ∧ (F u 140 = p → GT n ow kd P (u.2.1 139))
def CLR (u : MS) (p : Nat) (h : Nat → Int64) (n : Nat) (ow kd : Nat → Nat) (Fv : Int64 → Int64 → Prop) (P : Int64 → Prop) (opM bnM bxM : Nat) (w : MS) : Prop :=
  ∃ U ow2 kd2 fd R, HOM h n ow kd (hp w p) U ow2 kd2 P fd R ∧ HP (hp w p) U ow2 kd2 Fv P ∧ (∀ t, isH t → R t → vn (fd t) + blk (hp w p) (fd t) ≤ U ∧ ∀ j, j < blk (hp w p) (fd t) → ow2 (vn (fd t) + j) = vn (fd t)) ∧ U ≤ n ∧ (∀ q, A w 89 q = if q = p then (U : Int) else A u 89 q) ∧ FR [136, 138] [139] [89, 90, 135] [88, 91, 93, 107, 134, 137] u w ∧ (∀ i, ¬ (500 * p ≤ i ∧ i < 500 * p + 500) → w.2.2.2 88 i = u.2.2.2 88 i) ∧ RTS u w fd R 91 (46000 * p) opM ∧ RTS u w fd R 93 (2500 * p) bnM ∧ RTS u w fd R 107 (30 * p) bxM ∧ (F u 140 = p → w.2.1 139 = fd (u.2.1 139) ∧ (isH (u.2.1 139) → R (u.2.1 139))) ∧ (F u 140 ≠ p → w.2.1 139 = u.2.1 139)
section
variable {h : Nat → Int64} {n p N U C sc opM bnM bxM : Nat} {ow kd ow2 kd2 ks : Nat → Nat} {Fv : Int64 → Int64 → Prop} {P : Int64 → Prop} {u w : MS}
theorem MV_st {w2 : MS} {t x : Int64} (m : MV w t x) (s : ∀ k, k < 500 → A w 135 k ≠ -1 → A w2 135 k = A w 135 k) (hv : isH t → vn t < 500) : MV w2 t x := by
  refine ⟨m.1, fun ht => ?_⟩
  obtain ⟨a, b⟩ := m.2 ht
  have e := s _ (hv ht) a
  exact ⟨by rw [e]; exact a, by rw [b]; unfold fw; rw [e]⟩
theorem gt_500 {t : Int64} (hn : n ≤ 500) (g : GT n ow kd P t) : isH t → vn t < 500 := fun ht => by
  rcases g with ⟨z, -⟩ | ⟨-, -, z, -⟩
  · exact absurd ht z
  · omega
theorem RM_st {w2 : MS} {K b d : Nat} (r : RM u w K b d) (hn : n ≤ 500) (hg : ∀ i, i < d → GT n ow kd P (u.2.2.2 K (b + i))) (s : ∀ k, k < 500 → A w 135 k ≠ -1 → A w2 135 k = A w 135 k) (e : w2.2.2.2 K = w.2.2.2 K) : RM u w2 K b d := by
  intro i
  obtain ⟨r1, r2⟩ := r i
  rw [e]
  refine ⟨fun z => MV_st (r1 z) s ?_, r2⟩
  have := hg (i - b) (by omega)
  rw [show b + (i - b) = i from by omega] at this
  exact gt_500 hn this
theorem RM_step {w2 : MS} {K b d : Nat} {x : Int64} (r : RM u w2 K b d) (m : MV w2 (u.2.2.2 K (b + d)) x) : RM u (wj w2 K (b + d) x) K b (d + 1) := by
  intro i
  obtain ⟨r1, r2⟩ := r i
  rw [J_wj, if_pos rfl]
  by_cases e : i = b + d
  · subst e
    rw [if_pos rfl]
    exact ⟨fun _ => m, fun z => absurd ⟨by omega, by omega⟩ z⟩
  · rw [if_neg e]
    exact ⟨fun z => r1 (by omega), fun z => r2 (by omega)⟩
theorem MV_fd {t x : Int64} {fd : Int64 → Int64} {R : Int64 → Prop} (m : MV w t x) (g : GT n ow kd P t) (a : ∀ t, ¬ isH t → fd t = t) (b : ∀ t, isH t → GT n ow kd P t → A w 135 (vn t) ≠ -1 → R t) (c : ∀ t, isH t → fd t = fw w t) : x = fd t ∧ (isH t → R t) := by
  by_cases ht : isH t
  · obtain ⟨q1, q2⟩ := m.2 ht
    exact ⟨by rw [q2, c t ht], fun _ => b t ht g q1⟩
  · exact ⟨by rw [m.1 ht, a t ht], fun z => absurd z ht⟩
theorem RM_fd {K b M : Nat} {fd : Int64 → Int64} {R : Int64 → Prop} {w2 : MS} (r : RM u w K b M) (hg : ∀ i, i < M → GT n ow kd P (u.2.2.2 K (b + i))) (a : ∀ t, ¬ isH t → fd t = t) (bb : ∀ t, isH t → GT n ow kd P t → A w 135 (vn t) ≠ -1 → R t) (c : ∀ t, isH t → fd t = fw w t) (e : w2.2.2.2 K = w.2.2.2 K) : RTS u w2 fd R K b M := by
  intro i
  obtain ⟨r1, r2⟩ := r i
  rw [e]
  refine ⟨fun z => MV_fd (r1 z) ?_ a bb c, r2⟩
  have := hg (i - b) (by omega)
  rw [show b + (i - b) = i from by omega] at this
  exact this
theorem cl7 {w0 : MS} (hp1 : p < 24) (hU : U ≤ 500) : ∀ (m i : Nat) (w : MS), i ≤ U → U - i < m → F w 136 = U → (∀ j, j < i → hp w p j = w.2.2.2 134 j) → FR [] [] [] [88] w0 w → (∀ j, ¬ (500 * p ≤ j ∧ j < 500 * p + 500) → w.2.2.2 88 j = w0.2.2.2 88 j) →
    OK (fun w2 _ => FR [] [] [] [88] w0 w2 ∧ (∀ j, j < U → hp w2 p j = w2.2.2.2 134 j) ∧ (∀ j, ¬ (500 * p ≤ j ∧ j < 500 * p + 500) → w2.2.2.2 88 j = w0.2.2.2 88 j)) ((gg_M_clear N m).2.2.2.2.2.2 w (I p) (I i)) := by
  intro m
  induction m with
  | zero => intro i w _ z; exact absurd z (Nat.not_lt_zero _)
  | succ m ih =>
    intro i w hi hm f1 f2 f3 f4
    show OK _ (fb_M_clear_337 N (gg_M_clear N m) w (I p) (I i))
    unfold fb_M_clear_337
    rw [I_F' f1, decI (by omega) (by omega) (by omega) (by omega)]
    by_cases e : U ≤ i
    · rw [decide_eq_true (by omega), br_tq]
      exact ok_some.mpr ⟨f3, fun j hj => f2 j (by omega), f4⟩
    · rw [decide_eq_false (by omega), br_fq, inb_at (k := 134) (n := 500) rfl (by omega) (by omega) (by decide), ck_t, lit500, I_mul, I_add, inb_at (k := 88) (n := 12500) rfl (by omega) (by omega) (by decide), ck_t, lt_e, I_tn (by omega) (by omega), I_tn (by omega) (by omega), Int.toNat_natCast, show ((p : Int) * 500 + i).toNat = 500 * p + i from by omega, wj_e, lit1q, I_add]
      refine ih (i + 1) (wj w 88 (500 * p + i) (w.2.2.2 134 i)) (by omega) (by omega) f1 (fun j hj => ?_) (FR.wj f3 (by decide)) (fun j hj => ?_)
      · unfold hp
        rw [show (wj w 88 (500 * p + i) (w.2.2.2 134 i)).2.2.2 134 j = w.2.2.2 134 j from by rw [J_wj, if_neg (by decide)], J_wj, if_pos rfl]
        by_cases e2 : j = i
        · subst e2; rw [if_pos rfl]
        · rw [if_neg (by omega)]; exact f2 j (by omega)
      · rw [J_wj, if_pos rfl, if_neg (by omega)]; exact f4 j hj
def IV (u : MS) (p : Nat) (h : Nat → Int64) (n : Nat) (ow kd : Nat → Nat) (U C sc : Nat) (ow2 kd2 ks : Nat → Nat) (o b x : Nat) (w : MS) : Prop :=
  FR [136, 138] [139] [90, 135] [91, 93, 107, 134, 137] u w ∧ GC h n ow kd w U C sc ow2 kd2 ks ∧ U ≤ 500 ∧ RM u w 91 (46000 * p) o ∧ RM u w 93 (2500 * p) b ∧ RM u w 107 (30 * p) x
theorem IV_st {w2 : MS} {U2 C2 sc2 o b x : Nat} {ow3 kd3 ks3 : Nat → Nat} (v : IV u p h n ow kd U C sc ow2 kd2 ks o b x w) (cx : CX u p h n ow kd Fv P opM bnM bxM) (ho : o ≤ opM) (hb : b ≤ bnM) (hx : x ≤ bxM) (f : FR [136, 138] [139] [135] [134, 137] w w2) (s : ∀ k, k < 500 → A w 135 k ≠ -1 → A w2 135 k = A w 135 k) (g : GC h n ow kd w2 U2 C2 sc2 ow3 kd3 ks3) (hU : U2 ≤ 500) : IV u p h n ow kd U2 C2 sc2 ow3 kd3 ks3 o b x w2 := by
  obtain ⟨v1, v2, v3, v4, v5, v6⟩ := v
  obtain ⟨x1, x2, x3, x4, x5, x6, x7, x8, x9, x10, x11⟩ := cx
  refine ⟨FR.tr v1 (FR.mo f (fun _ z => z) (fun _ z => z) (fun k z => by rw [List.mem_singleton.mp z]; decide) (fun k z => by rcases List.mem_cons.mp z with e | e; rw [e]; decide; rw [List.mem_singleton.mp e]; decide)), g, hU, RM_st v4 x3 (fun i hi => x8 i (by omega)) s (f.2.2.2 91 (by decide)), RM_st v5 x3 (fun i hi => x9 i (by omega)) s (f.2.2.2 93 (by decide)), RM_st v6 x3 (fun i hi => x10 i (by omega)) s (f.2.2.2 107 (by decide))⟩
theorem IV_hp {o b x : Nat} (v : IV u p h n ow kd U C sc ow2 kd2 ks o b x w) (e : hp u p = h) : hp w p = h := by
  rw [← e]
  unfold hp
  rw [v.1.2.2.2 88 (by decide)]
def HD (u : MS) (p : Nat) (w : MS) : Prop := (F u 140 = p → MV w (u.2.1 139) (w.2.1 139)) ∧ (F u 140 ≠ p → w.2.1 139 = u.2.1 139)
theorem HD_st {w2 : MS} (d : HD u p w) (cx : CX u p h n ow kd Fv P opM bnM bxM) (e : w2.2.1 139 = w.2.1 139) (s : ∀ k, k < 500 → A w 135 k ≠ -1 → A w2 135 k = A w 135 k) : HD u p w2 := by
  obtain ⟨x1, x2, x3, x4, x5, x6, x7, x8, x9, x10, x11⟩ := cx
  refine ⟨fun z => ?_, fun z => by rw [e]; exact d.2 z⟩
  rw [e]
  exact MV_st (d.1 z) s (gt_500 x3 (x11 z))
end
